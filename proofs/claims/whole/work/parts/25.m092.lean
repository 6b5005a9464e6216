/-! Methods as functions, 92: X13_enumWords, X13_keep, X13_eventValue, X13_event_, X13_step, X13_extraField, X13_feed, X13_ranges -/
theorem qa_1034 : t_oka 1034 1 130 = true := by decide +kernel
theorem qf_950_146 : t_okf 950 13 146 0 = true := by decide +kernel
theorem qr_950_145 : t_okr 950 13 145 1034 = true := by decide +kernel
theorem dX13_enumWords_0 : decode cX13_enumWords 0 = .ok (.aload_n 0, 1) := by decide +kernel
theorem dX13_enumWords_1 : decode cX13_enumWords 1 = .ok (.bipush 123, 2) := by decide +kernel
theorem dX13_enumWords_10 : decode cX13_enumWords 10 = .ok (.iload_n 2, 1) := by decide +kernel
theorem dX13_enumWords_102 : decode cX13_enumWords 102 = .ok (.aload_n 0, 1) := by decide +kernel
theorem dX13_enumWords_103 : decode cX13_enumWords 103 = .ok (.bipush 44, 2) := by decide +kernel
theorem dX13_enumWords_105 : decode cX13_enumWords 105 = .ok (.invokevirtual 449, 3) := by decide +kernel
theorem dX13_enumWords_108 : decode cX13_enumWords 108 = .ok (.istore_n 2, 1) := by decide +kernel
theorem dX13_enumWords_109 : decode cX13_enumWords 109 = .ok (.iload_n 2, 1) := by decide +kernel
theorem dX13_enumWords_11 : decode cX13_enumWords 11 = .ok (.ifCond .eq 109, 3) := by decide +kernel
theorem dX13_enumWords_110 : decode cX13_enumWords 110 = .ok (.ifCond .eq 7, 3) := by decide +kernel
theorem dX13_enumWords_113 : decode cX13_enumWords 113 = .ok (.aload_n 0, 1) := by decide +kernel
theorem dX13_enumWords_114 : decode cX13_enumWords 114 = .ok (.invokevirtual 452, 3) := by decide +kernel
theorem dX13_enumWords_117 : decode cX13_enumWords 117 = .ok (.goto (-107), 3) := by decide +kernel
theorem dX13_enumWords_120 : decode cX13_enumWords 120 = .ok (.aload_n 0, 1) := by decide +kernel
theorem dX13_enumWords_121 : decode cX13_enumWords 121 = .ok (.bipush 125, 2) := by decide +kernel
theorem dX13_enumWords_123 : decode cX13_enumWords 123 = .ok (.invokevirtual 528, 3) := by decide +kernel
theorem dX13_enumWords_126 : decode cX13_enumWords 126 = .ok (.return_, 1) := by decide +kernel
theorem dX13_enumWords_14 : decode cX13_enumWords 14 = .ok (.aload_n 0, 1) := by decide +kernel
theorem dX13_enumWords_15 : decode cX13_enumWords 15 = .ok (.getfield 375, 3) := by decide +kernel
theorem dX13_enumWords_18 : decode cX13_enumWords 18 = .ok (.ifCond .ne 102, 3) := by decide +kernel
theorem dX13_enumWords_21 : decode cX13_enumWords 21 = .ok (.aload_n 0, 1) := by decide +kernel
theorem dX13_enumWords_22 : decode cX13_enumWords 22 = .ok (.invokevirtual 535, 3) := by decide +kernel
theorem dX13_enumWords_25 : decode cX13_enumWords 25 = .ok (.istore 4, 2) := by decide +kernel
theorem dX13_enumWords_27 : decode cX13_enumWords 27 = .ok (.aload_n 0, 1) := by decide +kernel
theorem dX13_enumWords_28 : decode cX13_enumWords 28 = .ok (.getfield 375, 3) := by decide +kernel
theorem dX13_enumWords_3 : decode cX13_enumWords 3 = .ok (.invokevirtual 528, 3) := by decide +kernel
theorem dX13_enumWords_31 : decode cX13_enumWords 31 = .ok (.ifCond .ne 23, 3) := by decide +kernel
theorem dX13_enumWords_34 : decode cX13_enumWords 34 = .ok (.aload_n 0, 1) := by decide +kernel
theorem dX13_enumWords_35 : decode cX13_enumWords 35 = .ok (.iload_n 1, 1) := by decide +kernel
theorem dX13_enumWords_36 : decode cX13_enumWords 36 = .ok (.iload 4, 2) := by decide +kernel
theorem dX13_enumWords_38 : decode cX13_enumWords 38 = .ok (.i2l, 1) := by decide +kernel
theorem dX13_enumWords_39 : decode cX13_enumWords 39 = .ok (.invokevirtual 538, 3) := by decide +kernel
theorem dX13_enumWords_42 : decode cX13_enumWords 42 = .ok (.ifCond .eq 12, 3) := by decide +kernel
theorem dX13_enumWords_45 : decode cX13_enumWords 45 = .ok (.aload_n 0, 1) := by decide +kernel
theorem dX13_enumWords_46 : decode cX13_enumWords 46 = .ok (.iconst 3, 1) := by decide +kernel
theorem dX13_enumWords_47 : decode cX13_enumWords 47 = .ok (.aload_n 0, 1) := by decide +kernel
theorem dX13_enumWords_48 : decode cX13_enumWords 48 = .ok (.getfield 391, 3) := by decide +kernel
theorem dX13_enumWords_51 : decode cX13_enumWords 51 = .ok (.invokevirtual 411, 3) := by decide +kernel
theorem dX13_enumWords_54 : decode cX13_enumWords 54 = .ok (.iload_n 3, 1) := by decide +kernel
theorem dX13_enumWords_55 : decode cX13_enumWords 55 = .ok (.bipush 16, 2) := by decide +kernel
theorem dX13_enumWords_57 : decode cX13_enumWords 57 = .ok (.if_icmp .ne 12, 3) := by decide +kernel
theorem dX13_enumWords_6 : decode cX13_enumWords 6 = .ok (.iconst 1, 1) := by decide +kernel
theorem dX13_enumWords_60 : decode cX13_enumWords 60 = .ok (.aload_n 0, 1) := by decide +kernel
theorem dX13_enumWords_61 : decode cX13_enumWords 61 = .ok (.iconst 5, 1) := by decide +kernel
theorem dX13_enumWords_62 : decode cX13_enumWords 62 = .ok (.aload_n 0, 1) := by decide +kernel
theorem dX13_enumWords_63 : decode cX13_enumWords 63 = .ok (.getfield 391, 3) := by decide +kernel
theorem dX13_enumWords_66 : decode cX13_enumWords 66 = .ok (.invokevirtual 411, 3) := by decide +kernel
theorem dX13_enumWords_69 : decode cX13_enumWords 69 = .ok (.aload_n 0, 1) := by decide +kernel
theorem dX13_enumWords_7 : decode cX13_enumWords 7 = .ok (.istore_n 2, 1) := by decide +kernel
theorem dX13_enumWords_70 : decode cX13_enumWords 70 = .ok (.bipush 11, 2) := by decide +kernel
theorem dX13_enumWords_72 : decode cX13_enumWords 72 = .ok (.iconst 0, 1) := by decide +kernel
theorem dX13_enumWords_73 : decode cX13_enumWords 73 = .ok (.invokevirtual 510, 3) := by decide +kernel
theorem dX13_enumWords_76 : decode cX13_enumWords 76 = .ok (.istore 5, 2) := by decide +kernel
theorem dX13_enumWords_78 : decode cX13_enumWords 78 = .ok (.aload_n 0, 1) := by decide +kernel
theorem dX13_enumWords_79 : decode cX13_enumWords 79 = .ok (.getfield 32, 3) := by decide +kernel
theorem dX13_enumWords_8 : decode cX13_enumWords 8 = .ok (.iconst 0, 1) := by decide +kernel
theorem dX13_enumWords_82 : decode cX13_enumWords 82 = .ok (.iload 5, 2) := by decide +kernel
theorem dX13_enumWords_84 : decode cX13_enumWords 84 = .ok (.iload 4, 2) := by decide +kernel
theorem dX13_enumWords_86 : decode cX13_enumWords 86 = .ok (.i2l, 1) := by decide +kernel
theorem dX13_enumWords_87 : decode cX13_enumWords 87 = .ok (.lastore, 1) := by decide +kernel
theorem dX13_enumWords_88 : decode cX13_enumWords 88 = .ok (.aload_n 0, 1) := by decide +kernel
theorem dX13_enumWords_89 : decode cX13_enumWords 89 = .ok (.iload_n 1, 1) := by decide +kernel
theorem dX13_enumWords_9 : decode cX13_enumWords 9 = .ok (.istore_n 3, 1) := by decide +kernel
theorem dX13_enumWords_90 : decode cX13_enumWords 90 = .ok (.iload 5, 2) := by decide +kernel
theorem dX13_enumWords_92 : decode cX13_enumWords 92 = .ok (.invokevirtual 507, 3) := by decide +kernel
theorem dX13_enumWords_95 : decode cX13_enumWords 95 = .ok (.iinc 3 1, 3) := by decide +kernel
theorem dX13_enumWords_98 : decode cX13_enumWords 98 = .ok (.aload_n 0, 1) := by decide +kernel
theorem dX13_enumWords_99 : decode cX13_enumWords 99 = .ok (.invokevirtual 452, 3) := by decide +kernel
noncomputable def k_X13_enumWords_120 (s : t_S) : Option (t_S) :=
 (f_X13_mustBe (125 : Int32) s).bind (fun r1 =>
 some (r1))
set_option maxRecDepth 4000 in
set_option maxHeartbeats 1000000 in
theorem B_X13_enumWords_120 {D : va_G} {cy : Nat → ClassId} {ad : Nat → Nat} {bs : Nat} {X : State → Heap → Prop} (s : t_S) (Q : t_S → Prop) (hk : t_hk (k_X13_enumWords_120 s) Q) : mj_G D cy ad bs X cX13_enumWords 6 yX13_enumWords.cls none yX13_enumWords.name 7 0 0 1065 (t_P (fun v s' => v = none ∧ Q (s'))) 120 [(0, .ref 950)] [] (t_m s) 1065 0 0 := by
  refine mj_aload_n dX13_enumWords_120 0 rfl ?_
  refine mj_bipush (v := 125) dX13_enumWords_121 (by decide) ?_
  refine t_bndK hk (fun r1 er1 hk => ?_)
  refine t_callVvE dX13_enumWords_123 M_X13_mustBe (C_X13_mustBe _ _ _ er1) ML_X13_528 IM_X13_mustBe SE_X13_mustBe qc_950 rfl (As := [.int 125]) rfl rfl (Nat.le_of_ble_eq_true rfl) (Nat.le_of_ble_eq_true rfl) (Nat.le_of_ble_eq_true rfl) (Nat.le_of_ble_eq_true rfl) ?_
  exact t_somK hk (fun hf => t_vret dX13_enumWords_126 rfl ⟨rfl, hf⟩ (Nat.le_of_ble_eq_true rfl) (Nat.le_of_ble_eq_true rfl))
noncomputable def k_X13_enumWords_69 (l1 : Int32) (l3 : Int32) (l4 : Int32) (s : t_S) : Option ((Int32 × Int32 × Int32 × t_S) ⊕ (t_S)) :=
 (f_X13_node (11 : Int32) (0 : Int32) s).bind (fun r1 =>
 if t_ix r1.1 13000 = true then
  t_let (t_setJ r1.2 957 (r1.1.toNatClampNeg) l4.toInt64) (fun s1 =>
 (f_X13_hang l1 r1.1 s1).bind (fun r3 =>
 (f_X13_next r3).bind (fun r4 =>
 if (f_X13_is (44 : Int32) r4) = (0 : Int32) then (some (.inl (l1, (f_X13_is (44 : Int32) r4), (l3 + 1), r4)))
 else ((f_X13_next r4).bind (fun r6 =>
 some (.inl (l1, (f_X13_is (44 : Int32) r4), (l3 + 1), r6)))))))
else none)
set_option maxRecDepth 4000 in
set_option maxHeartbeats 1000000 in
theorem B_X13_enumWords_69 {D : va_G} {cy : Nat → ClassId} {ad : Nat → Nat} {bs : Nat} {X : State → Heap → Prop} (l1 : Int32) (l3 : Int32) (l4 : Int32) (s : t_S) (Q : (Int32 × Int32 × Int32 × t_S) ⊕ (t_S) → Prop) (Hb10 : ∀ (y0 : Int32) (y1 : Int32) (y2 : Int32) (y3 : t_S), Q (.inl (y0, y1, y2, y3)) → mj_G D cy ad bs X cX13_enumWords 6 yX13_enumWords.cls none yX13_enumWords.name 7 0 0 1065 (t_P (fun v s' => v = none ∧ Q (.inr (s')))) 10 [(0, .ref 950), (1, .int (y0)), (2, .int (y1)), (3, .int (y2))] [] (t_m y3) 1065 0 0) (hk : t_hk (k_X13_enumWords_69 l1 l3 l4 s) Q) : mj_G D cy ad bs X cX13_enumWords 6 yX13_enumWords.cls none yX13_enumWords.name 7 0 0 1065 (t_P (fun v s' => v = none ∧ Q (.inr (s')))) 69 [(0, .ref 950), (1, .int l1), (3, .int l3), (4, .int l4)] [] (t_m s) 1065 0 0 := by
  refine mj_aload_n dX13_enumWords_69 0 rfl ?_
  refine mj_bipush (v := 11) dX13_enumWords_70 (by decide) ?_
  refine mj_iconst (v := 0) dX13_enumWords_72 (by decide) ?_
  refine t_bndK hk (fun r1 er1 hk => ?_)
  refine t_callViE dX13_enumWords_73 M_X13_node (C_X13_node _ _ _ _ er1) ML_X13_510 IM_X13_node SE_X13_node qc_950 rfl (As := [.int 11, .int 0]) rfl rfl (Nat.le_of_ble_eq_true rfl) (Nat.le_of_ble_eq_true rfl) (Nat.le_of_ble_eq_true rfl) (Nat.le_of_ble_eq_true rfl) ?_
  refine mj_istore (lv2 := [(5, .int r1.1), (0, .ref 950), (1, .int l1), (3, .int l3), (4, .int l4)]) dX13_enumWords_76 (by decide) rfl ?_
  refine mj_aload_n dX13_enumWords_78 1 rfl ?_
  refine t_getR 957 dX13_enumWords_79 F_X13_32 qr_950_19 ?_
  refine mj_iload dX13_enumWords_82 0 rfl ?_
  refine mj_iload dX13_enumWords_84 4 rfl ?_
  refine mj_i2l (v := l4.toInt64) dX13_enumWords_86 rfl ?_
  refine t_chkK hk (fun c1 hk => ?_)
  refine t_lastK dX13_enumWords_87 qa_957 (t_ixv c1) (fun s1 ws1 => t_letE hk ws1 (fun hk => ?_))
  refine mj_aload_n dX13_enumWords_88 1 rfl ?_
  refine mj_iload_n dX13_enumWords_89 2 rfl ?_
  refine mj_iload dX13_enumWords_90 0 rfl ?_
  refine t_bndK hk (fun r3 er3 hk => ?_)
  refine t_callVvE dX13_enumWords_92 M_X13_hang (C_X13_hang _ _ _ _ er3) ML_X13_507 IM_X13_hang SE_X13_hang qc_950 rfl (As := [.int l1, .int r1.1]) rfl rfl (Nat.le_of_ble_eq_true rfl) (Nat.le_of_ble_eq_true rfl) (Nat.le_of_ble_eq_true rfl) (Nat.le_of_ble_eq_true rfl) ?_
  refine mj_iinc (k := 3) (v := (l3 + 1)) (lv2 := [(3, .int (l3 + 1)), (5, .int r1.1), (0, .ref 950), (1, .int l1), (4, .int l4)]) dX13_enumWords_95 rfl rfl (by decide) rfl ?_
  refine mj_aload_n dX13_enumWords_98 2 rfl ?_
  refine t_bndK hk (fun r4 er4 hk => ?_)
  refine t_callVvE dX13_enumWords_99 M_X13_next (C_X13_next _ _ er4) ML_X13_452 IM_X13_next SE_X13_next qc_950 rfl (As := []) rfl rfl (Nat.le_of_ble_eq_true rfl) (Nat.le_of_ble_eq_true rfl) (Nat.le_of_ble_eq_true rfl) (Nat.le_of_ble_eq_true rfl) ?_
  refine mj_aload_n dX13_enumWords_102 2 rfl ?_
  refine mj_bipush (v := 44) dX13_enumWords_103 (by decide) ?_
  refine t_callViP dX13_enumWords_105 M_X13_is (C_X13_is _ _) ML_X13_449 IM_X13_is SE_X13_is qc_950 rfl (As := [.int 44]) rfl rfl (Nat.le_of_ble_eq_true rfl) (Nat.le_of_ble_eq_true rfl) (Nat.le_of_ble_eq_true rfl) (Nat.le_of_ble_eq_true rfl) ?_
  refine mj_istore_n 2 (lv2 := [(2, .int (f_X13_is (44 : Int32) r4)), (3, .int (l3 + 1)), (5, .int r1.1), (0, .ref 950), (1, .int l1), (4, .int l4)]) dX13_enumWords_108 rfl (by decide) rfl ?_
  refine mj_iload_n dX13_enumWords_109 0 rfl ?_
  refine mj_if_eq 117 dX13_enumWords_110 (by decide) (fun z => t_posK hk z (fun hk => ?_)) (fun z => t_negK hk z (fun hk => ?_))
  · refine mj_goto 10 dX13_enumWords_117 (by decide) ?_
    refine mj_sublv [(0, .ref 950), (1, .int l1), (2, .int (f_X13_is (44 : Int32) r4)), (3, .int (l3 + 1))] [3, 4, 0, 1] rfl ?_
    exact t_somK hk (fun hf => Hb10 l1 (f_X13_is (44 : Int32) r4) (l3 + 1) r4 hf)
  · refine mj_aload_n dX13_enumWords_113 3 rfl ?_
    refine t_bndK hk (fun r6 er6 hk => ?_)
    refine t_callVvE dX13_enumWords_114 M_X13_next (C_X13_next _ _ er6) ML_X13_452 IM_X13_next SE_X13_next qc_950 rfl (As := []) rfl rfl (Nat.le_of_ble_eq_true rfl) (Nat.le_of_ble_eq_true rfl) (Nat.le_of_ble_eq_true rfl) (Nat.le_of_ble_eq_true rfl) ?_
    refine mj_goto 10 dX13_enumWords_117 (by decide) ?_
    refine mj_sublv [(0, .ref 950), (1, .int l1), (2, .int (f_X13_is (44 : Int32) r4)), (3, .int (l3 + 1))] [3, 4, 0, 1] rfl ?_
    exact t_somK hk (fun hf => Hb10 l1 (f_X13_is (44 : Int32) r4) (l3 + 1) r6 hf)
noncomputable def k_X13_enumWords_54 (l1 : Int32) (l3 : Int32) (l4 : Int32) (s : t_S) : Option ((Int32 × Int32 × Int32 × t_S) ⊕ (t_S)) :=
 if l3 = (16 : Int32) then ((f_X13_fail (5 : Int32) (s.1 950 6) s).bind (fun r1 =>
 k_X13_enumWords_69 l1 l3 l4 r1))
 else (k_X13_enumWords_69 l1 l3 l4 s)
set_option maxRecDepth 4000 in
set_option maxHeartbeats 1000000 in
theorem B_X13_enumWords_54 {D : va_G} {cy : Nat → ClassId} {ad : Nat → Nat} {bs : Nat} {X : State → Heap → Prop} (l1 : Int32) (l3 : Int32) (l4 : Int32) (s : t_S) (Q : (Int32 × Int32 × Int32 × t_S) ⊕ (t_S) → Prop) (Hb10 : ∀ (y0 : Int32) (y1 : Int32) (y2 : Int32) (y3 : t_S), Q (.inl (y0, y1, y2, y3)) → mj_G D cy ad bs X cX13_enumWords 6 yX13_enumWords.cls none yX13_enumWords.name 7 0 0 1065 (t_P (fun v s' => v = none ∧ Q (.inr (s')))) 10 [(0, .ref 950), (1, .int (y0)), (2, .int (y1)), (3, .int (y2))] [] (t_m y3) 1065 0 0) (hk : t_hk (k_X13_enumWords_54 l1 l3 l4 s) Q) : mj_G D cy ad bs X cX13_enumWords 6 yX13_enumWords.cls none yX13_enumWords.name 7 0 0 1065 (t_P (fun v s' => v = none ∧ Q (.inr (s')))) 54 [(0, .ref 950), (1, .int l1), (3, .int l3), (4, .int l4)] [] (t_m s) 1065 0 0 := by
  refine mj_iload_n dX13_enumWords_54 2 rfl ?_
  refine mj_bipush (v := 16) dX13_enumWords_55 (by decide) ?_
  refine mj_icmp_ne 69 dX13_enumWords_57 (by decide) (fun z => t_negK hk z (fun hk => ?_)) (fun z => t_posK hk z (fun hk => ?_))
  · exact B_X13_enumWords_69 _ _ _ _ _ (fun y0 y1 y2 y3 hx => Hb10 y0 y1 y2 y3 hx) hk
  · refine mj_aload_n dX13_enumWords_60 0 rfl ?_
    refine mj_iconst (v := 5) dX13_enumWords_61 (by decide) ?_
    refine mj_aload_n dX13_enumWords_62 0 rfl ?_
    refine t_getI dX13_enumWords_63 F_X13_391 qf_950_6 ?_
    refine t_bndK hk (fun r1 er1 hk => ?_)
    refine t_callVvE dX13_enumWords_66 M_X13_fail (C_X13_fail _ _ _ _ er1) ML_X13_411 IM_X13_fail SE_X13_fail qc_950 rfl (As := [.int 5, .int (s.1 950 6)]) rfl rfl (Nat.le_of_ble_eq_true rfl) (Nat.le_of_ble_eq_true rfl) (Nat.le_of_ble_eq_true rfl) (Nat.le_of_ble_eq_true rfl) ?_
    exact B_X13_enumWords_69 _ _ _ _ _ (fun y0 y1 y2 y3 hx => Hb10 y0 y1 y2 y3 hx) hk
noncomputable def k_X13_enumWords_10 (l1 : Int32) (l2 : Int32) (l3 : Int32) (s : t_S) : Option ((Int32 × Int32 × Int32 × t_S) ⊕ (t_S)) :=
 if l2 = (0 : Int32) then ((k_X13_enumWords_120 s).map Sum.inr)
 else (if (s.1 950 2) = (0 : Int32) then ((f_X13_freeName s).bind (fun r1 =>
 if (r1.2.1 950 2) = (0 : Int32) then ((f_X13_hasPart l1 r1.1.toInt64 r1.2).bind (fun r2 =>
 if r2 = (0 : Int32) then (k_X13_enumWords_54 l1 l3 r1.1 r1.2)
 else ((f_X13_fail (3 : Int32) (r1.2.1 950 6) r1.2).bind (fun r3 =>
 k_X13_enumWords_54 l1 l3 r1.1 r3))))
 else (k_X13_enumWords_54 l1 l3 r1.1 r1.2)))
 else ((k_X13_enumWords_120 s).map Sum.inr))
set_option maxRecDepth 4000 in
set_option maxHeartbeats 1000000 in
theorem B_X13_enumWords_10 {D : va_G} {cy : Nat → ClassId} {ad : Nat → Nat} {bs : Nat} {X : State → Heap → Prop} (l1 : Int32) (l2 : Int32) (l3 : Int32) (s : t_S) (Q : (Int32 × Int32 × Int32 × t_S) ⊕ (t_S) → Prop) (Hb10 : ∀ (y0 : Int32) (y1 : Int32) (y2 : Int32) (y3 : t_S), Q (.inl (y0, y1, y2, y3)) → mj_G D cy ad bs X cX13_enumWords 6 yX13_enumWords.cls none yX13_enumWords.name 7 0 0 1065 (t_P (fun v s' => v = none ∧ Q (.inr (s')))) 10 [(0, .ref 950), (1, .int (y0)), (2, .int (y1)), (3, .int (y2))] [] (t_m y3) 1065 0 0) (hk : t_hk (k_X13_enumWords_10 l1 l2 l3 s) Q) : mj_G D cy ad bs X cX13_enumWords 6 yX13_enumWords.cls none yX13_enumWords.name 7 0 0 1065 (t_P (fun v s' => v = none ∧ Q (.inr (s')))) 10 [(0, .ref 950), (1, .int l1), (2, .int l2), (3, .int l3)] [] (t_m s) 1065 0 0 := by
  refine mj_iload_n dX13_enumWords_10 2 rfl ?_
  refine mj_if_eq 120 dX13_enumWords_11 (by decide) (fun z => t_posK hk z (fun hk => ?_)) (fun z => t_negK hk z (fun hk => ?_))
  · refine mj_sublv [(0, .ref 950)] [0] rfl ?_
    refine t_mapK hk (fun hk => ?_)
    exact B_X13_enumWords_120 _ _ hk
  · refine mj_aload_n dX13_enumWords_14 0 rfl ?_
    refine t_getI dX13_enumWords_15 F_X13_375 qf_950_2 ?_
    refine mj_if_ne 120 dX13_enumWords_18 (by decide) (fun z => t_negK hk z (fun hk => ?_)) (fun z => t_posK hk z (fun hk => ?_))
    · refine mj_sublv [(0, .ref 950)] [0] rfl ?_
      refine t_mapK hk (fun hk => ?_)
      exact B_X13_enumWords_120 _ _ hk
    · refine mj_aload_n dX13_enumWords_21 0 rfl ?_
      refine t_bndK hk (fun r1 er1 hk => ?_)
      refine t_callViE dX13_enumWords_22 M_X13_freeName (C_X13_freeName _ _ er1) ML_X13_535 IM_X13_freeName SE_X13_freeName qc_950 rfl (As := []) rfl rfl (Nat.le_of_ble_eq_true rfl) (Nat.le_of_ble_eq_true rfl) (Nat.le_of_ble_eq_true rfl) (Nat.le_of_ble_eq_true rfl) ?_
      refine mj_istore (lv2 := [(4, .int r1.1), (0, .ref 950), (1, .int l1), (2, .int l2), (3, .int l3)]) dX13_enumWords_25 (by decide) rfl ?_
      refine mj_aload_n dX13_enumWords_27 1 rfl ?_
      refine t_getI dX13_enumWords_28 F_X13_375 qf_950_2 ?_
      refine mj_if_ne 54 dX13_enumWords_31 (by decide) (fun z => t_negK hk z (fun hk => ?_)) (fun z => t_posK hk z (fun hk => ?_))
      · refine mj_sublv [(0, .ref 950), (1, .int l1), (3, .int l3), (4, .int r1.1)] [1, 2, 4, 0] rfl ?_
        exact B_X13_enumWords_54 _ _ _ _ _ (fun y0 y1 y2 y3 hx => Hb10 y0 y1 y2 y3 hx) hk
      · refine mj_aload_n dX13_enumWords_34 1 rfl ?_
        refine mj_iload_n dX13_enumWords_35 2 rfl ?_
        refine mj_iload dX13_enumWords_36 0 rfl ?_
        refine mj_i2l (v := r1.1.toInt64) dX13_enumWords_38 rfl ?_
        refine t_bndK hk (fun r2 er2 hk => ?_)
        refine t_callViP dX13_enumWords_39 M_X13_hasPart (C_X13_hasPart _ _ _ _ er2) ML_X13_538 IM_X13_hasPart SE_X13_hasPart qc_950 rfl (As := [.int l1, .long r1.1.toInt64]) rfl rfl (Nat.le_of_ble_eq_true rfl) (Nat.le_of_ble_eq_true rfl) (Nat.le_of_ble_eq_true rfl) (Nat.le_of_ble_eq_true rfl) ?_
        refine mj_if_eq 54 dX13_enumWords_42 (by decide) (fun z => t_posK hk z (fun hk => ?_)) (fun z => t_negK hk z (fun hk => ?_))
        · refine mj_sublv [(0, .ref 950), (1, .int l1), (3, .int l3), (4, .int r1.1)] [1, 2, 4, 0] rfl ?_
          exact B_X13_enumWords_54 _ _ _ _ _ (fun y0 y1 y2 y3 hx => Hb10 y0 y1 y2 y3 hx) hk
        · refine mj_aload_n dX13_enumWords_45 1 rfl ?_
          refine mj_iconst (v := 3) dX13_enumWords_46 (by decide) ?_
          refine mj_aload_n dX13_enumWords_47 1 rfl ?_
          refine t_getI dX13_enumWords_48 F_X13_391 qf_950_6 ?_
          refine t_bndK hk (fun r3 er3 hk => ?_)
          refine t_callVvE dX13_enumWords_51 M_X13_fail (C_X13_fail _ _ _ _ er3) ML_X13_411 IM_X13_fail SE_X13_fail qc_950 rfl (As := [.int 3, .int (r1.2.1 950 6)]) rfl rfl (Nat.le_of_ble_eq_true rfl) (Nat.le_of_ble_eq_true rfl) (Nat.le_of_ble_eq_true rfl) (Nat.le_of_ble_eq_true rfl) ?_
          refine mj_sublv [(0, .ref 950), (1, .int l1), (3, .int l3), (4, .int r1.1)] [1, 2, 4, 0] rfl ?_
          exact B_X13_enumWords_54 _ _ _ _ _ (fun y0 y1 y2 y3 hx => Hb10 y0 y1 y2 y3 hx) hk
noncomputable def b_X13_enumWords_10 (x : Int32 × Int32 × Int32 × t_S) : Option ((Int32 × Int32 × Int32 × t_S) ⊕ (t_S)) := k_X13_enumWords_10 x.1 x.2.1 x.2.2.1 x.2.2.2
set_option maxRecDepth 4000 in
set_option maxHeartbeats 1000000 in
theorem LH_X13_enumWords_10 {D : va_G} {cy : Nat → ClassId} {ad : Nat → Nat} {bs : Nat} {X : State → Heap → Prop} : ∀ (n : Nat) (y0 : Int32) (y1 : Int32) (y2 : Int32) (y3 : t_S) (Q : t_S → Prop) (hk : t_hk (t_loop (b_X13_enumWords_10) n (y0, y1, y2, y3)) Q), mj_G D cy ad bs X cX13_enumWords 6 yX13_enumWords.cls none yX13_enumWords.name 7 0 0 1065 (t_P (fun v s' => v = none ∧ Q (s'))) 10 [(0, .ref 950), (1, .int (y0)), (2, .int (y1)), (3, .int (y2))] [] (t_m y3) 1065 0 0 := by
  intro n
  induction n with
  | zero => intro y0 y1 y2 y3 Q hk; obtain ⟨r, hr, _⟩ := hk; cases hr
  | succ n ih =>
    intro y0 y1 y2 y3 Q hk
    exact B_X13_enumWords_10 y0 y1 y2 y3 (fun y => t_lq (b_X13_enumWords_10) n Q y) (fun y0' y1' y2' y3' hy => ih y0' y1' y2' y3' Q hy) (t_lp (b := b_X13_enumWords_10) (n := n) (x := (y0, y1, y2, y3)) hk)
noncomputable def f_X13_enumWords (x1 : Int32) (s : t_S) : Option (t_S) :=
 (f_X13_mustBe (123 : Int32) s).bind (fun r1 =>
 t_loop (b_X13_enumWords_10) t_N (x1, 1, 0, r1))
set_option maxRecDepth 4000 in
set_option maxHeartbeats 1000000 in
theorem C_X13_enumWords (x1 : Int32) (s : t_S) (r : t_S) (hr : f_X13_enumWords x1 s = some r) : t_C yX13_enumWords cX13_enumWords 6 none 7 [.ref 950, .int x1] s (fun v s' => v = none ∧ s' = r) := by
  refine t_C.imp (P := fun v s' => v = none ∧ (fun q => q = r) (s')) (t_C.of (by decide +kernel) (Nat.le_of_ble_eq_true rfl) ?_) (fun v s' hp => hp)
  intro D cy ad bs X
  have hk : t_hk (f_X13_enumWords x1 s) (fun q => q = r) := ⟨r, hr, rfl⟩
  show mj_G D cy ad bs X cX13_enumWords 6 yX13_enumWords.cls none yX13_enumWords.name 7 0 0 1065 (t_P (fun v s' => v = none ∧ (fun q => q = r) (s'))) 0 [(0, .ref 950), (1, .int x1)] [] (t_m s) 1065 0 0
  refine mj_aload_n dX13_enumWords_0 0 rfl ?_
  refine mj_bipush (v := 123) dX13_enumWords_1 (by decide) ?_
  refine t_bndK hk (fun r1 er1 hk => ?_)
  refine t_callVvE dX13_enumWords_3 M_X13_mustBe (C_X13_mustBe _ _ _ er1) ML_X13_528 IM_X13_mustBe SE_X13_mustBe qc_950 rfl (As := [.int 123]) rfl rfl (Nat.le_of_ble_eq_true rfl) (Nat.le_of_ble_eq_true rfl) (Nat.le_of_ble_eq_true rfl) (Nat.le_of_ble_eq_true rfl) ?_
  refine mj_iconst (v := 1) dX13_enumWords_6 (by decide) ?_
  refine mj_istore_n 2 (lv2 := [(2, .int 1), (0, .ref 950), (1, .int x1)]) dX13_enumWords_7 rfl (by decide) rfl ?_
  refine mj_iconst (v := 0) dX13_enumWords_8 (by decide) ?_
  refine mj_istore_n 3 (lv2 := [(3, .int 0), (2, .int 1), (0, .ref 950), (1, .int x1)]) dX13_enumWords_9 rfl (by decide) rfl ?_
  refine mj_sublv [(0, .ref 950), (1, .int x1), (2, .int 1), (3, .int 0)] [2, 3, 1, 0] rfl ?_
  exact LH_X13_enumWords_10 _ x1 1 0 r1 _ hk

theorem dX13_keep_0 : decode cX13_keep 0 = .ok (.aload_n 0, 1) := by decide +kernel
theorem dX13_keep_1 : decode cX13_keep 1 = .ok (.getfield 654, 3) := by decide +kernel
theorem dX13_keep_11 : decode cX13_keep 11 = .ok (.ireturn, 1) := by decide +kernel
theorem dX13_keep_12 : decode cX13_keep 12 = .ok (.aload_n 0, 1) := by decide +kernel
theorem dX13_keep_13 : decode cX13_keep 13 = .ok (.iload_n 1, 1) := by decide +kernel
theorem dX13_keep_14 : decode cX13_keep 14 = .ok (.iconst 0, 1) := by decide +kernel
theorem dX13_keep_15 : decode cX13_keep 15 = .ok (.aload_n 0, 1) := by decide +kernel
theorem dX13_keep_16 : decode cX13_keep 16 = .ok (.getfield 654, 3) := by decide +kernel
theorem dX13_keep_19 : decode cX13_keep 19 = .ok (.iadd, 1) := by decide +kernel
theorem dX13_keep_20 : decode cX13_keep 20 = .ok (.invokevirtual 861, 3) := by decide +kernel
theorem dX13_keep_23 : decode cX13_keep 23 = .ok (.aload_n 0, 1) := by decide +kernel
theorem dX13_keep_24 : decode cX13_keep 24 = .ok (.dup, 1) := by decide +kernel
theorem dX13_keep_25 : decode cX13_keep 25 = .ok (.getfield 654, 3) := by decide +kernel
theorem dX13_keep_28 : decode cX13_keep 28 = .ok (.iconst 1, 1) := by decide +kernel
theorem dX13_keep_29 : decode cX13_keep 29 = .ok (.iadd, 1) := by decide +kernel
theorem dX13_keep_30 : decode cX13_keep 30 = .ok (.putfield 654, 3) := by decide +kernel
theorem dX13_keep_33 : decode cX13_keep 33 = .ok (.aload_n 0, 1) := by decide +kernel
theorem dX13_keep_34 : decode cX13_keep 34 = .ok (.getfield 654, 3) := by decide +kernel
theorem dX13_keep_37 : decode cX13_keep 37 = .ok (.iconst 1, 1) := by decide +kernel
theorem dX13_keep_38 : decode cX13_keep 38 = .ok (.isub, 1) := by decide +kernel
theorem dX13_keep_39 : decode cX13_keep 39 = .ok (.ireturn, 1) := by decide +kernel
theorem dX13_keep_4 : decode cX13_keep 4 = .ok (.bipush 40, 2) := by decide +kernel
theorem dX13_keep_6 : decode cX13_keep 6 = .ok (.if_icmp .ne 6, 3) := by decide +kernel
theorem dX13_keep_9 : decode cX13_keep 9 = .ok (.bipush (-3), 2) := by decide +kernel
noncomputable def f_X13_keep (x1 : Int32) (s : t_S) : Option (Int32 × t_S) :=
 if (s.1 950 96) = (40 : Int32) then (some ((-3 : Int32), s))
 else ((f_X13_copy x1 ((0 : Int32) + (s.1 950 96)) s).bind (fun r1 =>
 t_let (t_setI r1 950 96 ((r1.1 950 96) + (1 : Int32))) (fun s1 =>
 some (((s1.1 950 96) - (1 : Int32)), s1))))
set_option maxRecDepth 4000 in
set_option maxHeartbeats 1000000 in
theorem C_X13_keep (x1 : Int32) (s : t_S) (r : Int32 × t_S) (hr : f_X13_keep x1 s = some r) : t_C yX13_keep cX13_keep 2 (some .int) 3 [.ref 950, .int x1] s (fun v s' => v = some (.int r.1) ∧ s' = r.2) := by
  refine t_C.imp (P := fun v s' => ∃ x, v = some (.int x) ∧ (fun q => q = r) ((x, s'))) (t_C.of (by decide +kernel) (Nat.le_of_ble_eq_true rfl) ?_) (fun v s' hp => by obtain ⟨x, rfl, rfl⟩ := hp; exact ⟨rfl, rfl⟩)
  intro D cy ad bs X
  have hk : t_hk (f_X13_keep x1 s) (fun q => q = r) := ⟨r, hr, rfl⟩
  show mj_G D cy ad bs X cX13_keep 2 yX13_keep.cls (some .int) yX13_keep.name 3 0 0 1065 (t_P (fun v s' => ∃ x, v = some (.int x) ∧ (fun q => q = r) ((x, s')))) 0 [(0, .ref 950), (1, .int x1)] [] (t_m s) 1065 0 0
  refine mj_aload_n dX13_keep_0 0 rfl ?_
  refine t_getI dX13_keep_1 F_X13_654 qf_950_96 ?_
  refine mj_bipush (v := 40) dX13_keep_4 (by decide) ?_
  refine mj_icmp_ne 12 dX13_keep_6 (by decide) (fun z => t_negK hk z (fun hk => ?_)) (fun z => t_posK hk z (fun hk => ?_))
  · refine mj_aload_n dX13_keep_12 0 rfl ?_
    refine mj_iload_n dX13_keep_13 1 rfl ?_
    refine mj_iconst (v := 0) dX13_keep_14 (by decide) ?_
    refine mj_aload_n dX13_keep_15 0 rfl ?_
    refine t_getI dX13_keep_16 F_X13_654 qf_950_96 ?_
    refine mj_iadd dX13_keep_19 ?_
    refine t_bndK hk (fun r1 er1 hk => ?_)
    refine t_callVvE dX13_keep_20 M_X13_copy (C_X13_copy _ _ _ _ er1) ML_X13_861 IM_X13_copy SE_X13_copy qc_950 rfl (As := [.int x1, .int ((0 : Int32) + (s.1 950 96))]) rfl rfl (Nat.le_of_ble_eq_true rfl) (Nat.le_of_ble_eq_true rfl) (Nat.le_of_ble_eq_true rfl) (Nat.le_of_ble_eq_true rfl) ?_
    refine mj_aload_n dX13_keep_23 0 rfl ?_
    refine mj_dup dX13_keep_24 rfl ?_
    refine t_getI dX13_keep_25 F_X13_654 qf_950_96 ?_
    refine mj_iconst (v := 1) dX13_keep_28 (by decide) ?_
    refine mj_iadd dX13_keep_29 ?_
    refine t_putIK dX13_keep_30 F_X13_654 qf_950_96 rfl (fun s1 ws1 => t_letE hk ws1 (fun hk => ?_))
    refine mj_aload_n dX13_keep_33 0 rfl ?_
    refine t_getI dX13_keep_34 F_X13_654 qf_950_96 ?_
    refine mj_iconst (v := 1) dX13_keep_37 (by decide) ?_
    refine mj_isub dX13_keep_38 ?_
    exact t_somK hk (fun hf => t_iret dX13_keep_39 rfl rfl ⟨_, rfl, hf⟩ (Nat.le_of_ble_eq_true rfl) (Nat.le_of_ble_eq_true rfl))
  · refine mj_bipush (v := (-3)) dX13_keep_9 (by decide) ?_
    exact t_somK hk (fun hf => t_iret dX13_keep_11 rfl rfl ⟨_, rfl, hf⟩ (Nat.le_of_ble_eq_true rfl) (Nat.le_of_ble_eq_true rfl))

theorem dX13_eventValue_0 : decode cX13_eventValue 0 = .ok (.aload_n 0, 1) := by decide +kernel
theorem dX13_eventValue_1 : decode cX13_eventValue 1 = .ok (.getfield 645, 3) := by decide +kernel
theorem dX13_eventValue_11 : decode cX13_eventValue 11 = .ok (.iload_n 1, 1) := by decide +kernel
theorem dX13_eventValue_12 : decode cX13_eventValue 12 = .ok (.i2l, 1) := by decide +kernel
theorem dX13_eventValue_13 : decode cX13_eventValue 13 = .ok (.aload_n 0, 1) := by decide +kernel
theorem dX13_eventValue_14 : decode cX13_eventValue 14 = .ok (.getfield 1300, 3) := by decide +kernel
theorem dX13_eventValue_17 : decode cX13_eventValue 17 = .ok (.lcmp, 1) := by decide +kernel
theorem dX13_eventValue_18 : decode cX13_eventValue 18 = .ok (.ifCond .ge 19, 3) := by decide +kernel
theorem dX13_eventValue_21 : decode cX13_eventValue 21 = .ok (.iload_n 1, 1) := by decide +kernel
theorem dX13_eventValue_22 : decode cX13_eventValue 22 = .ok (.sipush 300, 3) := by decide +kernel
theorem dX13_eventValue_25 : decode cX13_eventValue 25 = .ok (.if_icmp .ge 12, 3) := by decide +kernel
theorem dX13_eventValue_28 : decode cX13_eventValue 28 = .ok (.aload_n 0, 1) := by decide +kernel
theorem dX13_eventValue_29 : decode cX13_eventValue 29 = .ok (.getfield 333, 3) := by decide +kernel
theorem dX13_eventValue_32 : decode cX13_eventValue 32 = .ok (.iload_n 1, 1) := by decide +kernel
theorem dX13_eventValue_33 : decode cX13_eventValue 33 = .ok (.baload, 1) := by decide +kernel
theorem dX13_eventValue_34 : decode cX13_eventValue 34 = .ok (.ifCond .ne 6, 3) := by decide +kernel
theorem dX13_eventValue_37 : decode cX13_eventValue 37 = .ok (.bipush (-2), 2) := by decide +kernel
theorem dX13_eventValue_39 : decode cX13_eventValue 39 = .ok (.ireturn, 1) := by decide +kernel
theorem dX13_eventValue_4 : decode cX13_eventValue 4 = .ok (.ifCond .eq 33, 3) := by decide +kernel
theorem dX13_eventValue_40 : decode cX13_eventValue 40 = .ok (.aload_n 0, 1) := by decide +kernel
theorem dX13_eventValue_41 : decode cX13_eventValue 41 = .ok (.sipush 260, 3) := by decide +kernel
theorem dX13_eventValue_44 : decode cX13_eventValue 44 = .ok (.sipush 2056, 3) := by decide +kernel
theorem dX13_eventValue_47 : decode cX13_eventValue 47 = .ok (.iload_n 1, 1) := by decide +kernel
theorem dX13_eventValue_48 : decode cX13_eventValue 48 = .ok (.iadd, 1) := by decide +kernel
theorem dX13_eventValue_49 : decode cX13_eventValue 49 = .ok (.imul, 1) := by decide +kernel
theorem dX13_eventValue_50 : decode cX13_eventValue 50 = .ok (.invokevirtual 999, 3) := by decide +kernel
theorem dX13_eventValue_53 : decode cX13_eventValue 53 = .ok (.ireturn, 1) := by decide +kernel
theorem dX13_eventValue_7 : decode cX13_eventValue 7 = .ok (.iload_n 1, 1) := by decide +kernel
theorem dX13_eventValue_8 : decode cX13_eventValue 8 = .ok (.ifCond .lt 29, 3) := by decide +kernel
noncomputable def f_X13_eventValue (x1 : Int32) (s : t_S) : Option (Int32 × t_S) :=
 if (s.1 950 147) = (0 : Int32) then (some ((-2 : Int32), s))
 else (if x1 < (0 : Int32) then (some ((-2 : Int32), s))
 else (if (0 : Int32) ≤ (lg_cmp x1.toInt64 (s.2.1 950 171)) then (some ((-2 : Int32), s))
 else (if (300 : Int32) ≤ x1 then (some ((-2 : Int32), s))
 else (if t_ix x1 300 = true then
  if (s.1 1055 (x1.toNatClampNeg)) = (0 : Int32) then (some ((-2 : Int32), s))
 else ((f_X13_keep ((260 : Int32) * ((2056 : Int32) + x1)) s).bind (fun r2 =>
 some (r2.1, r2.2)))
else none))))
set_option maxRecDepth 4000 in
set_option maxHeartbeats 1000000 in
theorem C_X13_eventValue (x1 : Int32) (s : t_S) (r : Int32 × t_S) (hr : f_X13_eventValue x1 s = some r) : t_C yX13_eventValue cX13_eventValue 2 (some .int) 4 [.ref 950, .int x1] s (fun v s' => v = some (.int r.1) ∧ s' = r.2) := by
  refine t_C.imp (P := fun v s' => ∃ x, v = some (.int x) ∧ (fun q => q = r) ((x, s'))) (t_C.of (by decide +kernel) (Nat.le_of_ble_eq_true rfl) ?_) (fun v s' hp => by obtain ⟨x, rfl, rfl⟩ := hp; exact ⟨rfl, rfl⟩)
  intro D cy ad bs X
  have hk : t_hk (f_X13_eventValue x1 s) (fun q => q = r) := ⟨r, hr, rfl⟩
  show mj_G D cy ad bs X cX13_eventValue 2 yX13_eventValue.cls (some .int) yX13_eventValue.name 4 0 0 1065 (t_P (fun v s' => ∃ x, v = some (.int x) ∧ (fun q => q = r) ((x, s')))) 0 [(0, .ref 950), (1, .int x1)] [] (t_m s) 1065 0 0
  refine mj_aload_n dX13_eventValue_0 0 rfl ?_
  refine t_getI dX13_eventValue_1 F_X13_645 qf_950_147 ?_
  refine mj_if_eq 37 dX13_eventValue_4 (by decide) (fun z => t_posK hk z (fun hk => ?_)) (fun z => t_negK hk z (fun hk => ?_))
  · refine mj_bipush (v := (-2)) dX13_eventValue_37 (by decide) ?_
    exact t_somK hk (fun hf => t_iret dX13_eventValue_39 rfl rfl ⟨_, rfl, hf⟩ (Nat.le_of_ble_eq_true rfl) (Nat.le_of_ble_eq_true rfl))
  · refine mj_iload_n dX13_eventValue_7 1 rfl ?_
    refine mj_if_lt 37 dX13_eventValue_8 (by decide) (fun z => t_posK hk z (fun hk => ?_)) (fun z => t_negK hk z (fun hk => ?_))
    · refine mj_bipush (v := (-2)) dX13_eventValue_37 (by decide) ?_
      exact t_somK hk (fun hf => t_iret dX13_eventValue_39 rfl rfl ⟨_, rfl, hf⟩ (Nat.le_of_ble_eq_true rfl) (Nat.le_of_ble_eq_true rfl))
    · refine mj_iload_n dX13_eventValue_11 1 rfl ?_
      refine mj_i2l (v := x1.toInt64) dX13_eventValue_12 rfl ?_
      refine mj_aload_n dX13_eventValue_13 0 rfl ?_
      refine t_getJ dX13_eventValue_14 F_X13_1300 qf_950_171 ?_
      refine mj_lcmp dX13_eventValue_17 ?_
      refine mj_if_ge 37 dX13_eventValue_18 (by decide) (fun z => t_posK hk z (fun hk => ?_)) (fun z => t_negK hk z (fun hk => ?_))
      · refine mj_bipush (v := (-2)) dX13_eventValue_37 (by decide) ?_
        exact t_somK hk (fun hf => t_iret dX13_eventValue_39 rfl rfl ⟨_, rfl, hf⟩ (Nat.le_of_ble_eq_true rfl) (Nat.le_of_ble_eq_true rfl))
      · refine mj_iload_n dX13_eventValue_21 1 rfl ?_
        refine mj_sipush (v := 300) dX13_eventValue_22 (by decide) ?_
        refine mj_icmp_ge 37 dX13_eventValue_25 (by decide) (fun z => t_posK hk z (fun hk => ?_)) (fun z => t_negK hk z (fun hk => ?_))
        · refine mj_bipush (v := (-2)) dX13_eventValue_37 (by decide) ?_
          exact t_somK hk (fun hf => t_iret dX13_eventValue_39 rfl rfl ⟨_, rfl, hf⟩ (Nat.le_of_ble_eq_true rfl) (Nat.le_of_ble_eq_true rfl))
        · refine mj_aload_n dX13_eventValue_28 0 rfl ?_
          refine t_getR 1055 dX13_eventValue_29 F_X13_333 qr_950_170 ?_
          refine mj_iload_n dX13_eventValue_32 1 rfl ?_
          refine t_chkK hk (fun c0 hk => ?_)
          refine t_zald dX13_eventValue_33 qa_1055 (t_ixv c0) ?_
          refine mj_if_ne 40 dX13_eventValue_34 (by decide) (fun z => t_negK hk z (fun hk => ?_)) (fun z => t_posK hk z (fun hk => ?_))
          · refine mj_aload_n dX13_eventValue_40 0 rfl ?_
            refine mj_sipush (v := 260) dX13_eventValue_41 (by decide) ?_
            refine mj_sipush (v := 2056) dX13_eventValue_44 (by decide) ?_
            refine mj_iload_n dX13_eventValue_47 1 rfl ?_
            refine mj_iadd dX13_eventValue_48 ?_
            refine mj_imul dX13_eventValue_49 ?_
            refine t_bndK hk (fun r2 er2 hk => ?_)
            refine t_callViE dX13_eventValue_50 M_X13_keep (C_X13_keep _ _ _ er2) ML_X13_999 IM_X13_keep SE_X13_keep qc_950 rfl (As := [.int ((260 : Int32) * ((2056 : Int32) + x1))]) rfl rfl (Nat.le_of_ble_eq_true rfl) (Nat.le_of_ble_eq_true rfl) (Nat.le_of_ble_eq_true rfl) (Nat.le_of_ble_eq_true rfl) ?_
            exact t_somK hk (fun hf => t_iret dX13_eventValue_53 rfl rfl ⟨_, rfl, hf⟩ (Nat.le_of_ble_eq_true rfl) (Nat.le_of_ble_eq_true rfl))
          · refine mj_bipush (v := (-2)) dX13_eventValue_37 (by decide) ?_
            exact t_somK hk (fun hf => t_iret dX13_eventValue_39 rfl rfl ⟨_, rfl, hf⟩ (Nat.le_of_ble_eq_true rfl) (Nat.le_of_ble_eq_true rfl))

theorem dX13_event__0 : decode cX13_event_ 0 = .ok (.aload_n 0, 1) := by decide +kernel
theorem dX13_event__1 : decode cX13_event_ 1 = .ok (.getfield 645, 3) := by decide +kernel
theorem dX13_event__11 : decode cX13_event_ 11 = .ok (.iload_n 1, 1) := by decide +kernel
theorem dX13_event__12 : decode cX13_event_ 12 = .ok (.i2l, 1) := by decide +kernel
theorem dX13_event__13 : decode cX13_event_ 13 = .ok (.aload_n 0, 1) := by decide +kernel
theorem dX13_event__14 : decode cX13_event_ 14 = .ok (.getfield 1300, 3) := by decide +kernel
theorem dX13_event__17 : decode cX13_event_ 17 = .ok (.lcmp, 1) := by decide +kernel
theorem dX13_event__18 : decode cX13_event_ 18 = .ok (.ifCond .ge 22, 3) := by decide +kernel
theorem dX13_event__21 : decode cX13_event_ 21 = .ok (.iload_n 1, 1) := by decide +kernel
theorem dX13_event__22 : decode cX13_event_ 22 = .ok (.sipush 300, 3) := by decide +kernel
theorem dX13_event__25 : decode cX13_event_ 25 = .ok (.if_icmp .ge 15, 3) := by decide +kernel
theorem dX13_event__28 : decode cX13_event_ 28 = .ok (.iload_n 2, 1) := by decide +kernel
theorem dX13_event__29 : decode cX13_event_ 29 = .ok (.i2l, 1) := by decide +kernel
theorem dX13_event__30 : decode cX13_event_ 30 = .ok (.lconst 0, 1) := by decide +kernel
theorem dX13_event__31 : decode cX13_event_ 31 = .ok (.ldc2_w 994, 3) := by decide +kernel
theorem dX13_event__34 : decode cX13_event_ 34 = .ok (.invokestatic 371, 3) := by decide +kernel
theorem dX13_event__37 : decode cX13_event_ 37 = .ok (.ifCond .ne 5, 3) := by decide +kernel
theorem dX13_event__4 : decode cX13_event_ 4 = .ok (.ifCond .eq 36, 3) := by decide +kernel
theorem dX13_event__40 : decode cX13_event_ 40 = .ok (.iconst (-1), 1) := by decide +kernel
theorem dX13_event__41 : decode cX13_event_ 41 = .ok (.ireturn, 1) := by decide +kernel
theorem dX13_event__42 : decode cX13_event_ 42 = .ok (.iload_n 2, 1) := by decide +kernel
theorem dX13_event__43 : decode cX13_event_ 43 = .ok (.ifCond .ne 12, 3) := by decide +kernel
theorem dX13_event__46 : decode cX13_event_ 46 = .ok (.aload_n 0, 1) := by decide +kernel
theorem dX13_event__47 : decode cX13_event_ 47 = .ok (.getfield 324, 3) := by decide +kernel
theorem dX13_event__50 : decode cX13_event_ 50 = .ok (.iload_n 1, 1) := by decide +kernel
theorem dX13_event__51 : decode cX13_event_ 51 = .ok (.iaload, 1) := by decide +kernel
theorem dX13_event__52 : decode cX13_event_ 52 = .ok (.goto 23, 3) := by decide +kernel
theorem dX13_event__55 : decode cX13_event_ 55 = .ok (.iload_n 2, 1) := by decide +kernel
theorem dX13_event__56 : decode cX13_event_ 56 = .ok (.iconst 1, 1) := by decide +kernel
theorem dX13_event__57 : decode cX13_event_ 57 = .ok (.if_icmp .ne 12, 3) := by decide +kernel
theorem dX13_event__60 : decode cX13_event_ 60 = .ok (.aload_n 0, 1) := by decide +kernel
theorem dX13_event__61 : decode cX13_event_ 61 = .ok (.getfield 327, 3) := by decide +kernel
theorem dX13_event__64 : decode cX13_event_ 64 = .ok (.iload_n 1, 1) := by decide +kernel
theorem dX13_event__65 : decode cX13_event_ 65 = .ok (.iaload, 1) := by decide +kernel
theorem dX13_event__66 : decode cX13_event_ 66 = .ok (.goto 9, 3) := by decide +kernel
theorem dX13_event__69 : decode cX13_event_ 69 = .ok (.aload_n 0, 1) := by decide +kernel
theorem dX13_event__7 : decode cX13_event_ 7 = .ok (.iload_n 1, 1) := by decide +kernel
theorem dX13_event__70 : decode cX13_event_ 70 = .ok (.getfield 330, 3) := by decide +kernel
theorem dX13_event__73 : decode cX13_event_ 73 = .ok (.iload_n 1, 1) := by decide +kernel
theorem dX13_event__74 : decode cX13_event_ 74 = .ok (.iaload, 1) := by decide +kernel
theorem dX13_event__75 : decode cX13_event_ 75 = .ok (.ireturn, 1) := by decide +kernel
theorem dX13_event__8 : decode cX13_event_ 8 = .ok (.ifCond .lt 32, 3) := by decide +kernel
noncomputable def f_X13_event_ (x1 : Int32) (x2 : Int32) (s : t_S) : Option (Int32) :=
 if (s.1 950 147) = (0 : Int32) then (some (-1 : Int32))
 else (if x1 < (0 : Int32) then (some (-1 : Int32))
 else (if (0 : Int32) ≤ (lg_cmp x1.toInt64 (s.2.1 950 171)) then (some (-1 : Int32))
 else (if (300 : Int32) ≤ x1 then (some (-1 : Int32))
 else (if (f_X13_in x2.toInt64 (0 : Int64) (2 : Int64) s) = (0 : Int32) then (some (-1 : Int32))
 else (if x2 = (0 : Int32) then (if t_ix x1 300 = true then
  some (s.1 1052 (x1.toNatClampNeg))
else none)
 else (if x2 = (1 : Int32) then (if t_ix x1 300 = true then
  some (s.1 1053 (x1.toNatClampNeg))
else none)
 else (if t_ix x1 300 = true then
  some (s.1 1054 (x1.toNatClampNeg))
else none)))))))
set_option maxRecDepth 4000 in
set_option maxHeartbeats 1000000 in
theorem C_X13_event_ (x1 : Int32) (x2 : Int32) (s : t_S) (r : Int32) (hr : f_X13_event_ x1 x2 s = some r) : t_C yX13_event_ cX13_event_ 3 (some .int) 1 [.ref 950, .int x1, .int x2] s (fun v s' => v = some (.int r) ∧ s' = s) := by
  refine t_C.imp (P := fun v s' => s' = s ∧ ∃ x, v = some (.int x) ∧ (fun q => q = r) (x)) (t_C.of (by decide +kernel) (Nat.le_of_ble_eq_true rfl) ?_) (fun v s' hp => by obtain ⟨rfl, x, rfl, rfl⟩ := hp; exact ⟨rfl, rfl⟩)
  intro D cy ad bs X
  have hk : t_hk (f_X13_event_ x1 x2 s) (fun q => q = r) := ⟨r, hr, rfl⟩
  show mj_G D cy ad bs X cX13_event_ 3 yX13_event_.cls (some .int) yX13_event_.name 1 0 0 1065 (t_P (fun v s' => s' = s ∧ ∃ x, v = some (.int x) ∧ (fun q => q = r) (x))) 0 [(0, .ref 950), (1, .int x1), (2, .int x2)] [] (t_m s) 1065 0 0
  refine mj_aload_n dX13_event__0 0 rfl ?_
  refine t_getI dX13_event__1 F_X13_645 qf_950_147 ?_
  refine mj_if_eq 40 dX13_event__4 (by decide) (fun z => t_posK hk z (fun hk => ?_)) (fun z => t_negK hk z (fun hk => ?_))
  · refine mj_iconst (v := (-1)) dX13_event__40 (by decide) ?_
    exact t_somK hk (fun hf => t_iret dX13_event__41 rfl rfl ⟨rfl, _, rfl, hf⟩ (Nat.le_of_ble_eq_true rfl) (Nat.le_of_ble_eq_true rfl))
  · refine mj_iload_n dX13_event__7 1 rfl ?_
    refine mj_if_lt 40 dX13_event__8 (by decide) (fun z => t_posK hk z (fun hk => ?_)) (fun z => t_negK hk z (fun hk => ?_))
    · refine mj_iconst (v := (-1)) dX13_event__40 (by decide) ?_
      exact t_somK hk (fun hf => t_iret dX13_event__41 rfl rfl ⟨rfl, _, rfl, hf⟩ (Nat.le_of_ble_eq_true rfl) (Nat.le_of_ble_eq_true rfl))
    · refine mj_iload_n dX13_event__11 1 rfl ?_
      refine mj_i2l (v := x1.toInt64) dX13_event__12 rfl ?_
      refine mj_aload_n dX13_event__13 0 rfl ?_
      refine t_getJ dX13_event__14 F_X13_1300 qf_950_171 ?_
      refine mj_lcmp dX13_event__17 ?_
      refine mj_if_ge 40 dX13_event__18 (by decide) (fun z => t_posK hk z (fun hk => ?_)) (fun z => t_negK hk z (fun hk => ?_))
      · refine mj_iconst (v := (-1)) dX13_event__40 (by decide) ?_
        exact t_somK hk (fun hf => t_iret dX13_event__41 rfl rfl ⟨rfl, _, rfl, hf⟩ (Nat.le_of_ble_eq_true rfl) (Nat.le_of_ble_eq_true rfl))
      · refine mj_iload_n dX13_event__21 1 rfl ?_
        refine mj_sipush (v := 300) dX13_event__22 (by decide) ?_
        refine mj_icmp_ge 40 dX13_event__25 (by decide) (fun z => t_posK hk z (fun hk => ?_)) (fun z => t_negK hk z (fun hk => ?_))
        · refine mj_iconst (v := (-1)) dX13_event__40 (by decide) ?_
          exact t_somK hk (fun hf => t_iret dX13_event__41 rfl rfl ⟨rfl, _, rfl, hf⟩ (Nat.le_of_ble_eq_true rfl) (Nat.le_of_ble_eq_true rfl))
        · refine mj_iload_n dX13_event__28 2 rfl ?_
          refine mj_i2l (v := x2.toInt64) dX13_event__29 rfl ?_
          refine mj_lconst (v := 0) dX13_event__30 (by decide) ?_
          refine mj_ldc2 dX13_event__31 K_X13_994 ?_
          refine t_callSiP dX13_event__34 M_X13_in (C_X13_in _ _ _ _) ML_X13_371 SM_X13_in (As := [.long x2.toInt64, .long 0, .long 2]) rfl rfl (Nat.le_of_ble_eq_true rfl) (Nat.le_of_ble_eq_true rfl) (Nat.le_of_ble_eq_true rfl) (Nat.le_of_ble_eq_true rfl) ?_
          refine mj_if_ne 42 dX13_event__37 (by decide) (fun z => t_negK hk z (fun hk => ?_)) (fun z => t_posK hk z (fun hk => ?_))
          · refine mj_iload_n dX13_event__42 2 rfl ?_
            refine mj_if_ne 55 dX13_event__43 (by decide) (fun z => t_negK hk z (fun hk => ?_)) (fun z => t_posK hk z (fun hk => ?_))
            · refine mj_iload_n dX13_event__55 2 rfl ?_
              refine mj_iconst (v := 1) dX13_event__56 (by decide) ?_
              refine mj_icmp_ne 69 dX13_event__57 (by decide) (fun z => t_negK hk z (fun hk => ?_)) (fun z => t_posK hk z (fun hk => ?_))
              · refine mj_aload_n dX13_event__69 0 rfl ?_
                refine t_getR 1054 dX13_event__70 F_X13_330 qr_950_169 ?_
                refine mj_iload_n dX13_event__73 1 rfl ?_
                refine t_chkK hk (fun c1 hk => ?_)
                refine t_iald dX13_event__74 qa_1054 (t_ixv c1) ?_
                exact t_somK hk (fun hf => t_iret dX13_event__75 rfl rfl ⟨rfl, _, rfl, hf⟩ (Nat.le_of_ble_eq_true rfl) (Nat.le_of_ble_eq_true rfl))
              · refine mj_aload_n dX13_event__60 0 rfl ?_
                refine t_getR 1053 dX13_event__61 F_X13_327 qr_950_168 ?_
                refine mj_iload_n dX13_event__64 1 rfl ?_
                refine t_chkK hk (fun c2 hk => ?_)
                refine t_iald dX13_event__65 qa_1053 (t_ixv c2) ?_
                refine mj_goto 75 dX13_event__66 (by decide) ?_
                exact t_somK hk (fun hf => t_iret dX13_event__75 rfl rfl ⟨rfl, _, rfl, hf⟩ (Nat.le_of_ble_eq_true rfl) (Nat.le_of_ble_eq_true rfl))
            · refine mj_aload_n dX13_event__46 0 rfl ?_
              refine t_getR 1052 dX13_event__47 F_X13_324 qr_950_167 ?_
              refine mj_iload_n dX13_event__50 1 rfl ?_
              refine t_chkK hk (fun c3 hk => ?_)
              refine t_iald dX13_event__51 qa_1052 (t_ixv c3) ?_
              refine mj_goto 75 dX13_event__52 (by decide) ?_
              exact t_somK hk (fun hf => t_iret dX13_event__75 rfl rfl ⟨rfl, _, rfl, hf⟩ (Nat.le_of_ble_eq_true rfl) (Nat.le_of_ble_eq_true rfl))
          · refine mj_iconst (v := (-1)) dX13_event__40 (by decide) ?_
            exact t_somK hk (fun hf => t_iret dX13_event__41 rfl rfl ⟨rfl, _, rfl, hf⟩ (Nat.le_of_ble_eq_true rfl) (Nat.le_of_ble_eq_true rfl))

theorem dX13_step_0 : decode cX13_step 0 = .ok (.aload_n 0, 1) := by decide +kernel
theorem dX13_step_1 : decode cX13_step 1 = .ok (.getfield 1282, 3) := by decide +kernel
theorem dX13_step_10 : decode cX13_step 10 = .ok (.aload_n 0, 1) := by decide +kernel
theorem dX13_step_11 : decode cX13_step 11 = .ok (.getfield 270, 3) := by decide +kernel
theorem dX13_step_14 : decode cX13_step 14 = .ok (.aload_n 0, 1) := by decide +kernel
theorem dX13_step_15 : decode cX13_step 15 = .ok (.getfield 1282, 3) := by decide +kernel
theorem dX13_step_18 : decode cX13_step 18 = .ok (.iload_n 1, 1) := by decide +kernel
theorem dX13_step_19 : decode cX13_step 19 = .ok (.iastore, 1) := by decide +kernel
theorem dX13_step_20 : decode cX13_step 20 = .ok (.aload_n 0, 1) := by decide +kernel
theorem dX13_step_21 : decode cX13_step 21 = .ok (.dup, 1) := by decide +kernel
theorem dX13_step_22 : decode cX13_step 22 = .ok (.getfield 1282, 3) := by decide +kernel
theorem dX13_step_25 : decode cX13_step 25 = .ok (.iconst 1, 1) := by decide +kernel
theorem dX13_step_26 : decode cX13_step 26 = .ok (.iadd, 1) := by decide +kernel
theorem dX13_step_27 : decode cX13_step 27 = .ok (.putfield 1282, 3) := by decide +kernel
theorem dX13_step_30 : decode cX13_step 30 = .ok (.return_, 1) := by decide +kernel
theorem dX13_step_4 : decode cX13_step 4 = .ok (.sipush 130, 3) := by decide +kernel
theorem dX13_step_7 : decode cX13_step 7 = .ok (.if_icmp .ge 23, 3) := by decide +kernel
noncomputable def f_X13_step (x1 : Int32) (s : t_S) : Option (t_S) :=
 if (130 : Int32) ≤ (s.1 950 146) then (some (s))
 else (if t_ix (s.1 950 146) 130 = true then
  t_let (t_setI s 1034 ((s.1 950 146).toNatClampNeg) x1) (fun s1 =>
 t_let (t_setI s1 950 146 ((s1.1 950 146) + (1 : Int32))) (fun s2 =>
 some (s2)))
else none)
set_option maxRecDepth 4000 in
set_option maxHeartbeats 1000000 in
theorem C_X13_step (x1 : Int32) (s : t_S) (r : t_S) (hr : f_X13_step x1 s = some r) : t_C yX13_step cX13_step 2 none 0 [.ref 950, .int x1] s (fun v s' => v = none ∧ s' = r) := by
  refine t_C.imp (P := fun v s' => v = none ∧ (fun q => q = r) (s')) (t_C.of (by decide +kernel) (Nat.le_of_ble_eq_true rfl) ?_) (fun v s' hp => hp)
  intro D cy ad bs X
  have hk : t_hk (f_X13_step x1 s) (fun q => q = r) := ⟨r, hr, rfl⟩
  show mj_G D cy ad bs X cX13_step 2 yX13_step.cls none yX13_step.name 0 0 0 1065 (t_P (fun v s' => v = none ∧ (fun q => q = r) (s'))) 0 [(0, .ref 950), (1, .int x1)] [] (t_m s) 1065 0 0
  refine mj_aload_n dX13_step_0 0 rfl ?_
  refine t_getI dX13_step_1 F_X13_1282 qf_950_146 ?_
  refine mj_sipush (v := 130) dX13_step_4 (by decide) ?_
  refine mj_icmp_ge 30 dX13_step_7 (by decide) (fun z => t_posK hk z (fun hk => ?_)) (fun z => t_negK hk z (fun hk => ?_))
  · exact t_somK hk (fun hf => t_vret dX13_step_30 rfl ⟨rfl, hf⟩ (Nat.le_of_ble_eq_true rfl) (Nat.le_of_ble_eq_true rfl))
  · refine mj_aload_n dX13_step_10 0 rfl ?_
    refine t_getR 1034 dX13_step_11 F_X13_270 qr_950_145 ?_
    refine mj_aload_n dX13_step_14 0 rfl ?_
    refine t_getI dX13_step_15 F_X13_1282 qf_950_146 ?_
    refine mj_iload_n dX13_step_18 1 rfl ?_
    refine t_chkK hk (fun c0 hk => ?_)
    refine t_iastK dX13_step_19 qa_1034 (t_ixv c0) (fun s1 ws1 => t_letE hk ws1 (fun hk => ?_))
    refine mj_aload_n dX13_step_20 0 rfl ?_
    refine mj_dup dX13_step_21 rfl ?_
    refine t_getI dX13_step_22 F_X13_1282 qf_950_146 ?_
    refine mj_iconst (v := 1) dX13_step_25 (by decide) ?_
    refine mj_iadd dX13_step_26 ?_
    refine t_putIK dX13_step_27 F_X13_1282 qf_950_146 rfl (fun s2 ws2 => t_letE hk ws2 (fun hk => ?_))
    exact t_somK hk (fun hf => t_vret dX13_step_30 rfl ⟨rfl, hf⟩ (Nat.le_of_ble_eq_true rfl) (Nat.le_of_ble_eq_true rfl))

theorem dX13_extraField_0 : decode cX13_extraField 0 = .ok (.iconst 0, 1) := by decide +kernel
theorem dX13_extraField_1 : decode cX13_extraField 1 = .ok (.istore_n 3, 1) := by decide +kernel
theorem dX13_extraField_10 : decode cX13_extraField 10 = .ok (.laload, 1) := by decide +kernel
theorem dX13_extraField_11 : decode cX13_extraField 11 = .ok (.l2i, 1) := by decide +kernel
theorem dX13_extraField_12 : decode cX13_extraField 12 = .ok (.if_icmp .ge 47, 3) := by decide +kernel
theorem dX13_extraField_15 : decode cX13_extraField 15 = .ok (.aload_n 0, 1) := by decide +kernel
theorem dX13_extraField_16 : decode cX13_extraField 16 = .ok (.iload_n 1, 1) := by decide +kernel
theorem dX13_extraField_17 : decode cX13_extraField 17 = .ok (.aload_n 0, 1) := by decide +kernel
theorem dX13_extraField_18 : decode cX13_extraField 18 = .ok (.getfield 182, 3) := by decide +kernel
theorem dX13_extraField_2 : decode cX13_extraField 2 = .ok (.iload_n 3, 1) := by decide +kernel
theorem dX13_extraField_21 : decode cX13_extraField 21 = .ok (.iload_n 2, 1) := by decide +kernel
theorem dX13_extraField_22 : decode cX13_extraField 22 = .ok (.iconst 2, 1) := by decide +kernel
theorem dX13_extraField_23 : decode cX13_extraField 23 = .ok (.iadd, 1) := by decide +kernel
theorem dX13_extraField_24 : decode cX13_extraField 24 = .ok (.iload_n 3, 1) := by decide +kernel
theorem dX13_extraField_25 : decode cX13_extraField 25 = .ok (.iadd, 1) := by decide +kernel
theorem dX13_extraField_26 : decode cX13_extraField 26 = .ok (.laload, 1) := by decide +kernel
theorem dX13_extraField_27 : decode cX13_extraField 27 = .ok (.invokevirtual 538, 3) := by decide +kernel
theorem dX13_extraField_3 : decode cX13_extraField 3 = .ok (.aload_n 0, 1) := by decide +kernel
theorem dX13_extraField_30 : decode cX13_extraField 30 = .ok (.ifCond .ne 23, 3) := by decide +kernel
theorem dX13_extraField_33 : decode cX13_extraField 33 = .ok (.aload_n 0, 1) := by decide +kernel
theorem dX13_extraField_34 : decode cX13_extraField 34 = .ok (.sipush 1000, 3) := by decide +kernel
theorem dX13_extraField_37 : decode cX13_extraField 37 = .ok (.aload_n 0, 1) := by decide +kernel
theorem dX13_extraField_38 : decode cX13_extraField 38 = .ok (.getfield 182, 3) := by decide +kernel
theorem dX13_extraField_4 : decode cX13_extraField 4 = .ok (.getfield 182, 3) := by decide +kernel
theorem dX13_extraField_41 : decode cX13_extraField 41 = .ok (.iload_n 2, 1) := by decide +kernel
theorem dX13_extraField_42 : decode cX13_extraField 42 = .ok (.iconst 2, 1) := by decide +kernel
theorem dX13_extraField_43 : decode cX13_extraField 43 = .ok (.iadd, 1) := by decide +kernel
theorem dX13_extraField_44 : decode cX13_extraField 44 = .ok (.iload_n 3, 1) := by decide +kernel
theorem dX13_extraField_45 : decode cX13_extraField 45 = .ok (.iadd, 1) := by decide +kernel
theorem dX13_extraField_46 : decode cX13_extraField 46 = .ok (.laload, 1) := by decide +kernel
theorem dX13_extraField_47 : decode cX13_extraField 47 = .ok (.l2i, 1) := by decide +kernel
theorem dX13_extraField_48 : decode cX13_extraField 48 = .ok (.iadd, 1) := by decide +kernel
theorem dX13_extraField_49 : decode cX13_extraField 49 = .ok (.invokevirtual 1291, 3) := by decide +kernel
theorem dX13_extraField_52 : decode cX13_extraField 52 = .ok (.return_, 1) := by decide +kernel
theorem dX13_extraField_53 : decode cX13_extraField 53 = .ok (.iinc 3 1, 3) := by decide +kernel
theorem dX13_extraField_56 : decode cX13_extraField 56 = .ok (.goto (-54), 3) := by decide +kernel
theorem dX13_extraField_59 : decode cX13_extraField 59 = .ok (.return_, 1) := by decide +kernel
theorem dX13_extraField_7 : decode cX13_extraField 7 = .ok (.iload_n 2, 1) := by decide +kernel
theorem dX13_extraField_8 : decode cX13_extraField 8 = .ok (.iconst 1, 1) := by decide +kernel
theorem dX13_extraField_9 : decode cX13_extraField 9 = .ok (.iadd, 1) := by decide +kernel
noncomputable def k_X13_extraField_2 (l1 : Int32) (l2 : Int32) (l3 : Int32) (s : t_S) : Option ((Int32 × Int32 × Int32 × t_S) ⊕ (t_S)) :=
 if t_ix (l2 + (1 : Int32)) 626600 = true then
  if ((s.2.1 1006 ((l2 + (1 : Int32)).toNatClampNeg)).toInt32) ≤ l3 then ((some (s)).map Sum.inr)
 else (if t_ix ((l2 + (2 : Int32)) + l3) 626600 = true then
  (f_X13_hasPart l1 (s.2.1 1006 (((l2 + (2 : Int32)) + l3).toNatClampNeg)) s).bind (fun r3 =>
 if r3 = (0 : Int32) then (((f_X13_step ((1000 : Int32) + ((s.2.1 1006 (((l2 + (2 : Int32)) + l3).toNatClampNeg)).toInt32)) s).bind (fun r4 =>
 some (r4))).map Sum.inr)
 else (some (.inl (l1, l2, (l3 + 1), s))))
else none)
else none
set_option maxRecDepth 4000 in
set_option maxHeartbeats 1000000 in
theorem B_X13_extraField_2 {D : va_G} {cy : Nat → ClassId} {ad : Nat → Nat} {bs : Nat} {X : State → Heap → Prop} (l1 : Int32) (l2 : Int32) (l3 : Int32) (s : t_S) (Q : (Int32 × Int32 × Int32 × t_S) ⊕ (t_S) → Prop) (Hb2 : ∀ (y0 : Int32) (y1 : Int32) (y2 : Int32) (y3 : t_S), Q (.inl (y0, y1, y2, y3)) → mj_G D cy ad bs X cX13_extraField 4 yX13_extraField.cls none yX13_extraField.name 1 0 0 1065 (t_P (fun v s' => v = none ∧ Q (.inr (s')))) 2 [(0, .ref 950), (1, .int (y0)), (2, .int (y1)), (3, .int (y2))] [] (t_m y3) 1065 0 0) (hk : t_hk (k_X13_extraField_2 l1 l2 l3 s) Q) : mj_G D cy ad bs X cX13_extraField 4 yX13_extraField.cls none yX13_extraField.name 1 0 0 1065 (t_P (fun v s' => v = none ∧ Q (.inr (s')))) 2 [(0, .ref 950), (1, .int l1), (2, .int l2), (3, .int l3)] [] (t_m s) 1065 0 0 := by
  refine mj_iload_n dX13_extraField_2 3 rfl ?_
  refine mj_aload_n dX13_extraField_3 0 rfl ?_
  refine t_getR 1006 dX13_extraField_4 F_X13_182 qr_950_95 ?_
  refine mj_iload_n dX13_extraField_7 2 rfl ?_
  refine mj_iconst (v := 1) dX13_extraField_8 (by decide) ?_
  refine mj_iadd dX13_extraField_9 ?_
  refine t_chkK hk (fun c0 hk => ?_)
  refine t_lald dX13_extraField_10 qa_1006 (t_ixv c0) ?_
  refine mj_l2i (v := (s.2.1 1006 ((l2 + (1 : Int32)).toNatClampNeg)).toInt32) dX13_extraField_11 rfl ?_
  refine mj_icmp_ge 59 dX13_extraField_12 (by decide) (fun z => t_posK hk z (fun hk => ?_)) (fun z => t_negK hk z (fun hk => ?_))
  · refine t_mapK hk (fun hk => ?_)
    exact t_somK hk (fun hf => t_vret dX13_extraField_59 rfl ⟨rfl, hf⟩ (Nat.le_of_ble_eq_true rfl) (Nat.le_of_ble_eq_true rfl))
  · refine mj_aload_n dX13_extraField_15 0 rfl ?_
    refine mj_iload_n dX13_extraField_16 1 rfl ?_
    refine mj_aload_n dX13_extraField_17 0 rfl ?_
    refine t_getR 1006 dX13_extraField_18 F_X13_182 qr_950_95 ?_
    refine mj_iload_n dX13_extraField_21 2 rfl ?_
    refine mj_iconst (v := 2) dX13_extraField_22 (by decide) ?_
    refine mj_iadd dX13_extraField_23 ?_
    refine mj_iload_n dX13_extraField_24 3 rfl ?_
    refine mj_iadd dX13_extraField_25 ?_
    refine t_chkK hk (fun c1 hk => ?_)
    refine t_lald dX13_extraField_26 qa_1006 (t_ixv c1) ?_
    refine t_bndK hk (fun r3 er3 hk => ?_)
    refine t_callViP dX13_extraField_27 M_X13_hasPart (C_X13_hasPart _ _ _ _ er3) ML_X13_538 IM_X13_hasPart SE_X13_hasPart qc_950 rfl (As := [.int l1, .long (s.2.1 1006 (((l2 + (2 : Int32)) + l3).toNatClampNeg))]) rfl rfl (Nat.le_of_ble_eq_true rfl) (Nat.le_of_ble_eq_true rfl) (Nat.le_of_ble_eq_true rfl) (Nat.le_of_ble_eq_true rfl) ?_
    refine mj_if_ne 53 dX13_extraField_30 (by decide) (fun z => t_negK hk z (fun hk => ?_)) (fun z => t_posK hk z (fun hk => ?_))
    · refine mj_iinc (k := 3) (v := (l3 + 1)) (lv2 := [(3, .int (l3 + 1)), (0, .ref 950), (1, .int l1), (2, .int l2)]) dX13_extraField_53 rfl rfl (by decide) rfl ?_
      refine mj_goto 2 dX13_extraField_56 (by decide) ?_
      refine mj_sublv [(0, .ref 950), (1, .int l1), (2, .int l2), (3, .int (l3 + 1))] [1, 2, 3, 0] rfl ?_
      exact t_somK hk (fun hf => Hb2 l1 l2 (l3 + 1) s hf)
    · refine t_mapK hk (fun hk => ?_)
      refine mj_aload_n dX13_extraField_33 0 rfl ?_
      refine mj_sipush (v := 1000) dX13_extraField_34 (by decide) ?_
      refine mj_aload_n dX13_extraField_37 0 rfl ?_
      refine t_getR 1006 dX13_extraField_38 F_X13_182 qr_950_95 ?_
      refine mj_iload_n dX13_extraField_41 2 rfl ?_
      refine mj_iconst (v := 2) dX13_extraField_42 (by decide) ?_
      refine mj_iadd dX13_extraField_43 ?_
      refine mj_iload_n dX13_extraField_44 3 rfl ?_
      refine mj_iadd dX13_extraField_45 ?_
      refine t_lald dX13_extraField_46 qa_1006 (t_ixv c1) ?_
      refine mj_l2i (v := (s.2.1 1006 (((l2 + (2 : Int32)) + l3).toNatClampNeg)).toInt32) dX13_extraField_47 rfl ?_
      refine mj_iadd dX13_extraField_48 ?_
      refine t_bndK hk (fun r4 er4 hk => ?_)
      refine t_callVvE dX13_extraField_49 M_X13_step (C_X13_step _ _ _ er4) ML_X13_1291 IM_X13_step SE_X13_step qc_950 rfl (As := [.int ((1000 : Int32) + ((s.2.1 1006 (((l2 + (2 : Int32)) + l3).toNatClampNeg)).toInt32))]) rfl rfl (Nat.le_of_ble_eq_true rfl) (Nat.le_of_ble_eq_true rfl) (Nat.le_of_ble_eq_true rfl) (Nat.le_of_ble_eq_true rfl) ?_
      exact t_somK hk (fun hf => t_vret dX13_extraField_52 rfl ⟨rfl, hf⟩ (Nat.le_of_ble_eq_true rfl) (Nat.le_of_ble_eq_true rfl))
noncomputable def b_X13_extraField_2 (x : Int32 × Int32 × Int32 × t_S) : Option ((Int32 × Int32 × Int32 × t_S) ⊕ (t_S)) := k_X13_extraField_2 x.1 x.2.1 x.2.2.1 x.2.2.2
set_option maxRecDepth 4000 in
set_option maxHeartbeats 1000000 in
theorem LH_X13_extraField_2 {D : va_G} {cy : Nat → ClassId} {ad : Nat → Nat} {bs : Nat} {X : State → Heap → Prop} : ∀ (n : Nat) (y0 : Int32) (y1 : Int32) (y2 : Int32) (y3 : t_S) (Q : t_S → Prop) (hk : t_hk (t_loop (b_X13_extraField_2) n (y0, y1, y2, y3)) Q), mj_G D cy ad bs X cX13_extraField 4 yX13_extraField.cls none yX13_extraField.name 1 0 0 1065 (t_P (fun v s' => v = none ∧ Q (s'))) 2 [(0, .ref 950), (1, .int (y0)), (2, .int (y1)), (3, .int (y2))] [] (t_m y3) 1065 0 0 := by
  intro n
  induction n with
  | zero => intro y0 y1 y2 y3 Q hk; obtain ⟨r, hr, _⟩ := hk; cases hr
  | succ n ih =>
    intro y0 y1 y2 y3 Q hk
    exact B_X13_extraField_2 y0 y1 y2 y3 (fun y => t_lq (b_X13_extraField_2) n Q y) (fun y0' y1' y2' y3' hy => ih y0' y1' y2' y3' Q hy) (t_lp (b := b_X13_extraField_2) (n := n) (x := (y0, y1, y2, y3)) hk)
noncomputable def f_X13_extraField (x1 : Int32) (x2 : Int32) (s : t_S) : Option (t_S) :=
 t_loop (b_X13_extraField_2) t_N (x1, x2, 0, s)
set_option maxRecDepth 4000 in
set_option maxHeartbeats 1000000 in
theorem C_X13_extraField (x1 : Int32) (x2 : Int32) (s : t_S) (r : t_S) (hr : f_X13_extraField x1 x2 s = some r) : t_C yX13_extraField cX13_extraField 4 none 1 [.ref 950, .int x1, .int x2] s (fun v s' => v = none ∧ s' = r) := by
  refine t_C.imp (P := fun v s' => v = none ∧ (fun q => q = r) (s')) (t_C.of (by decide +kernel) (Nat.le_of_ble_eq_true rfl) ?_) (fun v s' hp => hp)
  intro D cy ad bs X
  have hk : t_hk (f_X13_extraField x1 x2 s) (fun q => q = r) := ⟨r, hr, rfl⟩
  show mj_G D cy ad bs X cX13_extraField 4 yX13_extraField.cls none yX13_extraField.name 1 0 0 1065 (t_P (fun v s' => v = none ∧ (fun q => q = r) (s'))) 0 [(0, .ref 950), (1, .int x1), (2, .int x2)] [] (t_m s) 1065 0 0
  refine mj_iconst (v := 0) dX13_extraField_0 (by decide) ?_
  refine mj_istore_n 3 (lv2 := [(3, .int 0), (0, .ref 950), (1, .int x1), (2, .int x2)]) dX13_extraField_1 rfl (by decide) rfl ?_
  refine mj_sublv [(0, .ref 950), (1, .int x1), (2, .int x2), (3, .int 0)] [1, 2, 3, 0] rfl ?_
  exact LH_X13_extraField_2 _ x1 x2 0 s _ hk

theorem dX13_feed_0 : decode cX13_feed 0 = .ok (.aload_n 0, 1) := by decide +kernel
theorem dX13_feed_1 : decode cX13_feed 1 = .ok (.getfield 366, 3) := by decide +kernel
theorem dX13_feed_10 : decode cX13_feed 10 = .ok (.if_icmp .le 6, 3) := by decide +kernel
theorem dX13_feed_100 : decode cX13_feed 100 = .ok (.dup, 1) := by decide +kernel
theorem dX13_feed_101 : decode cX13_feed 101 = .ok (.getfield 366, 3) := by decide +kernel
theorem dX13_feed_104 : decode cX13_feed 104 = .ok (.iconst 1, 1) := by decide +kernel
theorem dX13_feed_105 : decode cX13_feed 105 = .ok (.iadd, 1) := by decide +kernel
theorem dX13_feed_106 : decode cX13_feed 106 = .ok (.putfield 366, 3) := by decide +kernel
theorem dX13_feed_109 : decode cX13_feed 109 = .ok (.iinc 6 1, 3) := by decide +kernel
theorem dX13_feed_112 : decode cX13_feed 112 = .ok (.goto (-93), 3) := by decide +kernel
theorem dX13_feed_115 : decode cX13_feed 115 = .ok (.aload_n 0, 1) := by decide +kernel
theorem dX13_feed_116 : decode cX13_feed 116 = .ok (.getfield 366, 3) := by decide +kernel
theorem dX13_feed_119 : decode cX13_feed 119 = .ok (.ireturn, 1) := by decide +kernel
theorem dX13_feed_13 : decode cX13_feed 13 = .ok (.bipush (-3), 2) := by decide +kernel
theorem dX13_feed_15 : decode cX13_feed 15 = .ok (.ireturn, 1) := by decide +kernel
theorem dX13_feed_16 : decode cX13_feed 16 = .ok (.iconst 0, 1) := by decide +kernel
theorem dX13_feed_17 : decode cX13_feed 17 = .ok (.istore 6, 2) := by decide +kernel
theorem dX13_feed_19 : decode cX13_feed 19 = .ok (.iload 6, 2) := by decide +kernel
theorem dX13_feed_21 : decode cX13_feed 21 = .ok (.bipush 20, 2) := by decide +kernel
theorem dX13_feed_23 : decode cX13_feed 23 = .ok (.if_icmp .ge 92, 3) := by decide +kernel
theorem dX13_feed_26 : decode cX13_feed 26 = .ok (.iload 6, 2) := by decide +kernel
theorem dX13_feed_28 : decode cX13_feed 28 = .ok (.iconst 4, 1) := by decide +kernel
theorem dX13_feed_29 : decode cX13_feed 29 = .ok (.if_icmp .ge 7, 3) := by decide +kernel
theorem dX13_feed_32 : decode cX13_feed 32 = .ok (.iload_n 1, 1) := by decide +kernel
theorem dX13_feed_33 : decode cX13_feed 33 = .ok (.goto 39, 3) := by decide +kernel
theorem dX13_feed_36 : decode cX13_feed 36 = .ok (.iload 6, 2) := by decide +kernel
theorem dX13_feed_38 : decode cX13_feed 38 = .ok (.bipush 8, 2) := by decide +kernel
theorem dX13_feed_4 : decode cX13_feed 4 = .ok (.bipush 20, 2) := by decide +kernel
theorem dX13_feed_40 : decode cX13_feed 40 = .ok (.if_icmp .ge 7, 3) := by decide +kernel
theorem dX13_feed_43 : decode cX13_feed 43 = .ok (.iload_n 2, 1) := by decide +kernel
theorem dX13_feed_44 : decode cX13_feed 44 = .ok (.goto 28, 3) := by decide +kernel
theorem dX13_feed_47 : decode cX13_feed 47 = .ok (.iload 6, 2) := by decide +kernel
theorem dX13_feed_49 : decode cX13_feed 49 = .ok (.bipush 12, 2) := by decide +kernel
theorem dX13_feed_51 : decode cX13_feed 51 = .ok (.if_icmp .ge 7, 3) := by decide +kernel
theorem dX13_feed_54 : decode cX13_feed 54 = .ok (.iload_n 3, 1) := by decide +kernel
theorem dX13_feed_55 : decode cX13_feed 55 = .ok (.goto 17, 3) := by decide +kernel
theorem dX13_feed_58 : decode cX13_feed 58 = .ok (.iload 6, 2) := by decide +kernel
theorem dX13_feed_6 : decode cX13_feed 6 = .ok (.iadd, 1) := by decide +kernel
theorem dX13_feed_60 : decode cX13_feed 60 = .ok (.bipush 16, 2) := by decide +kernel
theorem dX13_feed_62 : decode cX13_feed 62 = .ok (.if_icmp .ge 8, 3) := by decide +kernel
theorem dX13_feed_65 : decode cX13_feed 65 = .ok (.iload 4, 2) := by decide +kernel
theorem dX13_feed_67 : decode cX13_feed 67 = .ok (.goto 5, 3) := by decide +kernel
theorem dX13_feed_7 : decode cX13_feed 7 = .ok (.sipush 12000, 3) := by decide +kernel
theorem dX13_feed_70 : decode cX13_feed 70 = .ok (.iload 5, 2) := by decide +kernel
theorem dX13_feed_72 : decode cX13_feed 72 = .ok (.istore 7, 2) := by decide +kernel
theorem dX13_feed_74 : decode cX13_feed 74 = .ok (.aload_n 0, 1) := by decide +kernel
theorem dX13_feed_75 : decode cX13_feed 75 = .ok (.getfield 7, 3) := by decide +kernel
theorem dX13_feed_78 : decode cX13_feed 78 = .ok (.aload_n 0, 1) := by decide +kernel
theorem dX13_feed_79 : decode cX13_feed 79 = .ok (.getfield 366, 3) := by decide +kernel
theorem dX13_feed_82 : decode cX13_feed 82 = .ok (.iload 7, 2) := by decide +kernel
theorem dX13_feed_84 : decode cX13_feed 84 = .ok (.bipush 8, 2) := by decide +kernel
theorem dX13_feed_86 : decode cX13_feed 86 = .ok (.iconst 3, 1) := by decide +kernel
theorem dX13_feed_87 : decode cX13_feed 87 = .ok (.iload 6, 2) := by decide +kernel
theorem dX13_feed_89 : decode cX13_feed 89 = .ok (.iconst 4, 1) := by decide +kernel
theorem dX13_feed_90 : decode cX13_feed 90 = .ok (.irem, 1) := by decide +kernel
theorem dX13_feed_91 : decode cX13_feed 91 = .ok (.isub, 1) := by decide +kernel
theorem dX13_feed_92 : decode cX13_feed 92 = .ok (.imul, 1) := by decide +kernel
theorem dX13_feed_93 : decode cX13_feed 93 = .ok (.ishr, 1) := by decide +kernel
theorem dX13_feed_94 : decode cX13_feed 94 = .ok (.sipush 255, 3) := by decide +kernel
theorem dX13_feed_97 : decode cX13_feed 97 = .ok (.iand, 1) := by decide +kernel
theorem dX13_feed_98 : decode cX13_feed 98 = .ok (.iastore, 1) := by decide +kernel
theorem dX13_feed_99 : decode cX13_feed 99 = .ok (.aload_n 0, 1) := by decide +kernel
noncomputable def k_X13_feed_72 (l1 : Int32) (l2 : Int32) (l3 : Int32) (l4 : Int32) (l5 : Int32) (l6 : Int32) (k0 : Int32) (s : t_S) : Option ((Int32 × Int32 × Int32 × Int32 × Int32 × Int32 × t_S) ⊕ (Int32 × t_S)) :=
 if t_ix (s.1 950 1) 12000 = true then
  t_let (t_setI s 951 ((s.1 950 1).toNatClampNeg) ((k0 >>> (((8 : Int32) * ((3 : Int32) - (l6 - l6 / (4 : Int32) * (4 : Int32)))) &&& 31)) &&& (255 : Int32))) (fun s1 =>
 t_let (t_setI s1 950 1 ((s1.1 950 1) + (1 : Int32))) (fun s2 =>
 some (.inl (l1, l2, l3, l4, l5, (l6 + 1), s2))))
else none
set_option maxRecDepth 4000 in
set_option maxHeartbeats 1000000 in
theorem B_X13_feed_72 {D : va_G} {cy : Nat → ClassId} {ad : Nat → Nat} {bs : Nat} {X : State → Heap → Prop} (l1 : Int32) (l2 : Int32) (l3 : Int32) (l4 : Int32) (l5 : Int32) (l6 : Int32) (k0 : Int32) (s : t_S) (Q : (Int32 × Int32 × Int32 × Int32 × Int32 × Int32 × t_S) ⊕ (Int32 × t_S) → Prop) (Hb19 : ∀ (y0 : Int32) (y1 : Int32) (y2 : Int32) (y3 : Int32) (y4 : Int32) (y5 : Int32) (y6 : t_S), Q (.inl (y0, y1, y2, y3, y4, y5, y6)) → mj_G D cy ad bs X cX13_feed 8 yX13_feed.cls (some .int) yX13_feed.name 0 0 0 1065 (t_P (fun v s' => ∃ x, v = some (.int x) ∧ Q (.inr ((x, s'))))) 19 [(0, .ref 950), (1, .int (y0)), (2, .int (y1)), (3, .int (y2)), (4, .int (y3)), (5, .int (y4)), (6, .int (y5))] [] (t_m y6) 1065 0 0) (hk : t_hk (k_X13_feed_72 l1 l2 l3 l4 l5 l6 k0 s) Q) : mj_G D cy ad bs X cX13_feed 8 yX13_feed.cls (some .int) yX13_feed.name 0 0 0 1065 (t_P (fun v s' => ∃ x, v = some (.int x) ∧ Q (.inr ((x, s'))))) 72 [(0, .ref 950), (1, .int l1), (2, .int l2), (3, .int l3), (4, .int l4), (5, .int l5), (6, .int l6)] [.int k0] (t_m s) 1065 0 0 := by
  refine mj_istore (lv2 := [(7, .int k0), (0, .ref 950), (1, .int l1), (2, .int l2), (3, .int l3), (4, .int l4), (5, .int l5), (6, .int l6)]) dX13_feed_72 (by decide) rfl ?_
  refine mj_aload_n dX13_feed_74 1 rfl ?_
  refine t_getR 951 dX13_feed_75 F_X13_7 qr_950_0 ?_
  refine mj_aload_n dX13_feed_78 1 rfl ?_
  refine t_getI dX13_feed_79 F_X13_366 qf_950_1 ?_
  refine mj_iload dX13_feed_82 0 rfl ?_
  refine mj_bipush (v := 8) dX13_feed_84 (by decide) ?_
  refine mj_iconst (v := 3) dX13_feed_86 (by decide) ?_
  refine mj_iload dX13_feed_87 7 rfl ?_
  refine mj_iconst (v := 4) dX13_feed_89 (by decide) ?_
  refine mj_irem dX13_feed_90 (by decide) ?_
  refine mj_isub dX13_feed_91 ?_
  refine mj_imul dX13_feed_92 ?_
  refine mj_ishr dX13_feed_93 ?_
  refine mj_sipush (v := 255) dX13_feed_94 (by decide) ?_
  refine mj_iand dX13_feed_97 ?_
  refine t_chkK hk (fun c0 hk => ?_)
  refine t_iastK dX13_feed_98 qa_951 (t_ixv c0) (fun s1 ws1 => t_letE hk ws1 (fun hk => ?_))
  refine mj_aload_n dX13_feed_99 1 rfl ?_
  refine mj_dup dX13_feed_100 rfl ?_
  refine t_getI dX13_feed_101 F_X13_366 qf_950_1 ?_
  refine mj_iconst (v := 1) dX13_feed_104 (by decide) ?_
  refine mj_iadd dX13_feed_105 ?_
  refine t_putIK dX13_feed_106 F_X13_366 qf_950_1 rfl (fun s2 ws2 => t_letE hk ws2 (fun hk => ?_))
  refine mj_iinc (k := 7) (v := (l6 + 1)) (lv2 := [(6, .int (l6 + 1)), (7, .int k0), (0, .ref 950), (1, .int l1), (2, .int l2), (3, .int l3), (4, .int l4), (5, .int l5)]) dX13_feed_109 rfl rfl (by decide) rfl ?_
  refine mj_goto 19 dX13_feed_112 (by decide) ?_
  refine mj_sublv [(0, .ref 950), (1, .int l1), (2, .int l2), (3, .int l3), (4, .int l4), (5, .int l5), (6, .int (l6 + 1))] [2, 3, 4, 5, 6, 7, 0] rfl ?_
  exact t_somK hk (fun hf => Hb19 l1 l2 l3 l4 l5 (l6 + 1) s2 hf)
noncomputable def k_X13_feed_19 (l1 : Int32) (l2 : Int32) (l3 : Int32) (l4 : Int32) (l5 : Int32) (l6 : Int32) (s : t_S) : Option ((Int32 × Int32 × Int32 × Int32 × Int32 × Int32 × t_S) ⊕ (Int32 × t_S)) :=
 if (20 : Int32) ≤ l6 then ((some ((s.1 950 1), s)).map Sum.inr)
 else (if (4 : Int32) ≤ l6 then (if (8 : Int32) ≤ l6 then (if (12 : Int32) ≤ l6 then (if (16 : Int32) ≤ l6 then (k_X13_feed_72 l1 l2 l3 l4 l5 l6 l5 s)
 else (k_X13_feed_72 l1 l2 l3 l4 l5 l6 l4 s))
 else (k_X13_feed_72 l1 l2 l3 l4 l5 l6 l3 s))
 else (k_X13_feed_72 l1 l2 l3 l4 l5 l6 l2 s))
 else (k_X13_feed_72 l1 l2 l3 l4 l5 l6 l1 s))
set_option maxRecDepth 4000 in
set_option maxHeartbeats 1000000 in
theorem B_X13_feed_19 {D : va_G} {cy : Nat → ClassId} {ad : Nat → Nat} {bs : Nat} {X : State → Heap → Prop} (l1 : Int32) (l2 : Int32) (l3 : Int32) (l4 : Int32) (l5 : Int32) (l6 : Int32) (s : t_S) (Q : (Int32 × Int32 × Int32 × Int32 × Int32 × Int32 × t_S) ⊕ (Int32 × t_S) → Prop) (Hb19 : ∀ (y0 : Int32) (y1 : Int32) (y2 : Int32) (y3 : Int32) (y4 : Int32) (y5 : Int32) (y6 : t_S), Q (.inl (y0, y1, y2, y3, y4, y5, y6)) → mj_G D cy ad bs X cX13_feed 8 yX13_feed.cls (some .int) yX13_feed.name 0 0 0 1065 (t_P (fun v s' => ∃ x, v = some (.int x) ∧ Q (.inr ((x, s'))))) 19 [(0, .ref 950), (1, .int (y0)), (2, .int (y1)), (3, .int (y2)), (4, .int (y3)), (5, .int (y4)), (6, .int (y5))] [] (t_m y6) 1065 0 0) (hk : t_hk (k_X13_feed_19 l1 l2 l3 l4 l5 l6 s) Q) : mj_G D cy ad bs X cX13_feed 8 yX13_feed.cls (some .int) yX13_feed.name 0 0 0 1065 (t_P (fun v s' => ∃ x, v = some (.int x) ∧ Q (.inr ((x, s'))))) 19 [(0, .ref 950), (1, .int l1), (2, .int l2), (3, .int l3), (4, .int l4), (5, .int l5), (6, .int l6)] [] (t_m s) 1065 0 0 := by
  refine mj_iload dX13_feed_19 6 rfl ?_
  refine mj_bipush (v := 20) dX13_feed_21 (by decide) ?_
  refine mj_icmp_ge 115 dX13_feed_23 (by decide) (fun z => t_posK hk z (fun hk => ?_)) (fun z => t_negK hk z (fun hk => ?_))
  · refine t_mapK hk (fun hk => ?_)
    refine mj_aload_n dX13_feed_115 0 rfl ?_
    refine t_getI dX13_feed_116 F_X13_366 qf_950_1 ?_
    exact t_somK hk (fun hf => t_iret dX13_feed_119 rfl rfl ⟨_, rfl, hf⟩ (Nat.le_of_ble_eq_true rfl) (Nat.le_of_ble_eq_true rfl))
  · refine mj_iload dX13_feed_26 6 rfl ?_
    refine mj_iconst (v := 4) dX13_feed_28 (by decide) ?_
    refine mj_icmp_ge 36 dX13_feed_29 (by decide) (fun z => t_posK hk z (fun hk => ?_)) (fun z => t_negK hk z (fun hk => ?_))
    · refine mj_iload dX13_feed_36 6 rfl ?_
      refine mj_bipush (v := 8) dX13_feed_38 (by decide) ?_
      refine mj_icmp_ge 47 dX13_feed_40 (by decide) (fun z => t_posK hk z (fun hk => ?_)) (fun z => t_negK hk z (fun hk => ?_))
      · refine mj_iload dX13_feed_47 6 rfl ?_
        refine mj_bipush (v := 12) dX13_feed_49 (by decide) ?_
        refine mj_icmp_ge 58 dX13_feed_51 (by decide) (fun z => t_posK hk z (fun hk => ?_)) (fun z => t_negK hk z (fun hk => ?_))
        · refine mj_iload dX13_feed_58 6 rfl ?_
          refine mj_bipush (v := 16) dX13_feed_60 (by decide) ?_
          refine mj_icmp_ge 70 dX13_feed_62 (by decide) (fun z => t_posK hk z (fun hk => ?_)) (fun z => t_negK hk z (fun hk => ?_))
          · refine mj_iload dX13_feed_70 5 rfl ?_
            exact B_X13_feed_72 _ _ _ _ _ _ _ _ _ (fun y0 y1 y2 y3 y4 y5 y6 hx => Hb19 y0 y1 y2 y3 y4 y5 y6 hx) hk
          · refine mj_iload dX13_feed_65 4 rfl ?_
            refine mj_goto 72 dX13_feed_67 (by decide) ?_
            exact B_X13_feed_72 _ _ _ _ _ _ _ _ _ (fun y0 y1 y2 y3 y4 y5 y6 hx => Hb19 y0 y1 y2 y3 y4 y5 y6 hx) hk
        · refine mj_iload_n dX13_feed_54 3 rfl ?_
          refine mj_goto 72 dX13_feed_55 (by decide) ?_
          exact B_X13_feed_72 _ _ _ _ _ _ _ _ _ (fun y0 y1 y2 y3 y4 y5 y6 hx => Hb19 y0 y1 y2 y3 y4 y5 y6 hx) hk
      · refine mj_iload_n dX13_feed_43 2 rfl ?_
        refine mj_goto 72 dX13_feed_44 (by decide) ?_
        exact B_X13_feed_72 _ _ _ _ _ _ _ _ _ (fun y0 y1 y2 y3 y4 y5 y6 hx => Hb19 y0 y1 y2 y3 y4 y5 y6 hx) hk
    · refine mj_iload_n dX13_feed_32 1 rfl ?_
      refine mj_goto 72 dX13_feed_33 (by decide) ?_
      exact B_X13_feed_72 _ _ _ _ _ _ _ _ _ (fun y0 y1 y2 y3 y4 y5 y6 hx => Hb19 y0 y1 y2 y3 y4 y5 y6 hx) hk
noncomputable def b_X13_feed_19 (x : Int32 × Int32 × Int32 × Int32 × Int32 × Int32 × t_S) : Option ((Int32 × Int32 × Int32 × Int32 × Int32 × Int32 × t_S) ⊕ (Int32 × t_S)) := k_X13_feed_19 x.1 x.2.1 x.2.2.1 x.2.2.2.1 x.2.2.2.2.1 x.2.2.2.2.2.1 x.2.2.2.2.2.2
set_option maxRecDepth 4000 in
set_option maxHeartbeats 1000000 in
theorem LH_X13_feed_19 {D : va_G} {cy : Nat → ClassId} {ad : Nat → Nat} {bs : Nat} {X : State → Heap → Prop} : ∀ (n : Nat) (y0 : Int32) (y1 : Int32) (y2 : Int32) (y3 : Int32) (y4 : Int32) (y5 : Int32) (y6 : t_S) (Q : Int32 × t_S → Prop) (hk : t_hk (t_loop (b_X13_feed_19) n (y0, y1, y2, y3, y4, y5, y6)) Q), mj_G D cy ad bs X cX13_feed 8 yX13_feed.cls (some .int) yX13_feed.name 0 0 0 1065 (t_P (fun v s' => ∃ x, v = some (.int x) ∧ Q ((x, s')))) 19 [(0, .ref 950), (1, .int (y0)), (2, .int (y1)), (3, .int (y2)), (4, .int (y3)), (5, .int (y4)), (6, .int (y5))] [] (t_m y6) 1065 0 0 := by
  intro n
  induction n with
  | zero => intro y0 y1 y2 y3 y4 y5 y6 Q hk; obtain ⟨r, hr, _⟩ := hk; cases hr
  | succ n ih =>
    intro y0 y1 y2 y3 y4 y5 y6 Q hk
    exact B_X13_feed_19 y0 y1 y2 y3 y4 y5 y6 (fun y => t_lq (b_X13_feed_19) n Q y) (fun y0' y1' y2' y3' y4' y5' y6' hy => ih y0' y1' y2' y3' y4' y5' y6' Q hy) (t_lp (b := b_X13_feed_19) (n := n) (x := (y0, y1, y2, y3, y4, y5, y6)) hk)
noncomputable def f_X13_feed (x1 : Int32) (x2 : Int32) (x3 : Int32) (x4 : Int32) (x5 : Int32) (s : t_S) : Option (Int32 × t_S) :=
 if ((s.1 950 1) + (20 : Int32)) ≤ (12000 : Int32) then (t_loop (b_X13_feed_19) t_N (x1, x2, x3, x4, x5, 0, s))
 else (some ((-3 : Int32), s))
set_option maxRecDepth 4000 in
set_option maxHeartbeats 1000000 in
theorem C_X13_feed (x1 : Int32) (x2 : Int32) (x3 : Int32) (x4 : Int32) (x5 : Int32) (s : t_S) (r : Int32 × t_S) (hr : f_X13_feed x1 x2 x3 x4 x5 s = some r) : t_C yX13_feed cX13_feed 8 (some .int) 0 [.ref 950, .int x1, .int x2, .int x3, .int x4, .int x5] s (fun v s' => v = some (.int r.1) ∧ s' = r.2) := by
  refine t_C.imp (P := fun v s' => ∃ x, v = some (.int x) ∧ (fun q => q = r) ((x, s'))) (t_C.of (by decide +kernel) (Nat.le_of_ble_eq_true rfl) ?_) (fun v s' hp => by obtain ⟨x, rfl, rfl⟩ := hp; exact ⟨rfl, rfl⟩)
  intro D cy ad bs X
  have hk : t_hk (f_X13_feed x1 x2 x3 x4 x5 s) (fun q => q = r) := ⟨r, hr, rfl⟩
  show mj_G D cy ad bs X cX13_feed 8 yX13_feed.cls (some .int) yX13_feed.name 0 0 0 1065 (t_P (fun v s' => ∃ x, v = some (.int x) ∧ (fun q => q = r) ((x, s')))) 0 [(0, .ref 950), (1, .int x1), (2, .int x2), (3, .int x3), (4, .int x4), (5, .int x5)] [] (t_m s) 1065 0 0
  refine mj_aload_n dX13_feed_0 0 rfl ?_
  refine t_getI dX13_feed_1 F_X13_366 qf_950_1 ?_
  refine mj_bipush (v := 20) dX13_feed_4 (by decide) ?_
  refine mj_iadd dX13_feed_6 ?_
  refine mj_sipush (v := 12000) dX13_feed_7 (by decide) ?_
  refine mj_icmp_le 16 dX13_feed_10 (by decide) (fun z => t_posK hk z (fun hk => ?_)) (fun z => t_negK hk z (fun hk => ?_))
  · refine mj_iconst (v := 0) dX13_feed_16 (by decide) ?_
    refine mj_istore (lv2 := [(6, .int 0), (0, .ref 950), (1, .int x1), (2, .int x2), (3, .int x3), (4, .int x4), (5, .int x5)]) dX13_feed_17 (by decide) rfl ?_
    refine mj_sublv [(0, .ref 950), (1, .int x1), (2, .int x2), (3, .int x3), (4, .int x4), (5, .int x5), (6, .int 0)] [1, 2, 3, 4, 5, 6, 0] rfl ?_
    exact LH_X13_feed_19 _ x1 x2 x3 x4 x5 0 s _ hk
  · refine mj_bipush (v := (-3)) dX13_feed_13 (by decide) ?_
    exact t_somK hk (fun hf => t_iret dX13_feed_15 rfl rfl ⟨_, rfl, hf⟩ (Nat.le_of_ble_eq_true rfl) (Nat.le_of_ble_eq_true rfl))

theorem dX13_ranges_0 : decode cX13_ranges 0 = .ok (.iconst 1, 1) := by decide +kernel
theorem dX13_ranges_1 : decode cX13_ranges 1 = .ok (.istore_n 2, 1) := by decide +kernel
theorem dX13_ranges_101 : decode cX13_ranges 101 = .ok (.invokevirtual 449, 3) := by decide +kernel
theorem dX13_ranges_104 : decode cX13_ranges 104 = .ok (.ifCond .eq 25, 3) := by decide +kernel
theorem dX13_ranges_107 : decode cX13_ranges 107 = .ok (.aload_n 0, 1) := by decide +kernel
theorem dX13_ranges_108 : decode cX13_ranges 108 = .ok (.invokevirtual 452, 3) := by decide +kernel
theorem dX13_ranges_111 : decode cX13_ranges 111 = .ok (.aload_n 0, 1) := by decide +kernel
theorem dX13_ranges_112 : decode cX13_ranges 112 = .ok (.getfield 36, 3) := by decide +kernel
theorem dX13_ranges_115 : decode cX13_ranges 115 = .ok (.iload 4, 2) := by decide +kernel
theorem dX13_ranges_117 : decode cX13_ranges 117 = .ok (.aload_n 0, 1) := by decide +kernel
theorem dX13_ranges_118 : decode cX13_ranges 118 = .ok (.aload_n 0, 1) := by decide +kernel
theorem dX13_ranges_119 : decode cX13_ranges 119 = .ok (.getfield 32, 3) := by decide +kernel
theorem dX13_ranges_12 : decode cX13_ranges 12 = .ok (.ifCond .ne 137, 3) := by decide +kernel
theorem dX13_ranges_122 : decode cX13_ranges 122 = .ok (.iload 4, 2) := by decide +kernel
theorem dX13_ranges_124 : decode cX13_ranges 124 = .ok (.laload, 1) := by decide +kernel
theorem dX13_ranges_125 : decode cX13_ranges 125 = .ok (.invokevirtual 524, 3) := by decide +kernel
theorem dX13_ranges_128 : decode cX13_ranges 128 = .ok (.lastore, 1) := by decide +kernel
theorem dX13_ranges_129 : decode cX13_ranges 129 = .ok (.aload_n 0, 1) := by decide +kernel
theorem dX13_ranges_130 : decode cX13_ranges 130 = .ok (.iload_n 1, 1) := by decide +kernel
theorem dX13_ranges_131 : decode cX13_ranges 131 = .ok (.iload 4, 2) := by decide +kernel
theorem dX13_ranges_133 : decode cX13_ranges 133 = .ok (.invokevirtual 507, 3) := by decide +kernel
theorem dX13_ranges_136 : decode cX13_ranges 136 = .ok (.iinc 3 1, 3) := by decide +kernel
theorem dX13_ranges_139 : decode cX13_ranges 139 = .ok (.aload_n 0, 1) := by decide +kernel
theorem dX13_ranges_140 : decode cX13_ranges 140 = .ok (.bipush 44, 2) := by decide +kernel
theorem dX13_ranges_142 : decode cX13_ranges 142 = .ok (.invokevirtual 449, 3) := by decide +kernel
theorem dX13_ranges_145 : decode cX13_ranges 145 = .ok (.istore_n 2, 1) := by decide +kernel
theorem dX13_ranges_146 : decode cX13_ranges 146 = .ok (.goto (-142), 3) := by decide +kernel
theorem dX13_ranges_149 : decode cX13_ranges 149 = .ok (.aload_n 0, 1) := by decide +kernel
theorem dX13_ranges_15 : decode cX13_ranges 15 = .ok (.aload_n 0, 1) := by decide +kernel
theorem dX13_ranges_150 : decode cX13_ranges 150 = .ok (.bipush 41, 2) := by decide +kernel
theorem dX13_ranges_152 : decode cX13_ranges 152 = .ok (.invokevirtual 528, 3) := by decide +kernel
theorem dX13_ranges_155 : decode cX13_ranges 155 = .ok (.return_, 1) := by decide +kernel
theorem dX13_ranges_16 : decode cX13_ranges 16 = .ok (.invokevirtual 452, 3) := by decide +kernel
theorem dX13_ranges_19 : decode cX13_ranges 19 = .ok (.aload_n 0, 1) := by decide +kernel
theorem dX13_ranges_2 : decode cX13_ranges 2 = .ok (.iconst 0, 1) := by decide +kernel
theorem dX13_ranges_20 : decode cX13_ranges 20 = .ok (.bipush 45, 2) := by decide +kernel
theorem dX13_ranges_22 : decode cX13_ranges 22 = .ok (.invokevirtual 449, 3) := by decide +kernel
theorem dX13_ranges_25 : decode cX13_ranges 25 = .ok (.ifCond .ne 20, 3) := by decide +kernel
theorem dX13_ranges_28 : decode cX13_ranges 28 = .ok (.aload_n 0, 1) := by decide +kernel
theorem dX13_ranges_29 : decode cX13_ranges 29 = .ok (.getfield 385, 3) := by decide +kernel
theorem dX13_ranges_3 : decode cX13_ranges 3 = .ok (.istore_n 3, 1) := by decide +kernel
theorem dX13_ranges_32 : decode cX13_ranges 32 = .ok (.iconst 2, 1) := by decide +kernel
theorem dX13_ranges_33 : decode cX13_ranges 33 = .ok (.if_icmp .eq 12, 3) := by decide +kernel
theorem dX13_ranges_36 : decode cX13_ranges 36 = .ok (.aload_n 0, 1) := by decide +kernel
theorem dX13_ranges_37 : decode cX13_ranges 37 = .ok (.iconst 2, 1) := by decide +kernel
theorem dX13_ranges_38 : decode cX13_ranges 38 = .ok (.aload_n 0, 1) := by decide +kernel
theorem dX13_ranges_39 : decode cX13_ranges 39 = .ok (.getfield 391, 3) := by decide +kernel
theorem dX13_ranges_4 : decode cX13_ranges 4 = .ok (.iload_n 2, 1) := by decide +kernel
theorem dX13_ranges_42 : decode cX13_ranges 42 = .ok (.invokevirtual 411, 3) := by decide +kernel
theorem dX13_ranges_45 : decode cX13_ranges 45 = .ok (.iload_n 3, 1) := by decide +kernel
theorem dX13_ranges_46 : decode cX13_ranges 46 = .ok (.bipush 6, 2) := by decide +kernel
theorem dX13_ranges_48 : decode cX13_ranges 48 = .ok (.if_icmp .ne 12, 3) := by decide +kernel
theorem dX13_ranges_5 : decode cX13_ranges 5 = .ok (.ifCond .eq 144, 3) := by decide +kernel
theorem dX13_ranges_51 : decode cX13_ranges 51 = .ok (.aload_n 0, 1) := by decide +kernel
theorem dX13_ranges_52 : decode cX13_ranges 52 = .ok (.iconst 5, 1) := by decide +kernel
theorem dX13_ranges_53 : decode cX13_ranges 53 = .ok (.aload_n 0, 1) := by decide +kernel
theorem dX13_ranges_54 : decode cX13_ranges 54 = .ok (.getfield 391, 3) := by decide +kernel
theorem dX13_ranges_57 : decode cX13_ranges 57 = .ok (.invokevirtual 411, 3) := by decide +kernel
theorem dX13_ranges_60 : decode cX13_ranges 60 = .ok (.aload_n 0, 1) := by decide +kernel
theorem dX13_ranges_61 : decode cX13_ranges 61 = .ok (.bipush 9, 2) := by decide +kernel
theorem dX13_ranges_63 : decode cX13_ranges 63 = .ok (.iconst 1, 1) := by decide +kernel
theorem dX13_ranges_64 : decode cX13_ranges 64 = .ok (.invokevirtual 510, 3) := by decide +kernel
theorem dX13_ranges_67 : decode cX13_ranges 67 = .ok (.istore 4, 2) := by decide +kernel
theorem dX13_ranges_69 : decode cX13_ranges 69 = .ok (.aload_n 0, 1) := by decide +kernel
theorem dX13_ranges_70 : decode cX13_ranges 70 = .ok (.getfield 32, 3) := by decide +kernel
theorem dX13_ranges_73 : decode cX13_ranges 73 = .ok (.iload 4, 2) := by decide +kernel
theorem dX13_ranges_75 : decode cX13_ranges 75 = .ok (.aload_n 0, 1) := by decide +kernel
theorem dX13_ranges_76 : decode cX13_ranges 76 = .ok (.ldc2_w 522, 3) := by decide +kernel
theorem dX13_ranges_79 : decode cX13_ranges 79 = .ok (.invokevirtual 524, 3) := by decide +kernel
theorem dX13_ranges_8 : decode cX13_ranges 8 = .ok (.aload_n 0, 1) := by decide +kernel
theorem dX13_ranges_82 : decode cX13_ranges 82 = .ok (.lastore, 1) := by decide +kernel
theorem dX13_ranges_83 : decode cX13_ranges 83 = .ok (.aload_n 0, 1) := by decide +kernel
theorem dX13_ranges_84 : decode cX13_ranges 84 = .ok (.getfield 36, 3) := by decide +kernel
theorem dX13_ranges_87 : decode cX13_ranges 87 = .ok (.iload 4, 2) := by decide +kernel
theorem dX13_ranges_89 : decode cX13_ranges 89 = .ok (.aload_n 0, 1) := by decide +kernel
theorem dX13_ranges_9 : decode cX13_ranges 9 = .ok (.getfield 375, 3) := by decide +kernel
theorem dX13_ranges_90 : decode cX13_ranges 90 = .ok (.getfield 32, 3) := by decide +kernel
theorem dX13_ranges_93 : decode cX13_ranges 93 = .ok (.iload 4, 2) := by decide +kernel
theorem dX13_ranges_95 : decode cX13_ranges 95 = .ok (.laload, 1) := by decide +kernel
theorem dX13_ranges_96 : decode cX13_ranges 96 = .ok (.lastore, 1) := by decide +kernel
theorem dX13_ranges_97 : decode cX13_ranges 97 = .ok (.aload_n 0, 1) := by decide +kernel
theorem dX13_ranges_98 : decode cX13_ranges 98 = .ok (.sipush 11822, 3) := by decide +kernel
noncomputable def k_X13_ranges_129 (l1 : Int32) (l3 : Int32) (l4 : Int32) (s : t_S) : Option ((Int32 × Int32 × Int32 × t_S) ⊕ (t_S)) :=
 (f_X13_hang l1 l4 s).bind (fun r1 =>
 some (.inl (l1, (f_X13_is (44 : Int32) r1), (l3 + 1), r1)))
set_option maxRecDepth 4000 in
set_option maxHeartbeats 1000000 in
theorem B_X13_ranges_129 {D : va_G} {cy : Nat → ClassId} {ad : Nat → Nat} {bs : Nat} {X : State → Heap → Prop} (l1 : Int32) (l3 : Int32) (l4 : Int32) (s : t_S) (Q : (Int32 × Int32 × Int32 × t_S) ⊕ (t_S) → Prop) (Hb4 : ∀ (y0 : Int32) (y1 : Int32) (y2 : Int32) (y3 : t_S), Q (.inl (y0, y1, y2, y3)) → mj_G D cy ad bs X cX13_ranges 5 yX13_ranges.cls none yX13_ranges.name 7 0 0 1065 (t_P (fun v s' => v = none ∧ Q (.inr (s')))) 4 [(0, .ref 950), (1, .int (y0)), (2, .int (y1)), (3, .int (y2))] [] (t_m y3) 1065 0 0) (hk : t_hk (k_X13_ranges_129 l1 l3 l4 s) Q) : mj_G D cy ad bs X cX13_ranges 5 yX13_ranges.cls none yX13_ranges.name 7 0 0 1065 (t_P (fun v s' => v = none ∧ Q (.inr (s')))) 129 [(0, .ref 950), (1, .int l1), (3, .int l3), (4, .int l4)] [] (t_m s) 1065 0 0 := by
  refine mj_aload_n dX13_ranges_129 0 rfl ?_
  refine mj_iload_n dX13_ranges_130 1 rfl ?_
  refine mj_iload dX13_ranges_131 3 rfl ?_
  refine t_bndK hk (fun r1 er1 hk => ?_)
  refine t_callVvE dX13_ranges_133 M_X13_hang (C_X13_hang _ _ _ _ er1) ML_X13_507 IM_X13_hang SE_X13_hang qc_950 rfl (As := [.int l1, .int l4]) rfl rfl (Nat.le_of_ble_eq_true rfl) (Nat.le_of_ble_eq_true rfl) (Nat.le_of_ble_eq_true rfl) (Nat.le_of_ble_eq_true rfl) ?_
  refine mj_iinc (k := 2) (v := (l3 + 1)) (lv2 := [(3, .int (l3 + 1)), (0, .ref 950), (1, .int l1), (4, .int l4)]) dX13_ranges_136 rfl rfl (by decide) rfl ?_
  refine mj_aload_n dX13_ranges_139 1 rfl ?_
  refine mj_bipush (v := 44) dX13_ranges_140 (by decide) ?_
  refine t_callViP dX13_ranges_142 M_X13_is (C_X13_is _ _) ML_X13_449 IM_X13_is SE_X13_is qc_950 rfl (As := [.int 44]) rfl rfl (Nat.le_of_ble_eq_true rfl) (Nat.le_of_ble_eq_true rfl) (Nat.le_of_ble_eq_true rfl) (Nat.le_of_ble_eq_true rfl) ?_
  refine mj_istore_n 2 (lv2 := [(2, .int (f_X13_is (44 : Int32) r1)), (3, .int (l3 + 1)), (0, .ref 950), (1, .int l1), (4, .int l4)]) dX13_ranges_145 rfl (by decide) rfl ?_
  refine mj_goto 4 dX13_ranges_146 (by decide) ?_
  refine mj_sublv [(0, .ref 950), (1, .int l1), (2, .int (f_X13_is (44 : Int32) r1)), (3, .int (l3 + 1))] [2, 3, 0, 1] rfl ?_
  exact t_somK hk (fun hf => Hb4 l1 (f_X13_is (44 : Int32) r1) (l3 + 1) r1 hf)
noncomputable def k_X13_ranges_60 (l1 : Int32) (l3 : Int32) (s : t_S) : Option ((Int32 × Int32 × Int32 × t_S) ⊕ (t_S)) :=
 (f_X13_node (9 : Int32) (1 : Int32) s).bind (fun r1 =>
 (f_X13_num (-1000000000000000 : Int64) r1.2).bind (fun r2 =>
 if t_ix r1.1 13000 = true then
  t_let (t_setJ r2.2 957 (r1.1.toNatClampNeg) r2.1) (fun s1 =>
 t_let (t_setJ s1 958 (r1.1.toNatClampNeg) (s1.2.1 957 (r1.1.toNatClampNeg))) (fun s2 =>
 if (f_X13_is (11822 : Int32) s2) = (0 : Int32) then (k_X13_ranges_129 l1 l3 r1.1 s2)
 else ((f_X13_next s2).bind (fun r5 =>
 (f_X13_num (r5.2.1 957 (r1.1.toNatClampNeg)) r5).bind (fun r6 =>
 t_let (t_setJ r6.2 958 (r1.1.toNatClampNeg) r6.1) (fun s3 =>
 k_X13_ranges_129 l1 l3 r1.1 s3))))))
else none))
set_option maxRecDepth 4000 in
set_option maxHeartbeats 1000000 in
theorem B_X13_ranges_60 {D : va_G} {cy : Nat → ClassId} {ad : Nat → Nat} {bs : Nat} {X : State → Heap → Prop} (l1 : Int32) (l3 : Int32) (s : t_S) (Q : (Int32 × Int32 × Int32 × t_S) ⊕ (t_S) → Prop) (Hb4 : ∀ (y0 : Int32) (y1 : Int32) (y2 : Int32) (y3 : t_S), Q (.inl (y0, y1, y2, y3)) → mj_G D cy ad bs X cX13_ranges 5 yX13_ranges.cls none yX13_ranges.name 7 0 0 1065 (t_P (fun v s' => v = none ∧ Q (.inr (s')))) 4 [(0, .ref 950), (1, .int (y0)), (2, .int (y1)), (3, .int (y2))] [] (t_m y3) 1065 0 0) (hk : t_hk (k_X13_ranges_60 l1 l3 s) Q) : mj_G D cy ad bs X cX13_ranges 5 yX13_ranges.cls none yX13_ranges.name 7 0 0 1065 (t_P (fun v s' => v = none ∧ Q (.inr (s')))) 60 [(0, .ref 950), (1, .int l1), (3, .int l3)] [] (t_m s) 1065 0 0 := by
  refine mj_aload_n dX13_ranges_60 0 rfl ?_
  refine mj_bipush (v := 9) dX13_ranges_61 (by decide) ?_
  refine mj_iconst (v := 1) dX13_ranges_63 (by decide) ?_
  refine t_bndK hk (fun r1 er1 hk => ?_)
  refine t_callViE dX13_ranges_64 M_X13_node (C_X13_node _ _ _ _ er1) ML_X13_510 IM_X13_node SE_X13_node qc_950 rfl (As := [.int 9, .int 1]) rfl rfl (Nat.le_of_ble_eq_true rfl) (Nat.le_of_ble_eq_true rfl) (Nat.le_of_ble_eq_true rfl) (Nat.le_of_ble_eq_true rfl) ?_
  refine mj_istore (lv2 := [(4, .int r1.1), (0, .ref 950), (1, .int l1), (3, .int l3)]) dX13_ranges_67 (by decide) rfl ?_
  refine mj_aload_n dX13_ranges_69 1 rfl ?_
  refine t_getR 957 dX13_ranges_70 F_X13_32 qr_950_19 ?_
  refine mj_iload dX13_ranges_73 0 rfl ?_
  refine mj_aload_n dX13_ranges_75 1 rfl ?_
  refine mj_ldc2 dX13_ranges_76 K_X13_522 ?_
  refine t_bndK hk (fun r2 er2 hk => ?_)
  refine t_callVlE dX13_ranges_79 M_X13_num (C_X13_num _ _ _ er2) ML_X13_524 IM_X13_num SE_X13_num qc_950 rfl (As := [.long (-1000000000000000)]) rfl rfl (Nat.le_of_ble_eq_true rfl) (Nat.le_of_ble_eq_true rfl) (Nat.le_of_ble_eq_true rfl) (Nat.le_of_ble_eq_true rfl) ?_
  refine t_chkK hk (fun c2 hk => ?_)
  refine t_lastK dX13_ranges_82 qa_957 (t_ixv c2) (fun s1 ws1 => t_letE hk ws1 (fun hk => ?_))
  refine mj_aload_n dX13_ranges_83 1 rfl ?_
  refine t_getR 958 dX13_ranges_84 F_X13_36 qr_950_20 ?_
  refine mj_iload dX13_ranges_87 0 rfl ?_
  refine mj_aload_n dX13_ranges_89 1 rfl ?_
  refine t_getR 957 dX13_ranges_90 F_X13_32 qr_950_19 ?_
  refine mj_iload dX13_ranges_93 0 rfl ?_
  refine t_lald dX13_ranges_95 qa_957 (t_ixv c2) ?_
  refine t_lastK dX13_ranges_96 qa_958 (t_ixv c2) (fun s2 ws2 => t_letE hk ws2 (fun hk => ?_))
  refine mj_aload_n dX13_ranges_97 1 rfl ?_
  refine mj_sipush (v := 11822) dX13_ranges_98 (by decide) ?_
  refine t_callViP dX13_ranges_101 M_X13_is (C_X13_is _ _) ML_X13_449 IM_X13_is SE_X13_is qc_950 rfl (As := [.int 11822]) rfl rfl (Nat.le_of_ble_eq_true rfl) (Nat.le_of_ble_eq_true rfl) (Nat.le_of_ble_eq_true rfl) (Nat.le_of_ble_eq_true rfl) ?_
  refine mj_if_eq 129 dX13_ranges_104 (by decide) (fun z => t_posK hk z (fun hk => ?_)) (fun z => t_negK hk z (fun hk => ?_))
  · refine mj_sublv [(0, .ref 950), (1, .int l1), (3, .int l3), (4, .int r1.1)] [1, 2, 3, 0] rfl ?_
    exact B_X13_ranges_129 _ _ _ _ _ (fun y0 y1 y2 y3 hx => Hb4 y0 y1 y2 y3 hx) hk
  · refine mj_aload_n dX13_ranges_107 1 rfl ?_
    refine t_bndK hk (fun r5 er5 hk => ?_)
    refine t_callVvE dX13_ranges_108 M_X13_next (C_X13_next _ _ er5) ML_X13_452 IM_X13_next SE_X13_next qc_950 rfl (As := []) rfl rfl (Nat.le_of_ble_eq_true rfl) (Nat.le_of_ble_eq_true rfl) (Nat.le_of_ble_eq_true rfl) (Nat.le_of_ble_eq_true rfl) ?_
    refine mj_aload_n dX13_ranges_111 1 rfl ?_
    refine t_getR 958 dX13_ranges_112 F_X13_36 qr_950_20 ?_
    refine mj_iload dX13_ranges_115 0 rfl ?_
    refine mj_aload_n dX13_ranges_117 1 rfl ?_
    refine mj_aload_n dX13_ranges_118 1 rfl ?_
    refine t_getR 957 dX13_ranges_119 F_X13_32 qr_950_19 ?_
    refine mj_iload dX13_ranges_122 0 rfl ?_
    refine t_lald dX13_ranges_124 qa_957 (t_ixv c2) ?_
    refine t_bndK hk (fun r6 er6 hk => ?_)
    refine t_callVlE dX13_ranges_125 M_X13_num (C_X13_num _ _ _ er6) ML_X13_524 IM_X13_num SE_X13_num qc_950 rfl (As := [.long (r5.2.1 957 (r1.1.toNatClampNeg))]) rfl rfl (Nat.le_of_ble_eq_true rfl) (Nat.le_of_ble_eq_true rfl) (Nat.le_of_ble_eq_true rfl) (Nat.le_of_ble_eq_true rfl) ?_
    refine t_lastK dX13_ranges_128 qa_958 (t_ixv c2) (fun s3 ws3 => t_letE hk ws3 (fun hk => ?_))
    refine mj_sublv [(0, .ref 950), (1, .int l1), (3, .int l3), (4, .int r1.1)] [1, 2, 3, 0] rfl ?_
    exact B_X13_ranges_129 _ _ _ _ _ (fun y0 y1 y2 y3 hx => Hb4 y0 y1 y2 y3 hx) hk
noncomputable def k_X13_ranges_45 (l1 : Int32) (l3 : Int32) (s : t_S) : Option ((Int32 × Int32 × Int32 × t_S) ⊕ (t_S)) :=
 if l3 = (6 : Int32) then ((f_X13_fail (5 : Int32) (s.1 950 6) s).bind (fun r1 =>
 k_X13_ranges_60 l1 l3 r1))
 else (k_X13_ranges_60 l1 l3 s)
set_option maxRecDepth 4000 in
set_option maxHeartbeats 1000000 in
theorem B_X13_ranges_45 {D : va_G} {cy : Nat → ClassId} {ad : Nat → Nat} {bs : Nat} {X : State → Heap → Prop} (l1 : Int32) (l3 : Int32) (s : t_S) (Q : (Int32 × Int32 × Int32 × t_S) ⊕ (t_S) → Prop) (Hb4 : ∀ (y0 : Int32) (y1 : Int32) (y2 : Int32) (y3 : t_S), Q (.inl (y0, y1, y2, y3)) → mj_G D cy ad bs X cX13_ranges 5 yX13_ranges.cls none yX13_ranges.name 7 0 0 1065 (t_P (fun v s' => v = none ∧ Q (.inr (s')))) 4 [(0, .ref 950), (1, .int (y0)), (2, .int (y1)), (3, .int (y2))] [] (t_m y3) 1065 0 0) (hk : t_hk (k_X13_ranges_45 l1 l3 s) Q) : mj_G D cy ad bs X cX13_ranges 5 yX13_ranges.cls none yX13_ranges.name 7 0 0 1065 (t_P (fun v s' => v = none ∧ Q (.inr (s')))) 45 [(0, .ref 950), (1, .int l1), (3, .int l3)] [] (t_m s) 1065 0 0 := by
  refine mj_iload_n dX13_ranges_45 2 rfl ?_
  refine mj_bipush (v := 6) dX13_ranges_46 (by decide) ?_
  refine mj_icmp_ne 60 dX13_ranges_48 (by decide) (fun z => t_negK hk z (fun hk => ?_)) (fun z => t_posK hk z (fun hk => ?_))
  · exact B_X13_ranges_60 _ _ _ _ (fun y0 y1 y2 y3 hx => Hb4 y0 y1 y2 y3 hx) hk
  · refine mj_aload_n dX13_ranges_51 0 rfl ?_
    refine mj_iconst (v := 5) dX13_ranges_52 (by decide) ?_
    refine mj_aload_n dX13_ranges_53 0 rfl ?_
    refine t_getI dX13_ranges_54 F_X13_391 qf_950_6 ?_
    refine t_bndK hk (fun r1 er1 hk => ?_)
    refine t_callVvE dX13_ranges_57 M_X13_fail (C_X13_fail _ _ _ _ er1) ML_X13_411 IM_X13_fail SE_X13_fail qc_950 rfl (As := [.int 5, .int (s.1 950 6)]) rfl rfl (Nat.le_of_ble_eq_true rfl) (Nat.le_of_ble_eq_true rfl) (Nat.le_of_ble_eq_true rfl) (Nat.le_of_ble_eq_true rfl) ?_
    exact B_X13_ranges_60 _ _ _ _ (fun y0 y1 y2 y3 hx => Hb4 y0 y1 y2 y3 hx) hk
noncomputable def k_X13_ranges_149 (s : t_S) : Option (t_S) :=
 (f_X13_mustBe (41 : Int32) s).bind (fun r1 =>
 some (r1))
set_option maxRecDepth 4000 in
set_option maxHeartbeats 1000000 in
theorem B_X13_ranges_149 {D : va_G} {cy : Nat → ClassId} {ad : Nat → Nat} {bs : Nat} {X : State → Heap → Prop} (s : t_S) (Q : t_S → Prop) (hk : t_hk (k_X13_ranges_149 s) Q) : mj_G D cy ad bs X cX13_ranges 5 yX13_ranges.cls none yX13_ranges.name 7 0 0 1065 (t_P (fun v s' => v = none ∧ Q (s'))) 149 [(0, .ref 950)] [] (t_m s) 1065 0 0 := by
  refine mj_aload_n dX13_ranges_149 0 rfl ?_
  refine mj_bipush (v := 41) dX13_ranges_150 (by decide) ?_
  refine t_bndK hk (fun r1 er1 hk => ?_)
  refine t_callVvE dX13_ranges_152 M_X13_mustBe (C_X13_mustBe _ _ _ er1) ML_X13_528 IM_X13_mustBe SE_X13_mustBe qc_950 rfl (As := [.int 41]) rfl rfl (Nat.le_of_ble_eq_true rfl) (Nat.le_of_ble_eq_true rfl) (Nat.le_of_ble_eq_true rfl) (Nat.le_of_ble_eq_true rfl) ?_
  exact t_somK hk (fun hf => t_vret dX13_ranges_155 rfl ⟨rfl, hf⟩ (Nat.le_of_ble_eq_true rfl) (Nat.le_of_ble_eq_true rfl))
noncomputable def k_X13_ranges_4 (l1 : Int32) (l2 : Int32) (l3 : Int32) (s : t_S) : Option ((Int32 × Int32 × Int32 × t_S) ⊕ (t_S)) :=
 if l2 = (0 : Int32) then ((k_X13_ranges_149 s).map Sum.inr)
 else (if (s.1 950 2) = (0 : Int32) then ((f_X13_next s).bind (fun r1 =>
 if (f_X13_is (45 : Int32) r1) = (0 : Int32) then (if (r1.1 950 5) = (2 : Int32) then (k_X13_ranges_45 l1 l3 r1)
 else ((f_X13_fail (2 : Int32) (r1.1 950 6) r1).bind (fun r3 =>
 k_X13_ranges_45 l1 l3 r3)))
 else (k_X13_ranges_45 l1 l3 r1)))
 else ((k_X13_ranges_149 s).map Sum.inr))
set_option maxRecDepth 4000 in
set_option maxHeartbeats 1000000 in
theorem B_X13_ranges_4 {D : va_G} {cy : Nat → ClassId} {ad : Nat → Nat} {bs : Nat} {X : State → Heap → Prop} (l1 : Int32) (l2 : Int32) (l3 : Int32) (s : t_S) (Q : (Int32 × Int32 × Int32 × t_S) ⊕ (t_S) → Prop) (Hb4 : ∀ (y0 : Int32) (y1 : Int32) (y2 : Int32) (y3 : t_S), Q (.inl (y0, y1, y2, y3)) → mj_G D cy ad bs X cX13_ranges 5 yX13_ranges.cls none yX13_ranges.name 7 0 0 1065 (t_P (fun v s' => v = none ∧ Q (.inr (s')))) 4 [(0, .ref 950), (1, .int (y0)), (2, .int (y1)), (3, .int (y2))] [] (t_m y3) 1065 0 0) (hk : t_hk (k_X13_ranges_4 l1 l2 l3 s) Q) : mj_G D cy ad bs X cX13_ranges 5 yX13_ranges.cls none yX13_ranges.name 7 0 0 1065 (t_P (fun v s' => v = none ∧ Q (.inr (s')))) 4 [(0, .ref 950), (1, .int l1), (2, .int l2), (3, .int l3)] [] (t_m s) 1065 0 0 := by
  refine mj_iload_n dX13_ranges_4 2 rfl ?_
  refine mj_if_eq 149 dX13_ranges_5 (by decide) (fun z => t_posK hk z (fun hk => ?_)) (fun z => t_negK hk z (fun hk => ?_))
  · refine mj_sublv [(0, .ref 950)] [0] rfl ?_
    refine t_mapK hk (fun hk => ?_)
    exact B_X13_ranges_149 _ _ hk
  · refine mj_aload_n dX13_ranges_8 0 rfl ?_
    refine t_getI dX13_ranges_9 F_X13_375 qf_950_2 ?_
    refine mj_if_ne 149 dX13_ranges_12 (by decide) (fun z => t_negK hk z (fun hk => ?_)) (fun z => t_posK hk z (fun hk => ?_))
    · refine mj_sublv [(0, .ref 950)] [0] rfl ?_
      refine t_mapK hk (fun hk => ?_)
      exact B_X13_ranges_149 _ _ hk
    · refine mj_aload_n dX13_ranges_15 0 rfl ?_
      refine t_bndK hk (fun r1 er1 hk => ?_)
      refine t_callVvE dX13_ranges_16 M_X13_next (C_X13_next _ _ er1) ML_X13_452 IM_X13_next SE_X13_next qc_950 rfl (As := []) rfl rfl (Nat.le_of_ble_eq_true rfl) (Nat.le_of_ble_eq_true rfl) (Nat.le_of_ble_eq_true rfl) (Nat.le_of_ble_eq_true rfl) ?_
      refine mj_aload_n dX13_ranges_19 0 rfl ?_
      refine mj_bipush (v := 45) dX13_ranges_20 (by decide) ?_
      refine t_callViP dX13_ranges_22 M_X13_is (C_X13_is _ _) ML_X13_449 IM_X13_is SE_X13_is qc_950 rfl (As := [.int 45]) rfl rfl (Nat.le_of_ble_eq_true rfl) (Nat.le_of_ble_eq_true rfl) (Nat.le_of_ble_eq_true rfl) (Nat.le_of_ble_eq_true rfl) ?_
      refine mj_if_ne 45 dX13_ranges_25 (by decide) (fun z => t_negK hk z (fun hk => ?_)) (fun z => t_posK hk z (fun hk => ?_))
      · refine mj_sublv [(0, .ref 950), (1, .int l1), (3, .int l3)] [0, 1, 3] rfl ?_
        exact B_X13_ranges_45 _ _ _ _ (fun y0 y1 y2 y3 hx => Hb4 y0 y1 y2 y3 hx) hk
      · refine mj_aload_n dX13_ranges_28 0 rfl ?_
        refine t_getI dX13_ranges_29 F_X13_385 qf_950_5 ?_
        refine mj_iconst (v := 2) dX13_ranges_32 (by decide) ?_
        refine mj_icmp_eq 45 dX13_ranges_33 (by decide) (fun z => t_posK hk z (fun hk => ?_)) (fun z => t_negK hk z (fun hk => ?_))
        · refine mj_sublv [(0, .ref 950), (1, .int l1), (3, .int l3)] [0, 1, 3] rfl ?_
          exact B_X13_ranges_45 _ _ _ _ (fun y0 y1 y2 y3 hx => Hb4 y0 y1 y2 y3 hx) hk
        · refine mj_aload_n dX13_ranges_36 0 rfl ?_
          refine mj_iconst (v := 2) dX13_ranges_37 (by decide) ?_
          refine mj_aload_n dX13_ranges_38 0 rfl ?_
          refine t_getI dX13_ranges_39 F_X13_391 qf_950_6 ?_
          refine t_bndK hk (fun r3 er3 hk => ?_)
          refine t_callVvE dX13_ranges_42 M_X13_fail (C_X13_fail _ _ _ _ er3) ML_X13_411 IM_X13_fail SE_X13_fail qc_950 rfl (As := [.int 2, .int (r1.1 950 6)]) rfl rfl (Nat.le_of_ble_eq_true rfl) (Nat.le_of_ble_eq_true rfl) (Nat.le_of_ble_eq_true rfl) (Nat.le_of_ble_eq_true rfl) ?_
          refine mj_sublv [(0, .ref 950), (1, .int l1), (3, .int l3)] [0, 1, 3] rfl ?_
          exact B_X13_ranges_45 _ _ _ _ (fun y0 y1 y2 y3 hx => Hb4 y0 y1 y2 y3 hx) hk
noncomputable def b_X13_ranges_4 (x : Int32 × Int32 × Int32 × t_S) : Option ((Int32 × Int32 × Int32 × t_S) ⊕ (t_S)) := k_X13_ranges_4 x.1 x.2.1 x.2.2.1 x.2.2.2
set_option maxRecDepth 4000 in
set_option maxHeartbeats 1000000 in
theorem LH_X13_ranges_4 {D : va_G} {cy : Nat → ClassId} {ad : Nat → Nat} {bs : Nat} {X : State → Heap → Prop} : ∀ (n : Nat) (y0 : Int32) (y1 : Int32) (y2 : Int32) (y3 : t_S) (Q : t_S → Prop) (hk : t_hk (t_loop (b_X13_ranges_4) n (y0, y1, y2, y3)) Q), mj_G D cy ad bs X cX13_ranges 5 yX13_ranges.cls none yX13_ranges.name 7 0 0 1065 (t_P (fun v s' => v = none ∧ Q (s'))) 4 [(0, .ref 950), (1, .int (y0)), (2, .int (y1)), (3, .int (y2))] [] (t_m y3) 1065 0 0 := by
  intro n
  induction n with
  | zero => intro y0 y1 y2 y3 Q hk; obtain ⟨r, hr, _⟩ := hk; cases hr
  | succ n ih =>
    intro y0 y1 y2 y3 Q hk
    exact B_X13_ranges_4 y0 y1 y2 y3 (fun y => t_lq (b_X13_ranges_4) n Q y) (fun y0' y1' y2' y3' hy => ih y0' y1' y2' y3' Q hy) (t_lp (b := b_X13_ranges_4) (n := n) (x := (y0, y1, y2, y3)) hk)
noncomputable def f_X13_ranges (x1 : Int32) (s : t_S) : Option (t_S) :=
 t_loop (b_X13_ranges_4) t_N (x1, 1, 0, s)
set_option maxRecDepth 4000 in
set_option maxHeartbeats 1000000 in
theorem C_X13_ranges (x1 : Int32) (s : t_S) (r : t_S) (hr : f_X13_ranges x1 s = some r) : t_C yX13_ranges cX13_ranges 5 none 7 [.ref 950, .int x1] s (fun v s' => v = none ∧ s' = r) := by
  refine t_C.imp (P := fun v s' => v = none ∧ (fun q => q = r) (s')) (t_C.of (by decide +kernel) (Nat.le_of_ble_eq_true rfl) ?_) (fun v s' hp => hp)
  intro D cy ad bs X
  have hk : t_hk (f_X13_ranges x1 s) (fun q => q = r) := ⟨r, hr, rfl⟩
  show mj_G D cy ad bs X cX13_ranges 5 yX13_ranges.cls none yX13_ranges.name 7 0 0 1065 (t_P (fun v s' => v = none ∧ (fun q => q = r) (s'))) 0 [(0, .ref 950), (1, .int x1)] [] (t_m s) 1065 0 0
  refine mj_iconst (v := 1) dX13_ranges_0 (by decide) ?_
  refine mj_istore_n 2 (lv2 := [(2, .int 1), (0, .ref 950), (1, .int x1)]) dX13_ranges_1 rfl (by decide) rfl ?_
  refine mj_iconst (v := 0) dX13_ranges_2 (by decide) ?_
  refine mj_istore_n 3 (lv2 := [(3, .int 0), (2, .int 1), (0, .ref 950), (1, .int x1)]) dX13_ranges_3 rfl (by decide) rfl ?_
  refine mj_sublv [(0, .ref 950), (1, .int x1), (2, .int 1), (3, .int 0)] [2, 3, 1, 0] rfl ?_
  exact LH_X13_ranges_4 _ x1 1 0 s _ hk

