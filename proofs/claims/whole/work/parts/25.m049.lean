/-! Methods as functions, 49: X13_endOf, X13_addValue, X13_isAlike, X13_alike, X13_frameSlot, X13_error, X13_copy, X13_funOf, X13_setOmit, X13_moveTo, X13_partOf, X13_top, X13_under -/
theorem qa_991 : t_oka 991 1 401 = true := by decide +kernel
theorem qf_950_64 : t_okf 950 13 64 0 = true := by decide +kernel
theorem qf_950_97 : t_okf 950 13 97 0 = true := by decide +kernel
theorem qf_950_98 : t_okf 950 13 98 0 = true := by decide +kernel
theorem qr_950_56 : t_okr 950 13 56 980 = true := by decide +kernel
theorem qr_950_69 : t_okr 950 13 69 991 = true := by decide +kernel
theorem dX13_endOf_0 : decode cX13_endOf 0 = .ok (.iload_n 1, 1) := by decide +kernel
theorem dX13_endOf_1 : decode cX13_endOf 1 = .ok (.istore_n 2, 1) := by decide +kernel
theorem dX13_endOf_10 : decode cX13_endOf 10 = .ok (.aload_n 0, 1) := by decide +kernel
theorem dX13_endOf_100 : decode cX13_endOf 100 = .ok (.bipush 8, 2) := by decide +kernel
theorem dX13_endOf_102 : decode cX13_endOf 102 = .ok (.if_icmp .ne 18, 3) := by decide +kernel
theorem dX13_endOf_105 : decode cX13_endOf 105 = .ok (.lload_n 3, 1) := by decide +kernel
theorem dX13_endOf_106 : decode cX13_endOf 106 = .ok (.aload_n 0, 1) := by decide +kernel
theorem dX13_endOf_107 : decode cX13_endOf 107 = .ok (.iload_n 2, 1) := by decide +kernel
theorem dX13_endOf_108 : decode cX13_endOf 108 = .ok (.iconst 1, 1) := by decide +kernel
theorem dX13_endOf_109 : decode cX13_endOf 109 = .ok (.iadd, 1) := by decide +kernel
theorem dX13_endOf_11 : decode cX13_endOf 11 = .ok (.iload_n 2, 1) := by decide +kernel
theorem dX13_endOf_110 : decode cX13_endOf 110 = .ok (.laload, 1) := by decide +kernel
theorem dX13_endOf_111 : decode cX13_endOf 111 = .ok (.ladd, 1) := by decide +kernel
theorem dX13_endOf_112 : decode cX13_endOf 112 = .ok (.lstore_n 3, 1) := by decide +kernel
theorem dX13_endOf_113 : decode cX13_endOf 113 = .ok (.iload_n 2, 1) := by decide +kernel
theorem dX13_endOf_114 : decode cX13_endOf 114 = .ok (.iconst 2, 1) := by decide +kernel
theorem dX13_endOf_115 : decode cX13_endOf 115 = .ok (.iadd, 1) := by decide +kernel
theorem dX13_endOf_116 : decode cX13_endOf 116 = .ok (.istore_n 2, 1) := by decide +kernel
theorem dX13_endOf_117 : decode cX13_endOf 117 = .ok (.goto 7, 3) := by decide +kernel
theorem dX13_endOf_12 : decode cX13_endOf 12 = .ok (.laload, 1) := by decide +kernel
theorem dX13_endOf_120 : decode cX13_endOf 120 = .ok (.iload_n 2, 1) := by decide +kernel
theorem dX13_endOf_121 : decode cX13_endOf 121 = .ok (.iconst 2, 1) := by decide +kernel
theorem dX13_endOf_122 : decode cX13_endOf 122 = .ok (.iadd, 1) := by decide +kernel
theorem dX13_endOf_123 : decode cX13_endOf 123 = .ok (.istore_n 2, 1) := by decide +kernel
theorem dX13_endOf_124 : decode cX13_endOf 124 = .ok (.lload_n 3, 1) := by decide +kernel
theorem dX13_endOf_125 : decode cX13_endOf 125 = .ok (.lconst 1, 1) := by decide +kernel
theorem dX13_endOf_126 : decode cX13_endOf 126 = .ok (.lsub, 1) := by decide +kernel
theorem dX13_endOf_127 : decode cX13_endOf 127 = .ok (.lstore_n 3, 1) := by decide +kernel
theorem dX13_endOf_128 : decode cX13_endOf 128 = .ok (.goto (-124), 3) := by decide +kernel
theorem dX13_endOf_13 : decode cX13_endOf 13 = .ok (.l2i, 1) := by decide +kernel
theorem dX13_endOf_131 : decode cX13_endOf 131 = .ok (.iload_n 2, 1) := by decide +kernel
theorem dX13_endOf_132 : decode cX13_endOf 132 = .ok (.ireturn, 1) := by decide +kernel
theorem dX13_endOf_14 : decode cX13_endOf 14 = .ok (.istore 5, 2) := by decide +kernel
theorem dX13_endOf_16 : decode cX13_endOf 16 = .ok (.iload 5, 2) := by decide +kernel
theorem dX13_endOf_18 : decode cX13_endOf 18 = .ok (.iconst 4, 1) := by decide +kernel
theorem dX13_endOf_19 : decode cX13_endOf 19 = .ok (.if_icmp .ne 10, 3) := by decide +kernel
theorem dX13_endOf_2 : decode cX13_endOf 2 = .ok (.lconst 1, 1) := by decide +kernel
theorem dX13_endOf_22 : decode cX13_endOf 22 = .ok (.iload_n 2, 1) := by decide +kernel
theorem dX13_endOf_23 : decode cX13_endOf 23 = .ok (.iconst 1, 1) := by decide +kernel
theorem dX13_endOf_24 : decode cX13_endOf 24 = .ok (.iadd, 1) := by decide +kernel
theorem dX13_endOf_25 : decode cX13_endOf 25 = .ok (.istore_n 2, 1) := by decide +kernel
theorem dX13_endOf_26 : decode cX13_endOf 26 = .ok (.goto 98, 3) := by decide +kernel
theorem dX13_endOf_29 : decode cX13_endOf 29 = .ok (.iload 5, 2) := by decide +kernel
theorem dX13_endOf_3 : decode cX13_endOf 3 = .ok (.lstore_n 3, 1) := by decide +kernel
theorem dX13_endOf_31 : decode cX13_endOf 31 = .ok (.iconst 2, 1) := by decide +kernel
theorem dX13_endOf_32 : decode cX13_endOf 32 = .ok (.if_icmp .ne 19, 3) := by decide +kernel
theorem dX13_endOf_35 : decode cX13_endOf 35 = .ok (.iload_n 2, 1) := by decide +kernel
theorem dX13_endOf_36 : decode cX13_endOf 36 = .ok (.iconst 2, 1) := by decide +kernel
theorem dX13_endOf_37 : decode cX13_endOf 37 = .ok (.iadd, 1) := by decide +kernel
theorem dX13_endOf_38 : decode cX13_endOf 38 = .ok (.aload_n 0, 1) := by decide +kernel
theorem dX13_endOf_39 : decode cX13_endOf 39 = .ok (.iload_n 2, 1) := by decide +kernel
theorem dX13_endOf_4 : decode cX13_endOf 4 = .ok (.lload_n 3, 1) := by decide +kernel
theorem dX13_endOf_40 : decode cX13_endOf 40 = .ok (.iconst 1, 1) := by decide +kernel
theorem dX13_endOf_41 : decode cX13_endOf 41 = .ok (.iadd, 1) := by decide +kernel
theorem dX13_endOf_42 : decode cX13_endOf 42 = .ok (.laload, 1) := by decide +kernel
theorem dX13_endOf_43 : decode cX13_endOf 43 = .ok (.invokestatic 845, 3) := by decide +kernel
theorem dX13_endOf_46 : decode cX13_endOf 46 = .ok (.iadd, 1) := by decide +kernel
theorem dX13_endOf_47 : decode cX13_endOf 47 = .ok (.istore_n 2, 1) := by decide +kernel
theorem dX13_endOf_48 : decode cX13_endOf 48 = .ok (.goto 76, 3) := by decide +kernel
theorem dX13_endOf_5 : decode cX13_endOf 5 = .ok (.lconst 0, 1) := by decide +kernel
theorem dX13_endOf_51 : decode cX13_endOf 51 = .ok (.iload 5, 2) := by decide +kernel
theorem dX13_endOf_53 : decode cX13_endOf 53 = .ok (.bipush 6, 2) := by decide +kernel
theorem dX13_endOf_55 : decode cX13_endOf 55 = .ok (.if_icmp .ne 25, 3) := by decide +kernel
theorem dX13_endOf_58 : decode cX13_endOf 58 = .ok (.lload_n 3, 1) := by decide +kernel
theorem dX13_endOf_59 : decode cX13_endOf 59 = .ok (.aload_n 0, 1) := by decide +kernel
theorem dX13_endOf_6 : decode cX13_endOf 6 = .ok (.lcmp, 1) := by decide +kernel
theorem dX13_endOf_60 : decode cX13_endOf 60 = .ok (.iload_n 2, 1) := by decide +kernel
theorem dX13_endOf_61 : decode cX13_endOf 61 = .ok (.iconst 1, 1) := by decide +kernel
theorem dX13_endOf_62 : decode cX13_endOf 62 = .ok (.iadd, 1) := by decide +kernel
theorem dX13_endOf_63 : decode cX13_endOf 63 = .ok (.laload, 1) := by decide +kernel
theorem dX13_endOf_64 : decode cX13_endOf 64 = .ok (.ladd, 1) := by decide +kernel
theorem dX13_endOf_65 : decode cX13_endOf 65 = .ok (.lstore_n 3, 1) := by decide +kernel
theorem dX13_endOf_66 : decode cX13_endOf 66 = .ok (.iload_n 2, 1) := by decide +kernel
theorem dX13_endOf_67 : decode cX13_endOf 67 = .ok (.iconst 2, 1) := by decide +kernel
theorem dX13_endOf_68 : decode cX13_endOf 68 = .ok (.iadd, 1) := by decide +kernel
theorem dX13_endOf_69 : decode cX13_endOf 69 = .ok (.aload_n 0, 1) := by decide +kernel
theorem dX13_endOf_7 : decode cX13_endOf 7 = .ok (.ifCond .le 124, 3) := by decide +kernel
theorem dX13_endOf_70 : decode cX13_endOf 70 = .ok (.iload_n 2, 1) := by decide +kernel
theorem dX13_endOf_71 : decode cX13_endOf 71 = .ok (.iconst 1, 1) := by decide +kernel
theorem dX13_endOf_72 : decode cX13_endOf 72 = .ok (.iadd, 1) := by decide +kernel
theorem dX13_endOf_73 : decode cX13_endOf 73 = .ok (.laload, 1) := by decide +kernel
theorem dX13_endOf_74 : decode cX13_endOf 74 = .ok (.l2i, 1) := by decide +kernel
theorem dX13_endOf_75 : decode cX13_endOf 75 = .ok (.iadd, 1) := by decide +kernel
theorem dX13_endOf_76 : decode cX13_endOf 76 = .ok (.istore_n 2, 1) := by decide +kernel
theorem dX13_endOf_77 : decode cX13_endOf 77 = .ok (.goto 47, 3) := by decide +kernel
theorem dX13_endOf_80 : decode cX13_endOf 80 = .ok (.iload 5, 2) := by decide +kernel
theorem dX13_endOf_82 : decode cX13_endOf 82 = .ok (.bipush 7, 2) := by decide +kernel
theorem dX13_endOf_84 : decode cX13_endOf 84 = .ok (.if_icmp .ne 14, 3) := by decide +kernel
theorem dX13_endOf_87 : decode cX13_endOf 87 = .ok (.lload_n 3, 1) := by decide +kernel
theorem dX13_endOf_88 : decode cX13_endOf 88 = .ok (.lconst 1, 1) := by decide +kernel
theorem dX13_endOf_89 : decode cX13_endOf 89 = .ok (.ladd, 1) := by decide +kernel
theorem dX13_endOf_90 : decode cX13_endOf 90 = .ok (.lstore_n 3, 1) := by decide +kernel
theorem dX13_endOf_91 : decode cX13_endOf 91 = .ok (.iload_n 2, 1) := by decide +kernel
theorem dX13_endOf_92 : decode cX13_endOf 92 = .ok (.iconst 2, 1) := by decide +kernel
theorem dX13_endOf_93 : decode cX13_endOf 93 = .ok (.iadd, 1) := by decide +kernel
theorem dX13_endOf_94 : decode cX13_endOf 94 = .ok (.istore_n 2, 1) := by decide +kernel
theorem dX13_endOf_95 : decode cX13_endOf 95 = .ok (.goto 29, 3) := by decide +kernel
theorem dX13_endOf_98 : decode cX13_endOf 98 = .ok (.iload 5, 2) := by decide +kernel
noncomputable def k_X13_endOf_124 (l0 : Nat) (l2 : Int32) (l3 : Int64) (s : t_S) : Option ((Nat × Int32 × Int64) ⊕ (Int32)) :=
 some (.inl (l0, l2, (l3 - (1 : Int64))))
set_option maxRecDepth 4000 in
set_option maxHeartbeats 1000000 in
theorem B_X13_endOf_124 {D : va_G} {cy : Nat → ClassId} {ad : Nat → Nat} {bs : Nat} {X : State → Heap → Prop} (l0 : Nat) (l2 : Int32) (l3 : Int64) (s : t_S) (Q : (Nat × Int32 × Int64) ⊕ (Int32) → Prop) (Hb4 : ∀ (y0 : Nat) (y1 : Int32) (y2 : Int64), Q (.inl (y0, y1, y2)) → mj_G D cy ad bs X cX13_endOf 6 yX13_endOf.cls (some .int) yX13_endOf.name 1 0 0 1065 (t_P (fun v s' => s' = s ∧ ∃ x, v = some (.int x) ∧ Q (.inr (x)))) 4 [(0, .ref (y0)), (2, .int (y1)), (3, .long (y2))] [] (t_m s) 1065 0 0) (hk : t_hk (k_X13_endOf_124 l0 l2 l3 s) Q) : mj_G D cy ad bs X cX13_endOf 6 yX13_endOf.cls (some .int) yX13_endOf.name 1 0 0 1065 (t_P (fun v s' => s' = s ∧ ∃ x, v = some (.int x) ∧ Q (.inr (x)))) 124 [(0, .ref l0), (2, .int l2), (3, .long l3)] [] (t_m s) 1065 0 0 := by
  refine mj_lload_n dX13_endOf_124 2 rfl ?_
  refine mj_lconst (v := 1) dX13_endOf_125 (by decide) ?_
  refine mj_lsub dX13_endOf_126 ?_
  refine mj_lstore_n 3 (lv2 := [(3, .long (l3 - (1 : Int64))), (0, .ref l0), (2, .int l2)]) dX13_endOf_127 rfl (by decide) rfl ?_
  refine mj_goto 4 dX13_endOf_128 (by decide) ?_
  refine mj_sublv [(0, .ref l0), (2, .int l2), (3, .long (l3 - (1 : Int64)))] [1, 2, 0] rfl ?_
  exact t_somK hk (fun hf => Hb4 l0 l2 (l3 - (1 : Int64)) hf)
noncomputable def k_X13_endOf_4 (l0 : Nat) (l2 : Int32) (l3 : Int64) (s : t_S) : Option ((Nat × Int32 × Int64) ⊕ (Int32)) :=
 if (lg_cmp l3 (0 : Int64)) ≤ (0 : Int32) then ((some (l2)).map Sum.inr)
 else (if t_oka l0 2 (t_ln l0) = true then
  if t_ix l2 (t_ln l0) = true then
  if ((s.2.1 l0 (l2.toNatClampNeg)).toInt32) = (4 : Int32) then (k_X13_endOf_124 l0 (l2 + (1 : Int32)) l3 s)
 else (if ((s.2.1 l0 (l2.toNatClampNeg)).toInt32) = (2 : Int32) then (if t_ix (l2 + (1 : Int32)) (t_ln l0) = true then
  (f_X13_packs (s.2.1 l0 ((l2 + (1 : Int32)).toNatClampNeg)) s).bind (fun r6 =>
 k_X13_endOf_124 l0 ((l2 + (2 : Int32)) + r6) l3 s)
else none)
 else (if ((s.2.1 l0 (l2.toNatClampNeg)).toInt32) = (6 : Int32) then (if t_ix (l2 + (1 : Int32)) (t_ln l0) = true then
  k_X13_endOf_124 l0 ((l2 + (2 : Int32)) + ((s.2.1 l0 ((l2 + (1 : Int32)).toNatClampNeg)).toInt32)) (l3 + (s.2.1 l0 ((l2 + (1 : Int32)).toNatClampNeg))) s
else none)
 else (if ((s.2.1 l0 (l2.toNatClampNeg)).toInt32) = (7 : Int32) then (k_X13_endOf_124 l0 (l2 + (2 : Int32)) (l3 + (1 : Int64)) s)
 else (if ((s.2.1 l0 (l2.toNatClampNeg)).toInt32) = (8 : Int32) then (if t_ix (l2 + (1 : Int32)) (t_ln l0) = true then
  k_X13_endOf_124 l0 (l2 + (2 : Int32)) (l3 + (s.2.1 l0 ((l2 + (1 : Int32)).toNatClampNeg))) s
else none)
 else (k_X13_endOf_124 l0 (l2 + (2 : Int32)) l3 s)))))
else none
else none)
set_option maxRecDepth 4000 in
set_option maxHeartbeats 1000000 in
theorem B_X13_endOf_4 {D : va_G} {cy : Nat → ClassId} {ad : Nat → Nat} {bs : Nat} {X : State → Heap → Prop} (l0 : Nat) (l2 : Int32) (l3 : Int64) (s : t_S) (Q : (Nat × Int32 × Int64) ⊕ (Int32) → Prop) (Hb4 : ∀ (y0 : Nat) (y1 : Int32) (y2 : Int64), Q (.inl (y0, y1, y2)) → mj_G D cy ad bs X cX13_endOf 6 yX13_endOf.cls (some .int) yX13_endOf.name 1 0 0 1065 (t_P (fun v s' => s' = s ∧ ∃ x, v = some (.int x) ∧ Q (.inr (x)))) 4 [(0, .ref (y0)), (2, .int (y1)), (3, .long (y2))] [] (t_m s) 1065 0 0) (hk : t_hk (k_X13_endOf_4 l0 l2 l3 s) Q) : mj_G D cy ad bs X cX13_endOf 6 yX13_endOf.cls (some .int) yX13_endOf.name 1 0 0 1065 (t_P (fun v s' => s' = s ∧ ∃ x, v = some (.int x) ∧ Q (.inr (x)))) 4 [(0, .ref l0), (2, .int l2), (3, .long l3)] [] (t_m s) 1065 0 0 := by
  refine mj_lload_n dX13_endOf_4 2 rfl ?_
  refine mj_lconst (v := 0) dX13_endOf_5 (by decide) ?_
  refine mj_lcmp dX13_endOf_6 ?_
  refine mj_if_le 131 dX13_endOf_7 (by decide) (fun z => t_posK hk z (fun hk => ?_)) (fun z => t_negK hk z (fun hk => ?_))
  · refine t_mapK hk (fun hk => ?_)
    refine mj_iload_n dX13_endOf_131 1 rfl ?_
    exact t_somK hk (fun hf => t_iret dX13_endOf_132 rfl rfl ⟨rfl, _, rfl, hf⟩ (Nat.le_of_ble_eq_true rfl) (Nat.le_of_ble_eq_true rfl))
  · refine mj_aload_n dX13_endOf_10 0 rfl ?_
    refine mj_iload_n dX13_endOf_11 1 rfl ?_
    refine t_chkK hk (fun c0 hk => ?_)
    refine t_chkK hk (fun c1 hk => ?_)
    refine t_lald dX13_endOf_12 c0 (t_ixv c1) ?_
    refine mj_l2i (v := (s.2.1 l0 (l2.toNatClampNeg)).toInt32) dX13_endOf_13 rfl ?_
    refine mj_istore (lv2 := [(5, .int ((s.2.1 l0 (l2.toNatClampNeg)).toInt32)), (0, .ref l0), (2, .int l2), (3, .long l3)]) dX13_endOf_14 (by decide) rfl ?_
    refine mj_iload dX13_endOf_16 0 rfl ?_
    refine mj_iconst (v := 4) dX13_endOf_18 (by decide) ?_
    refine mj_icmp_ne 29 dX13_endOf_19 (by decide) (fun z => t_negK hk z (fun hk => ?_)) (fun z => t_posK hk z (fun hk => ?_))
    · refine mj_iload dX13_endOf_29 0 rfl ?_
      refine mj_iconst (v := 2) dX13_endOf_31 (by decide) ?_
      refine mj_icmp_ne 51 dX13_endOf_32 (by decide) (fun z => t_negK hk z (fun hk => ?_)) (fun z => t_posK hk z (fun hk => ?_))
      · refine mj_iload dX13_endOf_51 0 rfl ?_
        refine mj_bipush (v := 6) dX13_endOf_53 (by decide) ?_
        refine mj_icmp_ne 80 dX13_endOf_55 (by decide) (fun z => t_negK hk z (fun hk => ?_)) (fun z => t_posK hk z (fun hk => ?_))
        · refine mj_iload dX13_endOf_80 0 rfl ?_
          refine mj_bipush (v := 7) dX13_endOf_82 (by decide) ?_
          refine mj_icmp_ne 98 dX13_endOf_84 (by decide) (fun z => t_negK hk z (fun hk => ?_)) (fun z => t_posK hk z (fun hk => ?_))
          · refine mj_iload dX13_endOf_98 0 rfl ?_
            refine mj_bipush (v := 8) dX13_endOf_100 (by decide) ?_
            refine mj_icmp_ne 120 dX13_endOf_102 (by decide) (fun z => t_negK hk z (fun hk => ?_)) (fun z => t_posK hk z (fun hk => ?_))
            · refine mj_iload_n dX13_endOf_120 2 rfl ?_
              refine mj_iconst (v := 2) dX13_endOf_121 (by decide) ?_
              refine mj_iadd dX13_endOf_122 ?_
              refine mj_istore_n 2 (lv2 := [(2, .int (l2 + (2 : Int32))), (5, .int ((s.2.1 l0 (l2.toNatClampNeg)).toInt32)), (0, .ref l0), (3, .long l3)]) dX13_endOf_123 rfl (by decide) rfl ?_
              refine mj_sublv [(0, .ref l0), (2, .int (l2 + (2 : Int32))), (3, .long l3)] [2, 0, 3] rfl ?_
              exact B_X13_endOf_124 _ _ _ _ _ (fun y0 y1 y2 hx => Hb4 y0 y1 y2 hx) hk
            · refine mj_lload_n dX13_endOf_105 3 rfl ?_
              refine mj_aload_n dX13_endOf_106 1 rfl ?_
              refine mj_iload_n dX13_endOf_107 2 rfl ?_
              refine mj_iconst (v := 1) dX13_endOf_108 (by decide) ?_
              refine mj_iadd dX13_endOf_109 ?_
              refine t_chkK hk (fun c2 hk => ?_)
              refine t_lald dX13_endOf_110 c0 (t_ixv c2) ?_
              refine mj_ladd dX13_endOf_111 ?_
              refine mj_lstore_n 3 (lv2 := [(3, .long (l3 + (s.2.1 l0 ((l2 + (1 : Int32)).toNatClampNeg)))), (5, .int ((s.2.1 l0 (l2.toNatClampNeg)).toInt32)), (0, .ref l0), (2, .int l2)]) dX13_endOf_112 rfl (by decide) rfl ?_
              refine mj_iload_n dX13_endOf_113 3 rfl ?_
              refine mj_iconst (v := 2) dX13_endOf_114 (by decide) ?_
              refine mj_iadd dX13_endOf_115 ?_
              refine mj_istore_n 2 (lv2 := [(2, .int (l2 + (2 : Int32))), (3, .long (l3 + (s.2.1 l0 ((l2 + (1 : Int32)).toNatClampNeg)))), (5, .int ((s.2.1 l0 (l2.toNatClampNeg)).toInt32)), (0, .ref l0)]) dX13_endOf_116 rfl (by decide) rfl ?_
              refine mj_goto 124 dX13_endOf_117 (by decide) ?_
              refine mj_sublv [(0, .ref l0), (2, .int (l2 + (2 : Int32))), (3, .long (l3 + (s.2.1 l0 ((l2 + (1 : Int32)).toNatClampNeg))))] [3, 0, 1] rfl ?_
              exact B_X13_endOf_124 _ _ _ _ _ (fun y0 y1 y2 hx => Hb4 y0 y1 y2 hx) hk
          · refine mj_lload_n dX13_endOf_87 3 rfl ?_
            refine mj_lconst (v := 1) dX13_endOf_88 (by decide) ?_
            refine mj_ladd dX13_endOf_89 ?_
            refine mj_lstore_n 3 (lv2 := [(3, .long (l3 + (1 : Int64))), (5, .int ((s.2.1 l0 (l2.toNatClampNeg)).toInt32)), (0, .ref l0), (2, .int l2)]) dX13_endOf_90 rfl (by decide) rfl ?_
            refine mj_iload_n dX13_endOf_91 3 rfl ?_
            refine mj_iconst (v := 2) dX13_endOf_92 (by decide) ?_
            refine mj_iadd dX13_endOf_93 ?_
            refine mj_istore_n 2 (lv2 := [(2, .int (l2 + (2 : Int32))), (3, .long (l3 + (1 : Int64))), (5, .int ((s.2.1 l0 (l2.toNatClampNeg)).toInt32)), (0, .ref l0)]) dX13_endOf_94 rfl (by decide) rfl ?_
            refine mj_goto 124 dX13_endOf_95 (by decide) ?_
            refine mj_sublv [(0, .ref l0), (2, .int (l2 + (2 : Int32))), (3, .long (l3 + (1 : Int64)))] [3, 0, 1] rfl ?_
            exact B_X13_endOf_124 _ _ _ _ _ (fun y0 y1 y2 hx => Hb4 y0 y1 y2 hx) hk
        · refine mj_lload_n dX13_endOf_58 3 rfl ?_
          refine mj_aload_n dX13_endOf_59 1 rfl ?_
          refine mj_iload_n dX13_endOf_60 2 rfl ?_
          refine mj_iconst (v := 1) dX13_endOf_61 (by decide) ?_
          refine mj_iadd dX13_endOf_62 ?_
          refine t_chkK hk (fun c3 hk => ?_)
          refine t_lald dX13_endOf_63 c0 (t_ixv c3) ?_
          refine mj_ladd dX13_endOf_64 ?_
          refine mj_lstore_n 3 (lv2 := [(3, .long (l3 + (s.2.1 l0 ((l2 + (1 : Int32)).toNatClampNeg)))), (5, .int ((s.2.1 l0 (l2.toNatClampNeg)).toInt32)), (0, .ref l0), (2, .int l2)]) dX13_endOf_65 rfl (by decide) rfl ?_
          refine mj_iload_n dX13_endOf_66 3 rfl ?_
          refine mj_iconst (v := 2) dX13_endOf_67 (by decide) ?_
          refine mj_iadd dX13_endOf_68 ?_
          refine mj_aload_n dX13_endOf_69 2 rfl ?_
          refine mj_iload_n dX13_endOf_70 3 rfl ?_
          refine mj_iconst (v := 1) dX13_endOf_71 (by decide) ?_
          refine mj_iadd dX13_endOf_72 ?_
          refine t_lald dX13_endOf_73 c0 (t_ixv c3) ?_
          refine mj_l2i (v := (s.2.1 l0 ((l2 + (1 : Int32)).toNatClampNeg)).toInt32) dX13_endOf_74 rfl ?_
          refine mj_iadd dX13_endOf_75 ?_
          refine mj_istore_n 2 (lv2 := [(2, .int ((l2 + (2 : Int32)) + ((s.2.1 l0 ((l2 + (1 : Int32)).toNatClampNeg)).toInt32))), (3, .long (l3 + (s.2.1 l0 ((l2 + (1 : Int32)).toNatClampNeg)))), (5, .int ((s.2.1 l0 (l2.toNatClampNeg)).toInt32)), (0, .ref l0)]) dX13_endOf_76 rfl (by decide) rfl ?_
          refine mj_goto 124 dX13_endOf_77 (by decide) ?_
          refine mj_sublv [(0, .ref l0), (2, .int ((l2 + (2 : Int32)) + ((s.2.1 l0 ((l2 + (1 : Int32)).toNatClampNeg)).toInt32))), (3, .long (l3 + (s.2.1 l0 ((l2 + (1 : Int32)).toNatClampNeg))))] [3, 0, 1] rfl ?_
          exact B_X13_endOf_124 _ _ _ _ _ (fun y0 y1 y2 hx => Hb4 y0 y1 y2 hx) hk
      · refine mj_iload_n dX13_endOf_35 2 rfl ?_
        refine mj_iconst (v := 2) dX13_endOf_36 (by decide) ?_
        refine mj_iadd dX13_endOf_37 ?_
        refine mj_aload_n dX13_endOf_38 1 rfl ?_
        refine mj_iload_n dX13_endOf_39 2 rfl ?_
        refine mj_iconst (v := 1) dX13_endOf_40 (by decide) ?_
        refine mj_iadd dX13_endOf_41 ?_
        refine t_chkK hk (fun c4 hk => ?_)
        refine t_lald dX13_endOf_42 c0 (t_ixv c4) ?_
        refine t_bndK hk (fun r6 er6 hk => ?_)
        refine t_callSiP dX13_endOf_43 M_X13_packs (C_X13_packs _ _ _ er6) ML_X13_845 SM_X13_packs (As := [.long (s.2.1 l0 ((l2 + (1 : Int32)).toNatClampNeg))]) rfl rfl (Nat.le_of_ble_eq_true rfl) (Nat.le_of_ble_eq_true rfl) (Nat.le_of_ble_eq_true rfl) (Nat.le_of_ble_eq_true rfl) ?_
        refine mj_iadd dX13_endOf_46 ?_
        refine mj_istore_n 2 (lv2 := [(2, .int ((l2 + (2 : Int32)) + r6)), (5, .int ((s.2.1 l0 (l2.toNatClampNeg)).toInt32)), (0, .ref l0), (3, .long l3)]) dX13_endOf_47 rfl (by decide) rfl ?_
        refine mj_goto 124 dX13_endOf_48 (by decide) ?_
        refine mj_sublv [(0, .ref l0), (2, .int ((l2 + (2 : Int32)) + r6)), (3, .long l3)] [2, 0, 3] rfl ?_
        exact B_X13_endOf_124 _ _ _ _ _ (fun y0 y1 y2 hx => Hb4 y0 y1 y2 hx) hk
    · refine mj_iload_n dX13_endOf_22 2 rfl ?_
      refine mj_iconst (v := 1) dX13_endOf_23 (by decide) ?_
      refine mj_iadd dX13_endOf_24 ?_
      refine mj_istore_n 2 (lv2 := [(2, .int (l2 + (1 : Int32))), (5, .int ((s.2.1 l0 (l2.toNatClampNeg)).toInt32)), (0, .ref l0), (3, .long l3)]) dX13_endOf_25 rfl (by decide) rfl ?_
      refine mj_goto 124 dX13_endOf_26 (by decide) ?_
      refine mj_sublv [(0, .ref l0), (2, .int (l2 + (1 : Int32))), (3, .long l3)] [2, 0, 3] rfl ?_
      exact B_X13_endOf_124 _ _ _ _ _ (fun y0 y1 y2 hx => Hb4 y0 y1 y2 hx) hk
noncomputable def b_X13_endOf_4 (s : t_S) (x : Nat × Int32 × Int64) : Option ((Nat × Int32 × Int64) ⊕ (Int32)) := k_X13_endOf_4 x.1 x.2.1 x.2.2 s
set_option maxRecDepth 4000 in
set_option maxHeartbeats 1000000 in
theorem LH_X13_endOf_4 {D : va_G} {cy : Nat → ClassId} {ad : Nat → Nat} {bs : Nat} {X : State → Heap → Prop} (s : t_S) : ∀ (n : Nat) (y0 : Nat) (y1 : Int32) (y2 : Int64) (Q : Int32 → Prop) (hk : t_hk (t_loop (b_X13_endOf_4 s) n (y0, y1, y2)) Q), mj_G D cy ad bs X cX13_endOf 6 yX13_endOf.cls (some .int) yX13_endOf.name 1 0 0 1065 (t_P (fun v s' => s' = s ∧ ∃ x, v = some (.int x) ∧ Q (x))) 4 [(0, .ref (y0)), (2, .int (y1)), (3, .long (y2))] [] (t_m s) 1065 0 0 := by
  intro n
  induction n with
  | zero => intro y0 y1 y2 Q hk; obtain ⟨r, hr, _⟩ := hk; cases hr
  | succ n ih =>
    intro y0 y1 y2 Q hk
    exact B_X13_endOf_4 y0 y1 y2 s (fun y => t_lq (b_X13_endOf_4 s) n Q y) (fun y0' y1' y2' hy => ih y0' y1' y2' Q hy) (t_lp hk)
noncomputable def f_X13_endOf (x1 : Nat) (x2 : Int32) (s : t_S) : Option (Int32) :=
 t_loop (b_X13_endOf_4 s) t_N (x1, x2, 1)
set_option maxRecDepth 4000 in
set_option maxHeartbeats 1000000 in
theorem C_X13_endOf (x1 : Nat) (x2 : Int32) (s : t_S) (r : Int32) (hr : f_X13_endOf x1 x2 s = some r) : t_C yX13_endOf cX13_endOf 6 (some .int) 1 [.ref x1, .int x2] s (fun v s' => v = some (.int r) ∧ s' = s) := by
  refine t_C.imp (P := fun v s' => s' = s ∧ ∃ x, v = some (.int x) ∧ (fun q => q = r) (x)) (t_C.of (by decide +kernel) (Nat.le_of_ble_eq_true rfl) ?_) (fun v s' hp => by obtain ⟨rfl, x, rfl, rfl⟩ := hp; exact ⟨rfl, rfl⟩)
  intro D cy ad bs X
  have hk : t_hk (f_X13_endOf x1 x2 s) (fun q => q = r) := ⟨r, hr, rfl⟩
  show mj_G D cy ad bs X cX13_endOf 6 yX13_endOf.cls (some .int) yX13_endOf.name 1 0 0 1065 (t_P (fun v s' => s' = s ∧ ∃ x, v = some (.int x) ∧ (fun q => q = r) (x))) 0 [(0, .ref x1), (1, .int x2)] [] (t_m s) 1065 0 0
  refine mj_iload_n dX13_endOf_0 1 rfl ?_
  refine mj_istore_n 2 (lv2 := [(2, .int x2), (0, .ref x1), (1, .int x2)]) dX13_endOf_1 rfl (by decide) rfl ?_
  refine mj_lconst (v := 1) dX13_endOf_2 (by decide) ?_
  refine mj_lstore_n 3 (lv2 := [(3, .long 1), (2, .int x2), (0, .ref x1), (1, .int x2)]) dX13_endOf_3 rfl (by decide) rfl ?_
  refine mj_sublv [(0, .ref x1), (2, .int x2), (3, .long 1)] [2, 1, 0] rfl ?_
  exact LH_X13_endOf_4 _ _ x1 x2 1 _ hk

theorem dX13_addValue_0 : decode cX13_addValue 0 = .ok (.aload_n 0, 1) := by decide +kernel
theorem dX13_addValue_1 : decode cX13_addValue 1 = .ok (.getfield 182, 3) := by decide +kernel
theorem dX13_addValue_10 : decode cX13_addValue 10 = .ok (.istore_n 2, 1) := by decide +kernel
theorem dX13_addValue_11 : decode cX13_addValue 11 = .ok (.iconst 0, 1) := by decide +kernel
theorem dX13_addValue_12 : decode cX13_addValue 12 = .ok (.istore_n 3, 1) := by decide +kernel
theorem dX13_addValue_13 : decode cX13_addValue 13 = .ok (.iload_n 3, 1) := by decide +kernel
theorem dX13_addValue_14 : decode cX13_addValue 14 = .ok (.iload_n 2, 1) := by decide +kernel
theorem dX13_addValue_15 : decode cX13_addValue 15 = .ok (.if_icmp .ge 21, 3) := by decide +kernel
theorem dX13_addValue_18 : decode cX13_addValue 18 = .ok (.aload_n 0, 1) := by decide +kernel
theorem dX13_addValue_19 : decode cX13_addValue 19 = .ok (.aload_n 0, 1) := by decide +kernel
theorem dX13_addValue_20 : decode cX13_addValue 20 = .ok (.getfield 182, 3) := by decide +kernel
theorem dX13_addValue_23 : decode cX13_addValue 23 = .ok (.iload_n 1, 1) := by decide +kernel
theorem dX13_addValue_24 : decode cX13_addValue 24 = .ok (.iload_n 3, 1) := by decide +kernel
theorem dX13_addValue_25 : decode cX13_addValue 25 = .ok (.iadd, 1) := by decide +kernel
theorem dX13_addValue_26 : decode cX13_addValue 26 = .ok (.laload, 1) := by decide +kernel
theorem dX13_addValue_27 : decode cX13_addValue 27 = .ok (.invokevirtual 1419, 3) := by decide +kernel
theorem dX13_addValue_30 : decode cX13_addValue 30 = .ok (.iinc 3 1, 3) := by decide +kernel
theorem dX13_addValue_33 : decode cX13_addValue 33 = .ok (.goto (-20), 3) := by decide +kernel
theorem dX13_addValue_36 : decode cX13_addValue 36 = .ok (.return_, 1) := by decide +kernel
theorem dX13_addValue_4 : decode cX13_addValue 4 = .ok (.iload_n 1, 1) := by decide +kernel
theorem dX13_addValue_5 : decode cX13_addValue 5 = .ok (.invokestatic 849, 3) := by decide +kernel
theorem dX13_addValue_8 : decode cX13_addValue 8 = .ok (.iload_n 1, 1) := by decide +kernel
theorem dX13_addValue_9 : decode cX13_addValue 9 = .ok (.isub, 1) := by decide +kernel
noncomputable def k_X13_addValue_13 (l1 : Int32) (l2 : Int32) (l3 : Int32) (s : t_S) : Option ((Int32 × Int32 × Int32 × t_S) ⊕ (t_S)) :=
 if l2 ≤ l3 then ((some (s)).map Sum.inr)
 else (if t_ix (l1 + l3) 626600 = true then
  (f_X13_add (s.2.1 1006 ((l1 + l3).toNatClampNeg)) s).bind (fun r2 =>
 some (.inl (l1, l2, (l3 + 1), r2)))
else none)
set_option maxRecDepth 4000 in
set_option maxHeartbeats 1000000 in
theorem B_X13_addValue_13 {D : va_G} {cy : Nat → ClassId} {ad : Nat → Nat} {bs : Nat} {X : State → Heap → Prop} (l1 : Int32) (l2 : Int32) (l3 : Int32) (s : t_S) (Q : (Int32 × Int32 × Int32 × t_S) ⊕ (t_S) → Prop) (Hb13 : ∀ (y0 : Int32) (y1 : Int32) (y2 : Int32) (y3 : t_S), Q (.inl (y0, y1, y2, y3)) → mj_G D cy ad bs X cX13_addValue 4 yX13_addValue.cls none yX13_addValue.name 2 0 0 1065 (t_P (fun v s' => v = none ∧ Q (.inr (s')))) 13 [(0, .ref 950), (1, .int (y0)), (2, .int (y1)), (3, .int (y2))] [] (t_m y3) 1065 0 0) (hk : t_hk (k_X13_addValue_13 l1 l2 l3 s) Q) : mj_G D cy ad bs X cX13_addValue 4 yX13_addValue.cls none yX13_addValue.name 2 0 0 1065 (t_P (fun v s' => v = none ∧ Q (.inr (s')))) 13 [(0, .ref 950), (1, .int l1), (2, .int l2), (3, .int l3)] [] (t_m s) 1065 0 0 := by
  refine mj_iload_n dX13_addValue_13 3 rfl ?_
  refine mj_iload_n dX13_addValue_14 2 rfl ?_
  refine mj_icmp_ge 36 dX13_addValue_15 (by decide) (fun z => t_posK hk z (fun hk => ?_)) (fun z => t_negK hk z (fun hk => ?_))
  · refine t_mapK hk (fun hk => ?_)
    exact t_somK hk (fun hf => t_vret dX13_addValue_36 rfl ⟨rfl, hf⟩ (Nat.le_of_ble_eq_true rfl) (Nat.le_of_ble_eq_true rfl))
  · refine mj_aload_n dX13_addValue_18 0 rfl ?_
    refine mj_aload_n dX13_addValue_19 0 rfl ?_
    refine t_getR 1006 dX13_addValue_20 F_X13_182 qr_950_95 ?_
    refine mj_iload_n dX13_addValue_23 1 rfl ?_
    refine mj_iload_n dX13_addValue_24 3 rfl ?_
    refine mj_iadd dX13_addValue_25 ?_
    refine t_chkK hk (fun c0 hk => ?_)
    refine t_lald dX13_addValue_26 qa_1006 (t_ixv c0) ?_
    refine t_bndK hk (fun r2 er2 hk => ?_)
    refine t_callVvE dX13_addValue_27 M_X13_add (C_X13_add _ _ _ er2) ML_X13_1419 IM_X13_add SE_X13_add qc_950 rfl (As := [.long (s.2.1 1006 ((l1 + l3).toNatClampNeg))]) rfl rfl (Nat.le_of_ble_eq_true rfl) (Nat.le_of_ble_eq_true rfl) (Nat.le_of_ble_eq_true rfl) (Nat.le_of_ble_eq_true rfl) ?_
    refine mj_iinc (k := 3) (v := (l3 + 1)) (lv2 := [(3, .int (l3 + 1)), (0, .ref 950), (1, .int l1), (2, .int l2)]) dX13_addValue_30 rfl rfl (by decide) rfl ?_
    refine mj_goto 13 dX13_addValue_33 (by decide) ?_
    refine mj_sublv [(0, .ref 950), (1, .int l1), (2, .int l2), (3, .int (l3 + 1))] [1, 2, 3, 0] rfl ?_
    exact t_somK hk (fun hf => Hb13 l1 l2 (l3 + 1) r2 hf)
noncomputable def b_X13_addValue_13 (x : Int32 × Int32 × Int32 × t_S) : Option ((Int32 × Int32 × Int32 × t_S) ⊕ (t_S)) := k_X13_addValue_13 x.1 x.2.1 x.2.2.1 x.2.2.2
set_option maxRecDepth 4000 in
set_option maxHeartbeats 1000000 in
theorem LH_X13_addValue_13 {D : va_G} {cy : Nat → ClassId} {ad : Nat → Nat} {bs : Nat} {X : State → Heap → Prop} : ∀ (n : Nat) (y0 : Int32) (y1 : Int32) (y2 : Int32) (y3 : t_S) (Q : t_S → Prop) (hk : t_hk (t_loop (b_X13_addValue_13) n (y0, y1, y2, y3)) Q), mj_G D cy ad bs X cX13_addValue 4 yX13_addValue.cls none yX13_addValue.name 2 0 0 1065 (t_P (fun v s' => v = none ∧ Q (s'))) 13 [(0, .ref 950), (1, .int (y0)), (2, .int (y1)), (3, .int (y2))] [] (t_m y3) 1065 0 0 := by
  intro n
  induction n with
  | zero => intro y0 y1 y2 y3 Q hk; obtain ⟨r, hr, _⟩ := hk; cases hr
  | succ n ih =>
    intro y0 y1 y2 y3 Q hk
    exact B_X13_addValue_13 y0 y1 y2 y3 (fun y => t_lq (b_X13_addValue_13) n Q y) (fun y0' y1' y2' y3' hy => ih y0' y1' y2' y3' Q hy) (t_lp hk)
noncomputable def f_X13_addValue (x1 : Int32) (s : t_S) : Option (t_S) :=
 (f_X13_endOf 1006 x1 s).bind (fun r1 =>
 t_loop (b_X13_addValue_13) t_N (x1, (r1 - x1), 0, s))
set_option maxRecDepth 4000 in
set_option maxHeartbeats 1000000 in
theorem C_X13_addValue (x1 : Int32) (s : t_S) (r : t_S) (hr : f_X13_addValue x1 s = some r) : t_C yX13_addValue cX13_addValue 4 none 2 [.ref 950, .int x1] s (fun v s' => v = none ∧ s' = r) := by
  refine t_C.imp (P := fun v s' => v = none ∧ (fun q => q = r) (s')) (t_C.of (by decide +kernel) (Nat.le_of_ble_eq_true rfl) ?_) (fun v s' hp => hp)
  intro D cy ad bs X
  have hk : t_hk (f_X13_addValue x1 s) (fun q => q = r) := ⟨r, hr, rfl⟩
  show mj_G D cy ad bs X cX13_addValue 4 yX13_addValue.cls none yX13_addValue.name 2 0 0 1065 (t_P (fun v s' => v = none ∧ (fun q => q = r) (s'))) 0 [(0, .ref 950), (1, .int x1)] [] (t_m s) 1065 0 0
  refine mj_aload_n dX13_addValue_0 0 rfl ?_
  refine t_getR 1006 dX13_addValue_1 F_X13_182 qr_950_95 ?_
  refine mj_iload_n dX13_addValue_4 1 rfl ?_
  refine t_bndK hk (fun r1 er1 hk => ?_)
  refine t_callSiP dX13_addValue_5 M_X13_endOf (C_X13_endOf _ _ _ _ er1) ML_X13_849 SM_X13_endOf (As := [.ref 1006, .int x1]) rfl rfl (Nat.le_of_ble_eq_true rfl) (Nat.le_of_ble_eq_true rfl) (Nat.le_of_ble_eq_true rfl) (Nat.le_of_ble_eq_true rfl) ?_
  refine mj_iload_n dX13_addValue_8 1 rfl ?_
  refine mj_isub dX13_addValue_9 ?_
  refine mj_istore_n 2 (lv2 := [(2, .int (r1 - x1)), (0, .ref 950), (1, .int x1)]) dX13_addValue_10 rfl (by decide) rfl ?_
  refine mj_iconst (v := 0) dX13_addValue_11 (by decide) ?_
  refine mj_istore_n 3 (lv2 := [(3, .int 0), (2, .int (r1 - x1)), (0, .ref 950), (1, .int x1)]) dX13_addValue_12 rfl (by decide) rfl ?_
  refine mj_sublv [(0, .ref 950), (1, .int x1), (2, .int (r1 - x1)), (3, .int 0)] [2, 3, 1, 0] rfl ?_
  exact LH_X13_addValue_13 _ x1 (r1 - x1) 0 s _ hk

theorem dX13_isAlike_0 : decode cX13_isAlike 0 = .ok (.aload_n 0, 1) := by decide +kernel
theorem dX13_isAlike_1 : decode cX13_isAlike 1 = .ok (.getfield 182, 3) := by decide +kernel
theorem dX13_isAlike_10 : decode cX13_isAlike 10 = .ok (.istore_n 3, 1) := by decide +kernel
theorem dX13_isAlike_11 : decode cX13_isAlike 11 = .ok (.aload_n 0, 1) := by decide +kernel
theorem dX13_isAlike_12 : decode cX13_isAlike 12 = .ok (.getfield 182, 3) := by decide +kernel
theorem dX13_isAlike_15 : decode cX13_isAlike 15 = .ok (.iload_n 2, 1) := by decide +kernel
theorem dX13_isAlike_16 : decode cX13_isAlike 16 = .ok (.invokestatic 849, 3) := by decide +kernel
theorem dX13_isAlike_19 : decode cX13_isAlike 19 = .ok (.iload_n 2, 1) := by decide +kernel
theorem dX13_isAlike_20 : decode cX13_isAlike 20 = .ok (.isub, 1) := by decide +kernel
theorem dX13_isAlike_21 : decode cX13_isAlike 21 = .ok (.iload_n 3, 1) := by decide +kernel
theorem dX13_isAlike_22 : decode cX13_isAlike 22 = .ok (.if_icmp .ne 7, 3) := by decide +kernel
theorem dX13_isAlike_25 : decode cX13_isAlike 25 = .ok (.iconst 1, 1) := by decide +kernel
theorem dX13_isAlike_26 : decode cX13_isAlike 26 = .ok (.goto 4, 3) := by decide +kernel
theorem dX13_isAlike_29 : decode cX13_isAlike 29 = .ok (.iconst 0, 1) := by decide +kernel
theorem dX13_isAlike_30 : decode cX13_isAlike 30 = .ok (.istore 4, 2) := by decide +kernel
theorem dX13_isAlike_32 : decode cX13_isAlike 32 = .ok (.iconst 0, 1) := by decide +kernel
theorem dX13_isAlike_33 : decode cX13_isAlike 33 = .ok (.istore 5, 2) := by decide +kernel
theorem dX13_isAlike_35 : decode cX13_isAlike 35 = .ok (.iload 5, 2) := by decide +kernel
theorem dX13_isAlike_37 : decode cX13_isAlike 37 = .ok (.iload_n 3, 1) := by decide +kernel
theorem dX13_isAlike_38 : decode cX13_isAlike 38 = .ok (.if_icmp .ge 43, 3) := by decide +kernel
theorem dX13_isAlike_4 : decode cX13_isAlike 4 = .ok (.iload_n 1, 1) := by decide +kernel
theorem dX13_isAlike_41 : decode cX13_isAlike 41 = .ok (.iload 4, 2) := by decide +kernel
theorem dX13_isAlike_43 : decode cX13_isAlike 43 = .ok (.ifCond .eq 38, 3) := by decide +kernel
theorem dX13_isAlike_46 : decode cX13_isAlike 46 = .ok (.aload_n 0, 1) := by decide +kernel
theorem dX13_isAlike_47 : decode cX13_isAlike 47 = .ok (.getfield 182, 3) := by decide +kernel
theorem dX13_isAlike_5 : decode cX13_isAlike 5 = .ok (.invokestatic 849, 3) := by decide +kernel
theorem dX13_isAlike_50 : decode cX13_isAlike 50 = .ok (.iload_n 1, 1) := by decide +kernel
theorem dX13_isAlike_51 : decode cX13_isAlike 51 = .ok (.iload 5, 2) := by decide +kernel
theorem dX13_isAlike_53 : decode cX13_isAlike 53 = .ok (.iadd, 1) := by decide +kernel
theorem dX13_isAlike_54 : decode cX13_isAlike 54 = .ok (.laload, 1) := by decide +kernel
theorem dX13_isAlike_55 : decode cX13_isAlike 55 = .ok (.aload_n 0, 1) := by decide +kernel
theorem dX13_isAlike_56 : decode cX13_isAlike 56 = .ok (.getfield 182, 3) := by decide +kernel
theorem dX13_isAlike_59 : decode cX13_isAlike 59 = .ok (.iload_n 2, 1) := by decide +kernel
theorem dX13_isAlike_60 : decode cX13_isAlike 60 = .ok (.iload 5, 2) := by decide +kernel
theorem dX13_isAlike_62 : decode cX13_isAlike 62 = .ok (.iadd, 1) := by decide +kernel
theorem dX13_isAlike_63 : decode cX13_isAlike 63 = .ok (.laload, 1) := by decide +kernel
theorem dX13_isAlike_64 : decode cX13_isAlike 64 = .ok (.lcmp, 1) := by decide +kernel
theorem dX13_isAlike_65 : decode cX13_isAlike 65 = .ok (.ifCond .ne 7, 3) := by decide +kernel
theorem dX13_isAlike_68 : decode cX13_isAlike 68 = .ok (.iconst 1, 1) := by decide +kernel
theorem dX13_isAlike_69 : decode cX13_isAlike 69 = .ok (.goto 4, 3) := by decide +kernel
theorem dX13_isAlike_72 : decode cX13_isAlike 72 = .ok (.iconst 0, 1) := by decide +kernel
theorem dX13_isAlike_73 : decode cX13_isAlike 73 = .ok (.istore 4, 2) := by decide +kernel
theorem dX13_isAlike_75 : decode cX13_isAlike 75 = .ok (.iinc 5 1, 3) := by decide +kernel
theorem dX13_isAlike_78 : decode cX13_isAlike 78 = .ok (.goto (-43), 3) := by decide +kernel
theorem dX13_isAlike_8 : decode cX13_isAlike 8 = .ok (.iload_n 1, 1) := by decide +kernel
theorem dX13_isAlike_81 : decode cX13_isAlike 81 = .ok (.iload 4, 2) := by decide +kernel
theorem dX13_isAlike_83 : decode cX13_isAlike 83 = .ok (.ireturn, 1) := by decide +kernel
theorem dX13_isAlike_9 : decode cX13_isAlike 9 = .ok (.isub, 1) := by decide +kernel
noncomputable def k_X13_isAlike_73 (l1 : Int32) (l2 : Int32) (l3 : Int32) (l5 : Int32) (k0 : Int32) (s : t_S) : Option ((Int32 × Int32 × Int32 × Int32 × Int32) ⊕ (Int32)) :=
 some (.inl (l1, l2, l3, k0, (l5 + 1)))
set_option maxRecDepth 4000 in
set_option maxHeartbeats 1000000 in
theorem B_X13_isAlike_73 {D : va_G} {cy : Nat → ClassId} {ad : Nat → Nat} {bs : Nat} {X : State → Heap → Prop} (l1 : Int32) (l2 : Int32) (l3 : Int32) (l5 : Int32) (k0 : Int32) (s : t_S) (Q : (Int32 × Int32 × Int32 × Int32 × Int32) ⊕ (Int32) → Prop) (Hb35 : ∀ (y0 : Int32) (y1 : Int32) (y2 : Int32) (y3 : Int32) (y4 : Int32), Q (.inl (y0, y1, y2, y3, y4)) → mj_G D cy ad bs X cX13_isAlike 6 yX13_isAlike.cls (some .boolean) yX13_isAlike.name 2 0 0 1065 (t_P (fun v s' => s' = s ∧ ∃ x, v = some (.int x) ∧ Q (.inr (x)))) 35 [(0, .ref 950), (1, .int (y0)), (2, .int (y1)), (3, .int (y2)), (4, .int (y3)), (5, .int (y4))] [] (t_m s) 1065 0 0) (hk : t_hk (k_X13_isAlike_73 l1 l2 l3 l5 k0 s) Q) : mj_G D cy ad bs X cX13_isAlike 6 yX13_isAlike.cls (some .boolean) yX13_isAlike.name 2 0 0 1065 (t_P (fun v s' => s' = s ∧ ∃ x, v = some (.int x) ∧ Q (.inr (x)))) 73 [(0, .ref 950), (1, .int l1), (2, .int l2), (3, .int l3), (5, .int l5)] [.int k0] (t_m s) 1065 0 0 := by
  refine mj_istore (lv2 := [(4, .int k0), (0, .ref 950), (1, .int l1), (2, .int l2), (3, .int l3), (5, .int l5)]) dX13_isAlike_73 (by decide) rfl ?_
  refine mj_iinc (k := 5) (v := (l5 + 1)) (lv2 := [(5, .int (l5 + 1)), (4, .int k0), (0, .ref 950), (1, .int l1), (2, .int l2), (3, .int l3)]) dX13_isAlike_75 rfl rfl (by decide) rfl ?_
  refine mj_goto 35 dX13_isAlike_78 (by decide) ?_
  refine mj_sublv [(0, .ref 950), (1, .int l1), (2, .int l2), (3, .int l3), (4, .int k0), (5, .int (l5 + 1))] [2, 3, 4, 5, 1, 0] rfl ?_
  exact t_somK hk (fun hf => Hb35 l1 l2 l3 k0 (l5 + 1) hf)
noncomputable def k_X13_isAlike_35 (l1 : Int32) (l2 : Int32) (l3 : Int32) (l4 : Int32) (l5 : Int32) (s : t_S) : Option ((Int32 × Int32 × Int32 × Int32 × Int32) ⊕ (Int32)) :=
 if l3 ≤ l5 then ((if l4 = 0 ∨ l4 = 1 then
  some (l4)
else none).map Sum.inr)
 else (if l4 = (0 : Int32) then ((if l4 = 0 ∨ l4 = 1 then
  some (l4)
else none).map Sum.inr)
 else (if t_ix (l1 + l5) 626600 = true then
  if t_ix (l2 + l5) 626600 = true then
  if (lg_cmp (s.2.1 1006 ((l1 + l5).toNatClampNeg)) (s.2.1 1006 ((l2 + l5).toNatClampNeg))) = (0 : Int32) then (k_X13_isAlike_73 l1 l2 l3 l5 1 s)
 else (k_X13_isAlike_73 l1 l2 l3 l5 0 s)
else none
else none))
set_option maxRecDepth 4000 in
set_option maxHeartbeats 1000000 in
theorem B_X13_isAlike_35 {D : va_G} {cy : Nat → ClassId} {ad : Nat → Nat} {bs : Nat} {X : State → Heap → Prop} (l1 : Int32) (l2 : Int32) (l3 : Int32) (l4 : Int32) (l5 : Int32) (s : t_S) (Q : (Int32 × Int32 × Int32 × Int32 × Int32) ⊕ (Int32) → Prop) (Hb35 : ∀ (y0 : Int32) (y1 : Int32) (y2 : Int32) (y3 : Int32) (y4 : Int32), Q (.inl (y0, y1, y2, y3, y4)) → mj_G D cy ad bs X cX13_isAlike 6 yX13_isAlike.cls (some .boolean) yX13_isAlike.name 2 0 0 1065 (t_P (fun v s' => s' = s ∧ ∃ x, v = some (.int x) ∧ Q (.inr (x)))) 35 [(0, .ref 950), (1, .int (y0)), (2, .int (y1)), (3, .int (y2)), (4, .int (y3)), (5, .int (y4))] [] (t_m s) 1065 0 0) (hk : t_hk (k_X13_isAlike_35 l1 l2 l3 l4 l5 s) Q) : mj_G D cy ad bs X cX13_isAlike 6 yX13_isAlike.cls (some .boolean) yX13_isAlike.name 2 0 0 1065 (t_P (fun v s' => s' = s ∧ ∃ x, v = some (.int x) ∧ Q (.inr (x)))) 35 [(0, .ref 950), (1, .int l1), (2, .int l2), (3, .int l3), (4, .int l4), (5, .int l5)] [] (t_m s) 1065 0 0 := by
  refine mj_iload dX13_isAlike_35 5 rfl ?_
  refine mj_iload_n dX13_isAlike_37 3 rfl ?_
  refine mj_icmp_ge 81 dX13_isAlike_38 (by decide) (fun z => t_posK hk z (fun hk => ?_)) (fun z => t_negK hk z (fun hk => ?_))
  · refine t_mapK hk (fun hk => ?_)
    refine mj_iload dX13_isAlike_81 4 rfl ?_
    refine t_chkK hk (fun c0 hk => ?_)
    exact t_somK hk (fun hf => t_iret dX13_isAlike_83 rfl (t_zfit c0) ⟨rfl, _, rfl, hf⟩ (Nat.le_of_ble_eq_true rfl) (Nat.le_of_ble_eq_true rfl))
  · refine mj_iload dX13_isAlike_41 4 rfl ?_
    refine mj_if_eq 81 dX13_isAlike_43 (by decide) (fun z => t_posK hk z (fun hk => ?_)) (fun z => t_negK hk z (fun hk => ?_))
    · refine t_mapK hk (fun hk => ?_)
      refine mj_iload dX13_isAlike_81 4 rfl ?_
      refine t_chkK hk (fun c1 hk => ?_)
      exact t_somK hk (fun hf => t_iret dX13_isAlike_83 rfl (t_zfit c1) ⟨rfl, _, rfl, hf⟩ (Nat.le_of_ble_eq_true rfl) (Nat.le_of_ble_eq_true rfl))
    · refine mj_aload_n dX13_isAlike_46 0 rfl ?_
      refine t_getR 1006 dX13_isAlike_47 F_X13_182 qr_950_95 ?_
      refine mj_iload_n dX13_isAlike_50 1 rfl ?_
      refine mj_iload dX13_isAlike_51 5 rfl ?_
      refine mj_iadd dX13_isAlike_53 ?_
      refine t_chkK hk (fun c2 hk => ?_)
      refine t_lald dX13_isAlike_54 qa_1006 (t_ixv c2) ?_
      refine mj_aload_n dX13_isAlike_55 0 rfl ?_
      refine t_getR 1006 dX13_isAlike_56 F_X13_182 qr_950_95 ?_
      refine mj_iload_n dX13_isAlike_59 2 rfl ?_
      refine mj_iload dX13_isAlike_60 5 rfl ?_
      refine mj_iadd dX13_isAlike_62 ?_
      refine t_chkK hk (fun c3 hk => ?_)
      refine t_lald dX13_isAlike_63 qa_1006 (t_ixv c3) ?_
      refine mj_lcmp dX13_isAlike_64 ?_
      refine mj_if_ne 72 dX13_isAlike_65 (by decide) (fun z => t_negK hk z (fun hk => ?_)) (fun z => t_posK hk z (fun hk => ?_))
      · refine mj_iconst (v := 0) dX13_isAlike_72 (by decide) ?_
        refine mj_sublv [(0, .ref 950), (1, .int l1), (2, .int l2), (3, .int l3), (5, .int l5)] [0, 1, 2, 3, 5] rfl ?_
        exact B_X13_isAlike_73 _ _ _ _ _ _ _ (fun y0 y1 y2 y3 y4 hx => Hb35 y0 y1 y2 y3 y4 hx) hk
      · refine mj_iconst (v := 1) dX13_isAlike_68 (by decide) ?_
        refine mj_goto 73 dX13_isAlike_69 (by decide) ?_
        refine mj_sublv [(0, .ref 950), (1, .int l1), (2, .int l2), (3, .int l3), (5, .int l5)] [0, 1, 2, 3, 5] rfl ?_
        exact B_X13_isAlike_73 _ _ _ _ _ _ _ (fun y0 y1 y2 y3 y4 hx => Hb35 y0 y1 y2 y3 y4 hx) hk
noncomputable def b_X13_isAlike_35 (s : t_S) (x : Int32 × Int32 × Int32 × Int32 × Int32) : Option ((Int32 × Int32 × Int32 × Int32 × Int32) ⊕ (Int32)) := k_X13_isAlike_35 x.1 x.2.1 x.2.2.1 x.2.2.2.1 x.2.2.2.2 s
set_option maxRecDepth 4000 in
set_option maxHeartbeats 1000000 in
theorem LH_X13_isAlike_35 {D : va_G} {cy : Nat → ClassId} {ad : Nat → Nat} {bs : Nat} {X : State → Heap → Prop} (s : t_S) : ∀ (n : Nat) (y0 : Int32) (y1 : Int32) (y2 : Int32) (y3 : Int32) (y4 : Int32) (Q : Int32 → Prop) (hk : t_hk (t_loop (b_X13_isAlike_35 s) n (y0, y1, y2, y3, y4)) Q), mj_G D cy ad bs X cX13_isAlike 6 yX13_isAlike.cls (some .boolean) yX13_isAlike.name 2 0 0 1065 (t_P (fun v s' => s' = s ∧ ∃ x, v = some (.int x) ∧ Q (x))) 35 [(0, .ref 950), (1, .int (y0)), (2, .int (y1)), (3, .int (y2)), (4, .int (y3)), (5, .int (y4))] [] (t_m s) 1065 0 0 := by
  intro n
  induction n with
  | zero => intro y0 y1 y2 y3 y4 Q hk; obtain ⟨r, hr, _⟩ := hk; cases hr
  | succ n ih =>
    intro y0 y1 y2 y3 y4 Q hk
    exact B_X13_isAlike_35 y0 y1 y2 y3 y4 s (fun y => t_lq (b_X13_isAlike_35 s) n Q y) (fun y0' y1' y2' y3' y4' hy => ih y0' y1' y2' y3' y4' Q hy) (t_lp hk)
noncomputable def k_X13_isAlike_30 (l1 : Int32) (l2 : Int32) (l3 : Int32) (k0 : Int32) (s : t_S) : Option (Int32) :=
 t_loop (b_X13_isAlike_35 s) t_N (l1, l2, l3, k0, 0)
set_option maxRecDepth 4000 in
set_option maxHeartbeats 1000000 in
theorem B_X13_isAlike_30 {D : va_G} {cy : Nat → ClassId} {ad : Nat → Nat} {bs : Nat} {X : State → Heap → Prop} (l1 : Int32) (l2 : Int32) (l3 : Int32) (k0 : Int32) (s : t_S) (Q : Int32 → Prop) (hk : t_hk (k_X13_isAlike_30 l1 l2 l3 k0 s) Q) : mj_G D cy ad bs X cX13_isAlike 6 yX13_isAlike.cls (some .boolean) yX13_isAlike.name 2 0 0 1065 (t_P (fun v s' => s' = s ∧ ∃ x, v = some (.int x) ∧ Q (x))) 30 [(0, .ref 950), (1, .int l1), (2, .int l2), (3, .int l3)] [.int k0] (t_m s) 1065 0 0 := by
  refine mj_istore (lv2 := [(4, .int k0), (0, .ref 950), (1, .int l1), (2, .int l2), (3, .int l3)]) dX13_isAlike_30 (by decide) rfl ?_
  refine mj_iconst (v := 0) dX13_isAlike_32 (by decide) ?_
  refine mj_istore (lv2 := [(5, .int 0), (4, .int k0), (0, .ref 950), (1, .int l1), (2, .int l2), (3, .int l3)]) dX13_isAlike_33 (by decide) rfl ?_
  refine mj_sublv [(0, .ref 950), (1, .int l1), (2, .int l2), (3, .int l3), (4, .int k0), (5, .int 0)] [2, 3, 4, 5, 1, 0] rfl ?_
  exact LH_X13_isAlike_35 _ _ l1 l2 l3 k0 0 _ hk
noncomputable def f_X13_isAlike (x1 : Int32) (x2 : Int32) (s : t_S) : Option (Int32) :=
 (f_X13_endOf 1006 x1 s).bind (fun r1 =>
 (f_X13_endOf 1006 x2 s).bind (fun r2 =>
 if (r2 - x2) = (r1 - x1) then (k_X13_isAlike_30 x1 x2 (r1 - x1) 1 s)
 else (k_X13_isAlike_30 x1 x2 (r1 - x1) 0 s)))
set_option maxRecDepth 4000 in
set_option maxHeartbeats 1000000 in
theorem C_X13_isAlike (x1 : Int32) (x2 : Int32) (s : t_S) (r : Int32) (hr : f_X13_isAlike x1 x2 s = some r) : t_C yX13_isAlike cX13_isAlike 6 (some .boolean) 2 [.ref 950, .int x1, .int x2] s (fun v s' => v = some (.int r) ∧ s' = s) := by
  refine t_C.imp (P := fun v s' => s' = s ∧ ∃ x, v = some (.int x) ∧ (fun q => q = r) (x)) (t_C.of (by decide +kernel) (Nat.le_of_ble_eq_true rfl) ?_) (fun v s' hp => by obtain ⟨rfl, x, rfl, rfl⟩ := hp; exact ⟨rfl, rfl⟩)
  intro D cy ad bs X
  have hk : t_hk (f_X13_isAlike x1 x2 s) (fun q => q = r) := ⟨r, hr, rfl⟩
  show mj_G D cy ad bs X cX13_isAlike 6 yX13_isAlike.cls (some .boolean) yX13_isAlike.name 2 0 0 1065 (t_P (fun v s' => s' = s ∧ ∃ x, v = some (.int x) ∧ (fun q => q = r) (x))) 0 [(0, .ref 950), (1, .int x1), (2, .int x2)] [] (t_m s) 1065 0 0
  refine mj_aload_n dX13_isAlike_0 0 rfl ?_
  refine t_getR 1006 dX13_isAlike_1 F_X13_182 qr_950_95 ?_
  refine mj_iload_n dX13_isAlike_4 1 rfl ?_
  refine t_bndK hk (fun r1 er1 hk => ?_)
  refine t_callSiP dX13_isAlike_5 M_X13_endOf (C_X13_endOf _ _ _ _ er1) ML_X13_849 SM_X13_endOf (As := [.ref 1006, .int x1]) rfl rfl (Nat.le_of_ble_eq_true rfl) (Nat.le_of_ble_eq_true rfl) (Nat.le_of_ble_eq_true rfl) (Nat.le_of_ble_eq_true rfl) ?_
  refine mj_iload_n dX13_isAlike_8 1 rfl ?_
  refine mj_isub dX13_isAlike_9 ?_
  refine mj_istore_n 3 (lv2 := [(3, .int (r1 - x1)), (0, .ref 950), (1, .int x1), (2, .int x2)]) dX13_isAlike_10 rfl (by decide) rfl ?_
  refine mj_aload_n dX13_isAlike_11 1 rfl ?_
  refine t_getR 1006 dX13_isAlike_12 F_X13_182 qr_950_95 ?_
  refine mj_iload_n dX13_isAlike_15 3 rfl ?_
  refine t_bndK hk (fun r2 er2 hk => ?_)
  refine t_callSiP dX13_isAlike_16 M_X13_endOf (C_X13_endOf _ _ _ _ er2) ML_X13_849 SM_X13_endOf (As := [.ref 1006, .int x2]) rfl rfl (Nat.le_of_ble_eq_true rfl) (Nat.le_of_ble_eq_true rfl) (Nat.le_of_ble_eq_true rfl) (Nat.le_of_ble_eq_true rfl) ?_
  refine mj_iload_n dX13_isAlike_19 3 rfl ?_
  refine mj_isub dX13_isAlike_20 ?_
  refine mj_iload_n dX13_isAlike_21 0 rfl ?_
  refine mj_icmp_ne 29 dX13_isAlike_22 (by decide) (fun z => t_negK hk z (fun hk => ?_)) (fun z => t_posK hk z (fun hk => ?_))
  · refine mj_iconst (v := 0) dX13_isAlike_29 (by decide) ?_
    refine mj_sublv [(0, .ref 950), (1, .int x1), (2, .int x2), (3, .int (r1 - x1))] [1, 2, 3, 0] rfl ?_
    exact B_X13_isAlike_30 _ _ _ _ _ _ hk
  · refine mj_iconst (v := 1) dX13_isAlike_25 (by decide) ?_
    refine mj_goto 30 dX13_isAlike_26 (by decide) ?_
    refine mj_sublv [(0, .ref 950), (1, .int x1), (2, .int x2), (3, .int (r1 - x1))] [1, 2, 3, 0] rfl ?_
    exact B_X13_isAlike_30 _ _ _ _ _ _ hk

theorem dX13_alike_0 : decode cX13_alike 0 = .ok (.aload_n 0, 1) := by decide +kernel
theorem dX13_alike_1 : decode cX13_alike 1 = .ok (.iload_n 1, 1) := by decide +kernel
theorem dX13_alike_10 : decode cX13_alike 10 = .ok (.invokevirtual 1002, 3) := by decide +kernel
theorem dX13_alike_13 : decode cX13_alike 13 = .ok (.ifCond .eq 7, 3) := by decide +kernel
theorem dX13_alike_16 : decode cX13_alike 16 = .ok (.iconst (-1), 1) := by decide +kernel
theorem dX13_alike_17 : decode cX13_alike 17 = .ok (.goto 29, 3) := by decide +kernel
theorem dX13_alike_2 : decode cX13_alike 2 = .ok (.invokevirtual 1002, 3) := by decide +kernel
theorem dX13_alike_20 : decode cX13_alike 20 = .ok (.aload_n 0, 1) := by decide +kernel
theorem dX13_alike_21 : decode cX13_alike 21 = .ok (.sipush 260, 3) := by decide +kernel
theorem dX13_alike_24 : decode cX13_alike 24 = .ok (.iconst 0, 1) := by decide +kernel
theorem dX13_alike_25 : decode cX13_alike 25 = .ok (.iload_n 1, 1) := by decide +kernel
theorem dX13_alike_26 : decode cX13_alike 26 = .ok (.iadd, 1) := by decide +kernel
theorem dX13_alike_27 : decode cX13_alike 27 = .ok (.imul, 1) := by decide +kernel
theorem dX13_alike_28 : decode cX13_alike 28 = .ok (.sipush 260, 3) := by decide +kernel
theorem dX13_alike_31 : decode cX13_alike 31 = .ok (.iconst 0, 1) := by decide +kernel
theorem dX13_alike_32 : decode cX13_alike 32 = .ok (.iload_n 2, 1) := by decide +kernel
theorem dX13_alike_33 : decode cX13_alike 33 = .ok (.iadd, 1) := by decide +kernel
theorem dX13_alike_34 : decode cX13_alike 34 = .ok (.imul, 1) := by decide +kernel
theorem dX13_alike_35 : decode cX13_alike 35 = .ok (.invokevirtual 980, 3) := by decide +kernel
theorem dX13_alike_38 : decode cX13_alike 38 = .ok (.ifCond .eq 7, 3) := by decide +kernel
theorem dX13_alike_41 : decode cX13_alike 41 = .ok (.iconst 1, 1) := by decide +kernel
theorem dX13_alike_42 : decode cX13_alike 42 = .ok (.goto 4, 3) := by decide +kernel
theorem dX13_alike_45 : decode cX13_alike 45 = .ok (.iconst 0, 1) := by decide +kernel
theorem dX13_alike_46 : decode cX13_alike 46 = .ok (.ireturn, 1) := by decide +kernel
theorem dX13_alike_5 : decode cX13_alike 5 = .ok (.ifCond .ne 11, 3) := by decide +kernel
theorem dX13_alike_8 : decode cX13_alike 8 = .ok (.aload_n 0, 1) := by decide +kernel
theorem dX13_alike_9 : decode cX13_alike 9 = .ok (.iload_n 2, 1) := by decide +kernel
noncomputable def k_X13_alike_16 (s : t_S) : Option (Int32) :=
 some (-1 : Int32)
set_option maxRecDepth 4000 in
set_option maxHeartbeats 1000000 in
theorem B_X13_alike_16 {D : va_G} {cy : Nat → ClassId} {ad : Nat → Nat} {bs : Nat} {X : State → Heap → Prop} (s : t_S) (Q : Int32 → Prop) (hk : t_hk (k_X13_alike_16 s) Q) : mj_G D cy ad bs X cX13_alike 3 yX13_alike.cls (some .int) yX13_alike.name 3 0 0 1065 (t_P (fun v s' => s' = s ∧ ∃ x, v = some (.int x) ∧ Q (x))) 16 [] [] (t_m s) 1065 0 0 := by
  refine mj_iconst (v := (-1)) dX13_alike_16 (by decide) ?_
  refine mj_goto 46 dX13_alike_17 (by decide) ?_
  exact t_somK hk (fun hf => t_iret dX13_alike_46 rfl rfl ⟨rfl, _, rfl, hf⟩ (Nat.le_of_ble_eq_true rfl) (Nat.le_of_ble_eq_true rfl))
noncomputable def f_X13_alike (x1 : Int32) (x2 : Int32) (s : t_S) : Option (Int32) :=
 if (f_X13_noValue x1 s) = (0 : Int32) then (if (f_X13_noValue x2 s) = (0 : Int32) then ((f_X13_isAlike ((260 : Int32) * ((0 : Int32) + x1)) ((260 : Int32) * ((0 : Int32) + x2)) s).bind (fun r3 =>
 if r3 = (0 : Int32) then (some (0 : Int32))
 else (some (1 : Int32))))
 else (k_X13_alike_16 s))
 else (k_X13_alike_16 s)
set_option maxRecDepth 4000 in
set_option maxHeartbeats 1000000 in
theorem C_X13_alike (x1 : Int32) (x2 : Int32) (s : t_S) (r : Int32) (hr : f_X13_alike x1 x2 s = some r) : t_C yX13_alike cX13_alike 3 (some .int) 3 [.ref 950, .int x1, .int x2] s (fun v s' => v = some (.int r) ∧ s' = s) := by
  refine t_C.imp (P := fun v s' => s' = s ∧ ∃ x, v = some (.int x) ∧ (fun q => q = r) (x)) (t_C.of (by decide +kernel) (Nat.le_of_ble_eq_true rfl) ?_) (fun v s' hp => by obtain ⟨rfl, x, rfl, rfl⟩ := hp; exact ⟨rfl, rfl⟩)
  intro D cy ad bs X
  have hk : t_hk (f_X13_alike x1 x2 s) (fun q => q = r) := ⟨r, hr, rfl⟩
  show mj_G D cy ad bs X cX13_alike 3 yX13_alike.cls (some .int) yX13_alike.name 3 0 0 1065 (t_P (fun v s' => s' = s ∧ ∃ x, v = some (.int x) ∧ (fun q => q = r) (x))) 0 [(0, .ref 950), (1, .int x1), (2, .int x2)] [] (t_m s) 1065 0 0
  refine mj_aload_n dX13_alike_0 0 rfl ?_
  refine mj_iload_n dX13_alike_1 1 rfl ?_
  refine t_callViP dX13_alike_2 M_X13_noValue (C_X13_noValue _ _) ML_X13_1002 IM_X13_noValue SE_X13_noValue qc_950 rfl (As := [.int x1]) rfl rfl (Nat.le_of_ble_eq_true rfl) (Nat.le_of_ble_eq_true rfl) (Nat.le_of_ble_eq_true rfl) (Nat.le_of_ble_eq_true rfl) ?_
  refine mj_if_ne 16 dX13_alike_5 (by decide) (fun z => t_negK hk z (fun hk => ?_)) (fun z => t_posK hk z (fun hk => ?_))
  · refine mj_sublv [] [] rfl ?_
    exact B_X13_alike_16 _ _ hk
  · refine mj_aload_n dX13_alike_8 0 rfl ?_
    refine mj_iload_n dX13_alike_9 2 rfl ?_
    refine t_callViP dX13_alike_10 M_X13_noValue (C_X13_noValue _ _) ML_X13_1002 IM_X13_noValue SE_X13_noValue qc_950 rfl (As := [.int x2]) rfl rfl (Nat.le_of_ble_eq_true rfl) (Nat.le_of_ble_eq_true rfl) (Nat.le_of_ble_eq_true rfl) (Nat.le_of_ble_eq_true rfl) ?_
    refine mj_if_eq 20 dX13_alike_13 (by decide) (fun z => t_posK hk z (fun hk => ?_)) (fun z => t_negK hk z (fun hk => ?_))
    · refine mj_aload_n dX13_alike_20 0 rfl ?_
      refine mj_sipush (v := 260) dX13_alike_21 (by decide) ?_
      refine mj_iconst (v := 0) dX13_alike_24 (by decide) ?_
      refine mj_iload_n dX13_alike_25 1 rfl ?_
      refine mj_iadd dX13_alike_26 ?_
      refine mj_imul dX13_alike_27 ?_
      refine mj_sipush (v := 260) dX13_alike_28 (by decide) ?_
      refine mj_iconst (v := 0) dX13_alike_31 (by decide) ?_
      refine mj_iload_n dX13_alike_32 2 rfl ?_
      refine mj_iadd dX13_alike_33 ?_
      refine mj_imul dX13_alike_34 ?_
      refine t_bndK hk (fun r3 er3 hk => ?_)
      refine t_callViP dX13_alike_35 M_X13_isAlike (C_X13_isAlike _ _ _ _ er3) ML_X13_980 IM_X13_isAlike SE_X13_isAlike qc_950 rfl (As := [.int ((260 : Int32) * ((0 : Int32) + x1)), .int ((260 : Int32) * ((0 : Int32) + x2))]) rfl rfl (Nat.le_of_ble_eq_true rfl) (Nat.le_of_ble_eq_true rfl) (Nat.le_of_ble_eq_true rfl) (Nat.le_of_ble_eq_true rfl) ?_
      refine mj_if_eq 45 dX13_alike_38 (by decide) (fun z => t_posK hk z (fun hk => ?_)) (fun z => t_negK hk z (fun hk => ?_))
      · refine mj_iconst (v := 0) dX13_alike_45 (by decide) ?_
        exact t_somK hk (fun hf => t_iret dX13_alike_46 rfl rfl ⟨rfl, _, rfl, hf⟩ (Nat.le_of_ble_eq_true rfl) (Nat.le_of_ble_eq_true rfl))
      · refine mj_iconst (v := 1) dX13_alike_41 (by decide) ?_
        refine mj_goto 46 dX13_alike_42 (by decide) ?_
        exact t_somK hk (fun hf => t_iret dX13_alike_46 rfl rfl ⟨rfl, _, rfl, hf⟩ (Nat.le_of_ble_eq_true rfl) (Nat.le_of_ble_eq_true rfl))
    · refine mj_sublv [] [] rfl ?_
      exact B_X13_alike_16 _ _ hk

theorem dX13_frameSlot_0 : decode cX13_frameSlot 0 = .ok (.sipush 904, 3) := by decide +kernel
theorem dX13_frameSlot_10 : decode cX13_frameSlot 10 = .ok (.iload_n 2, 1) := by decide +kernel
theorem dX13_frameSlot_11 : decode cX13_frameSlot 11 = .ok (.imul, 1) := by decide +kernel
theorem dX13_frameSlot_12 : decode cX13_frameSlot 12 = .ok (.iadd, 1) := by decide +kernel
theorem dX13_frameSlot_13 : decode cX13_frameSlot 13 = .ok (.ireturn, 1) := by decide +kernel
theorem dX13_frameSlot_3 : decode cX13_frameSlot 3 = .ok (.bipush 64, 2) := by decide +kernel
theorem dX13_frameSlot_5 : decode cX13_frameSlot 5 = .ok (.iload_n 1, 1) := by decide +kernel
theorem dX13_frameSlot_6 : decode cX13_frameSlot 6 = .ok (.imul, 1) := by decide +kernel
theorem dX13_frameSlot_7 : decode cX13_frameSlot 7 = .ok (.iadd, 1) := by decide +kernel
theorem dX13_frameSlot_8 : decode cX13_frameSlot 8 = .ok (.bipush 8, 2) := by decide +kernel
noncomputable def f_X13_frameSlot (x1 : Int32) (x2 : Int32) (s : t_S) : Int32 :=
 (((904 : Int32) + ((64 : Int32) * x1)) + ((8 : Int32) * x2))
set_option maxRecDepth 4000 in
set_option maxHeartbeats 1000000 in
theorem C_X13_frameSlot (x1 : Int32) (x2 : Int32) (s : t_S) : t_C yX13_frameSlot cX13_frameSlot 3 (some .int) 0 [.ref 950, .int x1, .int x2] s (fun v s' => v = some (.int (f_X13_frameSlot x1 x2 s)) ∧ s' = s) := by
  refine t_C.imp (P := fun v s' => s' = s ∧ ∃ x, v = some (.int x) ∧ (fun r => r = f_X13_frameSlot x1 x2 s) (x)) (t_C.of (by decide +kernel) (Nat.le_of_ble_eq_true rfl) ?_) (fun v s' hp => by obtain ⟨rfl, x, rfl, rfl⟩ := hp; exact ⟨rfl, rfl⟩)
  intro D cy ad bs X
  have hk : t_ht (f_X13_frameSlot x1 x2 s) (fun r => r = f_X13_frameSlot x1 x2 s) := rfl
  show mj_G D cy ad bs X cX13_frameSlot 3 yX13_frameSlot.cls (some .int) yX13_frameSlot.name 0 0 0 1065 (t_P (fun v s' => s' = s ∧ ∃ x, v = some (.int x) ∧ (fun r => r = f_X13_frameSlot x1 x2 s) (x))) 0 [(0, .ref 950), (1, .int x1), (2, .int x2)] [] (t_m s) 1065 0 0
  refine mj_sipush (v := 904) dX13_frameSlot_0 (by decide) ?_
  refine mj_bipush (v := 64) dX13_frameSlot_3 (by decide) ?_
  refine mj_iload_n dX13_frameSlot_5 1 rfl ?_
  refine mj_imul dX13_frameSlot_6 ?_
  refine mj_iadd dX13_frameSlot_7 ?_
  refine mj_bipush (v := 8) dX13_frameSlot_8 (by decide) ?_
  refine mj_iload_n dX13_frameSlot_10 2 rfl ?_
  refine mj_imul dX13_frameSlot_11 ?_
  refine mj_iadd dX13_frameSlot_12 ?_
  exact t_iret dX13_frameSlot_13 rfl rfl ⟨rfl, _, rfl, hk⟩ (Nat.le_of_ble_eq_true rfl) (Nat.le_of_ble_eq_true rfl)

theorem dX13_error_0 : decode cX13_error 0 = .ok (.aload_n 0, 1) := by decide +kernel
theorem dX13_error_1 : decode cX13_error 1 = .ok (.getfield 842, 3) := by decide +kernel
theorem dX13_error_12 : decode cX13_error 12 = .ok (.return_, 1) := by decide +kernel
theorem dX13_error_4 : decode cX13_error 4 = .ok (.ifCond .ne 8, 3) := by decide +kernel
theorem dX13_error_7 : decode cX13_error 7 = .ok (.aload_n 0, 1) := by decide +kernel
theorem dX13_error_8 : decode cX13_error 8 = .ok (.iload_n 1, 1) := by decide +kernel
theorem dX13_error_9 : decode cX13_error 9 = .ok (.putfield 842, 3) := by decide +kernel
noncomputable def f_X13_error (x1 : Int32) (s : t_S) : Option (t_S) :=
 if (s.1 950 97) = (0 : Int32) then (t_let (t_setI s 950 97 x1) (fun s1 =>
 some (s1)))
 else (some (s))
set_option maxRecDepth 4000 in
set_option maxHeartbeats 1000000 in
theorem C_X13_error (x1 : Int32) (s : t_S) (r : t_S) (hr : f_X13_error x1 s = some r) : t_C yX13_error cX13_error 2 none 0 [.ref 950, .int x1] s (fun v s' => v = none ∧ s' = r) := by
  refine t_C.imp (P := fun v s' => v = none ∧ (fun q => q = r) (s')) (t_C.of (by decide +kernel) (Nat.le_of_ble_eq_true rfl) ?_) (fun v s' hp => hp)
  intro D cy ad bs X
  have hk : t_hk (f_X13_error x1 s) (fun q => q = r) := ⟨r, hr, rfl⟩
  show mj_G D cy ad bs X cX13_error 2 yX13_error.cls none yX13_error.name 0 0 0 1065 (t_P (fun v s' => v = none ∧ (fun q => q = r) (s'))) 0 [(0, .ref 950), (1, .int x1)] [] (t_m s) 1065 0 0
  refine mj_aload_n dX13_error_0 0 rfl ?_
  refine t_getI dX13_error_1 F_X13_842 qf_950_97 ?_
  refine mj_if_ne 12 dX13_error_4 (by decide) (fun z => t_negK hk z (fun hk => ?_)) (fun z => t_posK hk z (fun hk => ?_))
  · exact t_somK hk (fun hf => t_vret dX13_error_12 rfl ⟨rfl, hf⟩ (Nat.le_of_ble_eq_true rfl) (Nat.le_of_ble_eq_true rfl))
  · refine mj_aload_n dX13_error_7 0 rfl ?_
    refine mj_iload_n dX13_error_8 1 rfl ?_
    refine t_putIK dX13_error_9 F_X13_842 qf_950_97 rfl (fun s1 ws1 => t_letE hk ws1 (fun hk => ?_))
    exact t_somK hk (fun hf => t_vret dX13_error_12 rfl ⟨rfl, hf⟩ (Nat.le_of_ble_eq_true rfl) (Nat.le_of_ble_eq_true rfl))

theorem dX13_copy_0 : decode cX13_copy 0 = .ok (.aload_n 0, 1) := by decide +kernel
theorem dX13_copy_1 : decode cX13_copy 1 = .ok (.getfield 182, 3) := by decide +kernel
theorem dX13_copy_10 : decode cX13_copy 10 = .ok (.istore_n 3, 1) := by decide +kernel
theorem dX13_copy_11 : decode cX13_copy 11 = .ok (.iconst 0, 1) := by decide +kernel
theorem dX13_copy_12 : decode cX13_copy 12 = .ok (.istore 4, 2) := by decide +kernel
theorem dX13_copy_14 : decode cX13_copy 14 = .ok (.iload 4, 2) := by decide +kernel
theorem dX13_copy_16 : decode cX13_copy 16 = .ok (.iload_n 3, 1) := by decide +kernel
theorem dX13_copy_17 : decode cX13_copy 17 = .ok (.if_icmp .ge 31, 3) := by decide +kernel
theorem dX13_copy_20 : decode cX13_copy 20 = .ok (.aload_n 0, 1) := by decide +kernel
theorem dX13_copy_21 : decode cX13_copy 21 = .ok (.getfield 182, 3) := by decide +kernel
theorem dX13_copy_24 : decode cX13_copy 24 = .ok (.sipush 260, 3) := by decide +kernel
theorem dX13_copy_27 : decode cX13_copy 27 = .ok (.iload_n 2, 1) := by decide +kernel
theorem dX13_copy_28 : decode cX13_copy 28 = .ok (.imul, 1) := by decide +kernel
theorem dX13_copy_29 : decode cX13_copy 29 = .ok (.iload 4, 2) := by decide +kernel
theorem dX13_copy_31 : decode cX13_copy 31 = .ok (.iadd, 1) := by decide +kernel
theorem dX13_copy_32 : decode cX13_copy 32 = .ok (.aload_n 0, 1) := by decide +kernel
theorem dX13_copy_33 : decode cX13_copy 33 = .ok (.getfield 182, 3) := by decide +kernel
theorem dX13_copy_36 : decode cX13_copy 36 = .ok (.iload_n 1, 1) := by decide +kernel
theorem dX13_copy_37 : decode cX13_copy 37 = .ok (.iload 4, 2) := by decide +kernel
theorem dX13_copy_39 : decode cX13_copy 39 = .ok (.iadd, 1) := by decide +kernel
theorem dX13_copy_4 : decode cX13_copy 4 = .ok (.iload_n 1, 1) := by decide +kernel
theorem dX13_copy_40 : decode cX13_copy 40 = .ok (.laload, 1) := by decide +kernel
theorem dX13_copy_41 : decode cX13_copy 41 = .ok (.lastore, 1) := by decide +kernel
theorem dX13_copy_42 : decode cX13_copy 42 = .ok (.iinc 4 1, 3) := by decide +kernel
theorem dX13_copy_45 : decode cX13_copy 45 = .ok (.goto (-31), 3) := by decide +kernel
theorem dX13_copy_48 : decode cX13_copy 48 = .ok (.return_, 1) := by decide +kernel
theorem dX13_copy_5 : decode cX13_copy 5 = .ok (.invokestatic 849, 3) := by decide +kernel
theorem dX13_copy_8 : decode cX13_copy 8 = .ok (.iload_n 1, 1) := by decide +kernel
theorem dX13_copy_9 : decode cX13_copy 9 = .ok (.isub, 1) := by decide +kernel
noncomputable def k_X13_copy_14 (l1 : Int32) (l2 : Int32) (l3 : Int32) (l4 : Int32) (s : t_S) : Option ((Int32 × Int32 × Int32 × Int32 × t_S) ⊕ (t_S)) :=
 if l3 ≤ l4 then ((some (s)).map Sum.inr)
 else (if t_ix (l1 + l4) 626600 = true then
  if t_ix (((260 : Int32) * l2) + l4) 626600 = true then
  t_let (t_setJ s 1006 ((((260 : Int32) * l2) + l4).toNatClampNeg) (s.2.1 1006 ((l1 + l4).toNatClampNeg))) (fun s1 =>
 some (.inl (l1, l2, l3, (l4 + 1), s1)))
else none
else none)
set_option maxRecDepth 4000 in
set_option maxHeartbeats 1000000 in
theorem B_X13_copy_14 {D : va_G} {cy : Nat → ClassId} {ad : Nat → Nat} {bs : Nat} {X : State → Heap → Prop} (l1 : Int32) (l2 : Int32) (l3 : Int32) (l4 : Int32) (s : t_S) (Q : (Int32 × Int32 × Int32 × Int32 × t_S) ⊕ (t_S) → Prop) (Hb14 : ∀ (y0 : Int32) (y1 : Int32) (y2 : Int32) (y3 : Int32) (y4 : t_S), Q (.inl (y0, y1, y2, y3, y4)) → mj_G D cy ad bs X cX13_copy 5 yX13_copy.cls none yX13_copy.name 2 0 0 1065 (t_P (fun v s' => v = none ∧ Q (.inr (s')))) 14 [(0, .ref 950), (1, .int (y0)), (2, .int (y1)), (3, .int (y2)), (4, .int (y3))] [] (t_m y4) 1065 0 0) (hk : t_hk (k_X13_copy_14 l1 l2 l3 l4 s) Q) : mj_G D cy ad bs X cX13_copy 5 yX13_copy.cls none yX13_copy.name 2 0 0 1065 (t_P (fun v s' => v = none ∧ Q (.inr (s')))) 14 [(0, .ref 950), (1, .int l1), (2, .int l2), (3, .int l3), (4, .int l4)] [] (t_m s) 1065 0 0 := by
  refine mj_iload dX13_copy_14 4 rfl ?_
  refine mj_iload_n dX13_copy_16 3 rfl ?_
  refine mj_icmp_ge 48 dX13_copy_17 (by decide) (fun z => t_posK hk z (fun hk => ?_)) (fun z => t_negK hk z (fun hk => ?_))
  · refine t_mapK hk (fun hk => ?_)
    exact t_somK hk (fun hf => t_vret dX13_copy_48 rfl ⟨rfl, hf⟩ (Nat.le_of_ble_eq_true rfl) (Nat.le_of_ble_eq_true rfl))
  · refine mj_aload_n dX13_copy_20 0 rfl ?_
    refine t_getR 1006 dX13_copy_21 F_X13_182 qr_950_95 ?_
    refine mj_sipush (v := 260) dX13_copy_24 (by decide) ?_
    refine mj_iload_n dX13_copy_27 2 rfl ?_
    refine mj_imul dX13_copy_28 ?_
    refine mj_iload dX13_copy_29 4 rfl ?_
    refine mj_iadd dX13_copy_31 ?_
    refine mj_aload_n dX13_copy_32 0 rfl ?_
    refine t_getR 1006 dX13_copy_33 F_X13_182 qr_950_95 ?_
    refine mj_iload_n dX13_copy_36 1 rfl ?_
    refine mj_iload dX13_copy_37 4 rfl ?_
    refine mj_iadd dX13_copy_39 ?_
    refine t_chkK hk (fun c0 hk => ?_)
    refine t_lald dX13_copy_40 qa_1006 (t_ixv c0) ?_
    refine t_chkK hk (fun c1 hk => ?_)
    refine t_lastK dX13_copy_41 qa_1006 (t_ixv c1) (fun s1 ws1 => t_letE hk ws1 (fun hk => ?_))
    refine mj_iinc (k := 4) (v := (l4 + 1)) (lv2 := [(4, .int (l4 + 1)), (0, .ref 950), (1, .int l1), (2, .int l2), (3, .int l3)]) dX13_copy_42 rfl rfl (by decide) rfl ?_
    refine mj_goto 14 dX13_copy_45 (by decide) ?_
    refine mj_sublv [(0, .ref 950), (1, .int l1), (2, .int l2), (3, .int l3), (4, .int (l4 + 1))] [1, 2, 3, 4, 0] rfl ?_
    exact t_somK hk (fun hf => Hb14 l1 l2 l3 (l4 + 1) s1 hf)
noncomputable def b_X13_copy_14 (x : Int32 × Int32 × Int32 × Int32 × t_S) : Option ((Int32 × Int32 × Int32 × Int32 × t_S) ⊕ (t_S)) := k_X13_copy_14 x.1 x.2.1 x.2.2.1 x.2.2.2.1 x.2.2.2.2
set_option maxRecDepth 4000 in
set_option maxHeartbeats 1000000 in
theorem LH_X13_copy_14 {D : va_G} {cy : Nat → ClassId} {ad : Nat → Nat} {bs : Nat} {X : State → Heap → Prop} : ∀ (n : Nat) (y0 : Int32) (y1 : Int32) (y2 : Int32) (y3 : Int32) (y4 : t_S) (Q : t_S → Prop) (hk : t_hk (t_loop (b_X13_copy_14) n (y0, y1, y2, y3, y4)) Q), mj_G D cy ad bs X cX13_copy 5 yX13_copy.cls none yX13_copy.name 2 0 0 1065 (t_P (fun v s' => v = none ∧ Q (s'))) 14 [(0, .ref 950), (1, .int (y0)), (2, .int (y1)), (3, .int (y2)), (4, .int (y3))] [] (t_m y4) 1065 0 0 := by
  intro n
  induction n with
  | zero => intro y0 y1 y2 y3 y4 Q hk; obtain ⟨r, hr, _⟩ := hk; cases hr
  | succ n ih =>
    intro y0 y1 y2 y3 y4 Q hk
    exact B_X13_copy_14 y0 y1 y2 y3 y4 (fun y => t_lq (b_X13_copy_14) n Q y) (fun y0' y1' y2' y3' y4' hy => ih y0' y1' y2' y3' y4' Q hy) (t_lp hk)
noncomputable def f_X13_copy (x1 : Int32) (x2 : Int32) (s : t_S) : Option (t_S) :=
 (f_X13_endOf 1006 x1 s).bind (fun r1 =>
 t_loop (b_X13_copy_14) t_N (x1, x2, (r1 - x1), 0, s))
set_option maxRecDepth 4000 in
set_option maxHeartbeats 1000000 in
theorem C_X13_copy (x1 : Int32) (x2 : Int32) (s : t_S) (r : t_S) (hr : f_X13_copy x1 x2 s = some r) : t_C yX13_copy cX13_copy 5 none 2 [.ref 950, .int x1, .int x2] s (fun v s' => v = none ∧ s' = r) := by
  refine t_C.imp (P := fun v s' => v = none ∧ (fun q => q = r) (s')) (t_C.of (by decide +kernel) (Nat.le_of_ble_eq_true rfl) ?_) (fun v s' hp => hp)
  intro D cy ad bs X
  have hk : t_hk (f_X13_copy x1 x2 s) (fun q => q = r) := ⟨r, hr, rfl⟩
  show mj_G D cy ad bs X cX13_copy 5 yX13_copy.cls none yX13_copy.name 2 0 0 1065 (t_P (fun v s' => v = none ∧ (fun q => q = r) (s'))) 0 [(0, .ref 950), (1, .int x1), (2, .int x2)] [] (t_m s) 1065 0 0
  refine mj_aload_n dX13_copy_0 0 rfl ?_
  refine t_getR 1006 dX13_copy_1 F_X13_182 qr_950_95 ?_
  refine mj_iload_n dX13_copy_4 1 rfl ?_
  refine t_bndK hk (fun r1 er1 hk => ?_)
  refine t_callSiP dX13_copy_5 M_X13_endOf (C_X13_endOf _ _ _ _ er1) ML_X13_849 SM_X13_endOf (As := [.ref 1006, .int x1]) rfl rfl (Nat.le_of_ble_eq_true rfl) (Nat.le_of_ble_eq_true rfl) (Nat.le_of_ble_eq_true rfl) (Nat.le_of_ble_eq_true rfl) ?_
  refine mj_iload_n dX13_copy_8 1 rfl ?_
  refine mj_isub dX13_copy_9 ?_
  refine mj_istore_n 3 (lv2 := [(3, .int (r1 - x1)), (0, .ref 950), (1, .int x1), (2, .int x2)]) dX13_copy_10 rfl (by decide) rfl ?_
  refine mj_iconst (v := 0) dX13_copy_11 (by decide) ?_
  refine mj_istore (lv2 := [(4, .int 0), (3, .int (r1 - x1)), (0, .ref 950), (1, .int x1), (2, .int x2)]) dX13_copy_12 (by decide) rfl ?_
  refine mj_sublv [(0, .ref 950), (1, .int x1), (2, .int x2), (3, .int (r1 - x1)), (4, .int 0)] [2, 3, 4, 1, 0] rfl ?_
  exact LH_X13_copy_14 _ x1 x2 (r1 - x1) 0 s _ hk

theorem dX13_funOf_0 : decode cX13_funOf 0 = .ok (.aload_n 0, 1) := by decide +kernel
theorem dX13_funOf_1 : decode cX13_funOf 1 = .ok (.aload_n 0, 1) := by decide +kernel
theorem dX13_funOf_10 : decode cX13_funOf 10 = .ok (.aload_n 0, 1) := by decide +kernel
theorem dX13_funOf_11 : decode cX13_funOf 11 = .ok (.getfield 135, 3) := by decide +kernel
theorem dX13_funOf_14 : decode cX13_funOf 14 = .ok (.iload_n 1, 1) := by decide +kernel
theorem dX13_funOf_15 : decode cX13_funOf 15 = .ok (.iaload, 1) := by decide +kernel
theorem dX13_funOf_16 : decode cX13_funOf 16 = .ok (.invokevirtual 788, 3) := by decide +kernel
theorem dX13_funOf_19 : decode cX13_funOf 19 = .ok (.ireturn, 1) := by decide +kernel
theorem dX13_funOf_2 : decode cX13_funOf 2 = .ok (.getfield 102, 3) := by decide +kernel
theorem dX13_funOf_5 : decode cX13_funOf 5 = .ok (.iconst 0, 1) := by decide +kernel
theorem dX13_funOf_6 : decode cX13_funOf 6 = .ok (.aload_n 0, 1) := by decide +kernel
theorem dX13_funOf_7 : decode cX13_funOf 7 = .ok (.getfield 633, 3) := by decide +kernel
noncomputable def f_X13_funOf (x1 : Int32) (s : t_S) : Option (Int32) :=
 if t_ix x1 401 = true then
  (f_X13_find 980 (0 : Int32) (s.1 950 64) (s.1 991 (x1.toNatClampNeg)) s).bind (fun r2 =>
 some (r2))
else none
set_option maxRecDepth 4000 in
set_option maxHeartbeats 1000000 in
theorem C_X13_funOf (x1 : Int32) (s : t_S) (r : Int32) (hr : f_X13_funOf x1 s = some r) : t_C yX13_funOf cX13_funOf 2 (some .int) 1 [.ref 950, .int x1] s (fun v s' => v = some (.int r) ∧ s' = s) := by
  refine t_C.imp (P := fun v s' => s' = s ∧ ∃ x, v = some (.int x) ∧ (fun q => q = r) (x)) (t_C.of (by decide +kernel) (Nat.le_of_ble_eq_true rfl) ?_) (fun v s' hp => by obtain ⟨rfl, x, rfl, rfl⟩ := hp; exact ⟨rfl, rfl⟩)
  intro D cy ad bs X
  have hk : t_hk (f_X13_funOf x1 s) (fun q => q = r) := ⟨r, hr, rfl⟩
  show mj_G D cy ad bs X cX13_funOf 2 yX13_funOf.cls (some .int) yX13_funOf.name 1 0 0 1065 (t_P (fun v s' => s' = s ∧ ∃ x, v = some (.int x) ∧ (fun q => q = r) (x))) 0 [(0, .ref 950), (1, .int x1)] [] (t_m s) 1065 0 0
  refine mj_aload_n dX13_funOf_0 0 rfl ?_
  refine mj_aload_n dX13_funOf_1 0 rfl ?_
  refine t_getR 980 dX13_funOf_2 F_X13_102 qr_950_56 ?_
  refine mj_iconst (v := 0) dX13_funOf_5 (by decide) ?_
  refine mj_aload_n dX13_funOf_6 0 rfl ?_
  refine t_getI dX13_funOf_7 F_X13_633 qf_950_64 ?_
  refine mj_aload_n dX13_funOf_10 0 rfl ?_
  refine t_getR 991 dX13_funOf_11 F_X13_135 qr_950_69 ?_
  refine mj_iload_n dX13_funOf_14 1 rfl ?_
  refine t_chkK hk (fun c0 hk => ?_)
  refine t_iald dX13_funOf_15 qa_991 (t_ixv c0) ?_
  refine t_bndK hk (fun r2 er2 hk => ?_)
  refine t_callViP dX13_funOf_16 M_X13_find (C_X13_find _ _ _ _ _ _ er2) ML_X13_788 IM_X13_find SE_X13_find qc_950 rfl (As := [.ref 980, .int 0, .int (s.1 950 64), .int (s.1 991 (x1.toNatClampNeg))]) rfl rfl (Nat.le_of_ble_eq_true rfl) (Nat.le_of_ble_eq_true rfl) (Nat.le_of_ble_eq_true rfl) (Nat.le_of_ble_eq_true rfl) ?_
  exact t_somK hk (fun hf => t_iret dX13_funOf_19 rfl rfl ⟨rfl, _, rfl, hf⟩ (Nat.le_of_ble_eq_true rfl) (Nat.le_of_ble_eq_true rfl))

theorem dX13_setOmit_0 : decode cX13_setOmit 0 = .ok (.aload_n 0, 1) := by decide +kernel
theorem dX13_setOmit_1 : decode cX13_setOmit 1 = .ok (.getfield 182, 3) := by decide +kernel
theorem dX13_setOmit_12 : decode cX13_setOmit 12 = .ok (.lastore, 1) := by decide +kernel
theorem dX13_setOmit_13 : decode cX13_setOmit 13 = .ok (.return_, 1) := by decide +kernel
theorem dX13_setOmit_4 : decode cX13_setOmit 4 = .ok (.sipush 260, 3) := by decide +kernel
theorem dX13_setOmit_7 : decode cX13_setOmit 7 = .ok (.iload_n 1, 1) := by decide +kernel
theorem dX13_setOmit_8 : decode cX13_setOmit 8 = .ok (.imul, 1) := by decide +kernel
theorem dX13_setOmit_9 : decode cX13_setOmit 9 = .ok (.ldc2_w 969, 3) := by decide +kernel
noncomputable def f_X13_setOmit (x1 : Int32) (s : t_S) : Option (t_S) :=
 if t_ix ((260 : Int32) * x1) 626600 = true then
  t_let (t_setJ s 1006 (((260 : Int32) * x1).toNatClampNeg) (4 : Int64)) (fun s1 =>
 some (s1))
else none
set_option maxRecDepth 4000 in
set_option maxHeartbeats 1000000 in
theorem C_X13_setOmit (x1 : Int32) (s : t_S) (r : t_S) (hr : f_X13_setOmit x1 s = some r) : t_C yX13_setOmit cX13_setOmit 2 none 0 [.ref 950, .int x1] s (fun v s' => v = none ∧ s' = r) := by
  refine t_C.imp (P := fun v s' => v = none ∧ (fun q => q = r) (s')) (t_C.of (by decide +kernel) (Nat.le_of_ble_eq_true rfl) ?_) (fun v s' hp => hp)
  intro D cy ad bs X
  have hk : t_hk (f_X13_setOmit x1 s) (fun q => q = r) := ⟨r, hr, rfl⟩
  show mj_G D cy ad bs X cX13_setOmit 2 yX13_setOmit.cls none yX13_setOmit.name 0 0 0 1065 (t_P (fun v s' => v = none ∧ (fun q => q = r) (s'))) 0 [(0, .ref 950), (1, .int x1)] [] (t_m s) 1065 0 0
  refine mj_aload_n dX13_setOmit_0 0 rfl ?_
  refine t_getR 1006 dX13_setOmit_1 F_X13_182 qr_950_95 ?_
  refine mj_sipush (v := 260) dX13_setOmit_4 (by decide) ?_
  refine mj_iload_n dX13_setOmit_7 1 rfl ?_
  refine mj_imul dX13_setOmit_8 ?_
  refine mj_ldc2 dX13_setOmit_9 K_X13_969 ?_
  refine t_chkK hk (fun c0 hk => ?_)
  refine t_lastK dX13_setOmit_12 qa_1006 (t_ixv c0) (fun s1 ws1 => t_letE hk ws1 (fun hk => ?_))
  exact t_somK hk (fun hf => t_vret dX13_setOmit_13 rfl ⟨rfl, hf⟩ (Nat.le_of_ble_eq_true rfl) (Nat.le_of_ble_eq_true rfl))

theorem dX13_moveTo_0 : decode cX13_moveTo 0 = .ok (.sipush 260, 3) := by decide +kernel
theorem dX13_moveTo_10 : decode cX13_moveTo 10 = .ok (.imul, 1) := by decide +kernel
theorem dX13_moveTo_11 : decode cX13_moveTo 11 = .ok (.istore_n 2, 1) := by decide +kernel
theorem dX13_moveTo_12 : decode cX13_moveTo 12 = .ok (.aload_n 0, 1) := by decide +kernel
theorem dX13_moveTo_13 : decode cX13_moveTo 13 = .ok (.getfield 182, 3) := by decide +kernel
theorem dX13_moveTo_16 : decode cX13_moveTo 16 = .ok (.iload_n 1, 1) := by decide +kernel
theorem dX13_moveTo_17 : decode cX13_moveTo 17 = .ok (.invokestatic 849, 3) := by decide +kernel
theorem dX13_moveTo_20 : decode cX13_moveTo 20 = .ok (.iload_n 1, 1) := by decide +kernel
theorem dX13_moveTo_21 : decode cX13_moveTo 21 = .ok (.isub, 1) := by decide +kernel
theorem dX13_moveTo_22 : decode cX13_moveTo 22 = .ok (.istore_n 3, 1) := by decide +kernel
theorem dX13_moveTo_23 : decode cX13_moveTo 23 = .ok (.iconst 0, 1) := by decide +kernel
theorem dX13_moveTo_24 : decode cX13_moveTo 24 = .ok (.istore 4, 2) := by decide +kernel
theorem dX13_moveTo_26 : decode cX13_moveTo 26 = .ok (.iload 4, 2) := by decide +kernel
theorem dX13_moveTo_28 : decode cX13_moveTo 28 = .ok (.iload_n 3, 1) := by decide +kernel
theorem dX13_moveTo_29 : decode cX13_moveTo 29 = .ok (.if_icmp .ge 27, 3) := by decide +kernel
theorem dX13_moveTo_3 : decode cX13_moveTo 3 = .ok (.bipush 40, 2) := by decide +kernel
theorem dX13_moveTo_32 : decode cX13_moveTo 32 = .ok (.aload_n 0, 1) := by decide +kernel
theorem dX13_moveTo_33 : decode cX13_moveTo 33 = .ok (.getfield 182, 3) := by decide +kernel
theorem dX13_moveTo_36 : decode cX13_moveTo 36 = .ok (.iload_n 2, 1) := by decide +kernel
theorem dX13_moveTo_37 : decode cX13_moveTo 37 = .ok (.iload 4, 2) := by decide +kernel
theorem dX13_moveTo_39 : decode cX13_moveTo 39 = .ok (.iadd, 1) := by decide +kernel
theorem dX13_moveTo_40 : decode cX13_moveTo 40 = .ok (.aload_n 0, 1) := by decide +kernel
theorem dX13_moveTo_41 : decode cX13_moveTo 41 = .ok (.getfield 182, 3) := by decide +kernel
theorem dX13_moveTo_44 : decode cX13_moveTo 44 = .ok (.iload_n 1, 1) := by decide +kernel
theorem dX13_moveTo_45 : decode cX13_moveTo 45 = .ok (.iload 4, 2) := by decide +kernel
theorem dX13_moveTo_47 : decode cX13_moveTo 47 = .ok (.iadd, 1) := by decide +kernel
theorem dX13_moveTo_48 : decode cX13_moveTo 48 = .ok (.laload, 1) := by decide +kernel
theorem dX13_moveTo_49 : decode cX13_moveTo 49 = .ok (.lastore, 1) := by decide +kernel
theorem dX13_moveTo_5 : decode cX13_moveTo 5 = .ok (.aload_n 0, 1) := by decide +kernel
theorem dX13_moveTo_50 : decode cX13_moveTo 50 = .ok (.iinc 4 1, 3) := by decide +kernel
theorem dX13_moveTo_53 : decode cX13_moveTo 53 = .ok (.goto (-27), 3) := by decide +kernel
theorem dX13_moveTo_56 : decode cX13_moveTo 56 = .ok (.aload_n 0, 1) := by decide +kernel
theorem dX13_moveTo_57 : decode cX13_moveTo 57 = .ok (.dup, 1) := by decide +kernel
theorem dX13_moveTo_58 : decode cX13_moveTo 58 = .ok (.getfield 858, 3) := by decide +kernel
theorem dX13_moveTo_6 : decode cX13_moveTo 6 = .ok (.getfield 858, 3) := by decide +kernel
theorem dX13_moveTo_61 : decode cX13_moveTo 61 = .ok (.iconst 1, 1) := by decide +kernel
theorem dX13_moveTo_62 : decode cX13_moveTo 62 = .ok (.iadd, 1) := by decide +kernel
theorem dX13_moveTo_63 : decode cX13_moveTo 63 = .ok (.putfield 858, 3) := by decide +kernel
theorem dX13_moveTo_66 : decode cX13_moveTo 66 = .ok (.return_, 1) := by decide +kernel
theorem dX13_moveTo_9 : decode cX13_moveTo 9 = .ok (.iadd, 1) := by decide +kernel
noncomputable def k_X13_moveTo_26 (l1 : Int32) (l2 : Int32) (l3 : Int32) (l4 : Int32) (s : t_S) : Option ((Int32 × Int32 × Int32 × Int32 × t_S) ⊕ (t_S)) :=
 if l3 ≤ l4 then ((t_let (t_setI s 950 98 ((s.1 950 98) + (1 : Int32))) (fun s1 =>
 some (s1))).map Sum.inr)
 else (if t_ix (l1 + l4) 626600 = true then
  if t_ix (l2 + l4) 626600 = true then
  t_let (t_setJ s 1006 ((l2 + l4).toNatClampNeg) (s.2.1 1006 ((l1 + l4).toNatClampNeg))) (fun s2 =>
 some (.inl (l1, l2, l3, (l4 + 1), s2)))
else none
else none)
set_option maxRecDepth 4000 in
set_option maxHeartbeats 1000000 in
theorem B_X13_moveTo_26 {D : va_G} {cy : Nat → ClassId} {ad : Nat → Nat} {bs : Nat} {X : State → Heap → Prop} (l1 : Int32) (l2 : Int32) (l3 : Int32) (l4 : Int32) (s : t_S) (Q : (Int32 × Int32 × Int32 × Int32 × t_S) ⊕ (t_S) → Prop) (Hb26 : ∀ (y0 : Int32) (y1 : Int32) (y2 : Int32) (y3 : Int32) (y4 : t_S), Q (.inl (y0, y1, y2, y3, y4)) → mj_G D cy ad bs X cX13_moveTo 5 yX13_moveTo.cls none yX13_moveTo.name 2 0 0 1065 (t_P (fun v s' => v = none ∧ Q (.inr (s')))) 26 [(0, .ref 950), (1, .int (y0)), (2, .int (y1)), (3, .int (y2)), (4, .int (y3))] [] (t_m y4) 1065 0 0) (hk : t_hk (k_X13_moveTo_26 l1 l2 l3 l4 s) Q) : mj_G D cy ad bs X cX13_moveTo 5 yX13_moveTo.cls none yX13_moveTo.name 2 0 0 1065 (t_P (fun v s' => v = none ∧ Q (.inr (s')))) 26 [(0, .ref 950), (1, .int l1), (2, .int l2), (3, .int l3), (4, .int l4)] [] (t_m s) 1065 0 0 := by
  refine mj_iload dX13_moveTo_26 4 rfl ?_
  refine mj_iload_n dX13_moveTo_28 3 rfl ?_
  refine mj_icmp_ge 56 dX13_moveTo_29 (by decide) (fun z => t_posK hk z (fun hk => ?_)) (fun z => t_negK hk z (fun hk => ?_))
  · refine t_mapK hk (fun hk => ?_)
    refine mj_aload_n dX13_moveTo_56 0 rfl ?_
    refine mj_dup dX13_moveTo_57 rfl ?_
    refine t_getI dX13_moveTo_58 F_X13_858 qf_950_98 ?_
    refine mj_iconst (v := 1) dX13_moveTo_61 (by decide) ?_
    refine mj_iadd dX13_moveTo_62 ?_
    refine t_putIK dX13_moveTo_63 F_X13_858 qf_950_98 rfl (fun s1 ws1 => t_letE hk ws1 (fun hk => ?_))
    exact t_somK hk (fun hf => t_vret dX13_moveTo_66 rfl ⟨rfl, hf⟩ (Nat.le_of_ble_eq_true rfl) (Nat.le_of_ble_eq_true rfl))
  · refine mj_aload_n dX13_moveTo_32 0 rfl ?_
    refine t_getR 1006 dX13_moveTo_33 F_X13_182 qr_950_95 ?_
    refine mj_iload_n dX13_moveTo_36 2 rfl ?_
    refine mj_iload dX13_moveTo_37 4 rfl ?_
    refine mj_iadd dX13_moveTo_39 ?_
    refine mj_aload_n dX13_moveTo_40 0 rfl ?_
    refine t_getR 1006 dX13_moveTo_41 F_X13_182 qr_950_95 ?_
    refine mj_iload_n dX13_moveTo_44 1 rfl ?_
    refine mj_iload dX13_moveTo_45 4 rfl ?_
    refine mj_iadd dX13_moveTo_47 ?_
    refine t_chkK hk (fun c0 hk => ?_)
    refine t_lald dX13_moveTo_48 qa_1006 (t_ixv c0) ?_
    refine t_chkK hk (fun c1 hk => ?_)
    refine t_lastK dX13_moveTo_49 qa_1006 (t_ixv c1) (fun s2 ws2 => t_letE hk ws2 (fun hk => ?_))
    refine mj_iinc (k := 4) (v := (l4 + 1)) (lv2 := [(4, .int (l4 + 1)), (0, .ref 950), (1, .int l1), (2, .int l2), (3, .int l3)]) dX13_moveTo_50 rfl rfl (by decide) rfl ?_
    refine mj_goto 26 dX13_moveTo_53 (by decide) ?_
    refine mj_sublv [(0, .ref 950), (1, .int l1), (2, .int l2), (3, .int l3), (4, .int (l4 + 1))] [1, 2, 3, 4, 0] rfl ?_
    exact t_somK hk (fun hf => Hb26 l1 l2 l3 (l4 + 1) s2 hf)
noncomputable def b_X13_moveTo_26 (x : Int32 × Int32 × Int32 × Int32 × t_S) : Option ((Int32 × Int32 × Int32 × Int32 × t_S) ⊕ (t_S)) := k_X13_moveTo_26 x.1 x.2.1 x.2.2.1 x.2.2.2.1 x.2.2.2.2
set_option maxRecDepth 4000 in
set_option maxHeartbeats 1000000 in
theorem LH_X13_moveTo_26 {D : va_G} {cy : Nat → ClassId} {ad : Nat → Nat} {bs : Nat} {X : State → Heap → Prop} : ∀ (n : Nat) (y0 : Int32) (y1 : Int32) (y2 : Int32) (y3 : Int32) (y4 : t_S) (Q : t_S → Prop) (hk : t_hk (t_loop (b_X13_moveTo_26) n (y0, y1, y2, y3, y4)) Q), mj_G D cy ad bs X cX13_moveTo 5 yX13_moveTo.cls none yX13_moveTo.name 2 0 0 1065 (t_P (fun v s' => v = none ∧ Q (s'))) 26 [(0, .ref 950), (1, .int (y0)), (2, .int (y1)), (3, .int (y2)), (4, .int (y3))] [] (t_m y4) 1065 0 0 := by
  intro n
  induction n with
  | zero => intro y0 y1 y2 y3 y4 Q hk; obtain ⟨r, hr, _⟩ := hk; cases hr
  | succ n ih =>
    intro y0 y1 y2 y3 y4 Q hk
    exact B_X13_moveTo_26 y0 y1 y2 y3 y4 (fun y => t_lq (b_X13_moveTo_26) n Q y) (fun y0' y1' y2' y3' y4' hy => ih y0' y1' y2' y3' y4' Q hy) (t_lp hk)
noncomputable def f_X13_moveTo (x1 : Int32) (s : t_S) : Option (t_S) :=
 (f_X13_endOf 1006 x1 s).bind (fun r1 =>
 t_loop (b_X13_moveTo_26) t_N (x1, ((260 : Int32) * ((40 : Int32) + (s.1 950 98))), (r1 - x1), 0, s))
set_option maxRecDepth 4000 in
set_option maxHeartbeats 1000000 in
theorem C_X13_moveTo (x1 : Int32) (s : t_S) (r : t_S) (hr : f_X13_moveTo x1 s = some r) : t_C yX13_moveTo cX13_moveTo 5 none 2 [.ref 950, .int x1] s (fun v s' => v = none ∧ s' = r) := by
  refine t_C.imp (P := fun v s' => v = none ∧ (fun q => q = r) (s')) (t_C.of (by decide +kernel) (Nat.le_of_ble_eq_true rfl) ?_) (fun v s' hp => hp)
  intro D cy ad bs X
  have hk : t_hk (f_X13_moveTo x1 s) (fun q => q = r) := ⟨r, hr, rfl⟩
  show mj_G D cy ad bs X cX13_moveTo 5 yX13_moveTo.cls none yX13_moveTo.name 2 0 0 1065 (t_P (fun v s' => v = none ∧ (fun q => q = r) (s'))) 0 [(0, .ref 950), (1, .int x1)] [] (t_m s) 1065 0 0
  refine mj_sipush (v := 260) dX13_moveTo_0 (by decide) ?_
  refine mj_bipush (v := 40) dX13_moveTo_3 (by decide) ?_
  refine mj_aload_n dX13_moveTo_5 0 rfl ?_
  refine t_getI dX13_moveTo_6 F_X13_858 qf_950_98 ?_
  refine mj_iadd dX13_moveTo_9 ?_
  refine mj_imul dX13_moveTo_10 ?_
  refine mj_istore_n 2 (lv2 := [(2, .int ((260 : Int32) * ((40 : Int32) + (s.1 950 98)))), (0, .ref 950), (1, .int x1)]) dX13_moveTo_11 rfl (by decide) rfl ?_
  refine mj_aload_n dX13_moveTo_12 1 rfl ?_
  refine t_getR 1006 dX13_moveTo_13 F_X13_182 qr_950_95 ?_
  refine mj_iload_n dX13_moveTo_16 2 rfl ?_
  refine t_bndK hk (fun r1 er1 hk => ?_)
  refine t_callSiP dX13_moveTo_17 M_X13_endOf (C_X13_endOf _ _ _ _ er1) ML_X13_849 SM_X13_endOf (As := [.ref 1006, .int x1]) rfl rfl (Nat.le_of_ble_eq_true rfl) (Nat.le_of_ble_eq_true rfl) (Nat.le_of_ble_eq_true rfl) (Nat.le_of_ble_eq_true rfl) ?_
  refine mj_iload_n dX13_moveTo_20 2 rfl ?_
  refine mj_isub dX13_moveTo_21 ?_
  refine mj_istore_n 3 (lv2 := [(3, .int (r1 - x1)), (2, .int ((260 : Int32) * ((40 : Int32) + (s.1 950 98)))), (0, .ref 950), (1, .int x1)]) dX13_moveTo_22 rfl (by decide) rfl ?_
  refine mj_iconst (v := 0) dX13_moveTo_23 (by decide) ?_
  refine mj_istore (lv2 := [(4, .int 0), (3, .int (r1 - x1)), (2, .int ((260 : Int32) * ((40 : Int32) + (s.1 950 98)))), (0, .ref 950), (1, .int x1)]) dX13_moveTo_24 (by decide) rfl ?_
  refine mj_sublv [(0, .ref 950), (1, .int x1), (2, .int ((260 : Int32) * ((40 : Int32) + (s.1 950 98)))), (3, .int (r1 - x1)), (4, .int 0)] [3, 4, 2, 1, 0] rfl ?_
  exact LH_X13_moveTo_26 _ x1 ((260 : Int32) * ((40 : Int32) + (s.1 950 98))) (r1 - x1) 0 s _ hk

theorem dX13_partOf_0 : decode cX13_partOf 0 = .ok (.iload_n 1, 1) := by decide +kernel
theorem dX13_partOf_1 : decode cX13_partOf 1 = .ok (.iconst 2, 1) := by decide +kernel
theorem dX13_partOf_12 : decode cX13_partOf 12 = .ok (.lcmp, 1) := by decide +kernel
theorem dX13_partOf_13 : decode cX13_partOf 13 = .ok (.ifCond .ne 15, 3) := by decide +kernel
theorem dX13_partOf_16 : decode cX13_partOf 16 = .ok (.aload_n 0, 1) := by decide +kernel
theorem dX13_partOf_17 : decode cX13_partOf 17 = .ok (.getfield 182, 3) := by decide +kernel
theorem dX13_partOf_2 : decode cX13_partOf 2 = .ok (.iadd, 1) := by decide +kernel
theorem dX13_partOf_20 : decode cX13_partOf 20 = .ok (.iload_n 1, 1) := by decide +kernel
theorem dX13_partOf_21 : decode cX13_partOf 21 = .ok (.iconst 1, 1) := by decide +kernel
theorem dX13_partOf_22 : decode cX13_partOf 22 = .ok (.iadd, 1) := by decide +kernel
theorem dX13_partOf_23 : decode cX13_partOf 23 = .ok (.laload, 1) := by decide +kernel
theorem dX13_partOf_24 : decode cX13_partOf 24 = .ok (.l2i, 1) := by decide +kernel
theorem dX13_partOf_25 : decode cX13_partOf 25 = .ok (.goto 4, 3) := by decide +kernel
theorem dX13_partOf_28 : decode cX13_partOf 28 = .ok (.iconst 0, 1) := by decide +kernel
theorem dX13_partOf_29 : decode cX13_partOf 29 = .ok (.iadd, 1) := by decide +kernel
theorem dX13_partOf_3 : decode cX13_partOf 3 = .ok (.aload_n 0, 1) := by decide +kernel
theorem dX13_partOf_30 : decode cX13_partOf 30 = .ok (.istore_n 3, 1) := by decide +kernel
theorem dX13_partOf_31 : decode cX13_partOf 31 = .ok (.iconst 0, 1) := by decide +kernel
theorem dX13_partOf_32 : decode cX13_partOf 32 = .ok (.istore 4, 2) := by decide +kernel
theorem dX13_partOf_34 : decode cX13_partOf 34 = .ok (.iload 4, 2) := by decide +kernel
theorem dX13_partOf_36 : decode cX13_partOf 36 = .ok (.iload_n 2, 1) := by decide +kernel
theorem dX13_partOf_37 : decode cX13_partOf 37 = .ok (.if_icmp .ge 18, 3) := by decide +kernel
theorem dX13_partOf_4 : decode cX13_partOf 4 = .ok (.getfield 182, 3) := by decide +kernel
theorem dX13_partOf_40 : decode cX13_partOf 40 = .ok (.aload_n 0, 1) := by decide +kernel
theorem dX13_partOf_41 : decode cX13_partOf 41 = .ok (.getfield 182, 3) := by decide +kernel
theorem dX13_partOf_44 : decode cX13_partOf 44 = .ok (.iload_n 3, 1) := by decide +kernel
theorem dX13_partOf_45 : decode cX13_partOf 45 = .ok (.invokestatic 849, 3) := by decide +kernel
theorem dX13_partOf_48 : decode cX13_partOf 48 = .ok (.istore_n 3, 1) := by decide +kernel
theorem dX13_partOf_49 : decode cX13_partOf 49 = .ok (.iinc 4 1, 3) := by decide +kernel
theorem dX13_partOf_52 : decode cX13_partOf 52 = .ok (.goto (-18), 3) := by decide +kernel
theorem dX13_partOf_55 : decode cX13_partOf 55 = .ok (.iload_n 3, 1) := by decide +kernel
theorem dX13_partOf_56 : decode cX13_partOf 56 = .ok (.ireturn, 1) := by decide +kernel
theorem dX13_partOf_7 : decode cX13_partOf 7 = .ok (.iload_n 1, 1) := by decide +kernel
theorem dX13_partOf_8 : decode cX13_partOf 8 = .ok (.laload, 1) := by decide +kernel
theorem dX13_partOf_9 : decode cX13_partOf 9 = .ok (.ldc2_w 853, 3) := by decide +kernel
noncomputable def k_X13_partOf_34 (l2 : Int32) (l3 : Int32) (l4 : Int32) (s : t_S) : Option ((Int32 × Int32 × Int32) ⊕ (Int32)) :=
 if l2 ≤ l4 then ((some (l3)).map Sum.inr)
 else ((f_X13_endOf 1006 l3 s).bind (fun r1 =>
 some (.inl (l2, r1, (l4 + 1)))))
set_option maxRecDepth 4000 in
set_option maxHeartbeats 1000000 in
theorem B_X13_partOf_34 {D : va_G} {cy : Nat → ClassId} {ad : Nat → Nat} {bs : Nat} {X : State → Heap → Prop} (l2 : Int32) (l3 : Int32) (l4 : Int32) (s : t_S) (Q : (Int32 × Int32 × Int32) ⊕ (Int32) → Prop) (Hb34 : ∀ (y0 : Int32) (y1 : Int32) (y2 : Int32), Q (.inl (y0, y1, y2)) → mj_G D cy ad bs X cX13_partOf 5 yX13_partOf.cls (some .int) yX13_partOf.name 2 0 0 1065 (t_P (fun v s' => s' = s ∧ ∃ x, v = some (.int x) ∧ Q (.inr (x)))) 34 [(0, .ref 950), (2, .int (y0)), (3, .int (y1)), (4, .int (y2))] [] (t_m s) 1065 0 0) (hk : t_hk (k_X13_partOf_34 l2 l3 l4 s) Q) : mj_G D cy ad bs X cX13_partOf 5 yX13_partOf.cls (some .int) yX13_partOf.name 2 0 0 1065 (t_P (fun v s' => s' = s ∧ ∃ x, v = some (.int x) ∧ Q (.inr (x)))) 34 [(0, .ref 950), (2, .int l2), (3, .int l3), (4, .int l4)] [] (t_m s) 1065 0 0 := by
  refine mj_iload dX13_partOf_34 3 rfl ?_
  refine mj_iload_n dX13_partOf_36 1 rfl ?_
  refine mj_icmp_ge 55 dX13_partOf_37 (by decide) (fun z => t_posK hk z (fun hk => ?_)) (fun z => t_negK hk z (fun hk => ?_))
  · refine t_mapK hk (fun hk => ?_)
    refine mj_iload_n dX13_partOf_55 2 rfl ?_
    exact t_somK hk (fun hf => t_iret dX13_partOf_56 rfl rfl ⟨rfl, _, rfl, hf⟩ (Nat.le_of_ble_eq_true rfl) (Nat.le_of_ble_eq_true rfl))
  · refine mj_aload_n dX13_partOf_40 0 rfl ?_
    refine t_getR 1006 dX13_partOf_41 F_X13_182 qr_950_95 ?_
    refine mj_iload_n dX13_partOf_44 2 rfl ?_
    refine t_bndK hk (fun r1 er1 hk => ?_)
    refine t_callSiP dX13_partOf_45 M_X13_endOf (C_X13_endOf _ _ _ _ er1) ML_X13_849 SM_X13_endOf (As := [.ref 1006, .int l3]) rfl rfl (Nat.le_of_ble_eq_true rfl) (Nat.le_of_ble_eq_true rfl) (Nat.le_of_ble_eq_true rfl) (Nat.le_of_ble_eq_true rfl) ?_
    refine mj_istore_n 3 (lv2 := [(3, .int r1), (0, .ref 950), (2, .int l2), (4, .int l4)]) dX13_partOf_48 rfl (by decide) rfl ?_
    refine mj_iinc (k := 3) (v := (l4 + 1)) (lv2 := [(4, .int (l4 + 1)), (3, .int r1), (0, .ref 950), (2, .int l2)]) dX13_partOf_49 rfl rfl (by decide) rfl ?_
    refine mj_goto 34 dX13_partOf_52 (by decide) ?_
    refine mj_sublv [(0, .ref 950), (2, .int l2), (3, .int r1), (4, .int (l4 + 1))] [2, 3, 1, 0] rfl ?_
    exact t_somK hk (fun hf => Hb34 l2 r1 (l4 + 1) hf)
noncomputable def b_X13_partOf_34 (s : t_S) (x : Int32 × Int32 × Int32) : Option ((Int32 × Int32 × Int32) ⊕ (Int32)) := k_X13_partOf_34 x.1 x.2.1 x.2.2 s
set_option maxRecDepth 4000 in
set_option maxHeartbeats 1000000 in
theorem LH_X13_partOf_34 {D : va_G} {cy : Nat → ClassId} {ad : Nat → Nat} {bs : Nat} {X : State → Heap → Prop} (s : t_S) : ∀ (n : Nat) (y0 : Int32) (y1 : Int32) (y2 : Int32) (Q : Int32 → Prop) (hk : t_hk (t_loop (b_X13_partOf_34 s) n (y0, y1, y2)) Q), mj_G D cy ad bs X cX13_partOf 5 yX13_partOf.cls (some .int) yX13_partOf.name 2 0 0 1065 (t_P (fun v s' => s' = s ∧ ∃ x, v = some (.int x) ∧ Q (x))) 34 [(0, .ref 950), (2, .int (y0)), (3, .int (y1)), (4, .int (y2))] [] (t_m s) 1065 0 0 := by
  intro n
  induction n with
  | zero => intro y0 y1 y2 Q hk; obtain ⟨r, hr, _⟩ := hk; cases hr
  | succ n ih =>
    intro y0 y1 y2 Q hk
    exact B_X13_partOf_34 y0 y1 y2 s (fun y => t_lq (b_X13_partOf_34 s) n Q y) (fun y0' y1' y2' hy => ih y0' y1' y2' Q hy) (t_lp hk)
noncomputable def k_X13_partOf_29 (l2 : Int32) (k0 : Int32) (k1 : Int32) (s : t_S) : Option (Int32) :=
 t_loop (b_X13_partOf_34 s) t_N (l2, (k1 + k0), 0)
set_option maxRecDepth 4000 in
set_option maxHeartbeats 1000000 in
theorem B_X13_partOf_29 {D : va_G} {cy : Nat → ClassId} {ad : Nat → Nat} {bs : Nat} {X : State → Heap → Prop} (l2 : Int32) (k0 : Int32) (k1 : Int32) (s : t_S) (Q : Int32 → Prop) (hk : t_hk (k_X13_partOf_29 l2 k0 k1 s) Q) : mj_G D cy ad bs X cX13_partOf 5 yX13_partOf.cls (some .int) yX13_partOf.name 2 0 0 1065 (t_P (fun v s' => s' = s ∧ ∃ x, v = some (.int x) ∧ Q (x))) 29 [(0, .ref 950), (2, .int l2)] [.int k0, .int k1] (t_m s) 1065 0 0 := by
  refine mj_iadd dX13_partOf_29 ?_
  refine mj_istore_n 3 (lv2 := [(3, .int (k1 + k0)), (0, .ref 950), (2, .int l2)]) dX13_partOf_30 rfl (by decide) rfl ?_
  refine mj_iconst (v := 0) dX13_partOf_31 (by decide) ?_
  refine mj_istore (lv2 := [(4, .int 0), (3, .int (k1 + k0)), (0, .ref 950), (2, .int l2)]) dX13_partOf_32 (by decide) rfl ?_
  refine mj_sublv [(0, .ref 950), (2, .int l2), (3, .int (k1 + k0)), (4, .int 0)] [2, 3, 1, 0] rfl ?_
  exact LH_X13_partOf_34 _ _ l2 (k1 + k0) 0 _ hk
noncomputable def f_X13_partOf (x1 : Int32) (x2 : Int32) (s : t_S) : Option (Int32) :=
 if t_ix x1 626600 = true then
  if (lg_cmp (s.2.1 1006 (x1.toNatClampNeg)) (6 : Int64)) = (0 : Int32) then (if t_ix (x1 + (1 : Int32)) 626600 = true then
  k_X13_partOf_29 x2 ((s.2.1 1006 ((x1 + (1 : Int32)).toNatClampNeg)).toInt32) (x1 + (2 : Int32)) s
else none)
 else (k_X13_partOf_29 x2 0 (x1 + (2 : Int32)) s)
else none
set_option maxRecDepth 4000 in
set_option maxHeartbeats 1000000 in
theorem C_X13_partOf (x1 : Int32) (x2 : Int32) (s : t_S) (r : Int32) (hr : f_X13_partOf x1 x2 s = some r) : t_C yX13_partOf cX13_partOf 5 (some .int) 2 [.ref 950, .int x1, .int x2] s (fun v s' => v = some (.int r) ∧ s' = s) := by
  refine t_C.imp (P := fun v s' => s' = s ∧ ∃ x, v = some (.int x) ∧ (fun q => q = r) (x)) (t_C.of (by decide +kernel) (Nat.le_of_ble_eq_true rfl) ?_) (fun v s' hp => by obtain ⟨rfl, x, rfl, rfl⟩ := hp; exact ⟨rfl, rfl⟩)
  intro D cy ad bs X
  have hk : t_hk (f_X13_partOf x1 x2 s) (fun q => q = r) := ⟨r, hr, rfl⟩
  show mj_G D cy ad bs X cX13_partOf 5 yX13_partOf.cls (some .int) yX13_partOf.name 2 0 0 1065 (t_P (fun v s' => s' = s ∧ ∃ x, v = some (.int x) ∧ (fun q => q = r) (x))) 0 [(0, .ref 950), (1, .int x1), (2, .int x2)] [] (t_m s) 1065 0 0
  refine mj_iload_n dX13_partOf_0 1 rfl ?_
  refine mj_iconst (v := 2) dX13_partOf_1 (by decide) ?_
  refine mj_iadd dX13_partOf_2 ?_
  refine mj_aload_n dX13_partOf_3 0 rfl ?_
  refine t_getR 1006 dX13_partOf_4 F_X13_182 qr_950_95 ?_
  refine mj_iload_n dX13_partOf_7 1 rfl ?_
  refine t_chkK hk (fun c0 hk => ?_)
  refine t_lald dX13_partOf_8 qa_1006 (t_ixv c0) ?_
  refine mj_ldc2 dX13_partOf_9 K_X13_853 ?_
  refine mj_lcmp dX13_partOf_12 ?_
  refine mj_if_ne 28 dX13_partOf_13 (by decide) (fun z => t_negK hk z (fun hk => ?_)) (fun z => t_posK hk z (fun hk => ?_))
  · refine mj_iconst (v := 0) dX13_partOf_28 (by decide) ?_
    refine mj_sublv [(0, .ref 950), (2, .int x2)] [0, 2] rfl ?_
    exact B_X13_partOf_29 _ _ _ _ _ hk
  · refine mj_aload_n dX13_partOf_16 0 rfl ?_
    refine t_getR 1006 dX13_partOf_17 F_X13_182 qr_950_95 ?_
    refine mj_iload_n dX13_partOf_20 1 rfl ?_
    refine mj_iconst (v := 1) dX13_partOf_21 (by decide) ?_
    refine mj_iadd dX13_partOf_22 ?_
    refine t_chkK hk (fun c1 hk => ?_)
    refine t_lald dX13_partOf_23 qa_1006 (t_ixv c1) ?_
    refine mj_l2i (v := (s.2.1 1006 ((x1 + (1 : Int32)).toNatClampNeg)).toInt32) dX13_partOf_24 rfl ?_
    refine mj_goto 29 dX13_partOf_25 (by decide) ?_
    refine mj_sublv [(0, .ref 950), (2, .int x2)] [0, 2] rfl ?_
    exact B_X13_partOf_29 _ _ _ _ _ hk

theorem dX13_top_0 : decode cX13_top 0 = .ok (.sipush 260, 3) := by decide +kernel
theorem dX13_top_10 : decode cX13_top 10 = .ok (.iconst 1, 1) := by decide +kernel
theorem dX13_top_11 : decode cX13_top 11 = .ok (.isub, 1) := by decide +kernel
theorem dX13_top_12 : decode cX13_top 12 = .ok (.imul, 1) := by decide +kernel
theorem dX13_top_13 : decode cX13_top 13 = .ok (.ireturn, 1) := by decide +kernel
theorem dX13_top_3 : decode cX13_top 3 = .ok (.bipush 40, 2) := by decide +kernel
theorem dX13_top_5 : decode cX13_top 5 = .ok (.aload_n 0, 1) := by decide +kernel
theorem dX13_top_6 : decode cX13_top 6 = .ok (.getfield 858, 3) := by decide +kernel
theorem dX13_top_9 : decode cX13_top 9 = .ok (.iadd, 1) := by decide +kernel
noncomputable def f_X13_top (s : t_S) : Int32 :=
 ((260 : Int32) * (((40 : Int32) + (s.1 950 98)) - (1 : Int32)))
set_option maxRecDepth 4000 in
set_option maxHeartbeats 1000000 in
theorem C_X13_top (s : t_S) : t_C yX13_top cX13_top 1 (some .int) 0 [.ref 950] s (fun v s' => v = some (.int (f_X13_top s)) ∧ s' = s) := by
  refine t_C.imp (P := fun v s' => s' = s ∧ ∃ x, v = some (.int x) ∧ (fun r => r = f_X13_top s) (x)) (t_C.of (by decide +kernel) (Nat.le_of_ble_eq_true rfl) ?_) (fun v s' hp => by obtain ⟨rfl, x, rfl, rfl⟩ := hp; exact ⟨rfl, rfl⟩)
  intro D cy ad bs X
  have hk : t_ht (f_X13_top s) (fun r => r = f_X13_top s) := rfl
  show mj_G D cy ad bs X cX13_top 1 yX13_top.cls (some .int) yX13_top.name 0 0 0 1065 (t_P (fun v s' => s' = s ∧ ∃ x, v = some (.int x) ∧ (fun r => r = f_X13_top s) (x))) 0 [(0, .ref 950)] [] (t_m s) 1065 0 0
  refine mj_sipush (v := 260) dX13_top_0 (by decide) ?_
  refine mj_bipush (v := 40) dX13_top_3 (by decide) ?_
  refine mj_aload_n dX13_top_5 0 rfl ?_
  refine t_getI dX13_top_6 F_X13_858 qf_950_98 ?_
  refine mj_iadd dX13_top_9 ?_
  refine mj_iconst (v := 1) dX13_top_10 (by decide) ?_
  refine mj_isub dX13_top_11 ?_
  refine mj_imul dX13_top_12 ?_
  exact t_iret dX13_top_13 rfl rfl ⟨rfl, _, rfl, hk⟩ (Nat.le_of_ble_eq_true rfl) (Nat.le_of_ble_eq_true rfl)

theorem dX13_under_0 : decode cX13_under 0 = .ok (.sipush 260, 3) := by decide +kernel
theorem dX13_under_10 : decode cX13_under 10 = .ok (.iconst 2, 1) := by decide +kernel
theorem dX13_under_11 : decode cX13_under 11 = .ok (.isub, 1) := by decide +kernel
theorem dX13_under_12 : decode cX13_under 12 = .ok (.imul, 1) := by decide +kernel
theorem dX13_under_13 : decode cX13_under 13 = .ok (.ireturn, 1) := by decide +kernel
theorem dX13_under_3 : decode cX13_under 3 = .ok (.bipush 40, 2) := by decide +kernel
theorem dX13_under_5 : decode cX13_under 5 = .ok (.aload_n 0, 1) := by decide +kernel
theorem dX13_under_6 : decode cX13_under 6 = .ok (.getfield 858, 3) := by decide +kernel
theorem dX13_under_9 : decode cX13_under 9 = .ok (.iadd, 1) := by decide +kernel
noncomputable def f_X13_under (s : t_S) : Int32 :=
 ((260 : Int32) * (((40 : Int32) + (s.1 950 98)) - (2 : Int32)))
set_option maxRecDepth 4000 in
set_option maxHeartbeats 1000000 in
theorem C_X13_under (s : t_S) : t_C yX13_under cX13_under 1 (some .int) 0 [.ref 950] s (fun v s' => v = some (.int (f_X13_under s)) ∧ s' = s) := by
  refine t_C.imp (P := fun v s' => s' = s ∧ ∃ x, v = some (.int x) ∧ (fun r => r = f_X13_under s) (x)) (t_C.of (by decide +kernel) (Nat.le_of_ble_eq_true rfl) ?_) (fun v s' hp => by obtain ⟨rfl, x, rfl, rfl⟩ := hp; exact ⟨rfl, rfl⟩)
  intro D cy ad bs X
  have hk : t_ht (f_X13_under s) (fun r => r = f_X13_under s) := rfl
  show mj_G D cy ad bs X cX13_under 1 yX13_under.cls (some .int) yX13_under.name 0 0 0 1065 (t_P (fun v s' => s' = s ∧ ∃ x, v = some (.int x) ∧ (fun r => r = f_X13_under s) (x))) 0 [(0, .ref 950)] [] (t_m s) 1065 0 0
  refine mj_sipush (v := 260) dX13_under_0 (by decide) ?_
  refine mj_bipush (v := 40) dX13_under_3 (by decide) ?_
  refine mj_aload_n dX13_under_5 0 rfl ?_
  refine t_getI dX13_under_6 F_X13_858 qf_950_98 ?_
  refine mj_iadd dX13_under_9 ?_
  refine mj_iconst (v := 2) dX13_under_10 (by decide) ?_
  refine mj_isub dX13_under_11 ?_
  refine mj_imul dX13_under_12 ?_
  exact t_iret dX13_under_13 rfl rfl ⟨rfl, _, rfl, hk⟩ (Nat.le_of_ble_eq_true rfl) (Nat.le_of_ble_eq_true rfl)

