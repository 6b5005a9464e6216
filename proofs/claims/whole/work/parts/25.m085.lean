/-! Methods as functions, 85: X13_findLight, X13_openOne, X13_goOnList, X13_goOnRecord, X13_noType, X13_put, X13_wrongBit, X13_take -/
theorem qa_1021 : t_oka 1021 1 400 = true := by decide +kernel
theorem qa_1022 : t_oka 1022 1 400 = true := by decide +kernel
theorem qa_1023 : t_oka 1023 2 400 = true := by decide +kernel
theorem qf_950_125 : t_okf 950 13 125 0 = true := by decide +kernel
theorem qf_950_126 : t_okf 950 13 126 0 = true := by decide +kernel
theorem qf_950_127 : t_okf 950 13 127 0 = true := by decide +kernel
theorem qf_950_129 : t_okf 950 13 129 0 = true := by decide +kernel
theorem qr_950_122 : t_okr 950 13 122 1021 = true := by decide +kernel
theorem qr_950_123 : t_okr 950 13 123 1022 = true := by decide +kernel
theorem qr_950_124 : t_okr 950 13 124 1023 = true := by decide +kernel
theorem dX13_findLight_0 : decode cX13_findLight 0 = .ok (.aload_n 0, 1) := by decide +kernel
theorem dX13_findLight_1 : decode cX13_findLight 1 = .ok (.getfield 648, 3) := by decide +kernel
theorem dX13_findLight_10 : decode cX13_findLight 10 = .ok (.putfield 648, 3) := by decide +kernel
theorem dX13_findLight_101 : decode cX13_findLight 101 = .ok (.goto (-41), 3) := by decide +kernel
theorem dX13_findLight_104 : decode cX13_findLight 104 = .ok (.goto (-57), 3) := by decide +kernel
theorem dX13_findLight_107 : decode cX13_findLight 107 = .ok (.iconst 1, 1) := by decide +kernel
theorem dX13_findLight_108 : decode cX13_findLight 108 = .ok (.istore_n 1, 1) := by decide +kernel
theorem dX13_findLight_109 : decode cX13_findLight 109 = .ok (.iload_n 1, 1) := by decide +kernel
theorem dX13_findLight_110 : decode cX13_findLight 110 = .ok (.ifCond .eq 65, 3) := by decide +kernel
theorem dX13_findLight_113 : decode cX13_findLight 113 = .ok (.iconst 0, 1) := by decide +kernel
theorem dX13_findLight_114 : decode cX13_findLight 114 = .ok (.istore_n 1, 1) := by decide +kernel
theorem dX13_findLight_115 : decode cX13_findLight 115 = .ok (.aload_n 0, 1) := by decide +kernel
theorem dX13_findLight_116 : decode cX13_findLight 116 = .ok (.getfield 664, 3) := by decide +kernel
theorem dX13_findLight_119 : decode cX13_findLight 119 = .ok (.iconst 1, 1) := by decide +kernel
theorem dX13_findLight_120 : decode cX13_findLight 120 = .ok (.isub, 1) := by decide +kernel
theorem dX13_findLight_121 : decode cX13_findLight 121 = .ok (.istore_n 2, 1) := by decide +kernel
theorem dX13_findLight_122 : decode cX13_findLight 122 = .ok (.iload_n 2, 1) := by decide +kernel
theorem dX13_findLight_123 : decode cX13_findLight 123 = .ok (.ifCond .lt 49, 3) := by decide +kernel
theorem dX13_findLight_126 : decode cX13_findLight 126 = .ok (.aload_n 0, 1) := by decide +kernel
theorem dX13_findLight_127 : decode cX13_findLight 127 = .ok (.iload_n 2, 1) := by decide +kernel
theorem dX13_findLight_128 : decode cX13_findLight 128 = .ok (.invokevirtual 1063, 3) := by decide +kernel
theorem dX13_findLight_13 : decode cX13_findLight 13 = .ok (.iconst 0, 1) := by decide +kernel
theorem dX13_findLight_131 : decode cX13_findLight 131 = .ok (.ifCond .eq 11, 3) := by decide +kernel
theorem dX13_findLight_134 : decode cX13_findLight 134 = .ok (.aload_n 0, 1) := by decide +kernel
theorem dX13_findLight_135 : decode cX13_findLight 135 = .ok (.iload_n 2, 1) := by decide +kernel
theorem dX13_findLight_136 : decode cX13_findLight 136 = .ok (.invokevirtual 1069, 3) := by decide +kernel
theorem dX13_findLight_139 : decode cX13_findLight 139 = .ok (.goto 6, 3) := by decide +kernel
theorem dX13_findLight_14 : decode cX13_findLight 14 = .ok (.istore_n 1, 1) := by decide +kernel
theorem dX13_findLight_142 : decode cX13_findLight 142 = .ok (.ldc2_w 1054, 3) := by decide +kernel
theorem dX13_findLight_145 : decode cX13_findLight 145 = .ok (.lstore_n 3, 1) := by decide +kernel
theorem dX13_findLight_146 : decode cX13_findLight 146 = .ok (.lload_n 3, 1) := by decide +kernel
theorem dX13_findLight_147 : decode cX13_findLight 147 = .ok (.aload_n 0, 1) := by decide +kernel
theorem dX13_findLight_148 : decode cX13_findLight 148 = .ok (.getfield 197, 3) := by decide +kernel
theorem dX13_findLight_15 : decode cX13_findLight 15 = .ok (.iload_n 1, 1) := by decide +kernel
theorem dX13_findLight_151 : decode cX13_findLight 151 = .ok (.iload_n 2, 1) := by decide +kernel
theorem dX13_findLight_152 : decode cX13_findLight 152 = .ok (.laload, 1) := by decide +kernel
theorem dX13_findLight_153 : decode cX13_findLight 153 = .ok (.lcmp, 1) := by decide +kernel
theorem dX13_findLight_154 : decode cX13_findLight 154 = .ok (.ifCond .ge 12, 3) := by decide +kernel
theorem dX13_findLight_157 : decode cX13_findLight 157 = .ok (.aload_n 0, 1) := by decide +kernel
theorem dX13_findLight_158 : decode cX13_findLight 158 = .ok (.getfield 197, 3) := by decide +kernel
theorem dX13_findLight_16 : decode cX13_findLight 16 = .ok (.aload_n 0, 1) := by decide +kernel
theorem dX13_findLight_161 : decode cX13_findLight 161 = .ok (.iload_n 2, 1) := by decide +kernel
theorem dX13_findLight_162 : decode cX13_findLight 162 = .ok (.lload_n 3, 1) := by decide +kernel
theorem dX13_findLight_163 : decode cX13_findLight 163 = .ok (.lastore, 1) := by decide +kernel
theorem dX13_findLight_164 : decode cX13_findLight 164 = .ok (.iconst 1, 1) := by decide +kernel
theorem dX13_findLight_165 : decode cX13_findLight 165 = .ok (.istore_n 1, 1) := by decide +kernel
theorem dX13_findLight_166 : decode cX13_findLight 166 = .ok (.iinc 2 (-1), 3) := by decide +kernel
theorem dX13_findLight_169 : decode cX13_findLight 169 = .ok (.goto (-47), 3) := by decide +kernel
theorem dX13_findLight_17 : decode cX13_findLight 17 = .ok (.getfield 664, 3) := by decide +kernel
theorem dX13_findLight_172 : decode cX13_findLight 172 = .ok (.goto (-63), 3) := by decide +kernel
theorem dX13_findLight_175 : decode cX13_findLight 175 = .ok (.return_, 1) := by decide +kernel
theorem dX13_findLight_20 : decode cX13_findLight 20 = .ok (.if_icmp .ge 25, 3) := by decide +kernel
theorem dX13_findLight_23 : decode cX13_findLight 23 = .ok (.aload_n 0, 1) := by decide +kernel
theorem dX13_findLight_24 : decode cX13_findLight 24 = .ok (.getfield 197, 3) := by decide +kernel
theorem dX13_findLight_27 : decode cX13_findLight 27 = .ok (.iload_n 1, 1) := by decide +kernel
theorem dX13_findLight_28 : decode cX13_findLight 28 = .ok (.ldc2_w 1054, 3) := by decide +kernel
theorem dX13_findLight_31 : decode cX13_findLight 31 = .ok (.lastore, 1) := by decide +kernel
theorem dX13_findLight_32 : decode cX13_findLight 32 = .ok (.aload_n 0, 1) := by decide +kernel
theorem dX13_findLight_33 : decode cX13_findLight 33 = .ok (.getfield 200, 3) := by decide +kernel
theorem dX13_findLight_36 : decode cX13_findLight 36 = .ok (.iload_n 1, 1) := by decide +kernel
theorem dX13_findLight_37 : decode cX13_findLight 37 = .ok (.iconst 0, 1) := by decide +kernel
theorem dX13_findLight_38 : decode cX13_findLight 38 = .ok (.bastore, 1) := by decide +kernel
theorem dX13_findLight_39 : decode cX13_findLight 39 = .ok (.iinc 1 1, 3) := by decide +kernel
theorem dX13_findLight_4 : decode cX13_findLight 4 = .ok (.ifCond .eq 4, 3) := by decide +kernel
theorem dX13_findLight_42 : decode cX13_findLight 42 = .ok (.goto (-27), 3) := by decide +kernel
theorem dX13_findLight_45 : decode cX13_findLight 45 = .ok (.iconst 1, 1) := by decide +kernel
theorem dX13_findLight_46 : decode cX13_findLight 46 = .ok (.istore_n 1, 1) := by decide +kernel
theorem dX13_findLight_47 : decode cX13_findLight 47 = .ok (.iload_n 1, 1) := by decide +kernel
theorem dX13_findLight_48 : decode cX13_findLight 48 = .ok (.ifCond .eq 59, 3) := by decide +kernel
theorem dX13_findLight_51 : decode cX13_findLight 51 = .ok (.iconst 0, 1) := by decide +kernel
theorem dX13_findLight_52 : decode cX13_findLight 52 = .ok (.istore_n 1, 1) := by decide +kernel
theorem dX13_findLight_53 : decode cX13_findLight 53 = .ok (.aload_n 0, 1) := by decide +kernel
theorem dX13_findLight_54 : decode cX13_findLight 54 = .ok (.getfield 664, 3) := by decide +kernel
theorem dX13_findLight_57 : decode cX13_findLight 57 = .ok (.iconst 1, 1) := by decide +kernel
theorem dX13_findLight_58 : decode cX13_findLight 58 = .ok (.isub, 1) := by decide +kernel
theorem dX13_findLight_59 : decode cX13_findLight 59 = .ok (.istore_n 2, 1) := by decide +kernel
theorem dX13_findLight_60 : decode cX13_findLight 60 = .ok (.iload_n 2, 1) := by decide +kernel
theorem dX13_findLight_61 : decode cX13_findLight 61 = .ok (.ifCond .lt 43, 3) := by decide +kernel
theorem dX13_findLight_64 : decode cX13_findLight 64 = .ok (.aload_n 0, 1) := by decide +kernel
theorem dX13_findLight_65 : decode cX13_findLight 65 = .ok (.iload_n 2, 1) := by decide +kernel
theorem dX13_findLight_66 : decode cX13_findLight 66 = .ok (.invokevirtual 1063, 3) := by decide +kernel
theorem dX13_findLight_69 : decode cX13_findLight 69 = .ok (.ifCond .eq 29, 3) := by decide +kernel
theorem dX13_findLight_7 : decode cX13_findLight 7 = .ok (.return_, 1) := by decide +kernel
theorem dX13_findLight_72 : decode cX13_findLight 72 = .ok (.aload_n 0, 1) := by decide +kernel
theorem dX13_findLight_73 : decode cX13_findLight 73 = .ok (.getfield 200, 3) := by decide +kernel
theorem dX13_findLight_76 : decode cX13_findLight 76 = .ok (.iload_n 2, 1) := by decide +kernel
theorem dX13_findLight_77 : decode cX13_findLight 77 = .ok (.baload, 1) := by decide +kernel
theorem dX13_findLight_78 : decode cX13_findLight 78 = .ok (.ifCond .ne 20, 3) := by decide +kernel
theorem dX13_findLight_8 : decode cX13_findLight 8 = .ok (.aload_n 0, 1) := by decide +kernel
theorem dX13_findLight_81 : decode cX13_findLight 81 = .ok (.aload_n 0, 1) := by decide +kernel
theorem dX13_findLight_82 : decode cX13_findLight 82 = .ok (.iload_n 2, 1) := by decide +kernel
theorem dX13_findLight_83 : decode cX13_findLight 83 = .ok (.invokevirtual 1066, 3) := by decide +kernel
theorem dX13_findLight_86 : decode cX13_findLight 86 = .ok (.ifCond .eq 12, 3) := by decide +kernel
theorem dX13_findLight_89 : decode cX13_findLight 89 = .ok (.aload_n 0, 1) := by decide +kernel
theorem dX13_findLight_9 : decode cX13_findLight 9 = .ok (.iconst 1, 1) := by decide +kernel
theorem dX13_findLight_90 : decode cX13_findLight 90 = .ok (.getfield 200, 3) := by decide +kernel
theorem dX13_findLight_93 : decode cX13_findLight 93 = .ok (.iload_n 2, 1) := by decide +kernel
theorem dX13_findLight_94 : decode cX13_findLight 94 = .ok (.iconst 1, 1) := by decide +kernel
theorem dX13_findLight_95 : decode cX13_findLight 95 = .ok (.bastore, 1) := by decide +kernel
theorem dX13_findLight_96 : decode cX13_findLight 96 = .ok (.iconst 1, 1) := by decide +kernel
theorem dX13_findLight_97 : decode cX13_findLight 97 = .ok (.istore_n 1, 1) := by decide +kernel
theorem dX13_findLight_98 : decode cX13_findLight 98 = .ok (.iinc 2 (-1), 3) := by decide +kernel
noncomputable def k_X13_findLight_98 (l1 : Int32) (l2 : Int32) (s : t_S) : Option ((Int32 × Int32 × t_S) ⊕ ((Int32 × t_S) ⊕ (t_S))) :=
 some (.inl (l1, (l2 + (-1)), s))
set_option maxRecDepth 4000 in
set_option maxHeartbeats 1000000 in
theorem B_X13_findLight_98 {D : va_G} {cy : Nat → ClassId} {ad : Nat → Nat} {bs : Nat} {X : State → Heap → Prop} (l1 : Int32) (l2 : Int32) (s : t_S) (Q : (Int32 × Int32 × t_S) ⊕ ((Int32 × t_S) ⊕ (t_S)) → Prop) (Hb47 : ∀ (y0 : Int32) (y1 : t_S), Q (.inr (.inl (y0, y1))) → mj_G D cy ad bs X cX13_findLight 5 yX13_findLight.cls none yX13_findLight.name 2 0 0 1065 (t_P (fun v s' => v = none ∧ Q (.inr (.inr (s'))))) 47 [(0, .ref 950), (1, .int (y0))] [] (t_m y1) 1065 0 0) (Hb60 : ∀ (y0 : Int32) (y1 : Int32) (y2 : t_S), Q (.inl (y0, y1, y2)) → mj_G D cy ad bs X cX13_findLight 5 yX13_findLight.cls none yX13_findLight.name 2 0 0 1065 (t_P (fun v s' => v = none ∧ Q (.inr (.inr (s'))))) 60 [(0, .ref 950), (1, .int (y0)), (2, .int (y1))] [] (t_m y2) 1065 0 0) (hk : t_hk (k_X13_findLight_98 l1 l2 s) Q) : mj_G D cy ad bs X cX13_findLight 5 yX13_findLight.cls none yX13_findLight.name 2 0 0 1065 (t_P (fun v s' => v = none ∧ Q (.inr (.inr (s'))))) 98 [(0, .ref 950), (1, .int l1), (2, .int l2)] [] (t_m s) 1065 0 0 := by
  refine mj_iinc (k := 2) (v := (l2 + (-1))) (lv2 := [(2, .int (l2 + (-1))), (0, .ref 950), (1, .int l1)]) dX13_findLight_98 rfl rfl (by decide) rfl ?_
  refine mj_goto 60 dX13_findLight_101 (by decide) ?_
  refine mj_sublv [(0, .ref 950), (1, .int l1), (2, .int (l2 + (-1)))] [1, 2, 0] rfl ?_
  exact t_somK hk (fun hf => Hb60 l1 (l2 + (-1)) s hf)
noncomputable def k_X13_findLight_60 (l1 : Int32) (l2 : Int32) (s : t_S) : Option ((Int32 × Int32 × t_S) ⊕ ((Int32 × t_S) ⊕ (t_S))) :=
 if l2 < (0 : Int32) then ((some (.inl (l1, s))).map Sum.inr)
 else ((f_X13_isTypeNode l2 s).bind (fun r1 =>
 if r1 = (0 : Int32) then (k_X13_findLight_98 l1 l2 s)
 else (if t_ix l2 13000 = true then
  if (s.1 1012 (l2.toNatClampNeg)) = (0 : Int32) then ((f_X13_fullOf l2 s).bind (fun r3 =>
 if r3 = (0 : Int32) then (k_X13_findLight_98 l1 l2 s)
 else (t_let (t_setI s 1012 (l2.toNatClampNeg) (1 : Int32)) (fun s1 =>
 k_X13_findLight_98 1 l2 s1))))
 else (k_X13_findLight_98 l1 l2 s)
else none)))
set_option maxRecDepth 4000 in
set_option maxHeartbeats 1000000 in
theorem B_X13_findLight_60 {D : va_G} {cy : Nat → ClassId} {ad : Nat → Nat} {bs : Nat} {X : State → Heap → Prop} (l1 : Int32) (l2 : Int32) (s : t_S) (Q : (Int32 × Int32 × t_S) ⊕ ((Int32 × t_S) ⊕ (t_S)) → Prop) (Hb47 : ∀ (y0 : Int32) (y1 : t_S), Q (.inr (.inl (y0, y1))) → mj_G D cy ad bs X cX13_findLight 5 yX13_findLight.cls none yX13_findLight.name 2 0 0 1065 (t_P (fun v s' => v = none ∧ Q (.inr (.inr (s'))))) 47 [(0, .ref 950), (1, .int (y0))] [] (t_m y1) 1065 0 0) (Hb60 : ∀ (y0 : Int32) (y1 : Int32) (y2 : t_S), Q (.inl (y0, y1, y2)) → mj_G D cy ad bs X cX13_findLight 5 yX13_findLight.cls none yX13_findLight.name 2 0 0 1065 (t_P (fun v s' => v = none ∧ Q (.inr (.inr (s'))))) 60 [(0, .ref 950), (1, .int (y0)), (2, .int (y1))] [] (t_m y2) 1065 0 0) (hk : t_hk (k_X13_findLight_60 l1 l2 s) Q) : mj_G D cy ad bs X cX13_findLight 5 yX13_findLight.cls none yX13_findLight.name 2 0 0 1065 (t_P (fun v s' => v = none ∧ Q (.inr (.inr (s'))))) 60 [(0, .ref 950), (1, .int l1), (2, .int l2)] [] (t_m s) 1065 0 0 := by
  refine mj_iload_n dX13_findLight_60 2 rfl ?_
  refine mj_if_lt 104 dX13_findLight_61 (by decide) (fun z => t_posK hk z (fun hk => ?_)) (fun z => t_negK hk z (fun hk => ?_))
  · refine t_mapK hk (fun hk => ?_)
    refine mj_goto 47 dX13_findLight_104 (by decide) ?_
    refine mj_sublv [(0, .ref 950), (1, .int l1)] [0, 1] rfl ?_
    exact t_somK hk (fun hf => Hb47 l1 s hf)
  · refine mj_aload_n dX13_findLight_64 0 rfl ?_
    refine mj_iload_n dX13_findLight_65 2 rfl ?_
    refine t_bndK hk (fun r1 er1 hk => ?_)
    refine t_callViP dX13_findLight_66 M_X13_isTypeNode (C_X13_isTypeNode _ _ _ er1) ML_X13_1063 IM_X13_isTypeNode SE_X13_isTypeNode qc_950 rfl (As := [.int l2]) rfl rfl (Nat.le_of_ble_eq_true rfl) (Nat.le_of_ble_eq_true rfl) (Nat.le_of_ble_eq_true rfl) (Nat.le_of_ble_eq_true rfl) ?_
    refine mj_if_eq 98 dX13_findLight_69 (by decide) (fun z => t_posK hk z (fun hk => ?_)) (fun z => t_negK hk z (fun hk => ?_))
    · exact B_X13_findLight_98 _ _ _ _ (fun y0 y1 hx => Hb47 y0 y1 hx) (fun y0 y1 y2 hx => Hb60 y0 y1 y2 hx) hk
    · refine mj_aload_n dX13_findLight_72 0 rfl ?_
      refine t_getR 1012 dX13_findLight_73 F_X13_200 qr_950_109 ?_
      refine mj_iload_n dX13_findLight_76 2 rfl ?_
      refine t_chkK hk (fun c1 hk => ?_)
      refine t_zald dX13_findLight_77 qa_1012 (t_ixv c1) ?_
      refine mj_if_ne 98 dX13_findLight_78 (by decide) (fun z => t_negK hk z (fun hk => ?_)) (fun z => t_posK hk z (fun hk => ?_))
      · exact B_X13_findLight_98 _ _ _ _ (fun y0 y1 hx => Hb47 y0 y1 hx) (fun y0 y1 y2 hx => Hb60 y0 y1 y2 hx) hk
      · refine mj_aload_n dX13_findLight_81 0 rfl ?_
        refine mj_iload_n dX13_findLight_82 2 rfl ?_
        refine t_bndK hk (fun r3 er3 hk => ?_)
        refine t_callViP dX13_findLight_83 M_X13_fullOf (C_X13_fullOf _ _ _ er3) ML_X13_1066 IM_X13_fullOf SE_X13_fullOf qc_950 rfl (As := [.int l2]) rfl rfl (Nat.le_of_ble_eq_true rfl) (Nat.le_of_ble_eq_true rfl) (Nat.le_of_ble_eq_true rfl) (Nat.le_of_ble_eq_true rfl) ?_
        refine mj_if_eq 98 dX13_findLight_86 (by decide) (fun z => t_posK hk z (fun hk => ?_)) (fun z => t_negK hk z (fun hk => ?_))
        · exact B_X13_findLight_98 _ _ _ _ (fun y0 y1 hx => Hb47 y0 y1 hx) (fun y0 y1 y2 hx => Hb60 y0 y1 y2 hx) hk
        · refine mj_aload_n dX13_findLight_89 0 rfl ?_
          refine t_getR 1012 dX13_findLight_90 F_X13_200 qr_950_109 ?_
          refine mj_iload_n dX13_findLight_93 2 rfl ?_
          refine mj_iconst (v := 1) dX13_findLight_94 (by decide) ?_
          refine t_zastK dX13_findLight_95 qa_1012 (t_ixv c1) (by decide) (fun s1 ws1 => t_letE hk ws1 (fun hk => ?_))
          refine mj_iconst (v := 1) dX13_findLight_96 (by decide) ?_
          refine mj_istore_n 1 (lv2 := [(1, .int 1), (0, .ref 950), (2, .int l2)]) dX13_findLight_97 rfl (by decide) rfl ?_
          refine mj_sublv [(0, .ref 950), (1, .int 1), (2, .int l2)] [1, 0, 2] rfl ?_
          exact B_X13_findLight_98 _ _ _ _ (fun y0 y1 hx => Hb47 y0 y1 hx) (fun y0 y1 y2 hx => Hb60 y0 y1 y2 hx) hk
noncomputable def b_X13_findLight_60 (x : Int32 × Int32 × t_S) : Option ((Int32 × Int32 × t_S) ⊕ ((Int32 × t_S) ⊕ (t_S))) := k_X13_findLight_60 x.1 x.2.1 x.2.2
set_option maxRecDepth 4000 in
set_option maxHeartbeats 1000000 in
theorem LH_X13_findLight_60 {D : va_G} {cy : Nat → ClassId} {ad : Nat → Nat} {bs : Nat} {X : State → Heap → Prop} : ∀ (n : Nat) (y0 : Int32) (y1 : Int32) (y2 : t_S) (Q : (Int32 × t_S) ⊕ (t_S) → Prop) (Hb47 : ∀ (y0 : Int32) (y1 : t_S), Q (.inl (y0, y1)) → mj_G D cy ad bs X cX13_findLight 5 yX13_findLight.cls none yX13_findLight.name 2 0 0 1065 (t_P (fun v s' => v = none ∧ Q (.inr (s')))) 47 [(0, .ref 950), (1, .int (y0))] [] (t_m y1) 1065 0 0) (hk : t_hk (t_loop (b_X13_findLight_60) n (y0, y1, y2)) Q), mj_G D cy ad bs X cX13_findLight 5 yX13_findLight.cls none yX13_findLight.name 2 0 0 1065 (t_P (fun v s' => v = none ∧ Q (.inr (s')))) 60 [(0, .ref 950), (1, .int (y0)), (2, .int (y1))] [] (t_m y2) 1065 0 0 := by
  intro n
  induction n with
  | zero => intro y0 y1 y2 Q Hb47 hk; obtain ⟨r, hr, _⟩ := hk; cases hr
  | succ n ih =>
    intro y0 y1 y2 Q Hb47 hk
    exact B_X13_findLight_60 y0 y1 y2 (fun y => t_lq (b_X13_findLight_60) n Q y) (fun y0' y1' hy => Hb47 y0' y1' hy) (fun y0' y1' y2' hy => ih y0' y1' y2' Q Hb47 hy) (t_lp (b := b_X13_findLight_60) (n := n) (x := (y0, y1, y2)) hk)
noncomputable def k_X13_findLight_166 (l1 : Int32) (l2 : Int32) (s : t_S) : Option ((Int32 × Int32 × t_S) ⊕ ((Int32 × t_S) ⊕ (t_S))) :=
 some (.inl (l1, (l2 + (-1)), s))
set_option maxRecDepth 4000 in
set_option maxHeartbeats 1000000 in
theorem B_X13_findLight_166 {D : va_G} {cy : Nat → ClassId} {ad : Nat → Nat} {bs : Nat} {X : State → Heap → Prop} (l1 : Int32) (l2 : Int32) (s : t_S) (Q : (Int32 × Int32 × t_S) ⊕ ((Int32 × t_S) ⊕ (t_S)) → Prop) (Hb109 : ∀ (y0 : Int32) (y1 : t_S), Q (.inr (.inl (y0, y1))) → mj_G D cy ad bs X cX13_findLight 5 yX13_findLight.cls none yX13_findLight.name 2 0 0 1065 (t_P (fun v s' => v = none ∧ Q (.inr (.inr (s'))))) 109 [(0, .ref 950), (1, .int (y0))] [] (t_m y1) 1065 0 0) (Hb122 : ∀ (y0 : Int32) (y1 : Int32) (y2 : t_S), Q (.inl (y0, y1, y2)) → mj_G D cy ad bs X cX13_findLight 5 yX13_findLight.cls none yX13_findLight.name 2 0 0 1065 (t_P (fun v s' => v = none ∧ Q (.inr (.inr (s'))))) 122 [(0, .ref 950), (1, .int (y0)), (2, .int (y1))] [] (t_m y2) 1065 0 0) (hk : t_hk (k_X13_findLight_166 l1 l2 s) Q) : mj_G D cy ad bs X cX13_findLight 5 yX13_findLight.cls none yX13_findLight.name 2 0 0 1065 (t_P (fun v s' => v = none ∧ Q (.inr (.inr (s'))))) 166 [(0, .ref 950), (1, .int l1), (2, .int l2)] [] (t_m s) 1065 0 0 := by
  refine mj_iinc (k := 2) (v := (l2 + (-1))) (lv2 := [(2, .int (l2 + (-1))), (0, .ref 950), (1, .int l1)]) dX13_findLight_166 rfl rfl (by decide) rfl ?_
  refine mj_goto 122 dX13_findLight_169 (by decide) ?_
  refine mj_sublv [(0, .ref 950), (1, .int l1), (2, .int (l2 + (-1)))] [1, 2, 0] rfl ?_
  exact t_somK hk (fun hf => Hb122 l1 (l2 + (-1)) s hf)
noncomputable def k_X13_findLight_145 (l1 : Int32) (l2 : Int32) (k0 : Int64) (s : t_S) : Option ((Int32 × Int32 × t_S) ⊕ ((Int32 × t_S) ⊕ (t_S))) :=
 if t_ix l2 13000 = true then
  if (0 : Int32) ≤ (lg_cmp k0 (s.2.1 1011 (l2.toNatClampNeg))) then (k_X13_findLight_166 l1 l2 s)
 else (t_let (t_setJ s 1011 (l2.toNatClampNeg) k0) (fun s1 =>
 k_X13_findLight_166 1 l2 s1))
else none
set_option maxRecDepth 4000 in
set_option maxHeartbeats 1000000 in
theorem B_X13_findLight_145 {D : va_G} {cy : Nat → ClassId} {ad : Nat → Nat} {bs : Nat} {X : State → Heap → Prop} (l1 : Int32) (l2 : Int32) (k0 : Int64) (s : t_S) (Q : (Int32 × Int32 × t_S) ⊕ ((Int32 × t_S) ⊕ (t_S)) → Prop) (Hb109 : ∀ (y0 : Int32) (y1 : t_S), Q (.inr (.inl (y0, y1))) → mj_G D cy ad bs X cX13_findLight 5 yX13_findLight.cls none yX13_findLight.name 2 0 0 1065 (t_P (fun v s' => v = none ∧ Q (.inr (.inr (s'))))) 109 [(0, .ref 950), (1, .int (y0))] [] (t_m y1) 1065 0 0) (Hb122 : ∀ (y0 : Int32) (y1 : Int32) (y2 : t_S), Q (.inl (y0, y1, y2)) → mj_G D cy ad bs X cX13_findLight 5 yX13_findLight.cls none yX13_findLight.name 2 0 0 1065 (t_P (fun v s' => v = none ∧ Q (.inr (.inr (s'))))) 122 [(0, .ref 950), (1, .int (y0)), (2, .int (y1))] [] (t_m y2) 1065 0 0) (hk : t_hk (k_X13_findLight_145 l1 l2 k0 s) Q) : mj_G D cy ad bs X cX13_findLight 5 yX13_findLight.cls none yX13_findLight.name 2 0 0 1065 (t_P (fun v s' => v = none ∧ Q (.inr (.inr (s'))))) 145 [(0, .ref 950), (1, .int l1), (2, .int l2)] [.long k0] (t_m s) 1065 0 0 := by
  refine mj_lstore_n 3 (lv2 := [(3, .long k0), (0, .ref 950), (1, .int l1), (2, .int l2)]) dX13_findLight_145 rfl (by decide) rfl ?_
  refine mj_lload_n dX13_findLight_146 0 rfl ?_
  refine mj_aload_n dX13_findLight_147 1 rfl ?_
  refine t_getR 1011 dX13_findLight_148 F_X13_197 qr_950_107 ?_
  refine mj_iload_n dX13_findLight_151 3 rfl ?_
  refine t_chkK hk (fun c0 hk => ?_)
  refine t_lald dX13_findLight_152 qa_1011 (t_ixv c0) ?_
  refine mj_lcmp dX13_findLight_153 ?_
  refine mj_if_ge 166 dX13_findLight_154 (by decide) (fun z => t_posK hk z (fun hk => ?_)) (fun z => t_negK hk z (fun hk => ?_))
  · refine mj_sublv [(0, .ref 950), (1, .int l1), (2, .int l2)] [1, 2, 3] rfl ?_
    exact B_X13_findLight_166 _ _ _ _ (fun y0 y1 hx => Hb109 y0 y1 hx) (fun y0 y1 y2 hx => Hb122 y0 y1 y2 hx) hk
  · refine mj_aload_n dX13_findLight_157 1 rfl ?_
    refine t_getR 1011 dX13_findLight_158 F_X13_197 qr_950_107 ?_
    refine mj_iload_n dX13_findLight_161 3 rfl ?_
    refine mj_lload_n dX13_findLight_162 0 rfl ?_
    refine t_lastK dX13_findLight_163 qa_1011 (t_ixv c0) (fun s1 ws1 => t_letE hk ws1 (fun hk => ?_))
    refine mj_iconst (v := 1) dX13_findLight_164 (by decide) ?_
    refine mj_istore_n 1 (lv2 := [(1, .int 1), (3, .long k0), (0, .ref 950), (2, .int l2)]) dX13_findLight_165 rfl (by decide) rfl ?_
    refine mj_sublv [(0, .ref 950), (1, .int 1), (2, .int l2)] [2, 0, 3] rfl ?_
    exact B_X13_findLight_166 _ _ _ _ (fun y0 y1 hx => Hb109 y0 y1 hx) (fun y0 y1 y2 hx => Hb122 y0 y1 y2 hx) hk
noncomputable def k_X13_findLight_122 (l1 : Int32) (l2 : Int32) (s : t_S) : Option ((Int32 × Int32 × t_S) ⊕ ((Int32 × t_S) ⊕ (t_S))) :=
 if l2 < (0 : Int32) then ((some (.inl (l1, s))).map Sum.inr)
 else ((f_X13_isTypeNode l2 s).bind (fun r1 =>
 if r1 = (0 : Int32) then (k_X13_findLight_145 l1 l2 4000000000000000000 s)
 else ((f_X13_lightOf l2 s).bind (fun r2 =>
 k_X13_findLight_145 l1 l2 r2 s))))
set_option maxRecDepth 4000 in
set_option maxHeartbeats 1000000 in
theorem B_X13_findLight_122 {D : va_G} {cy : Nat → ClassId} {ad : Nat → Nat} {bs : Nat} {X : State → Heap → Prop} (l1 : Int32) (l2 : Int32) (s : t_S) (Q : (Int32 × Int32 × t_S) ⊕ ((Int32 × t_S) ⊕ (t_S)) → Prop) (Hb109 : ∀ (y0 : Int32) (y1 : t_S), Q (.inr (.inl (y0, y1))) → mj_G D cy ad bs X cX13_findLight 5 yX13_findLight.cls none yX13_findLight.name 2 0 0 1065 (t_P (fun v s' => v = none ∧ Q (.inr (.inr (s'))))) 109 [(0, .ref 950), (1, .int (y0))] [] (t_m y1) 1065 0 0) (Hb122 : ∀ (y0 : Int32) (y1 : Int32) (y2 : t_S), Q (.inl (y0, y1, y2)) → mj_G D cy ad bs X cX13_findLight 5 yX13_findLight.cls none yX13_findLight.name 2 0 0 1065 (t_P (fun v s' => v = none ∧ Q (.inr (.inr (s'))))) 122 [(0, .ref 950), (1, .int (y0)), (2, .int (y1))] [] (t_m y2) 1065 0 0) (hk : t_hk (k_X13_findLight_122 l1 l2 s) Q) : mj_G D cy ad bs X cX13_findLight 5 yX13_findLight.cls none yX13_findLight.name 2 0 0 1065 (t_P (fun v s' => v = none ∧ Q (.inr (.inr (s'))))) 122 [(0, .ref 950), (1, .int l1), (2, .int l2)] [] (t_m s) 1065 0 0 := by
  refine mj_iload_n dX13_findLight_122 2 rfl ?_
  refine mj_if_lt 172 dX13_findLight_123 (by decide) (fun z => t_posK hk z (fun hk => ?_)) (fun z => t_negK hk z (fun hk => ?_))
  · refine t_mapK hk (fun hk => ?_)
    refine mj_goto 109 dX13_findLight_172 (by decide) ?_
    refine mj_sublv [(0, .ref 950), (1, .int l1)] [0, 1] rfl ?_
    exact t_somK hk (fun hf => Hb109 l1 s hf)
  · refine mj_aload_n dX13_findLight_126 0 rfl ?_
    refine mj_iload_n dX13_findLight_127 2 rfl ?_
    refine t_bndK hk (fun r1 er1 hk => ?_)
    refine t_callViP dX13_findLight_128 M_X13_isTypeNode (C_X13_isTypeNode _ _ _ er1) ML_X13_1063 IM_X13_isTypeNode SE_X13_isTypeNode qc_950 rfl (As := [.int l2]) rfl rfl (Nat.le_of_ble_eq_true rfl) (Nat.le_of_ble_eq_true rfl) (Nat.le_of_ble_eq_true rfl) (Nat.le_of_ble_eq_true rfl) ?_
    refine mj_if_eq 142 dX13_findLight_131 (by decide) (fun z => t_posK hk z (fun hk => ?_)) (fun z => t_negK hk z (fun hk => ?_))
    · refine mj_ldc2 dX13_findLight_142 K_X13_1054 ?_
      exact B_X13_findLight_145 _ _ _ _ _ (fun y0 y1 hx => Hb109 y0 y1 hx) (fun y0 y1 y2 hx => Hb122 y0 y1 y2 hx) hk
    · refine mj_aload_n dX13_findLight_134 0 rfl ?_
      refine mj_iload_n dX13_findLight_135 2 rfl ?_
      refine t_bndK hk (fun r2 er2 hk => ?_)
      refine t_callVlP dX13_findLight_136 M_X13_lightOf (C_X13_lightOf _ _ _ er2) ML_X13_1069 IM_X13_lightOf SE_X13_lightOf qc_950 rfl (As := [.int l2]) rfl rfl (Nat.le_of_ble_eq_true rfl) (Nat.le_of_ble_eq_true rfl) (Nat.le_of_ble_eq_true rfl) (Nat.le_of_ble_eq_true rfl) ?_
      refine mj_goto 145 dX13_findLight_139 (by decide) ?_
      exact B_X13_findLight_145 _ _ _ _ _ (fun y0 y1 hx => Hb109 y0 y1 hx) (fun y0 y1 y2 hx => Hb122 y0 y1 y2 hx) hk
noncomputable def b_X13_findLight_122 (x : Int32 × Int32 × t_S) : Option ((Int32 × Int32 × t_S) ⊕ ((Int32 × t_S) ⊕ (t_S))) := k_X13_findLight_122 x.1 x.2.1 x.2.2
set_option maxRecDepth 4000 in
set_option maxHeartbeats 1000000 in
theorem LH_X13_findLight_122 {D : va_G} {cy : Nat → ClassId} {ad : Nat → Nat} {bs : Nat} {X : State → Heap → Prop} : ∀ (n : Nat) (y0 : Int32) (y1 : Int32) (y2 : t_S) (Q : (Int32 × t_S) ⊕ (t_S) → Prop) (Hb109 : ∀ (y0 : Int32) (y1 : t_S), Q (.inl (y0, y1)) → mj_G D cy ad bs X cX13_findLight 5 yX13_findLight.cls none yX13_findLight.name 2 0 0 1065 (t_P (fun v s' => v = none ∧ Q (.inr (s')))) 109 [(0, .ref 950), (1, .int (y0))] [] (t_m y1) 1065 0 0) (hk : t_hk (t_loop (b_X13_findLight_122) n (y0, y1, y2)) Q), mj_G D cy ad bs X cX13_findLight 5 yX13_findLight.cls none yX13_findLight.name 2 0 0 1065 (t_P (fun v s' => v = none ∧ Q (.inr (s')))) 122 [(0, .ref 950), (1, .int (y0)), (2, .int (y1))] [] (t_m y2) 1065 0 0 := by
  intro n
  induction n with
  | zero => intro y0 y1 y2 Q Hb109 hk; obtain ⟨r, hr, _⟩ := hk; cases hr
  | succ n ih =>
    intro y0 y1 y2 Q Hb109 hk
    exact B_X13_findLight_122 y0 y1 y2 (fun y => t_lq (b_X13_findLight_122) n Q y) (fun y0' y1' hy => Hb109 y0' y1' hy) (fun y0' y1' y2' hy => ih y0' y1' y2' Q Hb109 hy) (t_lp (b := b_X13_findLight_122) (n := n) (x := (y0, y1, y2)) hk)
noncomputable def k_X13_findLight_109 (l1 : Int32) (s : t_S) : Option ((Int32 × t_S) ⊕ (t_S)) :=
 if l1 = (0 : Int32) then ((some (s)).map Sum.inr)
 else (t_loop (b_X13_findLight_122) t_N (0, ((s.1 950 29) - (1 : Int32)), s))
set_option maxRecDepth 4000 in
set_option maxHeartbeats 1000000 in
theorem B_X13_findLight_109 {D : va_G} {cy : Nat → ClassId} {ad : Nat → Nat} {bs : Nat} {X : State → Heap → Prop} (l1 : Int32) (s : t_S) (Q : (Int32 × t_S) ⊕ (t_S) → Prop) (Hb109 : ∀ (y0 : Int32) (y1 : t_S), Q (.inl (y0, y1)) → mj_G D cy ad bs X cX13_findLight 5 yX13_findLight.cls none yX13_findLight.name 2 0 0 1065 (t_P (fun v s' => v = none ∧ Q (.inr (s')))) 109 [(0, .ref 950), (1, .int (y0))] [] (t_m y1) 1065 0 0) (hk : t_hk (k_X13_findLight_109 l1 s) Q) : mj_G D cy ad bs X cX13_findLight 5 yX13_findLight.cls none yX13_findLight.name 2 0 0 1065 (t_P (fun v s' => v = none ∧ Q (.inr (s')))) 109 [(0, .ref 950), (1, .int l1)] [] (t_m s) 1065 0 0 := by
  refine mj_iload_n dX13_findLight_109 1 rfl ?_
  refine mj_if_eq 175 dX13_findLight_110 (by decide) (fun z => t_posK hk z (fun hk => ?_)) (fun z => t_negK hk z (fun hk => ?_))
  · refine t_mapK hk (fun hk => ?_)
    exact t_somK hk (fun hf => t_vret dX13_findLight_175 rfl ⟨rfl, hf⟩ (Nat.le_of_ble_eq_true rfl) (Nat.le_of_ble_eq_true rfl))
  · refine mj_iconst (v := 0) dX13_findLight_113 (by decide) ?_
    refine mj_istore_n 1 (lv2 := [(1, .int 0), (0, .ref 950)]) dX13_findLight_114 rfl (by decide) rfl ?_
    refine mj_aload_n dX13_findLight_115 1 rfl ?_
    refine t_getI dX13_findLight_116 F_X13_664 qf_950_29 ?_
    refine mj_iconst (v := 1) dX13_findLight_119 (by decide) ?_
    refine mj_isub dX13_findLight_120 ?_
    refine mj_istore_n 2 (lv2 := [(2, .int ((s.1 950 29) - (1 : Int32))), (1, .int 0), (0, .ref 950)]) dX13_findLight_121 rfl (by decide) rfl ?_
    refine mj_sublv [(0, .ref 950), (1, .int 0), (2, .int ((s.1 950 29) - (1 : Int32)))] [2, 1, 0] rfl ?_
    exact LH_X13_findLight_122 _ 0 ((s.1 950 29) - (1 : Int32)) s _ (fun y0 y1 hx => Hb109 y0 y1 hx) hk
noncomputable def b_X13_findLight_109 (x : Int32 × t_S) : Option ((Int32 × t_S) ⊕ (t_S)) := k_X13_findLight_109 x.1 x.2
set_option maxRecDepth 4000 in
set_option maxHeartbeats 1000000 in
theorem LH_X13_findLight_109 {D : va_G} {cy : Nat → ClassId} {ad : Nat → Nat} {bs : Nat} {X : State → Heap → Prop} : ∀ (n : Nat) (y0 : Int32) (y1 : t_S) (Q : t_S → Prop) (hk : t_hk (t_loop (b_X13_findLight_109) n (y0, y1)) Q), mj_G D cy ad bs X cX13_findLight 5 yX13_findLight.cls none yX13_findLight.name 2 0 0 1065 (t_P (fun v s' => v = none ∧ Q (s'))) 109 [(0, .ref 950), (1, .int (y0))] [] (t_m y1) 1065 0 0 := by
  intro n
  induction n with
  | zero => intro y0 y1 Q hk; obtain ⟨r, hr, _⟩ := hk; cases hr
  | succ n ih =>
    intro y0 y1 Q hk
    exact B_X13_findLight_109 y0 y1 (fun y => t_lq (b_X13_findLight_109) n Q y) (fun y0' y1' hy => ih y0' y1' Q hy) (t_lp (b := b_X13_findLight_109) (n := n) (x := (y0, y1)) hk)
noncomputable def k_X13_findLight_47 (l1 : Int32) (s : t_S) : Option ((Int32 × t_S) ⊕ (t_S)) :=
 if l1 = (0 : Int32) then ((t_loop (b_X13_findLight_109) t_N (1, s)).map Sum.inr)
 else (t_loop (b_X13_findLight_60) t_N (0, ((s.1 950 29) - (1 : Int32)), s))
set_option maxRecDepth 4000 in
set_option maxHeartbeats 1000000 in
theorem B_X13_findLight_47 {D : va_G} {cy : Nat → ClassId} {ad : Nat → Nat} {bs : Nat} {X : State → Heap → Prop} (l1 : Int32) (s : t_S) (Q : (Int32 × t_S) ⊕ (t_S) → Prop) (Hb47 : ∀ (y0 : Int32) (y1 : t_S), Q (.inl (y0, y1)) → mj_G D cy ad bs X cX13_findLight 5 yX13_findLight.cls none yX13_findLight.name 2 0 0 1065 (t_P (fun v s' => v = none ∧ Q (.inr (s')))) 47 [(0, .ref 950), (1, .int (y0))] [] (t_m y1) 1065 0 0) (hk : t_hk (k_X13_findLight_47 l1 s) Q) : mj_G D cy ad bs X cX13_findLight 5 yX13_findLight.cls none yX13_findLight.name 2 0 0 1065 (t_P (fun v s' => v = none ∧ Q (.inr (s')))) 47 [(0, .ref 950), (1, .int l1)] [] (t_m s) 1065 0 0 := by
  refine mj_iload_n dX13_findLight_47 1 rfl ?_
  refine mj_if_eq 107 dX13_findLight_48 (by decide) (fun z => t_posK hk z (fun hk => ?_)) (fun z => t_negK hk z (fun hk => ?_))
  · refine t_mapK hk (fun hk => ?_)
    refine mj_iconst (v := 1) dX13_findLight_107 (by decide) ?_
    refine mj_istore_n 1 (lv2 := [(1, .int 1), (0, .ref 950)]) dX13_findLight_108 rfl (by decide) rfl ?_
    refine mj_sublv [(0, .ref 950), (1, .int 1)] [1, 0] rfl ?_
    exact LH_X13_findLight_109 _ 1 s _ hk
  · refine mj_iconst (v := 0) dX13_findLight_51 (by decide) ?_
    refine mj_istore_n 1 (lv2 := [(1, .int 0), (0, .ref 950)]) dX13_findLight_52 rfl (by decide) rfl ?_
    refine mj_aload_n dX13_findLight_53 1 rfl ?_
    refine t_getI dX13_findLight_54 F_X13_664 qf_950_29 ?_
    refine mj_iconst (v := 1) dX13_findLight_57 (by decide) ?_
    refine mj_isub dX13_findLight_58 ?_
    refine mj_istore_n 2 (lv2 := [(2, .int ((s.1 950 29) - (1 : Int32))), (1, .int 0), (0, .ref 950)]) dX13_findLight_59 rfl (by decide) rfl ?_
    refine mj_sublv [(0, .ref 950), (1, .int 0), (2, .int ((s.1 950 29) - (1 : Int32)))] [2, 1, 0] rfl ?_
    exact LH_X13_findLight_60 _ 0 ((s.1 950 29) - (1 : Int32)) s _ (fun y0 y1 hx => Hb47 y0 y1 hx) hk
noncomputable def b_X13_findLight_47 (x : Int32 × t_S) : Option ((Int32 × t_S) ⊕ (t_S)) := k_X13_findLight_47 x.1 x.2
set_option maxRecDepth 4000 in
set_option maxHeartbeats 1000000 in
theorem LH_X13_findLight_47 {D : va_G} {cy : Nat → ClassId} {ad : Nat → Nat} {bs : Nat} {X : State → Heap → Prop} : ∀ (n : Nat) (y0 : Int32) (y1 : t_S) (Q : t_S → Prop) (hk : t_hk (t_loop (b_X13_findLight_47) n (y0, y1)) Q), mj_G D cy ad bs X cX13_findLight 5 yX13_findLight.cls none yX13_findLight.name 2 0 0 1065 (t_P (fun v s' => v = none ∧ Q (s'))) 47 [(0, .ref 950), (1, .int (y0))] [] (t_m y1) 1065 0 0 := by
  intro n
  induction n with
  | zero => intro y0 y1 Q hk; obtain ⟨r, hr, _⟩ := hk; cases hr
  | succ n ih =>
    intro y0 y1 Q hk
    exact B_X13_findLight_47 y0 y1 (fun y => t_lq (b_X13_findLight_47) n Q y) (fun y0' y1' hy => ih y0' y1' Q hy) (t_lp (b := b_X13_findLight_47) (n := n) (x := (y0, y1)) hk)
noncomputable def k_X13_findLight_15 (l1 : Int32) (s : t_S) : Option ((Int32 × t_S) ⊕ (t_S)) :=
 if (s.1 950 29) ≤ l1 then ((t_loop (b_X13_findLight_47) t_N (1, s)).map Sum.inr)
 else (if t_ix l1 13000 = true then
  t_let (t_setJ s 1011 (l1.toNatClampNeg) (4000000000000000000 : Int64)) (fun s1 =>
 t_let (t_setI s1 1012 (l1.toNatClampNeg) (0 : Int32)) (fun s2 =>
 some (.inl ((l1 + 1), s2))))
else none)
set_option maxRecDepth 4000 in
set_option maxHeartbeats 1000000 in
theorem B_X13_findLight_15 {D : va_G} {cy : Nat → ClassId} {ad : Nat → Nat} {bs : Nat} {X : State → Heap → Prop} (l1 : Int32) (s : t_S) (Q : (Int32 × t_S) ⊕ (t_S) → Prop) (Hb15 : ∀ (y0 : Int32) (y1 : t_S), Q (.inl (y0, y1)) → mj_G D cy ad bs X cX13_findLight 5 yX13_findLight.cls none yX13_findLight.name 2 0 0 1065 (t_P (fun v s' => v = none ∧ Q (.inr (s')))) 15 [(0, .ref 950), (1, .int (y0))] [] (t_m y1) 1065 0 0) (hk : t_hk (k_X13_findLight_15 l1 s) Q) : mj_G D cy ad bs X cX13_findLight 5 yX13_findLight.cls none yX13_findLight.name 2 0 0 1065 (t_P (fun v s' => v = none ∧ Q (.inr (s')))) 15 [(0, .ref 950), (1, .int l1)] [] (t_m s) 1065 0 0 := by
  refine mj_iload_n dX13_findLight_15 1 rfl ?_
  refine mj_aload_n dX13_findLight_16 0 rfl ?_
  refine t_getI dX13_findLight_17 F_X13_664 qf_950_29 ?_
  refine mj_icmp_ge 45 dX13_findLight_20 (by decide) (fun z => t_posK hk z (fun hk => ?_)) (fun z => t_negK hk z (fun hk => ?_))
  · refine t_mapK hk (fun hk => ?_)
    refine mj_iconst (v := 1) dX13_findLight_45 (by decide) ?_
    refine mj_istore_n 1 (lv2 := [(1, .int 1), (0, .ref 950)]) dX13_findLight_46 rfl (by decide) rfl ?_
    refine mj_sublv [(0, .ref 950), (1, .int 1)] [1, 0] rfl ?_
    exact LH_X13_findLight_47 _ 1 s _ hk
  · refine mj_aload_n dX13_findLight_23 0 rfl ?_
    refine t_getR 1011 dX13_findLight_24 F_X13_197 qr_950_107 ?_
    refine mj_iload_n dX13_findLight_27 1 rfl ?_
    refine mj_ldc2 dX13_findLight_28 K_X13_1054 ?_
    refine t_chkK hk (fun c0 hk => ?_)
    refine t_lastK dX13_findLight_31 qa_1011 (t_ixv c0) (fun s1 ws1 => t_letE hk ws1 (fun hk => ?_))
    refine mj_aload_n dX13_findLight_32 0 rfl ?_
    refine t_getR 1012 dX13_findLight_33 F_X13_200 qr_950_109 ?_
    refine mj_iload_n dX13_findLight_36 1 rfl ?_
    refine mj_iconst (v := 0) dX13_findLight_37 (by decide) ?_
    refine t_zastK dX13_findLight_38 qa_1012 (t_ixv c0) (by decide) (fun s2 ws2 => t_letE hk ws2 (fun hk => ?_))
    refine mj_iinc (k := 1) (v := (l1 + 1)) (lv2 := [(1, .int (l1 + 1)), (0, .ref 950)]) dX13_findLight_39 rfl rfl (by decide) rfl ?_
    refine mj_goto 15 dX13_findLight_42 (by decide) ?_
    refine mj_sublv [(0, .ref 950), (1, .int (l1 + 1))] [1, 0] rfl ?_
    exact t_somK hk (fun hf => Hb15 (l1 + 1) s2 hf)
noncomputable def b_X13_findLight_15 (x : Int32 × t_S) : Option ((Int32 × t_S) ⊕ (t_S)) := k_X13_findLight_15 x.1 x.2
set_option maxRecDepth 4000 in
set_option maxHeartbeats 1000000 in
theorem LH_X13_findLight_15 {D : va_G} {cy : Nat → ClassId} {ad : Nat → Nat} {bs : Nat} {X : State → Heap → Prop} : ∀ (n : Nat) (y0 : Int32) (y1 : t_S) (Q : t_S → Prop) (hk : t_hk (t_loop (b_X13_findLight_15) n (y0, y1)) Q), mj_G D cy ad bs X cX13_findLight 5 yX13_findLight.cls none yX13_findLight.name 2 0 0 1065 (t_P (fun v s' => v = none ∧ Q (s'))) 15 [(0, .ref 950), (1, .int (y0))] [] (t_m y1) 1065 0 0 := by
  intro n
  induction n with
  | zero => intro y0 y1 Q hk; obtain ⟨r, hr, _⟩ := hk; cases hr
  | succ n ih =>
    intro y0 y1 Q hk
    exact B_X13_findLight_15 y0 y1 (fun y => t_lq (b_X13_findLight_15) n Q y) (fun y0' y1' hy => ih y0' y1' Q hy) (t_lp (b := b_X13_findLight_15) (n := n) (x := (y0, y1)) hk)
noncomputable def f_X13_findLight (s : t_S) : Option (t_S) :=
 if (s.1 950 108) = (0 : Int32) then (t_let (t_setI s 950 108 (1 : Int32)) (fun s1 =>
 t_loop (b_X13_findLight_15) t_N (0, s1)))
 else (some (s))
set_option maxRecDepth 4000 in
set_option maxHeartbeats 1000000 in
theorem C_X13_findLight (s : t_S) (r : t_S) (hr : f_X13_findLight s = some r) : t_C yX13_findLight cX13_findLight 5 none 2 [.ref 950] s (fun v s' => v = none ∧ s' = r) := by
  refine t_C.imp (P := fun v s' => v = none ∧ (fun q => q = r) (s')) (t_C.of (by decide +kernel) (Nat.le_of_ble_eq_true rfl) ?_) (fun v s' hp => hp)
  intro D cy ad bs X
  have hk : t_hk (f_X13_findLight s) (fun q => q = r) := ⟨r, hr, rfl⟩
  show mj_G D cy ad bs X cX13_findLight 5 yX13_findLight.cls none yX13_findLight.name 2 0 0 1065 (t_P (fun v s' => v = none ∧ (fun q => q = r) (s'))) 0 [(0, .ref 950)] [] (t_m s) 1065 0 0
  refine mj_aload_n dX13_findLight_0 0 rfl ?_
  refine t_getI dX13_findLight_1 F_X13_648 qf_950_108 ?_
  refine mj_if_eq 8 dX13_findLight_4 (by decide) (fun z => t_posK hk z (fun hk => ?_)) (fun z => t_negK hk z (fun hk => ?_))
  · refine mj_aload_n dX13_findLight_8 0 rfl ?_
    refine mj_iconst (v := 1) dX13_findLight_9 (by decide) ?_
    refine t_putIK dX13_findLight_10 F_X13_648 qf_950_108 (by decide) (fun s1 ws1 => t_letE hk ws1 (fun hk => ?_))
    refine mj_iconst (v := 0) dX13_findLight_13 (by decide) ?_
    refine mj_istore_n 1 (lv2 := [(1, .int 0), (0, .ref 950)]) dX13_findLight_14 rfl (by decide) rfl ?_
    refine mj_sublv [(0, .ref 950), (1, .int 0)] [1, 0] rfl ?_
    exact LH_X13_findLight_15 _ 0 s1 _ hk
  · exact t_somK hk (fun hf => t_vret dX13_findLight_7 rfl ⟨rfl, hf⟩ (Nat.le_of_ble_eq_true rfl) (Nat.le_of_ble_eq_true rfl))

theorem dX13_openOne_0 : decode cX13_openOne 0 = .ok (.aload_n 0, 1) := by decide +kernel
theorem dX13_openOne_1 : decode cX13_openOne 1 = .ok (.getfield 229, 3) := by decide +kernel
theorem dX13_openOne_10 : decode cX13_openOne 10 = .ok (.aload_n 0, 1) := by decide +kernel
theorem dX13_openOne_11 : decode cX13_openOne 11 = .ok (.getfield 232, 3) := by decide +kernel
theorem dX13_openOne_14 : decode cX13_openOne 14 = .ok (.aload_n 0, 1) := by decide +kernel
theorem dX13_openOne_15 : decode cX13_openOne 15 = .ok (.getfield 1167, 3) := by decide +kernel
theorem dX13_openOne_18 : decode cX13_openOne 18 = .ok (.iload_n 2, 1) := by decide +kernel
theorem dX13_openOne_19 : decode cX13_openOne 19 = .ok (.iastore, 1) := by decide +kernel
theorem dX13_openOne_20 : decode cX13_openOne 20 = .ok (.aload_n 0, 1) := by decide +kernel
theorem dX13_openOne_21 : decode cX13_openOne 21 = .ok (.getfield 235, 3) := by decide +kernel
theorem dX13_openOne_24 : decode cX13_openOne 24 = .ok (.aload_n 0, 1) := by decide +kernel
theorem dX13_openOne_25 : decode cX13_openOne 25 = .ok (.getfield 1167, 3) := by decide +kernel
theorem dX13_openOne_28 : decode cX13_openOne 28 = .ok (.lconst 0, 1) := by decide +kernel
theorem dX13_openOne_29 : decode cX13_openOne 29 = .ok (.lastore, 1) := by decide +kernel
theorem dX13_openOne_30 : decode cX13_openOne 30 = .ok (.aload_n 0, 1) := by decide +kernel
theorem dX13_openOne_31 : decode cX13_openOne 31 = .ok (.dup, 1) := by decide +kernel
theorem dX13_openOne_32 : decode cX13_openOne 32 = .ok (.getfield 1167, 3) := by decide +kernel
theorem dX13_openOne_35 : decode cX13_openOne 35 = .ok (.iconst 1, 1) := by decide +kernel
theorem dX13_openOne_36 : decode cX13_openOne 36 = .ok (.iadd, 1) := by decide +kernel
theorem dX13_openOne_37 : decode cX13_openOne 37 = .ok (.putfield 1167, 3) := by decide +kernel
theorem dX13_openOne_4 : decode cX13_openOne 4 = .ok (.aload_n 0, 1) := by decide +kernel
theorem dX13_openOne_40 : decode cX13_openOne 40 = .ok (.return_, 1) := by decide +kernel
theorem dX13_openOne_5 : decode cX13_openOne 5 = .ok (.getfield 1167, 3) := by decide +kernel
theorem dX13_openOne_8 : decode cX13_openOne 8 = .ok (.iload_n 1, 1) := by decide +kernel
theorem dX13_openOne_9 : decode cX13_openOne 9 = .ok (.iastore, 1) := by decide +kernel
noncomputable def f_X13_openOne (x1 : Int32) (x2 : Int32) (s : t_S) : Option (t_S) :=
 if t_ix (s.1 950 125) 400 = true then
  t_let (t_setI s 1021 ((s.1 950 125).toNatClampNeg) x1) (fun s1 =>
 if t_ix (s1.1 950 125) 400 = true then
  t_let (t_setI s1 1022 ((s1.1 950 125).toNatClampNeg) x2) (fun s2 =>
 if t_ix (s2.1 950 125) 400 = true then
  t_let (t_setJ s2 1023 ((s2.1 950 125).toNatClampNeg) (0 : Int64)) (fun s3 =>
 t_let (t_setI s3 950 125 ((s3.1 950 125) + (1 : Int32))) (fun s4 =>
 some (s4)))
else none)
else none)
else none
set_option maxRecDepth 4000 in
set_option maxHeartbeats 1000000 in
theorem C_X13_openOne (x1 : Int32) (x2 : Int32) (s : t_S) (r : t_S) (hr : f_X13_openOne x1 x2 s = some r) : t_C yX13_openOne cX13_openOne 3 none 0 [.ref 950, .int x1, .int x2] s (fun v s' => v = none ∧ s' = r) := by
  refine t_C.imp (P := fun v s' => v = none ∧ (fun q => q = r) (s')) (t_C.of (by decide +kernel) (Nat.le_of_ble_eq_true rfl) ?_) (fun v s' hp => hp)
  intro D cy ad bs X
  have hk : t_hk (f_X13_openOne x1 x2 s) (fun q => q = r) := ⟨r, hr, rfl⟩
  show mj_G D cy ad bs X cX13_openOne 3 yX13_openOne.cls none yX13_openOne.name 0 0 0 1065 (t_P (fun v s' => v = none ∧ (fun q => q = r) (s'))) 0 [(0, .ref 950), (1, .int x1), (2, .int x2)] [] (t_m s) 1065 0 0
  refine mj_aload_n dX13_openOne_0 0 rfl ?_
  refine t_getR 1021 dX13_openOne_1 F_X13_229 qr_950_122 ?_
  refine mj_aload_n dX13_openOne_4 0 rfl ?_
  refine t_getI dX13_openOne_5 F_X13_1167 qf_950_125 ?_
  refine mj_iload_n dX13_openOne_8 1 rfl ?_
  refine t_chkK hk (fun c0 hk => ?_)
  refine t_iastK dX13_openOne_9 qa_1021 (t_ixv c0) (fun s1 ws1 => t_letE hk ws1 (fun hk => ?_))
  refine mj_aload_n dX13_openOne_10 0 rfl ?_
  refine t_getR 1022 dX13_openOne_11 F_X13_232 qr_950_123 ?_
  refine mj_aload_n dX13_openOne_14 0 rfl ?_
  refine t_getI dX13_openOne_15 F_X13_1167 qf_950_125 ?_
  refine mj_iload_n dX13_openOne_18 2 rfl ?_
  refine t_chkK hk (fun c1 hk => ?_)
  refine t_iastK dX13_openOne_19 qa_1022 (t_ixv c1) (fun s2 ws2 => t_letE hk ws2 (fun hk => ?_))
  refine mj_aload_n dX13_openOne_20 0 rfl ?_
  refine t_getR 1023 dX13_openOne_21 F_X13_235 qr_950_124 ?_
  refine mj_aload_n dX13_openOne_24 0 rfl ?_
  refine t_getI dX13_openOne_25 F_X13_1167 qf_950_125 ?_
  refine mj_lconst (v := 0) dX13_openOne_28 (by decide) ?_
  refine t_chkK hk (fun c2 hk => ?_)
  refine t_lastK dX13_openOne_29 qa_1023 (t_ixv c2) (fun s3 ws3 => t_letE hk ws3 (fun hk => ?_))
  refine mj_aload_n dX13_openOne_30 0 rfl ?_
  refine mj_dup dX13_openOne_31 rfl ?_
  refine t_getI dX13_openOne_32 F_X13_1167 qf_950_125 ?_
  refine mj_iconst (v := 1) dX13_openOne_35 (by decide) ?_
  refine mj_iadd dX13_openOne_36 ?_
  refine t_putIK dX13_openOne_37 F_X13_1167 qf_950_125 rfl (fun s4 ws4 => t_letE hk ws4 (fun hk => ?_))
  exact t_somK hk (fun hf => t_vret dX13_openOne_40 rfl ⟨rfl, hf⟩ (Nat.le_of_ble_eq_true rfl) (Nat.le_of_ble_eq_true rfl))

theorem dX13_goOnList_0 : decode cX13_goOnList 0 = .ok (.aload_n 0, 1) := by decide +kernel
theorem dX13_goOnList_1 : decode cX13_goOnList 1 = .ok (.getfield 235, 3) := by decide +kernel
theorem dX13_goOnList_11 : decode cX13_goOnList 11 = .ok (.aload_n 0, 1) := by decide +kernel
theorem dX13_goOnList_12 : decode cX13_goOnList 12 = .ok (.dup, 1) := by decide +kernel
theorem dX13_goOnList_13 : decode cX13_goOnList 13 = .ok (.getfield 1167, 3) := by decide +kernel
theorem dX13_goOnList_16 : decode cX13_goOnList 16 = .ok (.iconst 1, 1) := by decide +kernel
theorem dX13_goOnList_17 : decode cX13_goOnList 17 = .ok (.isub, 1) := by decide +kernel
theorem dX13_goOnList_18 : decode cX13_goOnList 18 = .ok (.putfield 1167, 3) := by decide +kernel
theorem dX13_goOnList_21 : decode cX13_goOnList 21 = .ok (.return_, 1) := by decide +kernel
theorem dX13_goOnList_22 : decode cX13_goOnList 22 = .ok (.aload_n 0, 1) := by decide +kernel
theorem dX13_goOnList_23 : decode cX13_goOnList 23 = .ok (.getfield 235, 3) := by decide +kernel
theorem dX13_goOnList_26 : decode cX13_goOnList 26 = .ok (.iload_n 1, 1) := by decide +kernel
theorem dX13_goOnList_27 : decode cX13_goOnList 27 = .ok (.dup2, 1) := by decide +kernel
theorem dX13_goOnList_28 : decode cX13_goOnList 28 = .ok (.laload, 1) := by decide +kernel
theorem dX13_goOnList_29 : decode cX13_goOnList 29 = .ok (.lconst 1, 1) := by decide +kernel
theorem dX13_goOnList_30 : decode cX13_goOnList 30 = .ok (.lsub, 1) := by decide +kernel
theorem dX13_goOnList_31 : decode cX13_goOnList 31 = .ok (.lastore, 1) := by decide +kernel
theorem dX13_goOnList_32 : decode cX13_goOnList 32 = .ok (.aload_n 0, 1) := by decide +kernel
theorem dX13_goOnList_33 : decode cX13_goOnList 33 = .ok (.iconst 0, 1) := by decide +kernel
theorem dX13_goOnList_34 : decode cX13_goOnList 34 = .ok (.aload_n 0, 1) := by decide +kernel
theorem dX13_goOnList_35 : decode cX13_goOnList 35 = .ok (.getfield 39, 3) := by decide +kernel
theorem dX13_goOnList_38 : decode cX13_goOnList 38 = .ok (.aload_n 0, 1) := by decide +kernel
theorem dX13_goOnList_39 : decode cX13_goOnList 39 = .ok (.getfield 232, 3) := by decide +kernel
theorem dX13_goOnList_4 : decode cX13_goOnList 4 = .ok (.iload_n 1, 1) := by decide +kernel
theorem dX13_goOnList_42 : decode cX13_goOnList 42 = .ok (.iload_n 1, 1) := by decide +kernel
theorem dX13_goOnList_43 : decode cX13_goOnList 43 = .ok (.iaload, 1) := by decide +kernel
theorem dX13_goOnList_44 : decode cX13_goOnList 44 = .ok (.iaload, 1) := by decide +kernel
theorem dX13_goOnList_45 : decode cX13_goOnList 45 = .ok (.invokevirtual 1170, 3) := by decide +kernel
theorem dX13_goOnList_48 : decode cX13_goOnList 48 = .ok (.return_, 1) := by decide +kernel
theorem dX13_goOnList_5 : decode cX13_goOnList 5 = .ok (.laload, 1) := by decide +kernel
theorem dX13_goOnList_6 : decode cX13_goOnList 6 = .ok (.lconst 0, 1) := by decide +kernel
theorem dX13_goOnList_7 : decode cX13_goOnList 7 = .ok (.lcmp, 1) := by decide +kernel
theorem dX13_goOnList_8 : decode cX13_goOnList 8 = .ok (.ifCond .ne 14, 3) := by decide +kernel
noncomputable def f_X13_goOnList (x1 : Int32) (s : t_S) : Option (t_S) :=
 if t_ix x1 400 = true then
  if (lg_cmp (s.2.1 1023 (x1.toNatClampNeg)) (0 : Int64)) = (0 : Int32) then (t_let (t_setI s 950 125 ((s.1 950 125) - (1 : Int32))) (fun s2 =>
 some (s2)))
 else (t_let (t_setJ s 1023 (x1.toNatClampNeg) ((s.2.1 1023 (x1.toNatClampNeg)) - (1 : Int64))) (fun s1 =>
 if t_ix (s1.1 1022 (x1.toNatClampNeg)) 13000 = true then
  (f_X13_openOne (0 : Int32) (s1.1 959 ((s1.1 1022 (x1.toNatClampNeg)).toNatClampNeg)) s1).bind (fun r3 =>
 some (r3))
else none))
else none
set_option maxRecDepth 4000 in
set_option maxHeartbeats 1000000 in
theorem C_X13_goOnList (x1 : Int32) (s : t_S) (r : t_S) (hr : f_X13_goOnList x1 s = some r) : t_C yX13_goOnList cX13_goOnList 2 none 1 [.ref 950, .int x1] s (fun v s' => v = none ∧ s' = r) := by
  refine t_C.imp (P := fun v s' => v = none ∧ (fun q => q = r) (s')) (t_C.of (by decide +kernel) (Nat.le_of_ble_eq_true rfl) ?_) (fun v s' hp => hp)
  intro D cy ad bs X
  have hk : t_hk (f_X13_goOnList x1 s) (fun q => q = r) := ⟨r, hr, rfl⟩
  show mj_G D cy ad bs X cX13_goOnList 2 yX13_goOnList.cls none yX13_goOnList.name 1 0 0 1065 (t_P (fun v s' => v = none ∧ (fun q => q = r) (s'))) 0 [(0, .ref 950), (1, .int x1)] [] (t_m s) 1065 0 0
  refine mj_aload_n dX13_goOnList_0 0 rfl ?_
  refine t_getR 1023 dX13_goOnList_1 F_X13_235 qr_950_124 ?_
  refine mj_iload_n dX13_goOnList_4 1 rfl ?_
  refine t_chkK hk (fun c0 hk => ?_)
  refine t_lald dX13_goOnList_5 qa_1023 (t_ixv c0) ?_
  refine mj_lconst (v := 0) dX13_goOnList_6 (by decide) ?_
  refine mj_lcmp dX13_goOnList_7 ?_
  refine mj_if_ne 22 dX13_goOnList_8 (by decide) (fun z => t_negK hk z (fun hk => ?_)) (fun z => t_posK hk z (fun hk => ?_))
  · refine mj_aload_n dX13_goOnList_22 0 rfl ?_
    refine t_getR 1023 dX13_goOnList_23 F_X13_235 qr_950_124 ?_
    refine mj_iload_n dX13_goOnList_26 1 rfl ?_
    refine mj_dup2 dX13_goOnList_27 rfl rfl ?_
    refine t_lald dX13_goOnList_28 qa_1023 (t_ixv c0) ?_
    refine mj_lconst (v := 1) dX13_goOnList_29 (by decide) ?_
    refine mj_lsub dX13_goOnList_30 ?_
    refine t_lastK dX13_goOnList_31 qa_1023 (t_ixv c0) (fun s1 ws1 => t_letE hk ws1 (fun hk => ?_))
    refine mj_aload_n dX13_goOnList_32 0 rfl ?_
    refine mj_iconst (v := 0) dX13_goOnList_33 (by decide) ?_
    refine mj_aload_n dX13_goOnList_34 0 rfl ?_
    refine t_getR 959 dX13_goOnList_35 F_X13_39 qr_950_21 ?_
    refine mj_aload_n dX13_goOnList_38 0 rfl ?_
    refine t_getR 1022 dX13_goOnList_39 F_X13_232 qr_950_123 ?_
    refine mj_iload_n dX13_goOnList_42 1 rfl ?_
    refine t_iald dX13_goOnList_43 qa_1022 (t_ixv c0) ?_
    refine t_chkK hk (fun c1 hk => ?_)
    refine t_iald dX13_goOnList_44 qa_959 (t_ixv c1) ?_
    refine t_bndK hk (fun r3 er3 hk => ?_)
    refine t_callVvE dX13_goOnList_45 M_X13_openOne (C_X13_openOne _ _ _ _ er3) ML_X13_1170 IM_X13_openOne SE_X13_openOne qc_950 rfl (As := [.int 0, .int (s1.1 959 ((s1.1 1022 (x1.toNatClampNeg)).toNatClampNeg))]) rfl rfl (Nat.le_of_ble_eq_true rfl) (Nat.le_of_ble_eq_true rfl) (Nat.le_of_ble_eq_true rfl) (Nat.le_of_ble_eq_true rfl) ?_
    exact t_somK hk (fun hf => t_vret dX13_goOnList_48 rfl ⟨rfl, hf⟩ (Nat.le_of_ble_eq_true rfl) (Nat.le_of_ble_eq_true rfl))
  · refine mj_aload_n dX13_goOnList_11 0 rfl ?_
    refine mj_dup dX13_goOnList_12 rfl ?_
    refine t_getI dX13_goOnList_13 F_X13_1167 qf_950_125 ?_
    refine mj_iconst (v := 1) dX13_goOnList_16 (by decide) ?_
    refine mj_isub dX13_goOnList_17 ?_
    refine t_putIK dX13_goOnList_18 F_X13_1167 qf_950_125 rfl (fun s2 ws2 => t_letE hk ws2 (fun hk => ?_))
    exact t_somK hk (fun hf => t_vret dX13_goOnList_21 rfl ⟨rfl, hf⟩ (Nat.le_of_ble_eq_true rfl) (Nat.le_of_ble_eq_true rfl))

theorem dX13_goOnRecord_0 : decode cX13_goOnRecord 0 = .ok (.aload_n 0, 1) := by decide +kernel
theorem dX13_goOnRecord_1 : decode cX13_goOnRecord 1 = .ok (.getfield 232, 3) := by decide +kernel
theorem dX13_goOnRecord_11 : decode cX13_goOnRecord 11 = .ok (.aload_n 0, 1) := by decide +kernel
theorem dX13_goOnRecord_12 : decode cX13_goOnRecord 12 = .ok (.dup, 1) := by decide +kernel
theorem dX13_goOnRecord_13 : decode cX13_goOnRecord 13 = .ok (.getfield 1167, 3) := by decide +kernel
theorem dX13_goOnRecord_16 : decode cX13_goOnRecord 16 = .ok (.iconst 1, 1) := by decide +kernel
theorem dX13_goOnRecord_17 : decode cX13_goOnRecord 17 = .ok (.isub, 1) := by decide +kernel
theorem dX13_goOnRecord_18 : decode cX13_goOnRecord 18 = .ok (.putfield 1167, 3) := by decide +kernel
theorem dX13_goOnRecord_21 : decode cX13_goOnRecord 21 = .ok (.return_, 1) := by decide +kernel
theorem dX13_goOnRecord_22 : decode cX13_goOnRecord 22 = .ok (.aload_n 0, 1) := by decide +kernel
theorem dX13_goOnRecord_23 : decode cX13_goOnRecord 23 = .ok (.getfield 235, 3) := by decide +kernel
theorem dX13_goOnRecord_26 : decode cX13_goOnRecord 26 = .ok (.iload_n 1, 1) := by decide +kernel
theorem dX13_goOnRecord_27 : decode cX13_goOnRecord 27 = .ok (.laload, 1) := by decide +kernel
theorem dX13_goOnRecord_28 : decode cX13_goOnRecord 28 = .ok (.lconst 1, 1) := by decide +kernel
theorem dX13_goOnRecord_29 : decode cX13_goOnRecord 29 = .ok (.land, 1) := by decide +kernel
theorem dX13_goOnRecord_30 : decode cX13_goOnRecord 30 = .ok (.lconst 1, 1) := by decide +kernel
theorem dX13_goOnRecord_31 : decode cX13_goOnRecord 31 = .ok (.lcmp, 1) := by decide +kernel
theorem dX13_goOnRecord_32 : decode cX13_goOnRecord 32 = .ok (.ifCond .ne 7, 3) := by decide +kernel
theorem dX13_goOnRecord_35 : decode cX13_goOnRecord 35 = .ok (.iconst 1, 1) := by decide +kernel
theorem dX13_goOnRecord_36 : decode cX13_goOnRecord 36 = .ok (.goto 4, 3) := by decide +kernel
theorem dX13_goOnRecord_39 : decode cX13_goOnRecord 39 = .ok (.iconst 0, 1) := by decide +kernel
theorem dX13_goOnRecord_4 : decode cX13_goOnRecord 4 = .ok (.iload_n 1, 1) := by decide +kernel
theorem dX13_goOnRecord_40 : decode cX13_goOnRecord 40 = .ok (.istore_n 3, 1) := by decide +kernel
theorem dX13_goOnRecord_41 : decode cX13_goOnRecord 41 = .ok (.aload_n 0, 1) := by decide +kernel
theorem dX13_goOnRecord_42 : decode cX13_goOnRecord 42 = .ok (.getfield 232, 3) := by decide +kernel
theorem dX13_goOnRecord_45 : decode cX13_goOnRecord 45 = .ok (.iload_n 1, 1) := by decide +kernel
theorem dX13_goOnRecord_46 : decode cX13_goOnRecord 46 = .ok (.aload_n 0, 1) := by decide +kernel
theorem dX13_goOnRecord_47 : decode cX13_goOnRecord 47 = .ok (.getfield 42, 3) := by decide +kernel
theorem dX13_goOnRecord_5 : decode cX13_goOnRecord 5 = .ok (.iaload, 1) := by decide +kernel
theorem dX13_goOnRecord_50 : decode cX13_goOnRecord 50 = .ok (.iload_n 2, 1) := by decide +kernel
theorem dX13_goOnRecord_51 : decode cX13_goOnRecord 51 = .ok (.iaload, 1) := by decide +kernel
theorem dX13_goOnRecord_52 : decode cX13_goOnRecord 52 = .ok (.iastore, 1) := by decide +kernel
theorem dX13_goOnRecord_53 : decode cX13_goOnRecord 53 = .ok (.aload_n 0, 1) := by decide +kernel
theorem dX13_goOnRecord_54 : decode cX13_goOnRecord 54 = .ok (.getfield 235, 3) := by decide +kernel
theorem dX13_goOnRecord_57 : decode cX13_goOnRecord 57 = .ok (.iload_n 1, 1) := by decide +kernel
theorem dX13_goOnRecord_58 : decode cX13_goOnRecord 58 = .ok (.aload_n 0, 1) := by decide +kernel
theorem dX13_goOnRecord_59 : decode cX13_goOnRecord 59 = .ok (.getfield 235, 3) := by decide +kernel
theorem dX13_goOnRecord_6 : decode cX13_goOnRecord 6 = .ok (.istore_n 2, 1) := by decide +kernel
theorem dX13_goOnRecord_62 : decode cX13_goOnRecord 62 = .ok (.iload_n 1, 1) := by decide +kernel
theorem dX13_goOnRecord_63 : decode cX13_goOnRecord 63 = .ok (.laload, 1) := by decide +kernel
theorem dX13_goOnRecord_64 : decode cX13_goOnRecord 64 = .ok (.iconst 1, 1) := by decide +kernel
theorem dX13_goOnRecord_65 : decode cX13_goOnRecord 65 = .ok (.lshr, 1) := by decide +kernel
theorem dX13_goOnRecord_66 : decode cX13_goOnRecord 66 = .ok (.lastore, 1) := by decide +kernel
theorem dX13_goOnRecord_67 : decode cX13_goOnRecord 67 = .ok (.iload_n 3, 1) := by decide +kernel
theorem dX13_goOnRecord_68 : decode cX13_goOnRecord 68 = .ok (.ifCond .eq 14, 3) := by decide +kernel
theorem dX13_goOnRecord_7 : decode cX13_goOnRecord 7 = .ok (.iload_n 2, 1) := by decide +kernel
theorem dX13_goOnRecord_71 : decode cX13_goOnRecord 71 = .ok (.aload_n 0, 1) := by decide +kernel
theorem dX13_goOnRecord_72 : decode cX13_goOnRecord 72 = .ok (.iconst 3, 1) := by decide +kernel
theorem dX13_goOnRecord_73 : decode cX13_goOnRecord 73 = .ok (.aload_n 0, 1) := by decide +kernel
theorem dX13_goOnRecord_74 : decode cX13_goOnRecord 74 = .ok (.getfield 39, 3) := by decide +kernel
theorem dX13_goOnRecord_77 : decode cX13_goOnRecord 77 = .ok (.iload_n 2, 1) := by decide +kernel
theorem dX13_goOnRecord_78 : decode cX13_goOnRecord 78 = .ok (.iaload, 1) := by decide +kernel
theorem dX13_goOnRecord_79 : decode cX13_goOnRecord 79 = .ok (.invokevirtual 1170, 3) := by decide +kernel
theorem dX13_goOnRecord_8 : decode cX13_goOnRecord 8 = .ok (.ifCond .ge 14, 3) := by decide +kernel
theorem dX13_goOnRecord_82 : decode cX13_goOnRecord 82 = .ok (.return_, 1) := by decide +kernel
noncomputable def k_X13_goOnRecord_40 (l1 : Int32) (l2 : Int32) (k0 : Int32) (s : t_S) : Option (t_S) :=
 if t_ix l2 13000 = true then
  if t_ix l1 400 = true then
  t_let (t_setI s 1022 (l1.toNatClampNeg) (s.1 960 (l2.toNatClampNeg))) (fun s1 =>
 t_let (t_setJ s1 1023 (l1.toNatClampNeg) ((s1.2.1 1023 (l1.toNatClampNeg)) >>> ((1 : Int32).toInt64 &&& 63))) (fun s2 =>
 if k0 = (0 : Int32) then (some (s2))
 else ((f_X13_openOne (3 : Int32) (s2.1 959 (l2.toNatClampNeg)) s2).bind (fun r3 =>
 some (r3)))))
else none
else none
set_option maxRecDepth 4000 in
set_option maxHeartbeats 1000000 in
theorem B_X13_goOnRecord_40 {D : va_G} {cy : Nat → ClassId} {ad : Nat → Nat} {bs : Nat} {X : State → Heap → Prop} (l1 : Int32) (l2 : Int32) (k0 : Int32) (s : t_S) (Q : t_S → Prop) (hk : t_hk (k_X13_goOnRecord_40 l1 l2 k0 s) Q) : mj_G D cy ad bs X cX13_goOnRecord 4 yX13_goOnRecord.cls none yX13_goOnRecord.name 1 0 0 1065 (t_P (fun v s' => v = none ∧ Q (s'))) 40 [(0, .ref 950), (1, .int l1), (2, .int l2)] [.int k0] (t_m s) 1065 0 0 := by
  refine mj_istore_n 3 (lv2 := [(3, .int k0), (0, .ref 950), (1, .int l1), (2, .int l2)]) dX13_goOnRecord_40 rfl (by decide) rfl ?_
  refine mj_aload_n dX13_goOnRecord_41 1 rfl ?_
  refine t_getR 1022 dX13_goOnRecord_42 F_X13_232 qr_950_123 ?_
  refine mj_iload_n dX13_goOnRecord_45 2 rfl ?_
  refine mj_aload_n dX13_goOnRecord_46 1 rfl ?_
  refine t_getR 960 dX13_goOnRecord_47 F_X13_42 qr_950_22 ?_
  refine mj_iload_n dX13_goOnRecord_50 3 rfl ?_
  refine t_chkK hk (fun c0 hk => ?_)
  refine t_iald dX13_goOnRecord_51 qa_960 (t_ixv c0) ?_
  refine t_chkK hk (fun c1 hk => ?_)
  refine t_iastK dX13_goOnRecord_52 qa_1022 (t_ixv c1) (fun s1 ws1 => t_letE hk ws1 (fun hk => ?_))
  refine mj_aload_n dX13_goOnRecord_53 1 rfl ?_
  refine t_getR 1023 dX13_goOnRecord_54 F_X13_235 qr_950_124 ?_
  refine mj_iload_n dX13_goOnRecord_57 2 rfl ?_
  refine mj_aload_n dX13_goOnRecord_58 1 rfl ?_
  refine t_getR 1023 dX13_goOnRecord_59 F_X13_235 qr_950_124 ?_
  refine mj_iload_n dX13_goOnRecord_62 2 rfl ?_
  refine t_lald dX13_goOnRecord_63 qa_1023 (t_ixv c1) ?_
  refine mj_iconst (v := 1) dX13_goOnRecord_64 (by decide) ?_
  refine mj_lshr dX13_goOnRecord_65 rfl ?_
  refine t_lastK dX13_goOnRecord_66 qa_1023 (t_ixv c1) (fun s2 ws2 => t_letE hk ws2 (fun hk => ?_))
  refine mj_iload_n dX13_goOnRecord_67 0 rfl ?_
  refine mj_if_eq 82 dX13_goOnRecord_68 (by decide) (fun z => t_posK hk z (fun hk => ?_)) (fun z => t_negK hk z (fun hk => ?_))
  · exact t_somK hk (fun hf => t_vret dX13_goOnRecord_82 rfl ⟨rfl, hf⟩ (Nat.le_of_ble_eq_true rfl) (Nat.le_of_ble_eq_true rfl))
  · refine mj_aload_n dX13_goOnRecord_71 1 rfl ?_
    refine mj_iconst (v := 3) dX13_goOnRecord_72 (by decide) ?_
    refine mj_aload_n dX13_goOnRecord_73 1 rfl ?_
    refine t_getR 959 dX13_goOnRecord_74 F_X13_39 qr_950_21 ?_
    refine mj_iload_n dX13_goOnRecord_77 3 rfl ?_
    refine t_iald dX13_goOnRecord_78 qa_959 (t_ixv c0) ?_
    refine t_bndK hk (fun r3 er3 hk => ?_)
    refine t_callVvE dX13_goOnRecord_79 M_X13_openOne (C_X13_openOne _ _ _ _ er3) ML_X13_1170 IM_X13_openOne SE_X13_openOne qc_950 rfl (As := [.int 3, .int (s2.1 959 (l2.toNatClampNeg))]) rfl rfl (Nat.le_of_ble_eq_true rfl) (Nat.le_of_ble_eq_true rfl) (Nat.le_of_ble_eq_true rfl) (Nat.le_of_ble_eq_true rfl) ?_
    exact t_somK hk (fun hf => t_vret dX13_goOnRecord_82 rfl ⟨rfl, hf⟩ (Nat.le_of_ble_eq_true rfl) (Nat.le_of_ble_eq_true rfl))
noncomputable def f_X13_goOnRecord (x1 : Int32) (s : t_S) : Option (t_S) :=
 if t_ix x1 400 = true then
  if (0 : Int32) ≤ (s.1 1022 (x1.toNatClampNeg)) then (if (lg_cmp ((s.2.1 1023 (x1.toNatClampNeg)) &&& (1 : Int64)) (1 : Int64)) = (0 : Int32) then (k_X13_goOnRecord_40 x1 (s.1 1022 (x1.toNatClampNeg)) 1 s)
 else (k_X13_goOnRecord_40 x1 (s.1 1022 (x1.toNatClampNeg)) 0 s))
 else (t_let (t_setI s 950 125 ((s.1 950 125) - (1 : Int32))) (fun s1 =>
 some (s1)))
else none
set_option maxRecDepth 4000 in
set_option maxHeartbeats 1000000 in
theorem C_X13_goOnRecord (x1 : Int32) (s : t_S) (r : t_S) (hr : f_X13_goOnRecord x1 s = some r) : t_C yX13_goOnRecord cX13_goOnRecord 4 none 1 [.ref 950, .int x1] s (fun v s' => v = none ∧ s' = r) := by
  refine t_C.imp (P := fun v s' => v = none ∧ (fun q => q = r) (s')) (t_C.of (by decide +kernel) (Nat.le_of_ble_eq_true rfl) ?_) (fun v s' hp => hp)
  intro D cy ad bs X
  have hk : t_hk (f_X13_goOnRecord x1 s) (fun q => q = r) := ⟨r, hr, rfl⟩
  show mj_G D cy ad bs X cX13_goOnRecord 4 yX13_goOnRecord.cls none yX13_goOnRecord.name 1 0 0 1065 (t_P (fun v s' => v = none ∧ (fun q => q = r) (s'))) 0 [(0, .ref 950), (1, .int x1)] [] (t_m s) 1065 0 0
  refine mj_aload_n dX13_goOnRecord_0 0 rfl ?_
  refine t_getR 1022 dX13_goOnRecord_1 F_X13_232 qr_950_123 ?_
  refine mj_iload_n dX13_goOnRecord_4 1 rfl ?_
  refine t_chkK hk (fun c0 hk => ?_)
  refine t_iald dX13_goOnRecord_5 qa_1022 (t_ixv c0) ?_
  refine mj_istore_n 2 (lv2 := [(2, .int (s.1 1022 (x1.toNatClampNeg))), (0, .ref 950), (1, .int x1)]) dX13_goOnRecord_6 rfl (by decide) rfl ?_
  refine mj_iload_n dX13_goOnRecord_7 0 rfl ?_
  refine mj_if_ge 22 dX13_goOnRecord_8 (by decide) (fun z => t_posK hk z (fun hk => ?_)) (fun z => t_negK hk z (fun hk => ?_))
  · refine mj_aload_n dX13_goOnRecord_22 1 rfl ?_
    refine t_getR 1023 dX13_goOnRecord_23 F_X13_235 qr_950_124 ?_
    refine mj_iload_n dX13_goOnRecord_26 2 rfl ?_
    refine t_lald dX13_goOnRecord_27 qa_1023 (t_ixv c0) ?_
    refine mj_lconst (v := 1) dX13_goOnRecord_28 (by decide) ?_
    refine mj_land dX13_goOnRecord_29 ?_
    refine mj_lconst (v := 1) dX13_goOnRecord_30 (by decide) ?_
    refine mj_lcmp dX13_goOnRecord_31 ?_
    refine mj_if_ne 39 dX13_goOnRecord_32 (by decide) (fun z => t_negK hk z (fun hk => ?_)) (fun z => t_posK hk z (fun hk => ?_))
    · refine mj_iconst (v := 0) dX13_goOnRecord_39 (by decide) ?_
      refine mj_sublv [(0, .ref 950), (1, .int x1), (2, .int (s.1 1022 (x1.toNatClampNeg)))] [1, 2, 0] rfl ?_
      exact B_X13_goOnRecord_40 _ _ _ _ _ hk
    · refine mj_iconst (v := 1) dX13_goOnRecord_35 (by decide) ?_
      refine mj_goto 40 dX13_goOnRecord_36 (by decide) ?_
      refine mj_sublv [(0, .ref 950), (1, .int x1), (2, .int (s.1 1022 (x1.toNatClampNeg)))] [1, 2, 0] rfl ?_
      exact B_X13_goOnRecord_40 _ _ _ _ _ hk
  · refine mj_aload_n dX13_goOnRecord_11 1 rfl ?_
    refine mj_dup dX13_goOnRecord_12 rfl ?_
    refine t_getI dX13_goOnRecord_13 F_X13_1167 qf_950_125 ?_
    refine mj_iconst (v := 1) dX13_goOnRecord_16 (by decide) ?_
    refine mj_isub dX13_goOnRecord_17 ?_
    refine t_putIK dX13_goOnRecord_18 F_X13_1167 qf_950_125 rfl (fun s1 ws1 => t_letE hk ws1 (fun hk => ?_))
    exact t_somK hk (fun hf => t_vret dX13_goOnRecord_21 rfl ⟨rfl, hf⟩ (Nat.le_of_ble_eq_true rfl) (Nat.le_of_ble_eq_true rfl))

theorem dX13_noType_0 : decode cX13_noType 0 = .ok (.aload_n 0, 1) := by decide +kernel
theorem dX13_noType_1 : decode cX13_noType 1 = .ok (.getfield 642, 3) := by decide +kernel
theorem dX13_noType_11 : decode cX13_noType 11 = .ok (.iload_n 1, 1) := by decide +kernel
theorem dX13_noType_12 : decode cX13_noType 12 = .ok (.aload_n 0, 1) := by decide +kernel
theorem dX13_noType_13 : decode cX13_noType 13 = .ok (.getfield 624, 3) := by decide +kernel
theorem dX13_noType_16 : decode cX13_noType 16 = .ok (.if_icmp .lt 7, 3) := by decide +kernel
theorem dX13_noType_19 : decode cX13_noType 19 = .ok (.iconst 1, 1) := by decide +kernel
theorem dX13_noType_20 : decode cX13_noType 20 = .ok (.goto 4, 3) := by decide +kernel
theorem dX13_noType_23 : decode cX13_noType 23 = .ok (.iconst 0, 1) := by decide +kernel
theorem dX13_noType_24 : decode cX13_noType 24 = .ok (.ireturn, 1) := by decide +kernel
theorem dX13_noType_4 : decode cX13_noType 4 = .ok (.ifCond .eq 15, 3) := by decide +kernel
theorem dX13_noType_7 : decode cX13_noType 7 = .ok (.iload_n 1, 1) := by decide +kernel
theorem dX13_noType_8 : decode cX13_noType 8 = .ok (.ifCond .lt 11, 3) := by decide +kernel
noncomputable def k_X13_noType_19 (s : t_S) : Int32 :=
 (1 : Int32)
set_option maxRecDepth 4000 in
set_option maxHeartbeats 1000000 in
theorem B_X13_noType_19 {D : va_G} {cy : Nat → ClassId} {ad : Nat → Nat} {bs : Nat} {X : State → Heap → Prop} (s : t_S) (Q : Int32 → Prop) (hk : t_ht (k_X13_noType_19 s) Q) : mj_G D cy ad bs X cX13_noType 2 yX13_noType.cls (some .boolean) yX13_noType.name 0 0 0 1065 (t_P (fun v s' => s' = s ∧ ∃ x, v = some (.int x) ∧ Q (x))) 19 [] [] (t_m s) 1065 0 0 := by
  refine mj_iconst (v := 1) dX13_noType_19 (by decide) ?_
  refine mj_goto 24 dX13_noType_20 (by decide) ?_
  exact t_iret dX13_noType_24 rfl (by decide) ⟨rfl, _, rfl, hk⟩ (Nat.le_of_ble_eq_true rfl) (Nat.le_of_ble_eq_true rfl)
noncomputable def f_X13_noType (x1 : Int32) (s : t_S) : Int32 :=
 if (s.1 950 65) = (0 : Int32) then (k_X13_noType_19 s)
 else (if x1 < (0 : Int32) then (k_X13_noType_19 s)
 else (if x1 < (s.1 950 40) then ((0 : Int32))
 else (k_X13_noType_19 s)))
set_option maxRecDepth 4000 in
set_option maxHeartbeats 1000000 in
theorem C_X13_noType (x1 : Int32) (s : t_S) : t_C yX13_noType cX13_noType 2 (some .boolean) 0 [.ref 950, .int x1] s (fun v s' => v = some (.int (f_X13_noType x1 s)) ∧ s' = s) := by
  refine t_C.imp (P := fun v s' => s' = s ∧ ∃ x, v = some (.int x) ∧ (fun r => r = f_X13_noType x1 s) (x)) (t_C.of (by decide +kernel) (Nat.le_of_ble_eq_true rfl) ?_) (fun v s' hp => by obtain ⟨rfl, x, rfl, rfl⟩ := hp; exact ⟨rfl, rfl⟩)
  intro D cy ad bs X
  have hk : t_ht (f_X13_noType x1 s) (fun r => r = f_X13_noType x1 s) := rfl
  show mj_G D cy ad bs X cX13_noType 2 yX13_noType.cls (some .boolean) yX13_noType.name 0 0 0 1065 (t_P (fun v s' => s' = s ∧ ∃ x, v = some (.int x) ∧ (fun r => r = f_X13_noType x1 s) (x))) 0 [(0, .ref 950), (1, .int x1)] [] (t_m s) 1065 0 0
  refine mj_aload_n dX13_noType_0 0 rfl ?_
  refine t_getI dX13_noType_1 F_X13_642 qf_950_65 ?_
  refine mj_if_eq 19 dX13_noType_4 (by decide) (fun z => t_posTK hk z (fun hk => ?_)) (fun z => t_negTK hk z (fun hk => ?_))
  · refine mj_sublv [] [] rfl ?_
    exact B_X13_noType_19 _ _ hk
  · refine mj_iload_n dX13_noType_7 1 rfl ?_
    refine mj_if_lt 19 dX13_noType_8 (by decide) (fun z => t_posTK hk z (fun hk => ?_)) (fun z => t_negTK hk z (fun hk => ?_))
    · refine mj_sublv [] [] rfl ?_
      exact B_X13_noType_19 _ _ hk
    · refine mj_iload_n dX13_noType_11 1 rfl ?_
      refine mj_aload_n dX13_noType_12 0 rfl ?_
      refine t_getI dX13_noType_13 F_X13_624 qf_950_40 ?_
      refine mj_icmp_lt 23 dX13_noType_16 (by decide) (fun z => t_posTK hk z (fun hk => ?_)) (fun z => t_negTK hk z (fun hk => ?_))
      · refine mj_iconst (v := 0) dX13_noType_23 (by decide) ?_
        exact t_iret dX13_noType_24 rfl (by decide) ⟨rfl, _, rfl, hk⟩ (Nat.le_of_ble_eq_true rfl) (Nat.le_of_ble_eq_true rfl)
      · refine mj_sublv [] [] rfl ?_
        exact B_X13_noType_19 _ _ hk

theorem dX13_put_0 : decode cX13_put 0 = .ok (.aload_n 0, 1) := by decide +kernel
theorem dX13_put_1 : decode cX13_put 1 = .ok (.getfield 185, 3) := by decide +kernel
theorem dX13_put_10 : decode cX13_put 10 = .ok (.aload_n 0, 1) := by decide +kernel
theorem dX13_put_11 : decode cX13_put 11 = .ok (.dup, 1) := by decide +kernel
theorem dX13_put_12 : decode cX13_put 12 = .ok (.getfield 1152, 3) := by decide +kernel
theorem dX13_put_15 : decode cX13_put 15 = .ok (.iconst 1, 1) := by decide +kernel
theorem dX13_put_16 : decode cX13_put 16 = .ok (.iadd, 1) := by decide +kernel
theorem dX13_put_17 : decode cX13_put 17 = .ok (.putfield 1152, 3) := by decide +kernel
theorem dX13_put_20 : decode cX13_put 20 = .ok (.return_, 1) := by decide +kernel
theorem dX13_put_4 : decode cX13_put 4 = .ok (.aload_n 0, 1) := by decide +kernel
theorem dX13_put_5 : decode cX13_put 5 = .ok (.getfield 1152, 3) := by decide +kernel
theorem dX13_put_8 : decode cX13_put 8 = .ok (.lload_n 1, 1) := by decide +kernel
theorem dX13_put_9 : decode cX13_put 9 = .ok (.lastore, 1) := by decide +kernel
noncomputable def f_X13_put (x1 : Int64) (s : t_S) : Option (t_S) :=
 if t_ix (s.1 950 129) 8600 = true then
  t_let (t_setJ s 1007 ((s.1 950 129).toNatClampNeg) x1) (fun s1 =>
 t_let (t_setI s1 950 129 ((s1.1 950 129) + (1 : Int32))) (fun s2 =>
 some (s2)))
else none
set_option maxRecDepth 4000 in
set_option maxHeartbeats 1000000 in
theorem C_X13_put (x1 : Int64) (s : t_S) (r : t_S) (hr : f_X13_put x1 s = some r) : t_C yX13_put cX13_put 3 none 0 [.ref 950, .long x1] s (fun v s' => v = none ∧ s' = r) := by
  refine t_C.imp (P := fun v s' => v = none ∧ (fun q => q = r) (s')) (t_C.of (by decide +kernel) (Nat.le_of_ble_eq_true rfl) ?_) (fun v s' hp => hp)
  intro D cy ad bs X
  have hk : t_hk (f_X13_put x1 s) (fun q => q = r) := ⟨r, hr, rfl⟩
  show mj_G D cy ad bs X cX13_put 3 yX13_put.cls none yX13_put.name 0 0 0 1065 (t_P (fun v s' => v = none ∧ (fun q => q = r) (s'))) 0 [(0, .ref 950), (1, .long x1)] [] (t_m s) 1065 0 0
  refine mj_aload_n dX13_put_0 0 rfl ?_
  refine t_getR 1007 dX13_put_1 F_X13_185 qr_950_99 ?_
  refine mj_aload_n dX13_put_4 0 rfl ?_
  refine t_getI dX13_put_5 F_X13_1152 qf_950_129 ?_
  refine mj_lload_n dX13_put_8 1 rfl ?_
  refine t_chkK hk (fun c0 hk => ?_)
  refine t_lastK dX13_put_9 qa_1007 (t_ixv c0) (fun s1 ws1 => t_letE hk ws1 (fun hk => ?_))
  refine mj_aload_n dX13_put_10 0 rfl ?_
  refine mj_dup dX13_put_11 rfl ?_
  refine t_getI dX13_put_12 F_X13_1152 qf_950_129 ?_
  refine mj_iconst (v := 1) dX13_put_15 (by decide) ?_
  refine mj_iadd dX13_put_16 ?_
  refine t_putIK dX13_put_17 F_X13_1152 qf_950_129 rfl (fun s2 ws2 => t_letE hk ws2 (fun hk => ?_))
  exact t_somK hk (fun hf => t_vret dX13_put_20 rfl ⟨rfl, hf⟩ (Nat.le_of_ble_eq_true rfl) (Nat.le_of_ble_eq_true rfl))

theorem dX13_wrongBit_0 : decode cX13_wrongBit 0 = .ok (.aload_n 0, 1) := by decide +kernel
theorem dX13_wrongBit_1 : decode cX13_wrongBit 1 = .ok (.getfield 1155, 3) := by decide +kernel
theorem dX13_wrongBit_10 : decode cX13_wrongBit 10 = .ok (.putfield 1155, 3) := by decide +kernel
theorem dX13_wrongBit_13 : decode cX13_wrongBit 13 = .ok (.return_, 1) := by decide +kernel
theorem dX13_wrongBit_4 : decode cX13_wrongBit 4 = .ok (.iconst (-1), 1) := by decide +kernel
theorem dX13_wrongBit_5 : decode cX13_wrongBit 5 = .ok (.if_icmp .ne 8, 3) := by decide +kernel
theorem dX13_wrongBit_8 : decode cX13_wrongBit 8 = .ok (.aload_n 0, 1) := by decide +kernel
theorem dX13_wrongBit_9 : decode cX13_wrongBit 9 = .ok (.iload_n 1, 1) := by decide +kernel
noncomputable def f_X13_wrongBit (x1 : Int32) (s : t_S) : Option (t_S) :=
 if (s.1 950 127) = (-1 : Int32) then (t_let (t_setI s 950 127 x1) (fun s1 =>
 some (s1)))
 else (some (s))
set_option maxRecDepth 4000 in
set_option maxHeartbeats 1000000 in
theorem C_X13_wrongBit (x1 : Int32) (s : t_S) (r : t_S) (hr : f_X13_wrongBit x1 s = some r) : t_C yX13_wrongBit cX13_wrongBit 2 none 0 [.ref 950, .int x1] s (fun v s' => v = none ∧ s' = r) := by
  refine t_C.imp (P := fun v s' => v = none ∧ (fun q => q = r) (s')) (t_C.of (by decide +kernel) (Nat.le_of_ble_eq_true rfl) ?_) (fun v s' hp => hp)
  intro D cy ad bs X
  have hk : t_hk (f_X13_wrongBit x1 s) (fun q => q = r) := ⟨r, hr, rfl⟩
  show mj_G D cy ad bs X cX13_wrongBit 2 yX13_wrongBit.cls none yX13_wrongBit.name 0 0 0 1065 (t_P (fun v s' => v = none ∧ (fun q => q = r) (s'))) 0 [(0, .ref 950), (1, .int x1)] [] (t_m s) 1065 0 0
  refine mj_aload_n dX13_wrongBit_0 0 rfl ?_
  refine t_getI dX13_wrongBit_1 F_X13_1155 qf_950_127 ?_
  refine mj_iconst (v := (-1)) dX13_wrongBit_4 (by decide) ?_
  refine mj_icmp_ne 13 dX13_wrongBit_5 (by decide) (fun z => t_negK hk z (fun hk => ?_)) (fun z => t_posK hk z (fun hk => ?_))
  · exact t_somK hk (fun hf => t_vret dX13_wrongBit_13 rfl ⟨rfl, hf⟩ (Nat.le_of_ble_eq_true rfl) (Nat.le_of_ble_eq_true rfl))
  · refine mj_aload_n dX13_wrongBit_8 0 rfl ?_
    refine mj_iload_n dX13_wrongBit_9 1 rfl ?_
    refine t_putIK dX13_wrongBit_10 F_X13_1155 qf_950_127 rfl (fun s1 ws1 => t_letE hk ws1 (fun hk => ?_))
    exact t_somK hk (fun hf => t_vret dX13_wrongBit_13 rfl ⟨rfl, hf⟩ (Nat.le_of_ble_eq_true rfl) (Nat.le_of_ble_eq_true rfl))

theorem dX13_take_0 : decode cX13_take 0 = .ok (.lconst 0, 1) := by decide +kernel
theorem dX13_take_1 : decode cX13_take 1 = .ok (.lstore_n 2, 1) := by decide +kernel
theorem dX13_take_11 : decode cX13_take 11 = .ok (.aload_n 0, 1) := by decide +kernel
theorem dX13_take_12 : decode cX13_take 12 = .ok (.getfield 1155, 3) := by decide +kernel
theorem dX13_take_15 : decode cX13_take 15 = .ok (.iconst (-1), 1) := by decide +kernel
theorem dX13_take_16 : decode cX13_take 16 = .ok (.if_icmp .ne 63, 3) := by decide +kernel
theorem dX13_take_19 : decode cX13_take 19 = .ok (.aload_n 0, 1) := by decide +kernel
theorem dX13_take_2 : decode cX13_take 2 = .ok (.iconst 0, 1) := by decide +kernel
theorem dX13_take_20 : decode cX13_take 20 = .ok (.getfield 1158, 3) := by decide +kernel
theorem dX13_take_23 : decode cX13_take 23 = .ok (.aload_n 0, 1) := by decide +kernel
theorem dX13_take_24 : decode cX13_take 24 = .ok (.getfield 833, 3) := by decide +kernel
theorem dX13_take_27 : decode cX13_take 27 = .ok (.if_icmp .ne 14, 3) := by decide +kernel
theorem dX13_take_3 : decode cX13_take 3 = .ok (.istore 4, 2) := by decide +kernel
theorem dX13_take_30 : decode cX13_take 30 = .ok (.aload_n 0, 1) := by decide +kernel
theorem dX13_take_31 : decode cX13_take 31 = .ok (.aload_n 0, 1) := by decide +kernel
theorem dX13_take_32 : decode cX13_take 32 = .ok (.getfield 833, 3) := by decide +kernel
theorem dX13_take_35 : decode cX13_take 35 = .ok (.invokevirtual 1161, 3) := by decide +kernel
theorem dX13_take_38 : decode cX13_take 38 = .ok (.goto 35, 3) := by decide +kernel
theorem dX13_take_41 : decode cX13_take 41 = .ok (.lload_n 2, 1) := by decide +kernel
theorem dX13_take_42 : decode cX13_take 42 = .ok (.iconst 1, 1) := by decide +kernel
theorem dX13_take_43 : decode cX13_take 43 = .ok (.lshl, 1) := by decide +kernel
theorem dX13_take_44 : decode cX13_take 44 = .ok (.aload_n 0, 1) := by decide +kernel
theorem dX13_take_45 : decode cX13_take 45 = .ok (.getfield 226, 3) := by decide +kernel
theorem dX13_take_48 : decode cX13_take 48 = .ok (.aload_n 0, 1) := by decide +kernel
theorem dX13_take_49 : decode cX13_take 49 = .ok (.getfield 1158, 3) := by decide +kernel
theorem dX13_take_5 : decode cX13_take 5 = .ok (.iload 4, 2) := by decide +kernel
theorem dX13_take_52 : decode cX13_take 52 = .ok (.baload, 1) := by decide +kernel
theorem dX13_take_53 : decode cX13_take 53 = .ok (.ifCond .eq 7, 3) := by decide +kernel
theorem dX13_take_56 : decode cX13_take 56 = .ok (.lconst 1, 1) := by decide +kernel
theorem dX13_take_57 : decode cX13_take 57 = .ok (.goto 4, 3) := by decide +kernel
theorem dX13_take_60 : decode cX13_take 60 = .ok (.lconst 0, 1) := by decide +kernel
theorem dX13_take_61 : decode cX13_take 61 = .ok (.lor, 1) := by decide +kernel
theorem dX13_take_62 : decode cX13_take 62 = .ok (.lstore_n 2, 1) := by decide +kernel
theorem dX13_take_63 : decode cX13_take 63 = .ok (.aload_n 0, 1) := by decide +kernel
theorem dX13_take_64 : decode cX13_take 64 = .ok (.dup, 1) := by decide +kernel
theorem dX13_take_65 : decode cX13_take 65 = .ok (.getfield 1158, 3) := by decide +kernel
theorem dX13_take_68 : decode cX13_take 68 = .ok (.iconst 1, 1) := by decide +kernel
theorem dX13_take_69 : decode cX13_take 69 = .ok (.iadd, 1) := by decide +kernel
theorem dX13_take_7 : decode cX13_take 7 = .ok (.iload_n 1, 1) := by decide +kernel
theorem dX13_take_70 : decode cX13_take 70 = .ok (.putfield 1158, 3) := by decide +kernel
theorem dX13_take_73 : decode cX13_take 73 = .ok (.iinc 4 1, 3) := by decide +kernel
theorem dX13_take_76 : decode cX13_take 76 = .ok (.goto (-71), 3) := by decide +kernel
theorem dX13_take_79 : decode cX13_take 79 = .ok (.lload_n 2, 1) := by decide +kernel
theorem dX13_take_8 : decode cX13_take 8 = .ok (.if_icmp .ge 71, 3) := by decide +kernel
theorem dX13_take_80 : decode cX13_take 80 = .ok (.lreturn, 1) := by decide +kernel
noncomputable def k_X13_take_73 (l1 : Int32) (l2 : Int64) (l4 : Int32) (s : t_S) : Option ((Int32 × Int64 × Int32 × t_S) ⊕ (Int64 × t_S)) :=
 some (.inl (l1, l2, (l4 + 1), s))
set_option maxRecDepth 4000 in
set_option maxHeartbeats 1000000 in
theorem B_X13_take_73 {D : va_G} {cy : Nat → ClassId} {ad : Nat → Nat} {bs : Nat} {X : State → Heap → Prop} (l1 : Int32) (l2 : Int64) (l4 : Int32) (s : t_S) (Q : (Int32 × Int64 × Int32 × t_S) ⊕ (Int64 × t_S) → Prop) (Hb5 : ∀ (y0 : Int32) (y1 : Int64) (y2 : Int32) (y3 : t_S), Q (.inl (y0, y1, y2, y3)) → mj_G D cy ad bs X cX13_take 5 yX13_take.cls (some .long) yX13_take.name 1 0 0 1065 (t_P (fun v s' => ∃ x, v = some (.long x) ∧ Q (.inr ((x, s'))))) 5 [(0, .ref 950), (1, .int (y0)), (2, .long (y1)), (4, .int (y2))] [] (t_m y3) 1065 0 0) (hk : t_hk (k_X13_take_73 l1 l2 l4 s) Q) : mj_G D cy ad bs X cX13_take 5 yX13_take.cls (some .long) yX13_take.name 1 0 0 1065 (t_P (fun v s' => ∃ x, v = some (.long x) ∧ Q (.inr ((x, s'))))) 73 [(0, .ref 950), (1, .int l1), (2, .long l2), (4, .int l4)] [] (t_m s) 1065 0 0 := by
  refine mj_iinc (k := 3) (v := (l4 + 1)) (lv2 := [(4, .int (l4 + 1)), (0, .ref 950), (1, .int l1), (2, .long l2)]) dX13_take_73 rfl rfl (by decide) rfl ?_
  refine mj_goto 5 dX13_take_76 (by decide) ?_
  refine mj_sublv [(0, .ref 950), (1, .int l1), (2, .long l2), (4, .int (l4 + 1))] [1, 2, 3, 0] rfl ?_
  exact t_somK hk (fun hf => Hb5 l1 l2 (l4 + 1) s hf)
noncomputable def k_X13_take_61 (l1 : Int32) (l4 : Int32) (k0 : Int64) (k1 : Int64) (s : t_S) : Option ((Int32 × Int64 × Int32 × t_S) ⊕ (Int64 × t_S)) :=
 t_let (t_setI s 950 126 ((s.1 950 126) + (1 : Int32))) (fun s1 =>
 k_X13_take_73 l1 (k1 ||| k0) l4 s1)
set_option maxRecDepth 4000 in
set_option maxHeartbeats 1000000 in
theorem B_X13_take_61 {D : va_G} {cy : Nat → ClassId} {ad : Nat → Nat} {bs : Nat} {X : State → Heap → Prop} (l1 : Int32) (l4 : Int32) (k0 : Int64) (k1 : Int64) (s : t_S) (Q : (Int32 × Int64 × Int32 × t_S) ⊕ (Int64 × t_S) → Prop) (Hb5 : ∀ (y0 : Int32) (y1 : Int64) (y2 : Int32) (y3 : t_S), Q (.inl (y0, y1, y2, y3)) → mj_G D cy ad bs X cX13_take 5 yX13_take.cls (some .long) yX13_take.name 1 0 0 1065 (t_P (fun v s' => ∃ x, v = some (.long x) ∧ Q (.inr ((x, s'))))) 5 [(0, .ref 950), (1, .int (y0)), (2, .long (y1)), (4, .int (y2))] [] (t_m y3) 1065 0 0) (hk : t_hk (k_X13_take_61 l1 l4 k0 k1 s) Q) : mj_G D cy ad bs X cX13_take 5 yX13_take.cls (some .long) yX13_take.name 1 0 0 1065 (t_P (fun v s' => ∃ x, v = some (.long x) ∧ Q (.inr ((x, s'))))) 61 [(0, .ref 950), (1, .int l1), (4, .int l4)] [.long k0, .long k1] (t_m s) 1065 0 0 := by
  refine mj_lor dX13_take_61 ?_
  refine mj_lstore_n 2 (lv2 := [(2, .long (k1 ||| k0)), (0, .ref 950), (1, .int l1), (4, .int l4)]) dX13_take_62 rfl (by decide) rfl ?_
  refine mj_aload_n dX13_take_63 1 rfl ?_
  refine mj_dup dX13_take_64 rfl ?_
  refine t_getI dX13_take_65 F_X13_1158 qf_950_126 ?_
  refine mj_iconst (v := 1) dX13_take_68 (by decide) ?_
  refine mj_iadd dX13_take_69 ?_
  refine t_putIK dX13_take_70 F_X13_1158 qf_950_126 rfl (fun s1 ws1 => t_letE hk ws1 (fun hk => ?_))
  refine mj_sublv [(0, .ref 950), (1, .int l1), (2, .long (k1 ||| k0)), (4, .int l4)] [1, 2, 0, 3] rfl ?_
  exact B_X13_take_73 _ _ _ _ _ (fun y0 y1 y2 y3 hx => Hb5 y0 y1 y2 y3 hx) hk
noncomputable def k_X13_take_5 (l1 : Int32) (l2 : Int64) (l4 : Int32) (s : t_S) : Option ((Int32 × Int64 × Int32 × t_S) ⊕ (Int64 × t_S)) :=
 if l1 ≤ l4 then ((some (l2, s)).map Sum.inr)
 else (if (s.1 950 127) = (-1 : Int32) then (if (s.1 950 126) = (s.1 950 121) then ((f_X13_wrongBit (s.1 950 121) s).bind (fun r2 =>
 k_X13_take_73 l1 l2 l4 r2))
 else (if t_ix (s.1 950 126) 8600 = true then
  if (s.1 1020 ((s.1 950 126).toNatClampNeg)) = (0 : Int32) then (k_X13_take_61 l1 l4 0 (l2 <<< ((1 : Int32).toInt64 &&& 63)) s)
 else (k_X13_take_61 l1 l4 1 (l2 <<< ((1 : Int32).toInt64 &&& 63)) s)
else none))
 else ((some (l2, s)).map Sum.inr))
set_option maxRecDepth 4000 in
set_option maxHeartbeats 1000000 in
theorem B_X13_take_5 {D : va_G} {cy : Nat → ClassId} {ad : Nat → Nat} {bs : Nat} {X : State → Heap → Prop} (l1 : Int32) (l2 : Int64) (l4 : Int32) (s : t_S) (Q : (Int32 × Int64 × Int32 × t_S) ⊕ (Int64 × t_S) → Prop) (Hb5 : ∀ (y0 : Int32) (y1 : Int64) (y2 : Int32) (y3 : t_S), Q (.inl (y0, y1, y2, y3)) → mj_G D cy ad bs X cX13_take 5 yX13_take.cls (some .long) yX13_take.name 1 0 0 1065 (t_P (fun v s' => ∃ x, v = some (.long x) ∧ Q (.inr ((x, s'))))) 5 [(0, .ref 950), (1, .int (y0)), (2, .long (y1)), (4, .int (y2))] [] (t_m y3) 1065 0 0) (hk : t_hk (k_X13_take_5 l1 l2 l4 s) Q) : mj_G D cy ad bs X cX13_take 5 yX13_take.cls (some .long) yX13_take.name 1 0 0 1065 (t_P (fun v s' => ∃ x, v = some (.long x) ∧ Q (.inr ((x, s'))))) 5 [(0, .ref 950), (1, .int l1), (2, .long l2), (4, .int l4)] [] (t_m s) 1065 0 0 := by
  refine mj_iload dX13_take_5 3 rfl ?_
  refine mj_iload_n dX13_take_7 1 rfl ?_
  refine mj_icmp_ge 79 dX13_take_8 (by decide) (fun z => t_posK hk z (fun hk => ?_)) (fun z => t_negK hk z (fun hk => ?_))
  · refine t_mapK hk (fun hk => ?_)
    refine mj_lload_n dX13_take_79 2 rfl ?_
    exact t_somK hk (fun hf => t_lret dX13_take_80 rfl ⟨_, rfl, hf⟩ (Nat.le_of_ble_eq_true rfl) (Nat.le_of_ble_eq_true rfl))
  · refine mj_aload_n dX13_take_11 0 rfl ?_
    refine t_getI dX13_take_12 F_X13_1155 qf_950_127 ?_
    refine mj_iconst (v := (-1)) dX13_take_15 (by decide) ?_
    refine mj_icmp_ne 79 dX13_take_16 (by decide) (fun z => t_negK hk z (fun hk => ?_)) (fun z => t_posK hk z (fun hk => ?_))
    · refine t_mapK hk (fun hk => ?_)
      refine mj_lload_n dX13_take_79 2 rfl ?_
      exact t_somK hk (fun hf => t_lret dX13_take_80 rfl ⟨_, rfl, hf⟩ (Nat.le_of_ble_eq_true rfl) (Nat.le_of_ble_eq_true rfl))
    · refine mj_aload_n dX13_take_19 0 rfl ?_
      refine t_getI dX13_take_20 F_X13_1158 qf_950_126 ?_
      refine mj_aload_n dX13_take_23 0 rfl ?_
      refine t_getI dX13_take_24 F_X13_833 qf_950_121 ?_
      refine mj_icmp_ne 41 dX13_take_27 (by decide) (fun z => t_negK hk z (fun hk => ?_)) (fun z => t_posK hk z (fun hk => ?_))
      · refine mj_lload_n dX13_take_41 2 rfl ?_
        refine mj_iconst (v := 1) dX13_take_42 (by decide) ?_
        refine mj_lshl dX13_take_43 rfl ?_
        refine mj_aload_n dX13_take_44 0 rfl ?_
        refine t_getR 1020 dX13_take_45 F_X13_226 qr_950_120 ?_
        refine mj_aload_n dX13_take_48 0 rfl ?_
        refine t_getI dX13_take_49 F_X13_1158 qf_950_126 ?_
        refine t_chkK hk (fun c0 hk => ?_)
        refine t_zald dX13_take_52 qa_1020 (t_ixv c0) ?_
        refine mj_if_eq 60 dX13_take_53 (by decide) (fun z => t_posK hk z (fun hk => ?_)) (fun z => t_negK hk z (fun hk => ?_))
        · refine mj_lconst (v := 0) dX13_take_60 (by decide) ?_
          refine mj_sublv [(0, .ref 950), (1, .int l1), (4, .int l4)] [0, 1, 3] rfl ?_
          exact B_X13_take_61 _ _ _ _ _ _ (fun y0 y1 y2 y3 hx => Hb5 y0 y1 y2 y3 hx) hk
        · refine mj_lconst (v := 1) dX13_take_56 (by decide) ?_
          refine mj_goto 61 dX13_take_57 (by decide) ?_
          refine mj_sublv [(0, .ref 950), (1, .int l1), (4, .int l4)] [0, 1, 3] rfl ?_
          exact B_X13_take_61 _ _ _ _ _ _ (fun y0 y1 y2 y3 hx => Hb5 y0 y1 y2 y3 hx) hk
      · refine mj_aload_n dX13_take_30 0 rfl ?_
        refine mj_aload_n dX13_take_31 0 rfl ?_
        refine t_getI dX13_take_32 F_X13_833 qf_950_121 ?_
        refine t_bndK hk (fun r2 er2 hk => ?_)
        refine t_callVvE dX13_take_35 M_X13_wrongBit (C_X13_wrongBit _ _ _ er2) ML_X13_1161 IM_X13_wrongBit SE_X13_wrongBit qc_950 rfl (As := [.int (s.1 950 121)]) rfl rfl (Nat.le_of_ble_eq_true rfl) (Nat.le_of_ble_eq_true rfl) (Nat.le_of_ble_eq_true rfl) (Nat.le_of_ble_eq_true rfl) ?_
        refine mj_goto 73 dX13_take_38 (by decide) ?_
        exact B_X13_take_73 _ _ _ _ _ (fun y0 y1 y2 y3 hx => Hb5 y0 y1 y2 y3 hx) hk
noncomputable def b_X13_take_5 (x : Int32 × Int64 × Int32 × t_S) : Option ((Int32 × Int64 × Int32 × t_S) ⊕ (Int64 × t_S)) := k_X13_take_5 x.1 x.2.1 x.2.2.1 x.2.2.2
set_option maxRecDepth 4000 in
set_option maxHeartbeats 1000000 in
theorem LH_X13_take_5 {D : va_G} {cy : Nat → ClassId} {ad : Nat → Nat} {bs : Nat} {X : State → Heap → Prop} : ∀ (n : Nat) (y0 : Int32) (y1 : Int64) (y2 : Int32) (y3 : t_S) (Q : Int64 × t_S → Prop) (hk : t_hk (t_loop (b_X13_take_5) n (y0, y1, y2, y3)) Q), mj_G D cy ad bs X cX13_take 5 yX13_take.cls (some .long) yX13_take.name 1 0 0 1065 (t_P (fun v s' => ∃ x, v = some (.long x) ∧ Q ((x, s')))) 5 [(0, .ref 950), (1, .int (y0)), (2, .long (y1)), (4, .int (y2))] [] (t_m y3) 1065 0 0 := by
  intro n
  induction n with
  | zero => intro y0 y1 y2 y3 Q hk; obtain ⟨r, hr, _⟩ := hk; cases hr
  | succ n ih =>
    intro y0 y1 y2 y3 Q hk
    exact B_X13_take_5 y0 y1 y2 y3 (fun y => t_lq (b_X13_take_5) n Q y) (fun y0' y1' y2' y3' hy => ih y0' y1' y2' y3' Q hy) (t_lp (b := b_X13_take_5) (n := n) (x := (y0, y1, y2, y3)) hk)
noncomputable def f_X13_take (x1 : Int32) (s : t_S) : Option (Int64 × t_S) :=
 t_loop (b_X13_take_5) t_N (x1, 0, 0, s)
set_option maxRecDepth 4000 in
set_option maxHeartbeats 1000000 in
theorem C_X13_take (x1 : Int32) (s : t_S) (r : Int64 × t_S) (hr : f_X13_take x1 s = some r) : t_C yX13_take cX13_take 5 (some .long) 1 [.ref 950, .int x1] s (fun v s' => v = some (.long r.1) ∧ s' = r.2) := by
  refine t_C.imp (P := fun v s' => ∃ x, v = some (.long x) ∧ (fun q => q = r) ((x, s'))) (t_C.of (by decide +kernel) (Nat.le_of_ble_eq_true rfl) ?_) (fun v s' hp => by obtain ⟨x, rfl, rfl⟩ := hp; exact ⟨rfl, rfl⟩)
  intro D cy ad bs X
  have hk : t_hk (f_X13_take x1 s) (fun q => q = r) := ⟨r, hr, rfl⟩
  show mj_G D cy ad bs X cX13_take 5 yX13_take.cls (some .long) yX13_take.name 1 0 0 1065 (t_P (fun v s' => ∃ x, v = some (.long x) ∧ (fun q => q = r) ((x, s')))) 0 [(0, .ref 950), (1, .int x1)] [] (t_m s) 1065 0 0
  refine mj_lconst (v := 0) dX13_take_0 (by decide) ?_
  refine mj_lstore_n 2 (lv2 := [(2, .long 0), (0, .ref 950), (1, .int x1)]) dX13_take_1 rfl (by decide) rfl ?_
  refine mj_iconst (v := 0) dX13_take_2 (by decide) ?_
  refine mj_istore (lv2 := [(4, .int 0), (2, .long 0), (0, .ref 950), (1, .int x1)]) dX13_take_3 (by decide) rfl ?_
  refine mj_sublv [(0, .ref 950), (1, .int x1), (2, .long 0), (4, .int 0)] [2, 3, 1, 0] rfl ?_
  exact LH_X13_take_5 _ x1 0 0 s _ hk

