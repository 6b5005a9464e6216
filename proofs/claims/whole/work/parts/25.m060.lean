/-! Methods as functions, 60: X13_look, X13_canStep, X13_all, X13_fieldNode, X13_hasPart, X13_inRanges -/
theorem qa_1038 : t_oka 1038 1 8 = true := by decide +kernel
theorem qa_1040 : t_oka 1040 1 64 = true := by decide +kernel
theorem qf_950_147 : t_okf 950 13 147 0 = true := by decide +kernel
theorem qf_950_149 : t_okf 950 13 149 0 = true := by decide +kernel
theorem qf_950_171 : t_okf 950 13 171 1 = true := by decide +kernel
theorem qf_950_172 : t_okf 950 13 172 1 = true := by decide +kernel
theorem qr_950_153 : t_okr 950 13 153 1038 = true := by decide +kernel
theorem qr_950_155 : t_okr 950 13 155 1040 = true := by decide +kernel
theorem dX13_look_0 : decode cX13_look 0 = .ok (.aload_n 0, 1) := by decide +kernel
theorem dX13_look_1 : decode cX13_look 1 = .ok (.iconst (-1), 1) := by decide +kernel
theorem dX13_look_100 : decode cX13_look 100 = .ok (.iload 6, 2) := by decide +kernel
theorem dX13_look_102 : decode cX13_look 102 = .ok (.iaload, 1) := by decide +kernel
theorem dX13_look_103 : decode cX13_look 103 = .ok (.sipush 1800, 3) := by decide +kernel
theorem dX13_look_106 : decode cX13_look 106 = .ok (.bipush 32, 2) := by decide +kernel
theorem dX13_look_108 : decode cX13_look 108 = .ok (.iload_n 1, 1) := by decide +kernel
theorem dX13_look_109 : decode cX13_look 109 = .ok (.imul, 1) := by decide +kernel
theorem dX13_look_11 : decode cX13_look 11 = .ok (.istore 4, 2) := by decide +kernel
theorem dX13_look_110 : decode cX13_look 110 = .ok (.iadd, 1) := by decide +kernel
theorem dX13_look_111 : decode cX13_look 111 = .ok (.bipush 8, 2) := by decide +kernel
theorem dX13_look_113 : decode cX13_look 113 = .ok (.iload 5, 2) := by decide +kernel
theorem dX13_look_115 : decode cX13_look 115 = .ok (.imul, 1) := by decide +kernel
theorem dX13_look_116 : decode cX13_look 116 = .ok (.iadd, 1) := by decide +kernel
theorem dX13_look_117 : decode cX13_look 117 = .ok (.iload 6, 2) := by decide +kernel
theorem dX13_look_119 : decode cX13_look 119 = .ok (.iconst 1, 1) := by decide +kernel
theorem dX13_look_120 : decode cX13_look 120 = .ok (.invokestatic 1462, 3) := by decide +kernel
theorem dX13_look_123 : decode cX13_look 123 = .ok (.iinc 5 (-1), 3) := by decide +kernel
theorem dX13_look_126 : decode cX13_look 126 = .ok (.goto (-64), 3) := by decide +kernel
theorem dX13_look_129 : decode cX13_look 129 = .ok (.aload_n 0, 1) := by decide +kernel
theorem dX13_look_13 : decode cX13_look 13 = .ok (.aload_n 0, 1) := by decide +kernel
theorem dX13_look_130 : decode cX13_look 130 = .ok (.iload 4, 2) := by decide +kernel
theorem dX13_look_132 : decode cX13_look 132 = .ok (.putfield 935, 3) := by decide +kernel
theorem dX13_look_135 : decode cX13_look 135 = .ok (.aload_n 0, 1) := by decide +kernel
theorem dX13_look_136 : decode cX13_look 136 = .ok (.getfield 842, 3) := by decide +kernel
theorem dX13_look_139 : decode cX13_look 139 = .ok (.ifCond .ne 14, 3) := by decide +kernel
theorem dX13_look_14 : decode cX13_look 14 = .ok (.getfield 126, 3) := by decide +kernel
theorem dX13_look_142 : decode cX13_look 142 = .ok (.aload_n 0, 1) := by decide +kernel
theorem dX13_look_143 : decode cX13_look 143 = .ok (.getfield 1455, 3) := by decide +kernel
theorem dX13_look_146 : decode cX13_look 146 = .ok (.ifCond .lt 7, 3) := by decide +kernel
theorem dX13_look_149 : decode cX13_look 149 = .ok (.iconst 1, 1) := by decide +kernel
theorem dX13_look_150 : decode cX13_look 150 = .ok (.goto 4, 3) := by decide +kernel
theorem dX13_look_153 : decode cX13_look 153 = .ok (.iconst 0, 1) := by decide +kernel
theorem dX13_look_154 : decode cX13_look 154 = .ok (.ireturn, 1) := by decide +kernel
theorem dX13_look_17 : decode cX13_look 17 = .ok (.iload_n 3, 1) := by decide +kernel
theorem dX13_look_18 : decode cX13_look 18 = .ok (.iaload, 1) := by decide +kernel
theorem dX13_look_19 : decode cX13_look 19 = .ok (.bipush 11, 2) := by decide +kernel
theorem dX13_look_2 : decode cX13_look 2 = .ok (.putfield 1455, 3) := by decide +kernel
theorem dX13_look_21 : decode cX13_look 21 = .ok (.if_icmp .ne 16, 3) := by decide +kernel
theorem dX13_look_24 : decode cX13_look 24 = .ok (.aload_n 0, 1) := by decide +kernel
theorem dX13_look_25 : decode cX13_look 25 = .ok (.iload_n 1, 1) := by decide +kernel
theorem dX13_look_26 : decode cX13_look 26 = .ok (.iload_n 3, 1) := by decide +kernel
theorem dX13_look_27 : decode cX13_look 27 = .ok (.iload 4, 2) := by decide +kernel
theorem dX13_look_29 : decode cX13_look 29 = .ok (.iconst (-1), 1) := by decide +kernel
theorem dX13_look_30 : decode cX13_look 30 = .ok (.iconst 0, 1) := by decide +kernel
theorem dX13_look_31 : decode cX13_look 31 = .ok (.invokestatic 1458, 3) := by decide +kernel
theorem dX13_look_34 : decode cX13_look 34 = .ok (.goto 18, 3) := by decide +kernel
theorem dX13_look_37 : decode cX13_look 37 = .ok (.aload_n 0, 1) := by decide +kernel
theorem dX13_look_38 : decode cX13_look 38 = .ok (.iload_n 1, 1) := by decide +kernel
theorem dX13_look_39 : decode cX13_look 39 = .ok (.aload_n 0, 1) := by decide +kernel
theorem dX13_look_40 : decode cX13_look 40 = .ok (.getfield 156, 3) := by decide +kernel
theorem dX13_look_43 : decode cX13_look 43 = .ok (.iload_n 3, 1) := by decide +kernel
theorem dX13_look_44 : decode cX13_look 44 = .ok (.iaload, 1) := by decide +kernel
theorem dX13_look_45 : decode cX13_look 45 = .ok (.iload 4, 2) := by decide +kernel
theorem dX13_look_47 : decode cX13_look 47 = .ok (.iconst (-1), 1) := by decide +kernel
theorem dX13_look_48 : decode cX13_look 48 = .ok (.iconst 0, 1) := by decide +kernel
theorem dX13_look_49 : decode cX13_look 49 = .ok (.invokestatic 1462, 3) := by decide +kernel
theorem dX13_look_5 : decode cX13_look 5 = .ok (.aload_n 0, 1) := by decide +kernel
theorem dX13_look_52 : decode cX13_look 52 = .ok (.aload_n 0, 1) := by decide +kernel
theorem dX13_look_53 : decode cX13_look 53 = .ok (.getfield 294, 3) := by decide +kernel
theorem dX13_look_56 : decode cX13_look 56 = .ok (.iload_n 1, 1) := by decide +kernel
theorem dX13_look_57 : decode cX13_look 57 = .ok (.iaload, 1) := by decide +kernel
theorem dX13_look_58 : decode cX13_look 58 = .ok (.iconst 1, 1) := by decide +kernel
theorem dX13_look_59 : decode cX13_look 59 = .ok (.isub, 1) := by decide +kernel
theorem dX13_look_6 : decode cX13_look 6 = .ok (.iload_n 1, 1) := by decide +kernel
theorem dX13_look_60 : decode cX13_look 60 = .ok (.istore 5, 2) := by decide +kernel
theorem dX13_look_62 : decode cX13_look 62 = .ok (.iload 5, 2) := by decide +kernel
theorem dX13_look_64 : decode cX13_look 64 = .ok (.ifCond .lt 65, 3) := by decide +kernel
theorem dX13_look_67 : decode cX13_look 67 = .ok (.aload_n 0, 1) := by decide +kernel
theorem dX13_look_68 : decode cX13_look 68 = .ok (.getfield 842, 3) := by decide +kernel
theorem dX13_look_7 : decode cX13_look 7 = .ok (.iload_n 2, 1) := by decide +kernel
theorem dX13_look_71 : decode cX13_look 71 = .ok (.ifCond .ne 58, 3) := by decide +kernel
theorem dX13_look_74 : decode cX13_look 74 = .ok (.aload_n 0, 1) := by decide +kernel
theorem dX13_look_75 : decode cX13_look 75 = .ok (.getfield 1455, 3) := by decide +kernel
theorem dX13_look_78 : decode cX13_look 78 = .ok (.ifCond .ge 51, 3) := by decide +kernel
theorem dX13_look_8 : decode cX13_look 8 = .ok (.invokevirtual 1340, 3) := by decide +kernel
theorem dX13_look_81 : decode cX13_look 81 = .ok (.aload_n 0, 1) := by decide +kernel
theorem dX13_look_82 : decode cX13_look 82 = .ok (.getfield 297, 3) := by decide +kernel
theorem dX13_look_85 : decode cX13_look 85 = .ok (.iconst 4, 1) := by decide +kernel
theorem dX13_look_86 : decode cX13_look 86 = .ok (.iload_n 1, 1) := by decide +kernel
theorem dX13_look_87 : decode cX13_look 87 = .ok (.imul, 1) := by decide +kernel
theorem dX13_look_88 : decode cX13_look 88 = .ok (.iload 5, 2) := by decide +kernel
theorem dX13_look_90 : decode cX13_look 90 = .ok (.iadd, 1) := by decide +kernel
theorem dX13_look_91 : decode cX13_look 91 = .ok (.iaload, 1) := by decide +kernel
theorem dX13_look_92 : decode cX13_look 92 = .ok (.istore 6, 2) := by decide +kernel
theorem dX13_look_94 : decode cX13_look 94 = .ok (.aload_n 0, 1) := by decide +kernel
theorem dX13_look_95 : decode cX13_look 95 = .ok (.iload_n 1, 1) := by decide +kernel
theorem dX13_look_96 : decode cX13_look 96 = .ok (.aload_n 0, 1) := by decide +kernel
theorem dX13_look_97 : decode cX13_look 97 = .ok (.getfield 123, 3) := by decide +kernel
noncomputable def k_X13_look_129 (l4 : Int32) (s : t_S) : Option (Int32 × t_S) :=
 t_let (t_setI s 950 101 l4) (fun s1 =>
 if (s1.1 950 97) = (0 : Int32) then (if (s1.1 950 178) < (0 : Int32) then (some ((0 : Int32), s1))
 else (some ((1 : Int32), s1)))
 else (some ((0 : Int32), s1)))
set_option maxRecDepth 4000 in
set_option maxHeartbeats 1000000 in
theorem B_X13_look_129 {D : va_G} {cy : Nat → ClassId} {ad : Nat → Nat} {bs : Nat} {X : State → Heap → Prop} (l4 : Int32) (s : t_S) (Q : Int32 × t_S → Prop) (hk : t_hk (k_X13_look_129 l4 s) Q) : mj_G D cy ad bs X cX13_look 7 yX13_look.cls (some .boolean) yX13_look.name 1886 0 0 1065 (t_P (fun v s' => ∃ x, v = some (.int x) ∧ Q ((x, s')))) 129 [(0, .ref 950), (4, .int l4)] [] (t_m s) 1065 0 0 := by
  refine mj_aload_n dX13_look_129 0 rfl ?_
  refine mj_iload dX13_look_130 1 rfl ?_
  refine t_putIK dX13_look_132 F_X13_935 qf_950_101 rfl (fun s1 ws1 => t_letE hk ws1 (fun hk => ?_))
  refine mj_aload_n dX13_look_135 0 rfl ?_
  refine t_getI dX13_look_136 F_X13_842 qf_950_97 ?_
  refine mj_if_ne 153 dX13_look_139 (by decide) (fun z => t_negK hk z (fun hk => ?_)) (fun z => t_posK hk z (fun hk => ?_))
  · refine mj_iconst (v := 0) dX13_look_153 (by decide) ?_
    exact t_somK hk (fun hf => t_iret dX13_look_154 rfl (by decide) ⟨_, rfl, hf⟩ (Nat.le_of_ble_eq_true rfl) (Nat.le_of_ble_eq_true rfl))
  · refine mj_aload_n dX13_look_142 0 rfl ?_
    refine t_getI dX13_look_143 F_X13_1455 qf_950_178 ?_
    refine mj_if_lt 153 dX13_look_146 (by decide) (fun z => t_posK hk z (fun hk => ?_)) (fun z => t_negK hk z (fun hk => ?_))
    · refine mj_iconst (v := 0) dX13_look_153 (by decide) ?_
      exact t_somK hk (fun hf => t_iret dX13_look_154 rfl (by decide) ⟨_, rfl, hf⟩ (Nat.le_of_ble_eq_true rfl) (Nat.le_of_ble_eq_true rfl))
    · refine mj_iconst (v := 1) dX13_look_149 (by decide) ?_
      refine mj_goto 154 dX13_look_150 (by decide) ?_
      exact t_somK hk (fun hf => t_iret dX13_look_154 rfl (by decide) ⟨_, rfl, hf⟩ (Nat.le_of_ble_eq_true rfl) (Nat.le_of_ble_eq_true rfl))
noncomputable def k_X13_look_62 (l1 : Int32) (l4 : Int32) (l5 : Int32) (s : t_S) : Option ((Int32 × Int32 × Int32 × t_S) ⊕ (Int32 × t_S)) :=
 if l5 < (0 : Int32) then ((k_X13_look_129 l4 s).map Sum.inr)
 else (if (s.1 950 97) = (0 : Int32) then (if (0 : Int32) ≤ (s.1 950 178) then ((k_X13_look_129 l4 s).map Sum.inr)
 else (if t_ix (((4 : Int32) * l1) + l5) 32 = true then
  if t_ix (s.1 1043 ((((4 : Int32) * l1) + l5).toNatClampNeg)) 40 = true then
  (f_X13_lookAll l1 (s.1 987 ((s.1 1043 ((((4 : Int32) * l1) + l5).toNatClampNeg)).toNatClampNeg)) (((1800 : Int32) + ((32 : Int32) * l1)) + ((8 : Int32) * l5)) (s.1 1043 ((((4 : Int32) * l1) + l5).toNatClampNeg)) (1 : Int32) s).bind (fun r3 =>
 some (.inl (l1, l4, (l5 + (-1)), r3)))
else none
else none))
 else ((k_X13_look_129 l4 s).map Sum.inr))
set_option maxRecDepth 4000 in
set_option maxHeartbeats 1000000 in
theorem B_X13_look_62 {D : va_G} {cy : Nat → ClassId} {ad : Nat → Nat} {bs : Nat} {X : State → Heap → Prop} (l1 : Int32) (l4 : Int32) (l5 : Int32) (s : t_S) (Q : (Int32 × Int32 × Int32 × t_S) ⊕ (Int32 × t_S) → Prop) (Hb62 : ∀ (y0 : Int32) (y1 : Int32) (y2 : Int32) (y3 : t_S), Q (.inl (y0, y1, y2, y3)) → mj_G D cy ad bs X cX13_look 7 yX13_look.cls (some .boolean) yX13_look.name 1886 0 0 1065 (t_P (fun v s' => ∃ x, v = some (.int x) ∧ Q (.inr ((x, s'))))) 62 [(0, .ref 950), (1, .int (y0)), (4, .int (y1)), (5, .int (y2))] [] (t_m y3) 1065 0 0) (hk : t_hk (k_X13_look_62 l1 l4 l5 s) Q) : mj_G D cy ad bs X cX13_look 7 yX13_look.cls (some .boolean) yX13_look.name 1886 0 0 1065 (t_P (fun v s' => ∃ x, v = some (.int x) ∧ Q (.inr ((x, s'))))) 62 [(0, .ref 950), (1, .int l1), (4, .int l4), (5, .int l5)] [] (t_m s) 1065 0 0 := by
  refine mj_iload dX13_look_62 3 rfl ?_
  refine mj_if_lt 129 dX13_look_64 (by decide) (fun z => t_posK hk z (fun hk => ?_)) (fun z => t_negK hk z (fun hk => ?_))
  · refine mj_sublv [(0, .ref 950), (4, .int l4)] [0, 2] rfl ?_
    refine t_mapK hk (fun hk => ?_)
    exact B_X13_look_129 _ _ _ hk
  · refine mj_aload_n dX13_look_67 0 rfl ?_
    refine t_getI dX13_look_68 F_X13_842 qf_950_97 ?_
    refine mj_if_ne 129 dX13_look_71 (by decide) (fun z => t_negK hk z (fun hk => ?_)) (fun z => t_posK hk z (fun hk => ?_))
    · refine mj_sublv [(0, .ref 950), (4, .int l4)] [0, 2] rfl ?_
      refine t_mapK hk (fun hk => ?_)
      exact B_X13_look_129 _ _ _ hk
    · refine mj_aload_n dX13_look_74 0 rfl ?_
      refine t_getI dX13_look_75 F_X13_1455 qf_950_178 ?_
      refine mj_if_ge 129 dX13_look_78 (by decide) (fun z => t_posK hk z (fun hk => ?_)) (fun z => t_negK hk z (fun hk => ?_))
      · refine mj_sublv [(0, .ref 950), (4, .int l4)] [0, 2] rfl ?_
        refine t_mapK hk (fun hk => ?_)
        exact B_X13_look_129 _ _ _ hk
      · refine mj_aload_n dX13_look_81 0 rfl ?_
        refine t_getR 1043 dX13_look_82 F_X13_297 qr_950_158 ?_
        refine mj_iconst (v := 4) dX13_look_85 (by decide) ?_
        refine mj_iload_n dX13_look_86 1 rfl ?_
        refine mj_imul dX13_look_87 ?_
        refine mj_iload dX13_look_88 3 rfl ?_
        refine mj_iadd dX13_look_90 ?_
        refine t_chkK hk (fun c0 hk => ?_)
        refine t_iald dX13_look_91 qa_1043 (t_ixv c0) ?_
        refine mj_istore (lv2 := [(6, .int (s.1 1043 ((((4 : Int32) * l1) + l5).toNatClampNeg))), (0, .ref 950), (1, .int l1), (4, .int l4), (5, .int l5)]) dX13_look_92 (by decide) rfl ?_
        refine mj_aload_n dX13_look_94 1 rfl ?_
        refine mj_iload_n dX13_look_95 2 rfl ?_
        refine mj_aload_n dX13_look_96 1 rfl ?_
        refine t_getR 987 dX13_look_97 F_X13_123 qr_950_63 ?_
        refine mj_iload dX13_look_100 0 rfl ?_
        refine t_chkK hk (fun c1 hk => ?_)
        refine t_iald dX13_look_102 qa_987 (t_ixv c1) ?_
        refine mj_sipush (v := 1800) dX13_look_103 (by decide) ?_
        refine mj_bipush (v := 32) dX13_look_106 (by decide) ?_
        refine mj_iload_n dX13_look_108 2 rfl ?_
        refine mj_imul dX13_look_109 ?_
        refine mj_iadd dX13_look_110 ?_
        refine mj_bipush (v := 8) dX13_look_111 (by decide) ?_
        refine mj_iload dX13_look_113 4 rfl ?_
        refine mj_imul dX13_look_115 ?_
        refine mj_iadd dX13_look_116 ?_
        refine mj_iload dX13_look_117 0 rfl ?_
        refine mj_iconst (v := 1) dX13_look_119 (by decide) ?_
        refine t_bndK hk (fun r3 er3 hk => ?_)
        refine t_callSvE dX13_look_120 M_X13_lookAll (C_X13_lookAll _ _ _ _ _ _ _ er3) ML_X13_1462 SM_X13_lookAll (As := [.ref 950, .int l1, .int (s.1 987 ((s.1 1043 ((((4 : Int32) * l1) + l5).toNatClampNeg)).toNatClampNeg)), .int (((1800 : Int32) + ((32 : Int32) * l1)) + ((8 : Int32) * l5)), .int (s.1 1043 ((((4 : Int32) * l1) + l5).toNatClampNeg)), .int 1]) rfl rfl (Nat.le_of_ble_eq_true rfl) (Nat.le_of_ble_eq_true rfl) (Nat.le_of_ble_eq_true rfl) (Nat.le_of_ble_eq_true rfl) ?_
        refine mj_iinc (k := 4) (v := (l5 + (-1))) (lv2 := [(5, .int (l5 + (-1))), (6, .int (s.1 1043 ((((4 : Int32) * l1) + l5).toNatClampNeg))), (0, .ref 950), (1, .int l1), (4, .int l4)]) dX13_look_123 rfl rfl (by decide) rfl ?_
        refine mj_goto 62 dX13_look_126 (by decide) ?_
        refine mj_sublv [(0, .ref 950), (1, .int l1), (4, .int l4), (5, .int (l5 + (-1)))] [2, 3, 4, 0] rfl ?_
        exact t_somK hk (fun hf => Hb62 l1 l4 (l5 + (-1)) r3 hf)
noncomputable def b_X13_look_62 (x : Int32 × Int32 × Int32 × t_S) : Option ((Int32 × Int32 × Int32 × t_S) ⊕ (Int32 × t_S)) := k_X13_look_62 x.1 x.2.1 x.2.2.1 x.2.2.2
set_option maxRecDepth 4000 in
set_option maxHeartbeats 1000000 in
theorem LH_X13_look_62 {D : va_G} {cy : Nat → ClassId} {ad : Nat → Nat} {bs : Nat} {X : State → Heap → Prop} : ∀ (n : Nat) (y0 : Int32) (y1 : Int32) (y2 : Int32) (y3 : t_S) (Q : Int32 × t_S → Prop) (hk : t_hk (t_loop (b_X13_look_62) n (y0, y1, y2, y3)) Q), mj_G D cy ad bs X cX13_look 7 yX13_look.cls (some .boolean) yX13_look.name 1886 0 0 1065 (t_P (fun v s' => ∃ x, v = some (.int x) ∧ Q ((x, s')))) 62 [(0, .ref 950), (1, .int (y0)), (4, .int (y1)), (5, .int (y2))] [] (t_m y3) 1065 0 0 := by
  intro n
  induction n with
  | zero => intro y0 y1 y2 y3 Q hk; obtain ⟨r, hr, _⟩ := hk; cases hr
  | succ n ih =>
    intro y0 y1 y2 y3 Q hk
    exact B_X13_look_62 y0 y1 y2 y3 (fun y => t_lq (b_X13_look_62) n Q y) (fun y0' y1' y2' y3' hy => ih y0' y1' y2' y3' Q hy) (t_lp (b := b_X13_look_62) (n := n) (x := (y0, y1, y2, y3)) hk)
noncomputable def k_X13_look_52 (l1 : Int32) (l4 : Int32) (s : t_S) : Option (Int32 × t_S) :=
 if t_ix l1 8 = true then
  t_loop (b_X13_look_62) t_N (l1, l4, ((s.1 1042 (l1.toNatClampNeg)) - (1 : Int32)), s)
else none
set_option maxRecDepth 4000 in
set_option maxHeartbeats 1000000 in
theorem B_X13_look_52 {D : va_G} {cy : Nat → ClassId} {ad : Nat → Nat} {bs : Nat} {X : State → Heap → Prop} (l1 : Int32) (l4 : Int32) (s : t_S) (Q : Int32 × t_S → Prop) (hk : t_hk (k_X13_look_52 l1 l4 s) Q) : mj_G D cy ad bs X cX13_look 7 yX13_look.cls (some .boolean) yX13_look.name 1886 0 0 1065 (t_P (fun v s' => ∃ x, v = some (.int x) ∧ Q ((x, s')))) 52 [(0, .ref 950), (1, .int l1), (4, .int l4)] [] (t_m s) 1065 0 0 := by
  refine mj_aload_n dX13_look_52 0 rfl ?_
  refine t_getR 1042 dX13_look_53 F_X13_294 qr_950_157 ?_
  refine mj_iload_n dX13_look_56 1 rfl ?_
  refine t_chkK hk (fun c0 hk => ?_)
  refine t_iald dX13_look_57 qa_1042 (t_ixv c0) ?_
  refine mj_iconst (v := 1) dX13_look_58 (by decide) ?_
  refine mj_isub dX13_look_59 ?_
  refine mj_istore (lv2 := [(5, .int ((s.1 1042 (l1.toNatClampNeg)) - (1 : Int32))), (0, .ref 950), (1, .int l1), (4, .int l4)]) dX13_look_60 (by decide) rfl ?_
  refine mj_sublv [(0, .ref 950), (1, .int l1), (4, .int l4), (5, .int ((s.1 1042 (l1.toNatClampNeg)) - (1 : Int32)))] [1, 2, 3, 0] rfl ?_
  exact LH_X13_look_62 _ l1 l4 ((s.1 1042 (l1.toNatClampNeg)) - (1 : Int32)) s _ hk
noncomputable def f_X13_look (x1 : Int32) (x2 : Int32) (x3 : Int32) (s : t_S) : Option (Int32 × t_S) :=
 t_let (t_setI s 950 178 (-1 : Int32)) (fun s1 =>
 if t_ix x3 401 = true then
  if (s1.1 988 (x3.toNatClampNeg)) = (11 : Int32) then ((f_X13_lookAt x1 x3 (f_X13_frameSlot x1 x2 s1) (-1 : Int32) (0 : Int32) s1).bind (fun r4 =>
 k_X13_look_52 x1 (f_X13_frameSlot x1 x2 s1) r4))
 else ((f_X13_lookAll x1 (s1.1 998 (x3.toNatClampNeg)) (f_X13_frameSlot x1 x2 s1) (-1 : Int32) (0 : Int32) s1).bind (fun r3 =>
 k_X13_look_52 x1 (f_X13_frameSlot x1 x2 s1) r3))
else none)
set_option maxRecDepth 4000 in
set_option maxHeartbeats 1000000 in
theorem C_X13_look (x1 : Int32) (x2 : Int32) (x3 : Int32) (s : t_S) (r : Int32 × t_S) (hr : f_X13_look x1 x2 x3 s = some r) : t_C yX13_look cX13_look 7 (some .boolean) 1886 [.ref 950, .int x1, .int x2, .int x3] s (fun v s' => v = some (.int r.1) ∧ s' = r.2) := by
  refine t_C.imp (P := fun v s' => ∃ x, v = some (.int x) ∧ (fun q => q = r) ((x, s'))) (t_C.of (by decide +kernel) (Nat.le_of_ble_eq_true rfl) ?_) (fun v s' hp => by obtain ⟨x, rfl, rfl⟩ := hp; exact ⟨rfl, rfl⟩)
  intro D cy ad bs X
  have hk : t_hk (f_X13_look x1 x2 x3 s) (fun q => q = r) := ⟨r, hr, rfl⟩
  show mj_G D cy ad bs X cX13_look 7 yX13_look.cls (some .boolean) yX13_look.name 1886 0 0 1065 (t_P (fun v s' => ∃ x, v = some (.int x) ∧ (fun q => q = r) ((x, s')))) 0 [(0, .ref 950), (1, .int x1), (2, .int x2), (3, .int x3)] [] (t_m s) 1065 0 0
  refine mj_aload_n dX13_look_0 0 rfl ?_
  refine mj_iconst (v := (-1)) dX13_look_1 (by decide) ?_
  refine t_putIK dX13_look_2 F_X13_1455 qf_950_178 rfl (fun s1 ws1 => t_letE hk ws1 (fun hk => ?_))
  refine mj_aload_n dX13_look_5 0 rfl ?_
  refine mj_iload_n dX13_look_6 1 rfl ?_
  refine mj_iload_n dX13_look_7 2 rfl ?_
  refine t_callViP dX13_look_8 M_X13_frameSlot (C_X13_frameSlot _ _ _) ML_X13_1340 IM_X13_frameSlot SE_X13_frameSlot qc_950 rfl (As := [.int x1, .int x2]) rfl rfl (Nat.le_of_ble_eq_true rfl) (Nat.le_of_ble_eq_true rfl) (Nat.le_of_ble_eq_true rfl) (Nat.le_of_ble_eq_true rfl) ?_
  refine mj_istore (lv2 := [(4, .int (f_X13_frameSlot x1 x2 s1)), (0, .ref 950), (1, .int x1), (2, .int x2), (3, .int x3)]) dX13_look_11 (by decide) rfl ?_
  refine mj_aload_n dX13_look_13 1 rfl ?_
  refine t_getR 988 dX13_look_14 F_X13_126 qr_950_66 ?_
  refine mj_iload_n dX13_look_17 4 rfl ?_
  refine t_chkK hk (fun c1 hk => ?_)
  refine t_iald dX13_look_18 qa_988 (t_ixv c1) ?_
  refine mj_bipush (v := 11) dX13_look_19 (by decide) ?_
  refine mj_icmp_ne 37 dX13_look_21 (by decide) (fun z => t_negK hk z (fun hk => ?_)) (fun z => t_posK hk z (fun hk => ?_))
  · refine mj_aload_n dX13_look_37 1 rfl ?_
    refine mj_iload_n dX13_look_38 2 rfl ?_
    refine mj_aload_n dX13_look_39 1 rfl ?_
    refine t_getR 998 dX13_look_40 F_X13_156 qr_950_76 ?_
    refine mj_iload_n dX13_look_43 4 rfl ?_
    refine t_iald dX13_look_44 qa_998 (t_ixv c1) ?_
    refine mj_iload dX13_look_45 0 rfl ?_
    refine mj_iconst (v := (-1)) dX13_look_47 (by decide) ?_
    refine mj_iconst (v := 0) dX13_look_48 (by decide) ?_
    refine t_bndK hk (fun r3 er3 hk => ?_)
    refine t_callSvE dX13_look_49 M_X13_lookAll (C_X13_lookAll _ _ _ _ _ _ _ er3) ML_X13_1462 SM_X13_lookAll (As := [.ref 950, .int x1, .int (s1.1 998 (x3.toNatClampNeg)), .int (f_X13_frameSlot x1 x2 s1), .int (-1), .int 0]) rfl rfl (Nat.le_of_ble_eq_true rfl) (Nat.le_of_ble_eq_true rfl) (Nat.le_of_ble_eq_true rfl) (Nat.le_of_ble_eq_true rfl) ?_
    refine mj_sublv [(0, .ref 950), (1, .int x1), (4, .int (f_X13_frameSlot x1 x2 s1))] [1, 2, 0] rfl ?_
    exact B_X13_look_52 _ _ _ _ hk
  · refine mj_aload_n dX13_look_24 1 rfl ?_
    refine mj_iload_n dX13_look_25 2 rfl ?_
    refine mj_iload_n dX13_look_26 4 rfl ?_
    refine mj_iload dX13_look_27 0 rfl ?_
    refine mj_iconst (v := (-1)) dX13_look_29 (by decide) ?_
    refine mj_iconst (v := 0) dX13_look_30 (by decide) ?_
    refine t_bndK hk (fun r4 er4 hk => ?_)
    refine t_callSvE dX13_look_31 M_X13_lookAt (C_X13_lookAt _ _ _ _ _ _ _ er4) ML_X13_1458 SM_X13_lookAt (As := [.ref 950, .int x1, .int x3, .int (f_X13_frameSlot x1 x2 s1), .int (-1), .int 0]) rfl rfl (Nat.le_of_ble_eq_true rfl) (Nat.le_of_ble_eq_true rfl) (Nat.le_of_ble_eq_true rfl) (Nat.le_of_ble_eq_true rfl) ?_
    refine mj_goto 52 dX13_look_34 (by decide) ?_
    refine mj_sublv [(0, .ref 950), (1, .int x1), (4, .int (f_X13_frameSlot x1 x2 s1))] [1, 2, 0] rfl ?_
    exact B_X13_look_52 _ _ _ _ hk

theorem dX13_canStep_0 : decode cX13_canStep 0 = .ok (.aload_n 0, 1) := by decide +kernel
theorem dX13_canStep_1 : decode cX13_canStep 1 = .ok (.getfield 282, 3) := by decide +kernel
theorem dX13_canStep_10 : decode cX13_canStep 10 = .ok (.getfield 288, 3) := by decide +kernel
theorem dX13_canStep_13 : decode cX13_canStep 13 = .ok (.bipush 8, 2) := by decide +kernel
theorem dX13_canStep_15 : decode cX13_canStep 15 = .ok (.iload_n 1, 1) := by decide +kernel
theorem dX13_canStep_16 : decode cX13_canStep 16 = .ok (.imul, 1) := by decide +kernel
theorem dX13_canStep_17 : decode cX13_canStep 17 = .ok (.iload_n 2, 1) := by decide +kernel
theorem dX13_canStep_18 : decode cX13_canStep 18 = .ok (.iadd, 1) := by decide +kernel
theorem dX13_canStep_19 : decode cX13_canStep 19 = .ok (.iaload, 1) := by decide +kernel
theorem dX13_canStep_20 : decode cX13_canStep 20 = .ok (.istore_n 3, 1) := by decide +kernel
theorem dX13_canStep_21 : decode cX13_canStep 21 = .ok (.aload_n 0, 1) := by decide +kernel
theorem dX13_canStep_22 : decode cX13_canStep 22 = .ok (.getfield 126, 3) := by decide +kernel
theorem dX13_canStep_25 : decode cX13_canStep 25 = .ok (.iload_n 3, 1) := by decide +kernel
theorem dX13_canStep_26 : decode cX13_canStep 26 = .ok (.iaload, 1) := by decide +kernel
theorem dX13_canStep_27 : decode cX13_canStep 27 = .ok (.bipush 10, 2) := by decide +kernel
theorem dX13_canStep_29 : decode cX13_canStep 29 = .ok (.if_icmp .eq 16, 3) := by decide +kernel
theorem dX13_canStep_32 : decode cX13_canStep 32 = .ok (.aload_n 0, 1) := by decide +kernel
theorem dX13_canStep_33 : decode cX13_canStep 33 = .ok (.getfield 126, 3) := by decide +kernel
theorem dX13_canStep_36 : decode cX13_canStep 36 = .ok (.iload_n 3, 1) := by decide +kernel
theorem dX13_canStep_37 : decode cX13_canStep 37 = .ok (.iaload, 1) := by decide +kernel
theorem dX13_canStep_38 : decode cX13_canStep 38 = .ok (.bipush 11, 2) := by decide +kernel
theorem dX13_canStep_4 : decode cX13_canStep 4 = .ok (.iload_n 1, 1) := by decide +kernel
theorem dX13_canStep_40 : decode cX13_canStep 40 = .ok (.if_icmp .eq 5, 3) := by decide +kernel
theorem dX13_canStep_43 : decode cX13_canStep 43 = .ok (.iconst 1, 1) := by decide +kernel
theorem dX13_canStep_44 : decode cX13_canStep 44 = .ok (.ireturn, 1) := by decide +kernel
theorem dX13_canStep_45 : decode cX13_canStep 45 = .ok (.aload_n 0, 1) := by decide +kernel
theorem dX13_canStep_46 : decode cX13_canStep 46 = .ok (.iconst 0, 1) := by decide +kernel
theorem dX13_canStep_47 : decode cX13_canStep 47 = .ok (.putfield 842, 3) := by decide +kernel
theorem dX13_canStep_5 : decode cX13_canStep 5 = .ok (.iaload, 1) := by decide +kernel
theorem dX13_canStep_50 : decode cX13_canStep 50 = .ok (.aload_n 0, 1) := by decide +kernel
theorem dX13_canStep_51 : decode cX13_canStep 51 = .ok (.iconst 0, 1) := by decide +kernel
theorem dX13_canStep_52 : decode cX13_canStep 52 = .ok (.putfield 858, 3) := by decide +kernel
theorem dX13_canStep_55 : decode cX13_canStep 55 = .ok (.aload_n 0, 1) := by decide +kernel
theorem dX13_canStep_56 : decode cX13_canStep 56 = .ok (.iconst 0, 1) := by decide +kernel
theorem dX13_canStep_57 : decode cX13_canStep 57 = .ok (.putfield 882, 3) := by decide +kernel
theorem dX13_canStep_6 : decode cX13_canStep 6 = .ok (.iconst 1, 1) := by decide +kernel
theorem dX13_canStep_60 : decode cX13_canStep 60 = .ok (.aload_n 0, 1) := by decide +kernel
theorem dX13_canStep_61 : decode cX13_canStep 61 = .ok (.iload_n 1, 1) := by decide +kernel
theorem dX13_canStep_62 : decode cX13_canStep 62 = .ok (.putfield 917, 3) := by decide +kernel
theorem dX13_canStep_65 : decode cX13_canStep 65 = .ok (.aload_n 0, 1) := by decide +kernel
theorem dX13_canStep_66 : decode cX13_canStep 66 = .ok (.iload_n 1, 1) := by decide +kernel
theorem dX13_canStep_67 : decode cX13_canStep 67 = .ok (.iload_n 2, 1) := by decide +kernel
theorem dX13_canStep_68 : decode cX13_canStep 68 = .ok (.iload_n 3, 1) := by decide +kernel
theorem dX13_canStep_69 : decode cX13_canStep 69 = .ok (.invokevirtual 1478, 3) := by decide +kernel
theorem dX13_canStep_7 : decode cX13_canStep 7 = .ok (.isub, 1) := by decide +kernel
theorem dX13_canStep_72 : decode cX13_canStep 72 = .ok (.ifCond .ne 10, 3) := by decide +kernel
theorem dX13_canStep_75 : decode cX13_canStep 75 = .ok (.aload_n 0, 1) := by decide +kernel
theorem dX13_canStep_76 : decode cX13_canStep 76 = .ok (.getfield 842, 3) := by decide +kernel
theorem dX13_canStep_79 : decode cX13_canStep 79 = .ok (.ifCond .eq 7, 3) := by decide +kernel
theorem dX13_canStep_8 : decode cX13_canStep 8 = .ok (.istore_n 2, 1) := by decide +kernel
theorem dX13_canStep_82 : decode cX13_canStep 82 = .ok (.iconst 1, 1) := by decide +kernel
theorem dX13_canStep_83 : decode cX13_canStep 83 = .ok (.goto 4, 3) := by decide +kernel
theorem dX13_canStep_86 : decode cX13_canStep 86 = .ok (.iconst 0, 1) := by decide +kernel
theorem dX13_canStep_87 : decode cX13_canStep 87 = .ok (.istore 4, 2) := by decide +kernel
theorem dX13_canStep_89 : decode cX13_canStep 89 = .ok (.aload_n 0, 1) := by decide +kernel
theorem dX13_canStep_9 : decode cX13_canStep 9 = .ok (.aload_n 0, 1) := by decide +kernel
theorem dX13_canStep_90 : decode cX13_canStep 90 = .ok (.iconst 0, 1) := by decide +kernel
theorem dX13_canStep_91 : decode cX13_canStep 91 = .ok (.putfield 842, 3) := by decide +kernel
theorem dX13_canStep_94 : decode cX13_canStep 94 = .ok (.iload 4, 2) := by decide +kernel
theorem dX13_canStep_96 : decode cX13_canStep 96 = .ok (.ireturn, 1) := by decide +kernel
noncomputable def k_X13_canStep_87 (k0 : Int32) (s : t_S) : Option (Int32 × t_S) :=
 t_let (t_setI s 950 97 (0 : Int32)) (fun s1 =>
 if k0 = 0 ∨ k0 = 1 then
  some (k0, s1)
else none)
set_option maxRecDepth 4000 in
set_option maxHeartbeats 1000000 in
theorem B_X13_canStep_87 {D : va_G} {cy : Nat → ClassId} {ad : Nat → Nat} {bs : Nat} {X : State → Heap → Prop} (k0 : Int32) (s : t_S) (Q : Int32 × t_S → Prop) (hk : t_hk (k_X13_canStep_87 k0 s) Q) : mj_G D cy ad bs X cX13_canStep 5 yX13_canStep.cls (some .boolean) yX13_canStep.name 1887 0 0 1065 (t_P (fun v s' => ∃ x, v = some (.int x) ∧ Q ((x, s')))) 87 [(0, .ref 950)] [.int k0] (t_m s) 1065 0 0 := by
  refine mj_istore (lv2 := [(4, .int k0), (0, .ref 950)]) dX13_canStep_87 (by decide) rfl ?_
  refine mj_aload_n dX13_canStep_89 1 rfl ?_
  refine mj_iconst (v := 0) dX13_canStep_90 (by decide) ?_
  refine t_putIK dX13_canStep_91 F_X13_842 qf_950_97 rfl (fun s1 ws1 => t_letE hk ws1 (fun hk => ?_))
  refine mj_iload dX13_canStep_94 0 rfl ?_
  refine t_chkK hk (fun c0 hk => ?_)
  exact t_somK hk (fun hf => t_iret dX13_canStep_96 rfl (t_zfit c0) ⟨_, rfl, hf⟩ (Nat.le_of_ble_eq_true rfl) (Nat.le_of_ble_eq_true rfl))
noncomputable def k_X13_canStep_82 (s : t_S) : Option (Int32 × t_S) :=
 k_X13_canStep_87 1 s
set_option maxRecDepth 4000 in
set_option maxHeartbeats 1000000 in
theorem B_X13_canStep_82 {D : va_G} {cy : Nat → ClassId} {ad : Nat → Nat} {bs : Nat} {X : State → Heap → Prop} (s : t_S) (Q : Int32 × t_S → Prop) (hk : t_hk (k_X13_canStep_82 s) Q) : mj_G D cy ad bs X cX13_canStep 5 yX13_canStep.cls (some .boolean) yX13_canStep.name 1887 0 0 1065 (t_P (fun v s' => ∃ x, v = some (.int x) ∧ Q ((x, s')))) 82 [(0, .ref 950)] [] (t_m s) 1065 0 0 := by
  refine mj_iconst (v := 1) dX13_canStep_82 (by decide) ?_
  refine mj_goto 87 dX13_canStep_83 (by decide) ?_
  exact B_X13_canStep_87 _ _ _ hk
noncomputable def k_X13_canStep_45 (l1 : Int32) (l2 : Int32) (l3 : Int32) (s : t_S) : Option (Int32 × t_S) :=
 t_let (t_setI s 950 97 (0 : Int32)) (fun s1 =>
 t_let (t_setI s1 950 98 (0 : Int32)) (fun s2 =>
 t_let (t_setI s2 950 103 (0 : Int32)) (fun s3 =>
 t_let (t_setI s3 950 100 l1) (fun s4 =>
 (f_X13_look l1 l2 l3 s4).bind (fun r1 =>
 if r1.1 = (0 : Int32) then (if (r1.2.1 950 97) = (0 : Int32) then (k_X13_canStep_87 0 r1.2)
 else (k_X13_canStep_82 r1.2))
 else (k_X13_canStep_82 r1.2))))))
set_option maxRecDepth 4000 in
set_option maxHeartbeats 1000000 in
theorem B_X13_canStep_45 {D : va_G} {cy : Nat → ClassId} {ad : Nat → Nat} {bs : Nat} {X : State → Heap → Prop} (l1 : Int32) (l2 : Int32) (l3 : Int32) (s : t_S) (Q : Int32 × t_S → Prop) (hk : t_hk (k_X13_canStep_45 l1 l2 l3 s) Q) : mj_G D cy ad bs X cX13_canStep 5 yX13_canStep.cls (some .boolean) yX13_canStep.name 1887 0 0 1065 (t_P (fun v s' => ∃ x, v = some (.int x) ∧ Q ((x, s')))) 45 [(0, .ref 950), (1, .int l1), (2, .int l2), (3, .int l3)] [] (t_m s) 1065 0 0 := by
  refine mj_aload_n dX13_canStep_45 0 rfl ?_
  refine mj_iconst (v := 0) dX13_canStep_46 (by decide) ?_
  refine t_putIK dX13_canStep_47 F_X13_842 qf_950_97 rfl (fun s1 ws1 => t_letE hk ws1 (fun hk => ?_))
  refine mj_aload_n dX13_canStep_50 0 rfl ?_
  refine mj_iconst (v := 0) dX13_canStep_51 (by decide) ?_
  refine t_putIK dX13_canStep_52 F_X13_858 qf_950_98 rfl (fun s2 ws2 => t_letE hk ws2 (fun hk => ?_))
  refine mj_aload_n dX13_canStep_55 0 rfl ?_
  refine mj_iconst (v := 0) dX13_canStep_56 (by decide) ?_
  refine t_putIK dX13_canStep_57 F_X13_882 qf_950_103 rfl (fun s3 ws3 => t_letE hk ws3 (fun hk => ?_))
  refine mj_aload_n dX13_canStep_60 0 rfl ?_
  refine mj_iload_n dX13_canStep_61 1 rfl ?_
  refine t_putIK dX13_canStep_62 F_X13_917 qf_950_100 rfl (fun s4 ws4 => t_letE hk ws4 (fun hk => ?_))
  refine mj_aload_n dX13_canStep_65 0 rfl ?_
  refine mj_iload_n dX13_canStep_66 1 rfl ?_
  refine mj_iload_n dX13_canStep_67 2 rfl ?_
  refine mj_iload_n dX13_canStep_68 3 rfl ?_
  refine t_bndK hk (fun r1 er1 hk => ?_)
  refine t_callViE dX13_canStep_69 M_X13_look (C_X13_look _ _ _ _ _ er1) ML_X13_1478 IM_X13_look SE_X13_look qc_950 rfl (As := [.int l1, .int l2, .int l3]) rfl rfl (Nat.le_of_ble_eq_true rfl) (Nat.le_of_ble_eq_true rfl) (Nat.le_of_ble_eq_true rfl) (Nat.le_of_ble_eq_true rfl) ?_
  refine mj_if_ne 82 dX13_canStep_72 (by decide) (fun z => t_negK hk z (fun hk => ?_)) (fun z => t_posK hk z (fun hk => ?_))
  · refine mj_sublv [(0, .ref 950)] [0] rfl ?_
    exact B_X13_canStep_82 _ _ hk
  · refine mj_aload_n dX13_canStep_75 0 rfl ?_
    refine t_getI dX13_canStep_76 F_X13_842 qf_950_97 ?_
    refine mj_if_eq 86 dX13_canStep_79 (by decide) (fun z => t_posK hk z (fun hk => ?_)) (fun z => t_negK hk z (fun hk => ?_))
    · refine mj_iconst (v := 0) dX13_canStep_86 (by decide) ?_
      refine mj_sublv [(0, .ref 950)] [0] rfl ?_
      exact B_X13_canStep_87 _ _ _ hk
    · refine mj_sublv [(0, .ref 950)] [0] rfl ?_
      exact B_X13_canStep_82 _ _ hk
noncomputable def f_X13_canStep (x1 : Int32) (s : t_S) : Option (Int32 × t_S) :=
 if t_ix x1 8 = true then
  if t_ix (((8 : Int32) * x1) + ((s.1 1038 (x1.toNatClampNeg)) - (1 : Int32))) 64 = true then
  if t_ix (s.1 1040 ((((8 : Int32) * x1) + ((s.1 1038 (x1.toNatClampNeg)) - (1 : Int32))).toNatClampNeg)) 401 = true then
  if (s.1 988 ((s.1 1040 ((((8 : Int32) * x1) + ((s.1 1038 (x1.toNatClampNeg)) - (1 : Int32))).toNatClampNeg)).toNatClampNeg)) = (10 : Int32) then (k_X13_canStep_45 x1 ((s.1 1038 (x1.toNatClampNeg)) - (1 : Int32)) (s.1 1040 ((((8 : Int32) * x1) + ((s.1 1038 (x1.toNatClampNeg)) - (1 : Int32))).toNatClampNeg)) s)
 else (if (s.1 988 ((s.1 1040 ((((8 : Int32) * x1) + ((s.1 1038 (x1.toNatClampNeg)) - (1 : Int32))).toNatClampNeg)).toNatClampNeg)) = (11 : Int32) then (k_X13_canStep_45 x1 ((s.1 1038 (x1.toNatClampNeg)) - (1 : Int32)) (s.1 1040 ((((8 : Int32) * x1) + ((s.1 1038 (x1.toNatClampNeg)) - (1 : Int32))).toNatClampNeg)) s)
 else (some ((1 : Int32), s)))
else none
else none
else none
set_option maxRecDepth 4000 in
set_option maxHeartbeats 1000000 in
theorem C_X13_canStep (x1 : Int32) (s : t_S) (r : Int32 × t_S) (hr : f_X13_canStep x1 s = some r) : t_C yX13_canStep cX13_canStep 5 (some .boolean) 1887 [.ref 950, .int x1] s (fun v s' => v = some (.int r.1) ∧ s' = r.2) := by
  refine t_C.imp (P := fun v s' => ∃ x, v = some (.int x) ∧ (fun q => q = r) ((x, s'))) (t_C.of (by decide +kernel) (Nat.le_of_ble_eq_true rfl) ?_) (fun v s' hp => by obtain ⟨x, rfl, rfl⟩ := hp; exact ⟨rfl, rfl⟩)
  intro D cy ad bs X
  have hk : t_hk (f_X13_canStep x1 s) (fun q => q = r) := ⟨r, hr, rfl⟩
  show mj_G D cy ad bs X cX13_canStep 5 yX13_canStep.cls (some .boolean) yX13_canStep.name 1887 0 0 1065 (t_P (fun v s' => ∃ x, v = some (.int x) ∧ (fun q => q = r) ((x, s')))) 0 [(0, .ref 950), (1, .int x1)] [] (t_m s) 1065 0 0
  refine mj_aload_n dX13_canStep_0 0 rfl ?_
  refine t_getR 1038 dX13_canStep_1 F_X13_282 qr_950_153 ?_
  refine mj_iload_n dX13_canStep_4 1 rfl ?_
  refine t_chkK hk (fun c0 hk => ?_)
  refine t_iald dX13_canStep_5 qa_1038 (t_ixv c0) ?_
  refine mj_iconst (v := 1) dX13_canStep_6 (by decide) ?_
  refine mj_isub dX13_canStep_7 ?_
  refine mj_istore_n 2 (lv2 := [(2, .int ((s.1 1038 (x1.toNatClampNeg)) - (1 : Int32))), (0, .ref 950), (1, .int x1)]) dX13_canStep_8 rfl (by decide) rfl ?_
  refine mj_aload_n dX13_canStep_9 1 rfl ?_
  refine t_getR 1040 dX13_canStep_10 F_X13_288 qr_950_155 ?_
  refine mj_bipush (v := 8) dX13_canStep_13 (by decide) ?_
  refine mj_iload_n dX13_canStep_15 2 rfl ?_
  refine mj_imul dX13_canStep_16 ?_
  refine mj_iload_n dX13_canStep_17 0 rfl ?_
  refine mj_iadd dX13_canStep_18 ?_
  refine t_chkK hk (fun c1 hk => ?_)
  refine t_iald dX13_canStep_19 qa_1040 (t_ixv c1) ?_
  refine mj_istore_n 3 (lv2 := [(3, .int (s.1 1040 ((((8 : Int32) * x1) + ((s.1 1038 (x1.toNatClampNeg)) - (1 : Int32))).toNatClampNeg))), (2, .int ((s.1 1038 (x1.toNatClampNeg)) - (1 : Int32))), (0, .ref 950), (1, .int x1)]) dX13_canStep_20 rfl (by decide) rfl ?_
  refine mj_aload_n dX13_canStep_21 2 rfl ?_
  refine t_getR 988 dX13_canStep_22 F_X13_126 qr_950_66 ?_
  refine mj_iload_n dX13_canStep_25 0 rfl ?_
  refine t_chkK hk (fun c2 hk => ?_)
  refine t_iald dX13_canStep_26 qa_988 (t_ixv c2) ?_
  refine mj_bipush (v := 10) dX13_canStep_27 (by decide) ?_
  refine mj_icmp_eq 45 dX13_canStep_29 (by decide) (fun z => t_posK hk z (fun hk => ?_)) (fun z => t_negK hk z (fun hk => ?_))
  · refine mj_sublv [(0, .ref 950), (1, .int x1), (2, .int ((s.1 1038 (x1.toNatClampNeg)) - (1 : Int32))), (3, .int (s.1 1040 ((((8 : Int32) * x1) + ((s.1 1038 (x1.toNatClampNeg)) - (1 : Int32))).toNatClampNeg)))] [2, 3, 1, 0] rfl ?_
    exact B_X13_canStep_45 _ _ _ _ _ hk
  · refine mj_aload_n dX13_canStep_32 2 rfl ?_
    refine t_getR 988 dX13_canStep_33 F_X13_126 qr_950_66 ?_
    refine mj_iload_n dX13_canStep_36 0 rfl ?_
    refine t_iald dX13_canStep_37 qa_988 (t_ixv c2) ?_
    refine mj_bipush (v := 11) dX13_canStep_38 (by decide) ?_
    refine mj_icmp_eq 45 dX13_canStep_40 (by decide) (fun z => t_posK hk z (fun hk => ?_)) (fun z => t_negK hk z (fun hk => ?_))
    · refine mj_sublv [(0, .ref 950), (1, .int x1), (2, .int ((s.1 1038 (x1.toNatClampNeg)) - (1 : Int32))), (3, .int (s.1 1040 ((((8 : Int32) * x1) + ((s.1 1038 (x1.toNatClampNeg)) - (1 : Int32))).toNatClampNeg)))] [2, 3, 1, 0] rfl ?_
      exact B_X13_canStep_45 _ _ _ _ _ hk
    · refine mj_iconst (v := 1) dX13_canStep_43 (by decide) ?_
      exact t_somK hk (fun hf => t_iret dX13_canStep_44 rfl (by decide) ⟨_, rfl, hf⟩ (Nat.le_of_ble_eq_true rfl) (Nat.le_of_ble_eq_true rfl))

theorem dX13_all_0 : decode cX13_all 0 = .ok (.aload_n 0, 1) := by decide +kernel
theorem dX13_all_1 : decode cX13_all 1 = .ok (.getfield 645, 3) := by decide +kernel
theorem dX13_all_10 : decode cX13_all 10 = .ok (.ldc2_w 682, 3) := by decide +kernel
theorem dX13_all_102 : decode cX13_all 102 = .ok (.iload_n 2, 1) := by decide +kernel
theorem dX13_all_103 : decode cX13_all 103 = .ok (.istore_n 2, 1) := by decide +kernel
theorem dX13_all_104 : decode cX13_all 104 = .ok (.iinc 3 1, 3) := by decide +kernel
theorem dX13_all_107 : decode cX13_all 107 = .ok (.goto (-32), 3) := by decide +kernel
theorem dX13_all_110 : decode cX13_all 110 = .ok (.iload_n 2, 1) := by decide +kernel
theorem dX13_all_111 : decode cX13_all 111 = .ok (.i2l, 1) := by decide +kernel
theorem dX13_all_112 : decode cX13_all 112 = .ok (.lreturn, 1) := by decide +kernel
theorem dX13_all_113 : decode cX13_all 113 = .ok (.aload_n 0, 1) := by decide +kernel
theorem dX13_all_114 : decode cX13_all 114 = .ok (.getfield 1300, 3) := by decide +kernel
theorem dX13_all_117 : decode cX13_all 117 = .ok (.lreturn, 1) := by decide +kernel
theorem dX13_all_118 : decode cX13_all 118 = .ok (.aload_n 0, 1) := by decide +kernel
theorem dX13_all_119 : decode cX13_all 119 = .ok (.getfield 1324, 3) := by decide +kernel
theorem dX13_all_122 : decode cX13_all 122 = .ok (.lreturn, 1) := by decide +kernel
theorem dX13_all_123 : decode cX13_all 123 = .ok (.iconst 0, 1) := by decide +kernel
theorem dX13_all_124 : decode cX13_all 124 = .ok (.istore_n 3, 1) := by decide +kernel
theorem dX13_all_125 : decode cX13_all 125 = .ok (.iload_n 3, 1) := by decide +kernel
theorem dX13_all_126 : decode cX13_all 126 = .ok (.aload_n 0, 1) := by decide +kernel
theorem dX13_all_127 : decode cX13_all 127 = .ok (.getfield 1315, 3) := by decide +kernel
theorem dX13_all_13 : decode cX13_all 13 = .ok (.invokestatic 371, 3) := by decide +kernel
theorem dX13_all_130 : decode cX13_all 130 = .ok (.if_icmp .ge 29, 3) := by decide +kernel
theorem dX13_all_133 : decode cX13_all 133 = .ok (.aload_n 0, 1) := by decide +kernel
theorem dX13_all_134 : decode cX13_all 134 = .ok (.getfield 276, 3) := by decide +kernel
theorem dX13_all_137 : decode cX13_all 137 = .ok (.iload_n 3, 1) := by decide +kernel
theorem dX13_all_138 : decode cX13_all 138 = .ok (.iaload, 1) := by decide +kernel
theorem dX13_all_139 : decode cX13_all 139 = .ok (.iconst 1, 1) := by decide +kernel
theorem dX13_all_140 : decode cX13_all 140 = .ok (.if_icmp .ne 13, 3) := by decide +kernel
theorem dX13_all_143 : decode cX13_all 143 = .ok (.aload_n 0, 1) := by decide +kernel
theorem dX13_all_144 : decode cX13_all 144 = .ok (.iload_n 3, 1) := by decide +kernel
theorem dX13_all_145 : decode cX13_all 145 = .ok (.invokevirtual 1493, 3) := by decide +kernel
theorem dX13_all_148 : decode cX13_all 148 = .ok (.ifCond .eq 5, 3) := by decide +kernel
theorem dX13_all_151 : decode cX13_all 151 = .ok (.lconst 0, 1) := by decide +kernel
theorem dX13_all_152 : decode cX13_all 152 = .ok (.lreturn, 1) := by decide +kernel
theorem dX13_all_153 : decode cX13_all 153 = .ok (.iinc 3 1, 3) := by decide +kernel
theorem dX13_all_156 : decode cX13_all 156 = .ok (.goto (-31), 3) := by decide +kernel
theorem dX13_all_159 : decode cX13_all 159 = .ok (.lconst 1, 1) := by decide +kernel
theorem dX13_all_16 : decode cX13_all 16 = .ok (.ifCond .ne 7, 3) := by decide +kernel
theorem dX13_all_160 : decode cX13_all 160 = .ok (.lreturn, 1) := by decide +kernel
theorem dX13_all_19 : decode cX13_all 19 = .ok (.ldc2_w 1087, 3) := by decide +kernel
theorem dX13_all_22 : decode cX13_all 22 = .ok (.lreturn, 1) := by decide +kernel
theorem dX13_all_23 : decode cX13_all 23 = .ok (.iload_n 1, 1) := by decide +kernel
theorem dX13_all_24 : decode cX13_all 24 = .ok (.tableswitch 99 0 4 #[36, 42, 47, 89, 94], 36) := by decide +kernel
theorem dX13_all_4 : decode cX13_all 4 = .ok (.ifCond .eq 15, 3) := by decide +kernel
theorem dX13_all_60 : decode cX13_all 60 = .ok (.aload_n 0, 1) := by decide +kernel
theorem dX13_all_61 : decode cX13_all 61 = .ok (.getfield 1315, 3) := by decide +kernel
theorem dX13_all_64 : decode cX13_all 64 = .ok (.i2l, 1) := by decide +kernel
theorem dX13_all_65 : decode cX13_all 65 = .ok (.lreturn, 1) := by decide +kernel
theorem dX13_all_66 : decode cX13_all 66 = .ok (.aload_n 0, 1) := by decide +kernel
theorem dX13_all_67 : decode cX13_all 67 = .ok (.getfield 920, 3) := by decide +kernel
theorem dX13_all_7 : decode cX13_all 7 = .ok (.iload_n 1, 1) := by decide +kernel
theorem dX13_all_70 : decode cX13_all 70 = .ok (.lreturn, 1) := by decide +kernel
theorem dX13_all_71 : decode cX13_all 71 = .ok (.iconst 0, 1) := by decide +kernel
theorem dX13_all_72 : decode cX13_all 72 = .ok (.istore_n 2, 1) := by decide +kernel
theorem dX13_all_73 : decode cX13_all 73 = .ok (.iconst 0, 1) := by decide +kernel
theorem dX13_all_74 : decode cX13_all 74 = .ok (.istore_n 3, 1) := by decide +kernel
theorem dX13_all_75 : decode cX13_all 75 = .ok (.iload_n 3, 1) := by decide +kernel
theorem dX13_all_76 : decode cX13_all 76 = .ok (.aload_n 0, 1) := by decide +kernel
theorem dX13_all_77 : decode cX13_all 77 = .ok (.getfield 1315, 3) := by decide +kernel
theorem dX13_all_8 : decode cX13_all 8 = .ok (.i2l, 1) := by decide +kernel
theorem dX13_all_80 : decode cX13_all 80 = .ok (.if_icmp .ge 30, 3) := by decide +kernel
theorem dX13_all_83 : decode cX13_all 83 = .ok (.aload_n 0, 1) := by decide +kernel
theorem dX13_all_84 : decode cX13_all 84 = .ok (.getfield 279, 3) := by decide +kernel
theorem dX13_all_87 : decode cX13_all 87 = .ok (.iload_n 3, 1) := by decide +kernel
theorem dX13_all_88 : decode cX13_all 88 = .ok (.iaload, 1) := by decide +kernel
theorem dX13_all_89 : decode cX13_all 89 = .ok (.iload_n 2, 1) := by decide +kernel
theorem dX13_all_9 : decode cX13_all 9 = .ok (.lconst 0, 1) := by decide +kernel
theorem dX13_all_90 : decode cX13_all 90 = .ok (.if_icmp .le 12, 3) := by decide +kernel
theorem dX13_all_93 : decode cX13_all 93 = .ok (.aload_n 0, 1) := by decide +kernel
theorem dX13_all_94 : decode cX13_all 94 = .ok (.getfield 279, 3) := by decide +kernel
theorem dX13_all_97 : decode cX13_all 97 = .ok (.iload_n 3, 1) := by decide +kernel
theorem dX13_all_98 : decode cX13_all 98 = .ok (.iaload, 1) := by decide +kernel
theorem dX13_all_99 : decode cX13_all 99 = .ok (.goto 4, 3) := by decide +kernel
noncomputable def k_X13_all_103 (l3 : Int32) (k0 : Int32) (s : t_S) : Option ((Int32 × Int32 × t_S) ⊕ (Int64 × t_S)) :=
 some (.inl (k0, (l3 + 1), s))
set_option maxRecDepth 4000 in
set_option maxHeartbeats 1000000 in
theorem B_X13_all_103 {D : va_G} {cy : Nat → ClassId} {ad : Nat → Nat} {bs : Nat} {X : State → Heap → Prop} (l3 : Int32) (k0 : Int32) (s : t_S) (Q : (Int32 × Int32 × t_S) ⊕ (Int64 × t_S) → Prop) (Hb75 : ∀ (y0 : Int32) (y1 : Int32) (y2 : t_S), Q (.inl (y0, y1, y2)) → mj_G D cy ad bs X cX13_all 4 yX13_all.cls (some .long) yX13_all.name 1888 0 0 1065 (t_P (fun v s' => ∃ x, v = some (.long x) ∧ Q (.inr ((x, s'))))) 75 [(0, .ref 950), (2, .int (y0)), (3, .int (y1))] [] (t_m y2) 1065 0 0) (hk : t_hk (k_X13_all_103 l3 k0 s) Q) : mj_G D cy ad bs X cX13_all 4 yX13_all.cls (some .long) yX13_all.name 1888 0 0 1065 (t_P (fun v s' => ∃ x, v = some (.long x) ∧ Q (.inr ((x, s'))))) 103 [(0, .ref 950), (3, .int l3)] [.int k0] (t_m s) 1065 0 0 := by
  refine mj_istore_n 2 (lv2 := [(2, .int k0), (0, .ref 950), (3, .int l3)]) dX13_all_103 rfl (by decide) rfl ?_
  refine mj_iinc (k := 2) (v := (l3 + 1)) (lv2 := [(3, .int (l3 + 1)), (2, .int k0), (0, .ref 950)]) dX13_all_104 rfl rfl (by decide) rfl ?_
  refine mj_goto 75 dX13_all_107 (by decide) ?_
  refine mj_sublv [(0, .ref 950), (2, .int k0), (3, .int (l3 + 1))] [2, 1, 0] rfl ?_
  exact t_somK hk (fun hf => Hb75 k0 (l3 + 1) s hf)
noncomputable def k_X13_all_75 (l2 : Int32) (l3 : Int32) (s : t_S) : Option ((Int32 × Int32 × t_S) ⊕ (Int64 × t_S)) :=
 if (s.1 950 149) ≤ l3 then ((some (l2.toInt64, s)).map Sum.inr)
 else (if t_ix l3 8 = true then
  if (s.1 1037 (l3.toNatClampNeg)) ≤ l2 then (k_X13_all_103 l3 l2 s)
 else (k_X13_all_103 l3 (s.1 1037 (l3.toNatClampNeg)) s)
else none)
set_option maxRecDepth 4000 in
set_option maxHeartbeats 1000000 in
theorem B_X13_all_75 {D : va_G} {cy : Nat → ClassId} {ad : Nat → Nat} {bs : Nat} {X : State → Heap → Prop} (l2 : Int32) (l3 : Int32) (s : t_S) (Q : (Int32 × Int32 × t_S) ⊕ (Int64 × t_S) → Prop) (Hb75 : ∀ (y0 : Int32) (y1 : Int32) (y2 : t_S), Q (.inl (y0, y1, y2)) → mj_G D cy ad bs X cX13_all 4 yX13_all.cls (some .long) yX13_all.name 1888 0 0 1065 (t_P (fun v s' => ∃ x, v = some (.long x) ∧ Q (.inr ((x, s'))))) 75 [(0, .ref 950), (2, .int (y0)), (3, .int (y1))] [] (t_m y2) 1065 0 0) (hk : t_hk (k_X13_all_75 l2 l3 s) Q) : mj_G D cy ad bs X cX13_all 4 yX13_all.cls (some .long) yX13_all.name 1888 0 0 1065 (t_P (fun v s' => ∃ x, v = some (.long x) ∧ Q (.inr ((x, s'))))) 75 [(0, .ref 950), (2, .int l2), (3, .int l3)] [] (t_m s) 1065 0 0 := by
  refine mj_iload_n dX13_all_75 2 rfl ?_
  refine mj_aload_n dX13_all_76 0 rfl ?_
  refine t_getI dX13_all_77 F_X13_1315 qf_950_149 ?_
  refine mj_icmp_ge 110 dX13_all_80 (by decide) (fun z => t_posK hk z (fun hk => ?_)) (fun z => t_negK hk z (fun hk => ?_))
  · refine t_mapK hk (fun hk => ?_)
    refine mj_iload_n dX13_all_110 1 rfl ?_
    refine mj_i2l (v := l2.toInt64) dX13_all_111 rfl ?_
    exact t_somK hk (fun hf => t_lret dX13_all_112 rfl ⟨_, rfl, hf⟩ (Nat.le_of_ble_eq_true rfl) (Nat.le_of_ble_eq_true rfl))
  · refine mj_aload_n dX13_all_83 0 rfl ?_
    refine t_getR 1037 dX13_all_84 F_X13_279 qr_950_152 ?_
    refine mj_iload_n dX13_all_87 2 rfl ?_
    refine t_chkK hk (fun c0 hk => ?_)
    refine t_iald dX13_all_88 qa_1037 (t_ixv c0) ?_
    refine mj_iload_n dX13_all_89 1 rfl ?_
    refine mj_icmp_le 102 dX13_all_90 (by decide) (fun z => t_posK hk z (fun hk => ?_)) (fun z => t_negK hk z (fun hk => ?_))
    · refine mj_iload_n dX13_all_102 1 rfl ?_
      refine mj_sublv [(0, .ref 950), (3, .int l3)] [0, 2] rfl ?_
      exact B_X13_all_103 _ _ _ _ (fun y0 y1 y2 hx => Hb75 y0 y1 y2 hx) hk
    · refine mj_aload_n dX13_all_93 0 rfl ?_
      refine t_getR 1037 dX13_all_94 F_X13_279 qr_950_152 ?_
      refine mj_iload_n dX13_all_97 2 rfl ?_
      refine t_iald dX13_all_98 qa_1037 (t_ixv c0) ?_
      refine mj_goto 103 dX13_all_99 (by decide) ?_
      refine mj_sublv [(0, .ref 950), (3, .int l3)] [0, 2] rfl ?_
      exact B_X13_all_103 _ _ _ _ (fun y0 y1 y2 hx => Hb75 y0 y1 y2 hx) hk
noncomputable def b_X13_all_75 (x : Int32 × Int32 × t_S) : Option ((Int32 × Int32 × t_S) ⊕ (Int64 × t_S)) := k_X13_all_75 x.1 x.2.1 x.2.2
set_option maxRecDepth 4000 in
set_option maxHeartbeats 1000000 in
theorem LH_X13_all_75 {D : va_G} {cy : Nat → ClassId} {ad : Nat → Nat} {bs : Nat} {X : State → Heap → Prop} : ∀ (n : Nat) (y0 : Int32) (y1 : Int32) (y2 : t_S) (Q : Int64 × t_S → Prop) (hk : t_hk (t_loop (b_X13_all_75) n (y0, y1, y2)) Q), mj_G D cy ad bs X cX13_all 4 yX13_all.cls (some .long) yX13_all.name 1888 0 0 1065 (t_P (fun v s' => ∃ x, v = some (.long x) ∧ Q ((x, s')))) 75 [(0, .ref 950), (2, .int (y0)), (3, .int (y1))] [] (t_m y2) 1065 0 0 := by
  intro n
  induction n with
  | zero => intro y0 y1 y2 Q hk; obtain ⟨r, hr, _⟩ := hk; cases hr
  | succ n ih =>
    intro y0 y1 y2 Q hk
    exact B_X13_all_75 y0 y1 y2 (fun y => t_lq (b_X13_all_75) n Q y) (fun y0' y1' y2' hy => ih y0' y1' y2' Q hy) (t_lp (b := b_X13_all_75) (n := n) (x := (y0, y1, y2)) hk)
noncomputable def k_X13_all_153 (l3 : Int32) (s : t_S) : Option ((Int32 × t_S) ⊕ (Int64 × t_S)) :=
 some (.inl ((l3 + 1), s))
set_option maxRecDepth 4000 in
set_option maxHeartbeats 1000000 in
theorem B_X13_all_153 {D : va_G} {cy : Nat → ClassId} {ad : Nat → Nat} {bs : Nat} {X : State → Heap → Prop} (l3 : Int32) (s : t_S) (Q : (Int32 × t_S) ⊕ (Int64 × t_S) → Prop) (Hb125 : ∀ (y0 : Int32) (y1 : t_S), Q (.inl (y0, y1)) → mj_G D cy ad bs X cX13_all 4 yX13_all.cls (some .long) yX13_all.name 1888 0 0 1065 (t_P (fun v s' => ∃ x, v = some (.long x) ∧ Q (.inr ((x, s'))))) 125 [(0, .ref 950), (3, .int (y0))] [] (t_m y1) 1065 0 0) (hk : t_hk (k_X13_all_153 l3 s) Q) : mj_G D cy ad bs X cX13_all 4 yX13_all.cls (some .long) yX13_all.name 1888 0 0 1065 (t_P (fun v s' => ∃ x, v = some (.long x) ∧ Q (.inr ((x, s'))))) 153 [(0, .ref 950), (3, .int l3)] [] (t_m s) 1065 0 0 := by
  refine mj_iinc (k := 1) (v := (l3 + 1)) (lv2 := [(3, .int (l3 + 1)), (0, .ref 950)]) dX13_all_153 rfl rfl (by decide) rfl ?_
  refine mj_goto 125 dX13_all_156 (by decide) ?_
  refine mj_sublv [(0, .ref 950), (3, .int (l3 + 1))] [1, 0] rfl ?_
  exact t_somK hk (fun hf => Hb125 (l3 + 1) s hf)
noncomputable def k_X13_all_125 (l3 : Int32) (s : t_S) : Option ((Int32 × t_S) ⊕ (Int64 × t_S)) :=
 if (s.1 950 149) ≤ l3 then ((some ((1 : Int64), s)).map Sum.inr)
 else (if t_ix l3 8 = true then
  if (s.1 1036 (l3.toNatClampNeg)) = (1 : Int32) then ((f_X13_canStep l3 s).bind (fun r2 =>
 if r2.1 = (0 : Int32) then (k_X13_all_153 l3 r2.2)
 else ((some ((0 : Int64), r2.2)).map Sum.inr)))
 else (k_X13_all_153 l3 s)
else none)
set_option maxRecDepth 4000 in
set_option maxHeartbeats 1000000 in
theorem B_X13_all_125 {D : va_G} {cy : Nat → ClassId} {ad : Nat → Nat} {bs : Nat} {X : State → Heap → Prop} (l3 : Int32) (s : t_S) (Q : (Int32 × t_S) ⊕ (Int64 × t_S) → Prop) (Hb125 : ∀ (y0 : Int32) (y1 : t_S), Q (.inl (y0, y1)) → mj_G D cy ad bs X cX13_all 4 yX13_all.cls (some .long) yX13_all.name 1888 0 0 1065 (t_P (fun v s' => ∃ x, v = some (.long x) ∧ Q (.inr ((x, s'))))) 125 [(0, .ref 950), (3, .int (y0))] [] (t_m y1) 1065 0 0) (hk : t_hk (k_X13_all_125 l3 s) Q) : mj_G D cy ad bs X cX13_all 4 yX13_all.cls (some .long) yX13_all.name 1888 0 0 1065 (t_P (fun v s' => ∃ x, v = some (.long x) ∧ Q (.inr ((x, s'))))) 125 [(0, .ref 950), (3, .int l3)] [] (t_m s) 1065 0 0 := by
  refine mj_iload_n dX13_all_125 1 rfl ?_
  refine mj_aload_n dX13_all_126 0 rfl ?_
  refine t_getI dX13_all_127 F_X13_1315 qf_950_149 ?_
  refine mj_icmp_ge 159 dX13_all_130 (by decide) (fun z => t_posK hk z (fun hk => ?_)) (fun z => t_negK hk z (fun hk => ?_))
  · refine t_mapK hk (fun hk => ?_)
    refine mj_lconst (v := 1) dX13_all_159 (by decide) ?_
    exact t_somK hk (fun hf => t_lret dX13_all_160 rfl ⟨_, rfl, hf⟩ (Nat.le_of_ble_eq_true rfl) (Nat.le_of_ble_eq_true rfl))
  · refine mj_aload_n dX13_all_133 0 rfl ?_
    refine t_getR 1036 dX13_all_134 F_X13_276 qr_950_151 ?_
    refine mj_iload_n dX13_all_137 1 rfl ?_
    refine t_chkK hk (fun c0 hk => ?_)
    refine t_iald dX13_all_138 qa_1036 (t_ixv c0) ?_
    refine mj_iconst (v := 1) dX13_all_139 (by decide) ?_
    refine mj_icmp_ne 153 dX13_all_140 (by decide) (fun z => t_negK hk z (fun hk => ?_)) (fun z => t_posK hk z (fun hk => ?_))
    · exact B_X13_all_153 _ _ _ (fun y0 y1 hx => Hb125 y0 y1 hx) hk
    · refine mj_aload_n dX13_all_143 0 rfl ?_
      refine mj_iload_n dX13_all_144 1 rfl ?_
      refine t_bndK hk (fun r2 er2 hk => ?_)
      refine t_callViE dX13_all_145 M_X13_canStep (C_X13_canStep _ _ _ er2) ML_X13_1493 IM_X13_canStep SE_X13_canStep qc_950 rfl (As := [.int l3]) rfl rfl (Nat.le_of_ble_eq_true rfl) (Nat.le_of_ble_eq_true rfl) (Nat.le_of_ble_eq_true rfl) (Nat.le_of_ble_eq_true rfl) ?_
      refine mj_if_eq 153 dX13_all_148 (by decide) (fun z => t_posK hk z (fun hk => ?_)) (fun z => t_negK hk z (fun hk => ?_))
      · exact B_X13_all_153 _ _ _ (fun y0 y1 hx => Hb125 y0 y1 hx) hk
      · refine t_mapK hk (fun hk => ?_)
        refine mj_lconst (v := 0) dX13_all_151 (by decide) ?_
        exact t_somK hk (fun hf => t_lret dX13_all_152 rfl ⟨_, rfl, hf⟩ (Nat.le_of_ble_eq_true rfl) (Nat.le_of_ble_eq_true rfl))
noncomputable def b_X13_all_125 (x : Int32 × t_S) : Option ((Int32 × t_S) ⊕ (Int64 × t_S)) := k_X13_all_125 x.1 x.2
set_option maxRecDepth 4000 in
set_option maxHeartbeats 1000000 in
theorem LH_X13_all_125 {D : va_G} {cy : Nat → ClassId} {ad : Nat → Nat} {bs : Nat} {X : State → Heap → Prop} : ∀ (n : Nat) (y0 : Int32) (y1 : t_S) (Q : Int64 × t_S → Prop) (hk : t_hk (t_loop (b_X13_all_125) n (y0, y1)) Q), mj_G D cy ad bs X cX13_all 4 yX13_all.cls (some .long) yX13_all.name 1888 0 0 1065 (t_P (fun v s' => ∃ x, v = some (.long x) ∧ Q ((x, s')))) 125 [(0, .ref 950), (3, .int (y0))] [] (t_m y1) 1065 0 0 := by
  intro n
  induction n with
  | zero => intro y0 y1 Q hk; obtain ⟨r, hr, _⟩ := hk; cases hr
  | succ n ih =>
    intro y0 y1 Q hk
    exact B_X13_all_125 y0 y1 (fun y => t_lq (b_X13_all_125) n Q y) (fun y0' y1' hy => ih y0' y1' Q hy) (t_lp (b := b_X13_all_125) (n := n) (x := (y0, y1)) hk)
noncomputable def f_X13_all (x1 : Int32) (s : t_S) : Option (Int64 × t_S) :=
 if (s.1 950 147) = (0 : Int32) then (some ((-1 : Int64), s))
 else (if (f_X13_in x1.toInt64 (0 : Int64) (5 : Int64) s) = (0 : Int32) then (some ((-1 : Int64), s))
 else (if x1.toInt < 0 ∨ 4 < x1.toInt then (t_loop (b_X13_all_125) t_N (0, s))
 else if x1.toInt = 0 then (some (((s.1 950 149).toInt64), s))
 else if x1.toInt = 1 then (some ((s.2.1 950 148), s))
 else if x1.toInt = 2 then (t_loop (b_X13_all_75) t_N (0, 0, s))
 else if x1.toInt = 3 then (some ((s.2.1 950 171), s))
 else (some ((s.2.1 950 172), s))))
set_option maxRecDepth 4000 in
set_option maxHeartbeats 1000000 in
theorem C_X13_all (x1 : Int32) (s : t_S) (r : Int64 × t_S) (hr : f_X13_all x1 s = some r) : t_C yX13_all cX13_all 4 (some .long) 1888 [.ref 950, .int x1] s (fun v s' => v = some (.long r.1) ∧ s' = r.2) := by
  refine t_C.imp (P := fun v s' => ∃ x, v = some (.long x) ∧ (fun q => q = r) ((x, s'))) (t_C.of (by decide +kernel) (Nat.le_of_ble_eq_true rfl) ?_) (fun v s' hp => by obtain ⟨x, rfl, rfl⟩ := hp; exact ⟨rfl, rfl⟩)
  intro D cy ad bs X
  have hk : t_hk (f_X13_all x1 s) (fun q => q = r) := ⟨r, hr, rfl⟩
  show mj_G D cy ad bs X cX13_all 4 yX13_all.cls (some .long) yX13_all.name 1888 0 0 1065 (t_P (fun v s' => ∃ x, v = some (.long x) ∧ (fun q => q = r) ((x, s')))) 0 [(0, .ref 950), (1, .int x1)] [] (t_m s) 1065 0 0
  refine mj_aload_n dX13_all_0 0 rfl ?_
  refine t_getI dX13_all_1 F_X13_645 qf_950_147 ?_
  refine mj_if_eq 19 dX13_all_4 (by decide) (fun z => t_posK hk z (fun hk => ?_)) (fun z => t_negK hk z (fun hk => ?_))
  · refine mj_ldc2 dX13_all_19 K_X13_1087 ?_
    exact t_somK hk (fun hf => t_lret dX13_all_22 rfl ⟨_, rfl, hf⟩ (Nat.le_of_ble_eq_true rfl) (Nat.le_of_ble_eq_true rfl))
  · refine mj_iload_n dX13_all_7 1 rfl ?_
    refine mj_i2l (v := x1.toInt64) dX13_all_8 rfl ?_
    refine mj_lconst (v := 0) dX13_all_9 (by decide) ?_
    refine mj_ldc2 dX13_all_10 K_X13_682 ?_
    refine t_callSiP dX13_all_13 M_X13_in (C_X13_in _ _ _ _) ML_X13_371 SM_X13_in (As := [.long x1.toInt64, .long 0, .long 5]) rfl rfl (Nat.le_of_ble_eq_true rfl) (Nat.le_of_ble_eq_true rfl) (Nat.le_of_ble_eq_true rfl) (Nat.le_of_ble_eq_true rfl) ?_
    refine mj_if_ne 23 dX13_all_16 (by decide) (fun z => t_negK hk z (fun hk => ?_)) (fun z => t_posK hk z (fun hk => ?_))
    · refine mj_iload_n dX13_all_23 1 rfl ?_
      by_cases hout : x1.toInt < 0 ∨ 4 < x1.toInt
      · replace hk := t_pos hk hout
        refine mj_tableOut 123 dX13_all_24 hout (by decide) ?_
        refine mj_iconst (v := 0) dX13_all_123 (by decide) ?_
        refine mj_istore_n 3 (lv2 := [(3, .int 0), (0, .ref 950), (1, .int x1)]) dX13_all_124 rfl (by decide) rfl ?_
        refine mj_sublv [(0, .ref 950), (3, .int 0)] [1, 0] rfl ?_
        exact LH_X13_all_125 _ 0 s _ hk
      · replace hk := t_neg hk hout
        have hh1 : ¬ x1.toInt < 0 := fun z => hout (Or.inl z)
        have hh2 : ¬ (4 : Int) < x1.toInt := fun z => hout (Or.inr z)
        by_cases h0 : x1.toInt = 0
        · replace hk := t_pos hk h0
          refine mj_tableIn 60 dX13_all_24 hh1 hh2 (by rw [h0]; rfl) (by decide) ?_
          refine mj_aload_n dX13_all_60 0 rfl ?_
          refine t_getI dX13_all_61 F_X13_1315 qf_950_149 ?_
          refine mj_i2l (v := (s.1 950 149).toInt64) dX13_all_64 rfl ?_
          exact t_somK hk (fun hf => t_lret dX13_all_65 rfl ⟨_, rfl, hf⟩ (Nat.le_of_ble_eq_true rfl) (Nat.le_of_ble_eq_true rfl))
        replace hk := t_neg hk h0
        by_cases h1 : x1.toInt = 1
        · replace hk := t_pos hk h1
          refine mj_tableIn 66 dX13_all_24 hh1 hh2 (by rw [h1]; rfl) (by decide) ?_
          refine mj_aload_n dX13_all_66 0 rfl ?_
          refine t_getJ dX13_all_67 F_X13_920 qf_950_148 ?_
          exact t_somK hk (fun hf => t_lret dX13_all_70 rfl ⟨_, rfl, hf⟩ (Nat.le_of_ble_eq_true rfl) (Nat.le_of_ble_eq_true rfl))
        replace hk := t_neg hk h1
        by_cases h2 : x1.toInt = 2
        · replace hk := t_pos hk h2
          refine mj_tableIn 71 dX13_all_24 hh1 hh2 (by rw [h2]; rfl) (by decide) ?_
          refine mj_iconst (v := 0) dX13_all_71 (by decide) ?_
          refine mj_istore_n 2 (lv2 := [(2, .int 0), (0, .ref 950), (1, .int x1)]) dX13_all_72 rfl (by decide) rfl ?_
          refine mj_iconst (v := 0) dX13_all_73 (by decide) ?_
          refine mj_istore_n 3 (lv2 := [(3, .int 0), (2, .int 0), (0, .ref 950), (1, .int x1)]) dX13_all_74 rfl (by decide) rfl ?_
          refine mj_sublv [(0, .ref 950), (2, .int 0), (3, .int 0)] [2, 1, 0] rfl ?_
          exact LH_X13_all_75 _ 0 0 s _ hk
        replace hk := t_neg hk h2
        by_cases h3 : x1.toInt = 3
        · replace hk := t_pos hk h3
          refine mj_tableIn 113 dX13_all_24 hh1 hh2 (by rw [h3]; rfl) (by decide) ?_
          refine mj_aload_n dX13_all_113 0 rfl ?_
          refine t_getJ dX13_all_114 F_X13_1300 qf_950_171 ?_
          exact t_somK hk (fun hf => t_lret dX13_all_117 rfl ⟨_, rfl, hf⟩ (Nat.le_of_ble_eq_true rfl) (Nat.le_of_ble_eq_true rfl))
        replace hk := t_neg hk h3
        have h4 : x1.toInt = 4 := by omega
        refine mj_tableIn 118 dX13_all_24 hh1 hh2 (by rw [h4]; rfl) (by decide) ?_
        refine mj_aload_n dX13_all_118 0 rfl ?_
        refine t_getJ dX13_all_119 F_X13_1324 qf_950_172 ?_
        exact t_somK hk (fun hf => t_lret dX13_all_122 rfl ⟨_, rfl, hf⟩ (Nat.le_of_ble_eq_true rfl) (Nat.le_of_ble_eq_true rfl))
    · refine mj_ldc2 dX13_all_19 K_X13_1087 ?_
      exact t_somK hk (fun hf => t_lret dX13_all_22 rfl ⟨_, rfl, hf⟩ (Nat.le_of_ble_eq_true rfl) (Nat.le_of_ble_eq_true rfl))

theorem dX13_fieldNode_0 : decode cX13_fieldNode 0 = .ok (.aload_n 0, 1) := by decide +kernel
theorem dX13_fieldNode_1 : decode cX13_fieldNode 1 = .ok (.getfield 39, 3) := by decide +kernel
theorem dX13_fieldNode_10 : decode cX13_fieldNode 10 = .ok (.ifCond .lt 30, 3) := by decide +kernel
theorem dX13_fieldNode_13 : decode cX13_fieldNode 13 = .ok (.aload_n 0, 1) := by decide +kernel
theorem dX13_fieldNode_14 : decode cX13_fieldNode 14 = .ok (.getfield 32, 3) := by decide +kernel
theorem dX13_fieldNode_17 : decode cX13_fieldNode 17 = .ok (.iload 4, 2) := by decide +kernel
theorem dX13_fieldNode_19 : decode cX13_fieldNode 19 = .ok (.laload, 1) := by decide +kernel
theorem dX13_fieldNode_20 : decode cX13_fieldNode 20 = .ok (.lload_n 2, 1) := by decide +kernel
theorem dX13_fieldNode_21 : decode cX13_fieldNode 21 = .ok (.lcmp, 1) := by decide +kernel
theorem dX13_fieldNode_22 : decode cX13_fieldNode 22 = .ok (.ifCond .ne 6, 3) := by decide +kernel
theorem dX13_fieldNode_25 : decode cX13_fieldNode 25 = .ok (.iload 4, 2) := by decide +kernel
theorem dX13_fieldNode_27 : decode cX13_fieldNode 27 = .ok (.ireturn, 1) := by decide +kernel
theorem dX13_fieldNode_28 : decode cX13_fieldNode 28 = .ok (.aload_n 0, 1) := by decide +kernel
theorem dX13_fieldNode_29 : decode cX13_fieldNode 29 = .ok (.getfield 42, 3) := by decide +kernel
theorem dX13_fieldNode_32 : decode cX13_fieldNode 32 = .ok (.iload 4, 2) := by decide +kernel
theorem dX13_fieldNode_34 : decode cX13_fieldNode 34 = .ok (.iaload, 1) := by decide +kernel
theorem dX13_fieldNode_35 : decode cX13_fieldNode 35 = .ok (.istore 4, 2) := by decide +kernel
theorem dX13_fieldNode_37 : decode cX13_fieldNode 37 = .ok (.goto (-29), 3) := by decide +kernel
theorem dX13_fieldNode_4 : decode cX13_fieldNode 4 = .ok (.iload_n 1, 1) := by decide +kernel
theorem dX13_fieldNode_40 : decode cX13_fieldNode 40 = .ok (.iconst (-1), 1) := by decide +kernel
theorem dX13_fieldNode_41 : decode cX13_fieldNode 41 = .ok (.ireturn, 1) := by decide +kernel
theorem dX13_fieldNode_5 : decode cX13_fieldNode 5 = .ok (.iaload, 1) := by decide +kernel
theorem dX13_fieldNode_6 : decode cX13_fieldNode 6 = .ok (.istore 4, 2) := by decide +kernel
theorem dX13_fieldNode_8 : decode cX13_fieldNode 8 = .ok (.iload 4, 2) := by decide +kernel
noncomputable def k_X13_fieldNode_8 (l2 : Int64) (l4 : Int32) (s : t_S) : Option ((Int64 × Int32) ⊕ (Int32)) :=
 if l4 < (0 : Int32) then ((some (-1 : Int32)).map Sum.inr)
 else (if t_ix l4 13000 = true then
  if (lg_cmp (s.2.1 957 (l4.toNatClampNeg)) l2) = (0 : Int32) then ((some (l4)).map Sum.inr)
 else (some (.inl (l2, (s.1 960 (l4.toNatClampNeg)))))
else none)
set_option maxRecDepth 4000 in
set_option maxHeartbeats 1000000 in
theorem B_X13_fieldNode_8 {D : va_G} {cy : Nat → ClassId} {ad : Nat → Nat} {bs : Nat} {X : State → Heap → Prop} (l2 : Int64) (l4 : Int32) (s : t_S) (Q : (Int64 × Int32) ⊕ (Int32) → Prop) (Hb8 : ∀ (y0 : Int64) (y1 : Int32), Q (.inl (y0, y1)) → mj_G D cy ad bs X cX13_fieldNode 5 yX13_fieldNode.cls (some .int) yX13_fieldNode.name 0 0 0 1065 (t_P (fun v s' => s' = s ∧ ∃ x, v = some (.int x) ∧ Q (.inr (x)))) 8 [(0, .ref 950), (2, .long (y0)), (4, .int (y1))] [] (t_m s) 1065 0 0) (hk : t_hk (k_X13_fieldNode_8 l2 l4 s) Q) : mj_G D cy ad bs X cX13_fieldNode 5 yX13_fieldNode.cls (some .int) yX13_fieldNode.name 0 0 0 1065 (t_P (fun v s' => s' = s ∧ ∃ x, v = some (.int x) ∧ Q (.inr (x)))) 8 [(0, .ref 950), (2, .long l2), (4, .int l4)] [] (t_m s) 1065 0 0 := by
  refine mj_iload dX13_fieldNode_8 2 rfl ?_
  refine mj_if_lt 40 dX13_fieldNode_10 (by decide) (fun z => t_posK hk z (fun hk => ?_)) (fun z => t_negK hk z (fun hk => ?_))
  · refine t_mapK hk (fun hk => ?_)
    refine mj_iconst (v := (-1)) dX13_fieldNode_40 (by decide) ?_
    exact t_somK hk (fun hf => t_iret dX13_fieldNode_41 rfl rfl ⟨rfl, _, rfl, hf⟩ (Nat.le_of_ble_eq_true rfl) (Nat.le_of_ble_eq_true rfl))
  · refine mj_aload_n dX13_fieldNode_13 0 rfl ?_
    refine t_getR 957 dX13_fieldNode_14 F_X13_32 qr_950_19 ?_
    refine mj_iload dX13_fieldNode_17 2 rfl ?_
    refine t_chkK hk (fun c0 hk => ?_)
    refine t_lald dX13_fieldNode_19 qa_957 (t_ixv c0) ?_
    refine mj_lload_n dX13_fieldNode_20 1 rfl ?_
    refine mj_lcmp dX13_fieldNode_21 ?_
    refine mj_if_ne 28 dX13_fieldNode_22 (by decide) (fun z => t_negK hk z (fun hk => ?_)) (fun z => t_posK hk z (fun hk => ?_))
    · refine mj_aload_n dX13_fieldNode_28 0 rfl ?_
      refine t_getR 960 dX13_fieldNode_29 F_X13_42 qr_950_22 ?_
      refine mj_iload dX13_fieldNode_32 2 rfl ?_
      refine t_iald dX13_fieldNode_34 qa_960 (t_ixv c0) ?_
      refine mj_istore (lv2 := [(4, .int (s.1 960 (l4.toNatClampNeg))), (0, .ref 950), (2, .long l2)]) dX13_fieldNode_35 (by decide) rfl ?_
      refine mj_goto 8 dX13_fieldNode_37 (by decide) ?_
      refine mj_sublv [(0, .ref 950), (2, .long l2), (4, .int (s.1 960 (l4.toNatClampNeg)))] [1, 2, 0] rfl ?_
      exact t_somK hk (fun hf => Hb8 l2 (s.1 960 (l4.toNatClampNeg)) hf)
    · refine t_mapK hk (fun hk => ?_)
      refine mj_iload dX13_fieldNode_25 2 rfl ?_
      exact t_somK hk (fun hf => t_iret dX13_fieldNode_27 rfl rfl ⟨rfl, _, rfl, hf⟩ (Nat.le_of_ble_eq_true rfl) (Nat.le_of_ble_eq_true rfl))
noncomputable def b_X13_fieldNode_8 (s : t_S) (x : Int64 × Int32) : Option ((Int64 × Int32) ⊕ (Int32)) := k_X13_fieldNode_8 x.1 x.2 s
set_option maxRecDepth 4000 in
set_option maxHeartbeats 1000000 in
theorem LH_X13_fieldNode_8 {D : va_G} {cy : Nat → ClassId} {ad : Nat → Nat} {bs : Nat} {X : State → Heap → Prop} (s : t_S) : ∀ (n : Nat) (y0 : Int64) (y1 : Int32) (Q : Int32 → Prop) (hk : t_hk (t_loop (b_X13_fieldNode_8 s) n (y0, y1)) Q), mj_G D cy ad bs X cX13_fieldNode 5 yX13_fieldNode.cls (some .int) yX13_fieldNode.name 0 0 0 1065 (t_P (fun v s' => s' = s ∧ ∃ x, v = some (.int x) ∧ Q (x))) 8 [(0, .ref 950), (2, .long (y0)), (4, .int (y1))] [] (t_m s) 1065 0 0 := by
  intro n
  induction n with
  | zero => intro y0 y1 Q hk; obtain ⟨r, hr, _⟩ := hk; cases hr
  | succ n ih =>
    intro y0 y1 Q hk
    exact B_X13_fieldNode_8 y0 y1 s (fun y => t_lq (b_X13_fieldNode_8 s) n Q y) (fun y0' y1' hy => ih y0' y1' Q hy) (t_lp (b := b_X13_fieldNode_8 s) (n := n) (x := (y0, y1)) hk)
noncomputable def f_X13_fieldNode (x1 : Int32) (x2 : Int64) (s : t_S) : Option (Int32) :=
 if t_ix x1 13000 = true then
  t_loop (b_X13_fieldNode_8 s) t_N (x2, (s.1 959 (x1.toNatClampNeg)))
else none
set_option maxRecDepth 4000 in
set_option maxHeartbeats 1000000 in
theorem C_X13_fieldNode (x1 : Int32) (x2 : Int64) (s : t_S) (r : Int32) (hr : f_X13_fieldNode x1 x2 s = some r) : t_C yX13_fieldNode cX13_fieldNode 5 (some .int) 0 [.ref 950, .int x1, .long x2] s (fun v s' => v = some (.int r) ∧ s' = s) := by
  refine t_C.imp (P := fun v s' => s' = s ∧ ∃ x, v = some (.int x) ∧ (fun q => q = r) (x)) (t_C.of (by decide +kernel) (Nat.le_of_ble_eq_true rfl) ?_) (fun v s' hp => by obtain ⟨rfl, x, rfl, rfl⟩ := hp; exact ⟨rfl, rfl⟩)
  intro D cy ad bs X
  have hk : t_hk (f_X13_fieldNode x1 x2 s) (fun q => q = r) := ⟨r, hr, rfl⟩
  show mj_G D cy ad bs X cX13_fieldNode 5 yX13_fieldNode.cls (some .int) yX13_fieldNode.name 0 0 0 1065 (t_P (fun v s' => s' = s ∧ ∃ x, v = some (.int x) ∧ (fun q => q = r) (x))) 0 [(0, .ref 950), (1, .int x1), (2, .long x2)] [] (t_m s) 1065 0 0
  refine mj_aload_n dX13_fieldNode_0 0 rfl ?_
  refine t_getR 959 dX13_fieldNode_1 F_X13_39 qr_950_21 ?_
  refine mj_iload_n dX13_fieldNode_4 1 rfl ?_
  refine t_chkK hk (fun c0 hk => ?_)
  refine t_iald dX13_fieldNode_5 qa_959 (t_ixv c0) ?_
  refine mj_istore (lv2 := [(4, .int (s.1 959 (x1.toNatClampNeg))), (0, .ref 950), (1, .int x1), (2, .long x2)]) dX13_fieldNode_6 (by decide) rfl ?_
  refine mj_sublv [(0, .ref 950), (2, .long x2), (4, .int (s.1 959 (x1.toNatClampNeg)))] [1, 3, 0] rfl ?_
  exact LH_X13_fieldNode_8 _ _ x2 (s.1 959 (x1.toNatClampNeg)) _ hk

theorem dX13_hasPart_0 : decode cX13_hasPart 0 = .ok (.iconst 0, 1) := by decide +kernel
theorem dX13_hasPart_1 : decode cX13_hasPart 1 = .ok (.istore 4, 2) := by decide +kernel
theorem dX13_hasPart_11 : decode cX13_hasPart 11 = .ok (.iload 5, 2) := by decide +kernel
theorem dX13_hasPart_13 : decode cX13_hasPart 13 = .ok (.ifCond .lt 39, 3) := by decide +kernel
theorem dX13_hasPart_16 : decode cX13_hasPart 16 = .ok (.iload 4, 2) := by decide +kernel
theorem dX13_hasPart_18 : decode cX13_hasPart 18 = .ok (.ifCond .ne 15, 3) := by decide +kernel
theorem dX13_hasPart_21 : decode cX13_hasPart 21 = .ok (.aload_n 0, 1) := by decide +kernel
theorem dX13_hasPart_22 : decode cX13_hasPart 22 = .ok (.getfield 32, 3) := by decide +kernel
theorem dX13_hasPart_25 : decode cX13_hasPart 25 = .ok (.iload 5, 2) := by decide +kernel
theorem dX13_hasPart_27 : decode cX13_hasPart 27 = .ok (.laload, 1) := by decide +kernel
theorem dX13_hasPart_28 : decode cX13_hasPart 28 = .ok (.lload_n 2, 1) := by decide +kernel
theorem dX13_hasPart_29 : decode cX13_hasPart 29 = .ok (.lcmp, 1) := by decide +kernel
theorem dX13_hasPart_3 : decode cX13_hasPart 3 = .ok (.aload_n 0, 1) := by decide +kernel
theorem dX13_hasPart_30 : decode cX13_hasPart 30 = .ok (.ifCond .ne 7, 3) := by decide +kernel
theorem dX13_hasPart_33 : decode cX13_hasPart 33 = .ok (.iconst 1, 1) := by decide +kernel
theorem dX13_hasPart_34 : decode cX13_hasPart 34 = .ok (.goto 4, 3) := by decide +kernel
theorem dX13_hasPart_37 : decode cX13_hasPart 37 = .ok (.iconst 0, 1) := by decide +kernel
theorem dX13_hasPart_38 : decode cX13_hasPart 38 = .ok (.istore 4, 2) := by decide +kernel
theorem dX13_hasPart_4 : decode cX13_hasPart 4 = .ok (.getfield 39, 3) := by decide +kernel
theorem dX13_hasPart_40 : decode cX13_hasPart 40 = .ok (.aload_n 0, 1) := by decide +kernel
theorem dX13_hasPart_41 : decode cX13_hasPart 41 = .ok (.getfield 42, 3) := by decide +kernel
theorem dX13_hasPart_44 : decode cX13_hasPart 44 = .ok (.iload 5, 2) := by decide +kernel
theorem dX13_hasPart_46 : decode cX13_hasPart 46 = .ok (.iaload, 1) := by decide +kernel
theorem dX13_hasPart_47 : decode cX13_hasPart 47 = .ok (.istore 5, 2) := by decide +kernel
theorem dX13_hasPart_49 : decode cX13_hasPart 49 = .ok (.goto (-38), 3) := by decide +kernel
theorem dX13_hasPart_52 : decode cX13_hasPart 52 = .ok (.iload 4, 2) := by decide +kernel
theorem dX13_hasPart_54 : decode cX13_hasPart 54 = .ok (.ireturn, 1) := by decide +kernel
theorem dX13_hasPart_7 : decode cX13_hasPart 7 = .ok (.iload_n 1, 1) := by decide +kernel
theorem dX13_hasPart_8 : decode cX13_hasPart 8 = .ok (.iaload, 1) := by decide +kernel
theorem dX13_hasPart_9 : decode cX13_hasPart 9 = .ok (.istore 5, 2) := by decide +kernel
noncomputable def k_X13_hasPart_38 (l2 : Int64) (l5 : Int32) (k0 : Int32) (s : t_S) : Option ((Int64 × Int32 × Int32) ⊕ (Int32)) :=
 if t_ix l5 13000 = true then
  some (.inl (l2, k0, (s.1 960 (l5.toNatClampNeg))))
else none
set_option maxRecDepth 4000 in
set_option maxHeartbeats 1000000 in
theorem B_X13_hasPart_38 {D : va_G} {cy : Nat → ClassId} {ad : Nat → Nat} {bs : Nat} {X : State → Heap → Prop} (l2 : Int64) (l5 : Int32) (k0 : Int32) (s : t_S) (Q : (Int64 × Int32 × Int32) ⊕ (Int32) → Prop) (Hb11 : ∀ (y0 : Int64) (y1 : Int32) (y2 : Int32), Q (.inl (y0, y1, y2)) → mj_G D cy ad bs X cX13_hasPart 6 yX13_hasPart.cls (some .boolean) yX13_hasPart.name 0 0 0 1065 (t_P (fun v s' => s' = s ∧ ∃ x, v = some (.int x) ∧ Q (.inr (x)))) 11 [(0, .ref 950), (2, .long (y0)), (4, .int (y1)), (5, .int (y2))] [] (t_m s) 1065 0 0) (hk : t_hk (k_X13_hasPart_38 l2 l5 k0 s) Q) : mj_G D cy ad bs X cX13_hasPart 6 yX13_hasPart.cls (some .boolean) yX13_hasPart.name 0 0 0 1065 (t_P (fun v s' => s' = s ∧ ∃ x, v = some (.int x) ∧ Q (.inr (x)))) 38 [(0, .ref 950), (2, .long l2), (5, .int l5)] [.int k0] (t_m s) 1065 0 0 := by
  refine mj_istore (lv2 := [(4, .int k0), (0, .ref 950), (2, .long l2), (5, .int l5)]) dX13_hasPart_38 (by decide) rfl ?_
  refine mj_aload_n dX13_hasPart_40 1 rfl ?_
  refine t_getR 960 dX13_hasPart_41 F_X13_42 qr_950_22 ?_
  refine mj_iload dX13_hasPart_44 3 rfl ?_
  refine t_chkK hk (fun c0 hk => ?_)
  refine t_iald dX13_hasPart_46 qa_960 (t_ixv c0) ?_
  refine mj_istore (lv2 := [(5, .int (s.1 960 (l5.toNatClampNeg))), (4, .int k0), (0, .ref 950), (2, .long l2)]) dX13_hasPart_47 (by decide) rfl ?_
  refine mj_goto 11 dX13_hasPart_49 (by decide) ?_
  refine mj_sublv [(0, .ref 950), (2, .long l2), (4, .int k0), (5, .int (s.1 960 (l5.toNatClampNeg)))] [2, 3, 1, 0] rfl ?_
  exact t_somK hk (fun hf => Hb11 l2 k0 (s.1 960 (l5.toNatClampNeg)) hf)
noncomputable def k_X13_hasPart_33 (l2 : Int64) (l5 : Int32) (s : t_S) : Option ((Int64 × Int32 × Int32) ⊕ (Int32)) :=
 k_X13_hasPart_38 l2 l5 1 s
set_option maxRecDepth 4000 in
set_option maxHeartbeats 1000000 in
theorem B_X13_hasPart_33 {D : va_G} {cy : Nat → ClassId} {ad : Nat → Nat} {bs : Nat} {X : State → Heap → Prop} (l2 : Int64) (l5 : Int32) (s : t_S) (Q : (Int64 × Int32 × Int32) ⊕ (Int32) → Prop) (Hb11 : ∀ (y0 : Int64) (y1 : Int32) (y2 : Int32), Q (.inl (y0, y1, y2)) → mj_G D cy ad bs X cX13_hasPart 6 yX13_hasPart.cls (some .boolean) yX13_hasPart.name 0 0 0 1065 (t_P (fun v s' => s' = s ∧ ∃ x, v = some (.int x) ∧ Q (.inr (x)))) 11 [(0, .ref 950), (2, .long (y0)), (4, .int (y1)), (5, .int (y2))] [] (t_m s) 1065 0 0) (hk : t_hk (k_X13_hasPart_33 l2 l5 s) Q) : mj_G D cy ad bs X cX13_hasPart 6 yX13_hasPart.cls (some .boolean) yX13_hasPart.name 0 0 0 1065 (t_P (fun v s' => s' = s ∧ ∃ x, v = some (.int x) ∧ Q (.inr (x)))) 33 [(0, .ref 950), (2, .long l2), (5, .int l5)] [] (t_m s) 1065 0 0 := by
  refine mj_iconst (v := 1) dX13_hasPart_33 (by decide) ?_
  refine mj_goto 38 dX13_hasPart_34 (by decide) ?_
  exact B_X13_hasPart_38 _ _ _ _ _ (fun y0 y1 y2 hx => Hb11 y0 y1 y2 hx) hk
noncomputable def k_X13_hasPart_11 (l2 : Int64) (l4 : Int32) (l5 : Int32) (s : t_S) : Option ((Int64 × Int32 × Int32) ⊕ (Int32)) :=
 if l5 < (0 : Int32) then ((if l4 = 0 ∨ l4 = 1 then
  some (l4)
else none).map Sum.inr)
 else (if l4 = (0 : Int32) then (if t_ix l5 13000 = true then
  if (lg_cmp (s.2.1 957 (l5.toNatClampNeg)) l2) = (0 : Int32) then (k_X13_hasPart_33 l2 l5 s)
 else (k_X13_hasPart_38 l2 l5 0 s)
else none)
 else (k_X13_hasPart_33 l2 l5 s))
set_option maxRecDepth 4000 in
set_option maxHeartbeats 1000000 in
theorem B_X13_hasPart_11 {D : va_G} {cy : Nat → ClassId} {ad : Nat → Nat} {bs : Nat} {X : State → Heap → Prop} (l2 : Int64) (l4 : Int32) (l5 : Int32) (s : t_S) (Q : (Int64 × Int32 × Int32) ⊕ (Int32) → Prop) (Hb11 : ∀ (y0 : Int64) (y1 : Int32) (y2 : Int32), Q (.inl (y0, y1, y2)) → mj_G D cy ad bs X cX13_hasPart 6 yX13_hasPart.cls (some .boolean) yX13_hasPart.name 0 0 0 1065 (t_P (fun v s' => s' = s ∧ ∃ x, v = some (.int x) ∧ Q (.inr (x)))) 11 [(0, .ref 950), (2, .long (y0)), (4, .int (y1)), (5, .int (y2))] [] (t_m s) 1065 0 0) (hk : t_hk (k_X13_hasPart_11 l2 l4 l5 s) Q) : mj_G D cy ad bs X cX13_hasPart 6 yX13_hasPart.cls (some .boolean) yX13_hasPart.name 0 0 0 1065 (t_P (fun v s' => s' = s ∧ ∃ x, v = some (.int x) ∧ Q (.inr (x)))) 11 [(0, .ref 950), (2, .long l2), (4, .int l4), (5, .int l5)] [] (t_m s) 1065 0 0 := by
  refine mj_iload dX13_hasPart_11 3 rfl ?_
  refine mj_if_lt 52 dX13_hasPart_13 (by decide) (fun z => t_posK hk z (fun hk => ?_)) (fun z => t_negK hk z (fun hk => ?_))
  · refine t_mapK hk (fun hk => ?_)
    refine mj_iload dX13_hasPart_52 2 rfl ?_
    refine t_chkK hk (fun c0 hk => ?_)
    exact t_somK hk (fun hf => t_iret dX13_hasPart_54 rfl (t_zfit c0) ⟨rfl, _, rfl, hf⟩ (Nat.le_of_ble_eq_true rfl) (Nat.le_of_ble_eq_true rfl))
  · refine mj_iload dX13_hasPart_16 2 rfl ?_
    refine mj_if_ne 33 dX13_hasPart_18 (by decide) (fun z => t_negK hk z (fun hk => ?_)) (fun z => t_posK hk z (fun hk => ?_))
    · refine mj_sublv [(0, .ref 950), (2, .long l2), (5, .int l5)] [0, 1, 3] rfl ?_
      exact B_X13_hasPart_33 _ _ _ _ (fun y0 y1 y2 hx => Hb11 y0 y1 y2 hx) hk
    · refine mj_aload_n dX13_hasPart_21 0 rfl ?_
      refine t_getR 957 dX13_hasPart_22 F_X13_32 qr_950_19 ?_
      refine mj_iload dX13_hasPart_25 3 rfl ?_
      refine t_chkK hk (fun c1 hk => ?_)
      refine t_lald dX13_hasPart_27 qa_957 (t_ixv c1) ?_
      refine mj_lload_n dX13_hasPart_28 1 rfl ?_
      refine mj_lcmp dX13_hasPart_29 ?_
      refine mj_if_ne 37 dX13_hasPart_30 (by decide) (fun z => t_negK hk z (fun hk => ?_)) (fun z => t_posK hk z (fun hk => ?_))
      · refine mj_iconst (v := 0) dX13_hasPart_37 (by decide) ?_
        refine mj_sublv [(0, .ref 950), (2, .long l2), (5, .int l5)] [0, 1, 3] rfl ?_
        exact B_X13_hasPart_38 _ _ _ _ _ (fun y0 y1 y2 hx => Hb11 y0 y1 y2 hx) hk
      · refine mj_sublv [(0, .ref 950), (2, .long l2), (5, .int l5)] [0, 1, 3] rfl ?_
        exact B_X13_hasPart_33 _ _ _ _ (fun y0 y1 y2 hx => Hb11 y0 y1 y2 hx) hk
noncomputable def b_X13_hasPart_11 (s : t_S) (x : Int64 × Int32 × Int32) : Option ((Int64 × Int32 × Int32) ⊕ (Int32)) := k_X13_hasPart_11 x.1 x.2.1 x.2.2 s
set_option maxRecDepth 4000 in
set_option maxHeartbeats 1000000 in
theorem LH_X13_hasPart_11 {D : va_G} {cy : Nat → ClassId} {ad : Nat → Nat} {bs : Nat} {X : State → Heap → Prop} (s : t_S) : ∀ (n : Nat) (y0 : Int64) (y1 : Int32) (y2 : Int32) (Q : Int32 → Prop) (hk : t_hk (t_loop (b_X13_hasPart_11 s) n (y0, y1, y2)) Q), mj_G D cy ad bs X cX13_hasPart 6 yX13_hasPart.cls (some .boolean) yX13_hasPart.name 0 0 0 1065 (t_P (fun v s' => s' = s ∧ ∃ x, v = some (.int x) ∧ Q (x))) 11 [(0, .ref 950), (2, .long (y0)), (4, .int (y1)), (5, .int (y2))] [] (t_m s) 1065 0 0 := by
  intro n
  induction n with
  | zero => intro y0 y1 y2 Q hk; obtain ⟨r, hr, _⟩ := hk; cases hr
  | succ n ih =>
    intro y0 y1 y2 Q hk
    exact B_X13_hasPart_11 y0 y1 y2 s (fun y => t_lq (b_X13_hasPart_11 s) n Q y) (fun y0' y1' y2' hy => ih y0' y1' y2' Q hy) (t_lp (b := b_X13_hasPart_11 s) (n := n) (x := (y0, y1, y2)) hk)
noncomputable def f_X13_hasPart (x1 : Int32) (x2 : Int64) (s : t_S) : Option (Int32) :=
 if t_ix x1 13000 = true then
  t_loop (b_X13_hasPart_11 s) t_N (x2, 0, (s.1 959 (x1.toNatClampNeg)))
else none
set_option maxRecDepth 4000 in
set_option maxHeartbeats 1000000 in
theorem C_X13_hasPart (x1 : Int32) (x2 : Int64) (s : t_S) (r : Int32) (hr : f_X13_hasPart x1 x2 s = some r) : t_C yX13_hasPart cX13_hasPart 6 (some .boolean) 0 [.ref 950, .int x1, .long x2] s (fun v s' => v = some (.int r) ∧ s' = s) := by
  refine t_C.imp (P := fun v s' => s' = s ∧ ∃ x, v = some (.int x) ∧ (fun q => q = r) (x)) (t_C.of (by decide +kernel) (Nat.le_of_ble_eq_true rfl) ?_) (fun v s' hp => by obtain ⟨rfl, x, rfl, rfl⟩ := hp; exact ⟨rfl, rfl⟩)
  intro D cy ad bs X
  have hk : t_hk (f_X13_hasPart x1 x2 s) (fun q => q = r) := ⟨r, hr, rfl⟩
  show mj_G D cy ad bs X cX13_hasPart 6 yX13_hasPart.cls (some .boolean) yX13_hasPart.name 0 0 0 1065 (t_P (fun v s' => s' = s ∧ ∃ x, v = some (.int x) ∧ (fun q => q = r) (x))) 0 [(0, .ref 950), (1, .int x1), (2, .long x2)] [] (t_m s) 1065 0 0
  refine mj_iconst (v := 0) dX13_hasPart_0 (by decide) ?_
  refine mj_istore (lv2 := [(4, .int 0), (0, .ref 950), (1, .int x1), (2, .long x2)]) dX13_hasPart_1 (by decide) rfl ?_
  refine mj_aload_n dX13_hasPart_3 1 rfl ?_
  refine t_getR 959 dX13_hasPart_4 F_X13_39 qr_950_21 ?_
  refine mj_iload_n dX13_hasPart_7 2 rfl ?_
  refine t_chkK hk (fun c0 hk => ?_)
  refine t_iald dX13_hasPart_8 qa_959 (t_ixv c0) ?_
  refine mj_istore (lv2 := [(5, .int (s.1 959 (x1.toNatClampNeg))), (4, .int 0), (0, .ref 950), (1, .int x1), (2, .long x2)]) dX13_hasPart_9 (by decide) rfl ?_
  refine mj_sublv [(0, .ref 950), (2, .long x2), (4, .int 0), (5, .int (s.1 959 (x1.toNatClampNeg)))] [2, 4, 1, 0] rfl ?_
  exact LH_X13_hasPart_11 _ _ x2 0 (s.1 959 (x1.toNatClampNeg)) _ hk

theorem dX13_inRanges_0 : decode cX13_inRanges 0 = .ok (.aload_n 0, 1) := by decide +kernel
theorem dX13_inRanges_1 : decode cX13_inRanges 1 = .ok (.getfield 39, 3) := by decide +kernel
theorem dX13_inRanges_10 : decode cX13_inRanges 10 = .ok (.goto 4, 3) := by decide +kernel
theorem dX13_inRanges_13 : decode cX13_inRanges 13 = .ok (.iconst 0, 1) := by decide +kernel
theorem dX13_inRanges_14 : decode cX13_inRanges 14 = .ok (.istore 4, 2) := by decide +kernel
theorem dX13_inRanges_16 : decode cX13_inRanges 16 = .ok (.aload_n 0, 1) := by decide +kernel
theorem dX13_inRanges_17 : decode cX13_inRanges 17 = .ok (.getfield 39, 3) := by decide +kernel
theorem dX13_inRanges_20 : decode cX13_inRanges 20 = .ok (.iload_n 1, 1) := by decide +kernel
theorem dX13_inRanges_21 : decode cX13_inRanges 21 = .ok (.iaload, 1) := by decide +kernel
theorem dX13_inRanges_22 : decode cX13_inRanges 22 = .ok (.istore 5, 2) := by decide +kernel
theorem dX13_inRanges_24 : decode cX13_inRanges 24 = .ok (.iload 5, 2) := by decide +kernel
theorem dX13_inRanges_26 : decode cX13_inRanges 26 = .ok (.ifCond .lt 48, 3) := by decide +kernel
theorem dX13_inRanges_29 : decode cX13_inRanges 29 = .ok (.iload 4, 2) := by decide +kernel
theorem dX13_inRanges_31 : decode cX13_inRanges 31 = .ok (.ifCond .ne 24, 3) := by decide +kernel
theorem dX13_inRanges_34 : decode cX13_inRanges 34 = .ok (.lload_n 2, 1) := by decide +kernel
theorem dX13_inRanges_35 : decode cX13_inRanges 35 = .ok (.aload_n 0, 1) := by decide +kernel
theorem dX13_inRanges_36 : decode cX13_inRanges 36 = .ok (.getfield 32, 3) := by decide +kernel
theorem dX13_inRanges_39 : decode cX13_inRanges 39 = .ok (.iload 5, 2) := by decide +kernel
theorem dX13_inRanges_4 : decode cX13_inRanges 4 = .ok (.iload_n 1, 1) := by decide +kernel
theorem dX13_inRanges_41 : decode cX13_inRanges 41 = .ok (.laload, 1) := by decide +kernel
theorem dX13_inRanges_42 : decode cX13_inRanges 42 = .ok (.aload_n 0, 1) := by decide +kernel
theorem dX13_inRanges_43 : decode cX13_inRanges 43 = .ok (.getfield 36, 3) := by decide +kernel
theorem dX13_inRanges_46 : decode cX13_inRanges 46 = .ok (.iload 5, 2) := by decide +kernel
theorem dX13_inRanges_48 : decode cX13_inRanges 48 = .ok (.laload, 1) := by decide +kernel
theorem dX13_inRanges_49 : decode cX13_inRanges 49 = .ok (.invokestatic 371, 3) := by decide +kernel
theorem dX13_inRanges_5 : decode cX13_inRanges 5 = .ok (.iaload, 1) := by decide +kernel
theorem dX13_inRanges_52 : decode cX13_inRanges 52 = .ok (.ifCond .eq 7, 3) := by decide +kernel
theorem dX13_inRanges_55 : decode cX13_inRanges 55 = .ok (.iconst 1, 1) := by decide +kernel
theorem dX13_inRanges_56 : decode cX13_inRanges 56 = .ok (.goto 4, 3) := by decide +kernel
theorem dX13_inRanges_59 : decode cX13_inRanges 59 = .ok (.iconst 0, 1) := by decide +kernel
theorem dX13_inRanges_6 : decode cX13_inRanges 6 = .ok (.ifCond .ge 7, 3) := by decide +kernel
theorem dX13_inRanges_60 : decode cX13_inRanges 60 = .ok (.istore 4, 2) := by decide +kernel
theorem dX13_inRanges_62 : decode cX13_inRanges 62 = .ok (.aload_n 0, 1) := by decide +kernel
theorem dX13_inRanges_63 : decode cX13_inRanges 63 = .ok (.getfield 42, 3) := by decide +kernel
theorem dX13_inRanges_66 : decode cX13_inRanges 66 = .ok (.iload 5, 2) := by decide +kernel
theorem dX13_inRanges_68 : decode cX13_inRanges 68 = .ok (.iaload, 1) := by decide +kernel
theorem dX13_inRanges_69 : decode cX13_inRanges 69 = .ok (.istore 5, 2) := by decide +kernel
theorem dX13_inRanges_71 : decode cX13_inRanges 71 = .ok (.goto (-47), 3) := by decide +kernel
theorem dX13_inRanges_74 : decode cX13_inRanges 74 = .ok (.iload 4, 2) := by decide +kernel
theorem dX13_inRanges_76 : decode cX13_inRanges 76 = .ok (.ireturn, 1) := by decide +kernel
theorem dX13_inRanges_9 : decode cX13_inRanges 9 = .ok (.iconst 1, 1) := by decide +kernel
noncomputable def k_X13_inRanges_60 (l2 : Int64) (l5 : Int32) (k0 : Int32) (s : t_S) : Option ((Int64 × Int32 × Int32) ⊕ (Int32)) :=
 if t_ix l5 13000 = true then
  some (.inl (l2, k0, (s.1 960 (l5.toNatClampNeg))))
else none
set_option maxRecDepth 4000 in
set_option maxHeartbeats 1000000 in
theorem B_X13_inRanges_60 {D : va_G} {cy : Nat → ClassId} {ad : Nat → Nat} {bs : Nat} {X : State → Heap → Prop} (l2 : Int64) (l5 : Int32) (k0 : Int32) (s : t_S) (Q : (Int64 × Int32 × Int32) ⊕ (Int32) → Prop) (Hb24 : ∀ (y0 : Int64) (y1 : Int32) (y2 : Int32), Q (.inl (y0, y1, y2)) → mj_G D cy ad bs X cX13_inRanges 6 yX13_inRanges.cls (some .boolean) yX13_inRanges.name 1 0 0 1065 (t_P (fun v s' => s' = s ∧ ∃ x, v = some (.int x) ∧ Q (.inr (x)))) 24 [(0, .ref 950), (2, .long (y0)), (4, .int (y1)), (5, .int (y2))] [] (t_m s) 1065 0 0) (hk : t_hk (k_X13_inRanges_60 l2 l5 k0 s) Q) : mj_G D cy ad bs X cX13_inRanges 6 yX13_inRanges.cls (some .boolean) yX13_inRanges.name 1 0 0 1065 (t_P (fun v s' => s' = s ∧ ∃ x, v = some (.int x) ∧ Q (.inr (x)))) 60 [(0, .ref 950), (2, .long l2), (5, .int l5)] [.int k0] (t_m s) 1065 0 0 := by
  refine mj_istore (lv2 := [(4, .int k0), (0, .ref 950), (2, .long l2), (5, .int l5)]) dX13_inRanges_60 (by decide) rfl ?_
  refine mj_aload_n dX13_inRanges_62 1 rfl ?_
  refine t_getR 960 dX13_inRanges_63 F_X13_42 qr_950_22 ?_
  refine mj_iload dX13_inRanges_66 3 rfl ?_
  refine t_chkK hk (fun c0 hk => ?_)
  refine t_iald dX13_inRanges_68 qa_960 (t_ixv c0) ?_
  refine mj_istore (lv2 := [(5, .int (s.1 960 (l5.toNatClampNeg))), (4, .int k0), (0, .ref 950), (2, .long l2)]) dX13_inRanges_69 (by decide) rfl ?_
  refine mj_goto 24 dX13_inRanges_71 (by decide) ?_
  refine mj_sublv [(0, .ref 950), (2, .long l2), (4, .int k0), (5, .int (s.1 960 (l5.toNatClampNeg)))] [2, 3, 1, 0] rfl ?_
  exact t_somK hk (fun hf => Hb24 l2 k0 (s.1 960 (l5.toNatClampNeg)) hf)
noncomputable def k_X13_inRanges_55 (l2 : Int64) (l5 : Int32) (s : t_S) : Option ((Int64 × Int32 × Int32) ⊕ (Int32)) :=
 k_X13_inRanges_60 l2 l5 1 s
set_option maxRecDepth 4000 in
set_option maxHeartbeats 1000000 in
theorem B_X13_inRanges_55 {D : va_G} {cy : Nat → ClassId} {ad : Nat → Nat} {bs : Nat} {X : State → Heap → Prop} (l2 : Int64) (l5 : Int32) (s : t_S) (Q : (Int64 × Int32 × Int32) ⊕ (Int32) → Prop) (Hb24 : ∀ (y0 : Int64) (y1 : Int32) (y2 : Int32), Q (.inl (y0, y1, y2)) → mj_G D cy ad bs X cX13_inRanges 6 yX13_inRanges.cls (some .boolean) yX13_inRanges.name 1 0 0 1065 (t_P (fun v s' => s' = s ∧ ∃ x, v = some (.int x) ∧ Q (.inr (x)))) 24 [(0, .ref 950), (2, .long (y0)), (4, .int (y1)), (5, .int (y2))] [] (t_m s) 1065 0 0) (hk : t_hk (k_X13_inRanges_55 l2 l5 s) Q) : mj_G D cy ad bs X cX13_inRanges 6 yX13_inRanges.cls (some .boolean) yX13_inRanges.name 1 0 0 1065 (t_P (fun v s' => s' = s ∧ ∃ x, v = some (.int x) ∧ Q (.inr (x)))) 55 [(0, .ref 950), (2, .long l2), (5, .int l5)] [] (t_m s) 1065 0 0 := by
  refine mj_iconst (v := 1) dX13_inRanges_55 (by decide) ?_
  refine mj_goto 60 dX13_inRanges_56 (by decide) ?_
  exact B_X13_inRanges_60 _ _ _ _ _ (fun y0 y1 y2 hx => Hb24 y0 y1 y2 hx) hk
noncomputable def k_X13_inRanges_24 (l2 : Int64) (l4 : Int32) (l5 : Int32) (s : t_S) : Option ((Int64 × Int32 × Int32) ⊕ (Int32)) :=
 if l5 < (0 : Int32) then ((if l4 = 0 ∨ l4 = 1 then
  some (l4)
else none).map Sum.inr)
 else (if l4 = (0 : Int32) then (if t_ix l5 13000 = true then
  if (f_X13_in l2 (s.2.1 957 (l5.toNatClampNeg)) (s.2.1 958 (l5.toNatClampNeg)) s) = (0 : Int32) then (k_X13_inRanges_60 l2 l5 0 s)
 else (k_X13_inRanges_55 l2 l5 s)
else none)
 else (k_X13_inRanges_55 l2 l5 s))
set_option maxRecDepth 4000 in
set_option maxHeartbeats 1000000 in
theorem B_X13_inRanges_24 {D : va_G} {cy : Nat → ClassId} {ad : Nat → Nat} {bs : Nat} {X : State → Heap → Prop} (l2 : Int64) (l4 : Int32) (l5 : Int32) (s : t_S) (Q : (Int64 × Int32 × Int32) ⊕ (Int32) → Prop) (Hb24 : ∀ (y0 : Int64) (y1 : Int32) (y2 : Int32), Q (.inl (y0, y1, y2)) → mj_G D cy ad bs X cX13_inRanges 6 yX13_inRanges.cls (some .boolean) yX13_inRanges.name 1 0 0 1065 (t_P (fun v s' => s' = s ∧ ∃ x, v = some (.int x) ∧ Q (.inr (x)))) 24 [(0, .ref 950), (2, .long (y0)), (4, .int (y1)), (5, .int (y2))] [] (t_m s) 1065 0 0) (hk : t_hk (k_X13_inRanges_24 l2 l4 l5 s) Q) : mj_G D cy ad bs X cX13_inRanges 6 yX13_inRanges.cls (some .boolean) yX13_inRanges.name 1 0 0 1065 (t_P (fun v s' => s' = s ∧ ∃ x, v = some (.int x) ∧ Q (.inr (x)))) 24 [(0, .ref 950), (2, .long l2), (4, .int l4), (5, .int l5)] [] (t_m s) 1065 0 0 := by
  refine mj_iload dX13_inRanges_24 3 rfl ?_
  refine mj_if_lt 74 dX13_inRanges_26 (by decide) (fun z => t_posK hk z (fun hk => ?_)) (fun z => t_negK hk z (fun hk => ?_))
  · refine t_mapK hk (fun hk => ?_)
    refine mj_iload dX13_inRanges_74 2 rfl ?_
    refine t_chkK hk (fun c0 hk => ?_)
    exact t_somK hk (fun hf => t_iret dX13_inRanges_76 rfl (t_zfit c0) ⟨rfl, _, rfl, hf⟩ (Nat.le_of_ble_eq_true rfl) (Nat.le_of_ble_eq_true rfl))
  · refine mj_iload dX13_inRanges_29 2 rfl ?_
    refine mj_if_ne 55 dX13_inRanges_31 (by decide) (fun z => t_negK hk z (fun hk => ?_)) (fun z => t_posK hk z (fun hk => ?_))
    · refine mj_sublv [(0, .ref 950), (2, .long l2), (5, .int l5)] [0, 1, 3] rfl ?_
      exact B_X13_inRanges_55 _ _ _ _ (fun y0 y1 y2 hx => Hb24 y0 y1 y2 hx) hk
    · refine mj_lload_n dX13_inRanges_34 1 rfl ?_
      refine mj_aload_n dX13_inRanges_35 0 rfl ?_
      refine t_getR 957 dX13_inRanges_36 F_X13_32 qr_950_19 ?_
      refine mj_iload dX13_inRanges_39 3 rfl ?_
      refine t_chkK hk (fun c1 hk => ?_)
      refine t_lald dX13_inRanges_41 qa_957 (t_ixv c1) ?_
      refine mj_aload_n dX13_inRanges_42 0 rfl ?_
      refine t_getR 958 dX13_inRanges_43 F_X13_36 qr_950_20 ?_
      refine mj_iload dX13_inRanges_46 3 rfl ?_
      refine t_lald dX13_inRanges_48 qa_958 (t_ixv c1) ?_
      refine t_callSiP dX13_inRanges_49 M_X13_in (C_X13_in _ _ _ _) ML_X13_371 SM_X13_in (As := [.long l2, .long (s.2.1 957 (l5.toNatClampNeg)), .long (s.2.1 958 (l5.toNatClampNeg))]) rfl rfl (Nat.le_of_ble_eq_true rfl) (Nat.le_of_ble_eq_true rfl) (Nat.le_of_ble_eq_true rfl) (Nat.le_of_ble_eq_true rfl) ?_
      refine mj_if_eq 59 dX13_inRanges_52 (by decide) (fun z => t_posK hk z (fun hk => ?_)) (fun z => t_negK hk z (fun hk => ?_))
      · refine mj_iconst (v := 0) dX13_inRanges_59 (by decide) ?_
        refine mj_sublv [(0, .ref 950), (2, .long l2), (5, .int l5)] [0, 1, 3] rfl ?_
        exact B_X13_inRanges_60 _ _ _ _ _ (fun y0 y1 y2 hx => Hb24 y0 y1 y2 hx) hk
      · refine mj_sublv [(0, .ref 950), (2, .long l2), (5, .int l5)] [0, 1, 3] rfl ?_
        exact B_X13_inRanges_55 _ _ _ _ (fun y0 y1 y2 hx => Hb24 y0 y1 y2 hx) hk
noncomputable def b_X13_inRanges_24 (s : t_S) (x : Int64 × Int32 × Int32) : Option ((Int64 × Int32 × Int32) ⊕ (Int32)) := k_X13_inRanges_24 x.1 x.2.1 x.2.2 s
set_option maxRecDepth 4000 in
set_option maxHeartbeats 1000000 in
theorem LH_X13_inRanges_24 {D : va_G} {cy : Nat → ClassId} {ad : Nat → Nat} {bs : Nat} {X : State → Heap → Prop} (s : t_S) : ∀ (n : Nat) (y0 : Int64) (y1 : Int32) (y2 : Int32) (Q : Int32 → Prop) (hk : t_hk (t_loop (b_X13_inRanges_24 s) n (y0, y1, y2)) Q), mj_G D cy ad bs X cX13_inRanges 6 yX13_inRanges.cls (some .boolean) yX13_inRanges.name 1 0 0 1065 (t_P (fun v s' => s' = s ∧ ∃ x, v = some (.int x) ∧ Q (x))) 24 [(0, .ref 950), (2, .long (y0)), (4, .int (y1)), (5, .int (y2))] [] (t_m s) 1065 0 0 := by
  intro n
  induction n with
  | zero => intro y0 y1 y2 Q hk; obtain ⟨r, hr, _⟩ := hk; cases hr
  | succ n ih =>
    intro y0 y1 y2 Q hk
    exact B_X13_inRanges_24 y0 y1 y2 s (fun y => t_lq (b_X13_inRanges_24 s) n Q y) (fun y0' y1' y2' hy => ih y0' y1' y2' Q hy) (t_lp (b := b_X13_inRanges_24 s) (n := n) (x := (y0, y1, y2)) hk)
noncomputable def k_X13_inRanges_14 (l1 : Int32) (l2 : Int64) (k0 : Int32) (s : t_S) : Option (Int32) :=
 if t_ix l1 13000 = true then
  t_loop (b_X13_inRanges_24 s) t_N (l2, k0, (s.1 959 (l1.toNatClampNeg)))
else none
set_option maxRecDepth 4000 in
set_option maxHeartbeats 1000000 in
theorem B_X13_inRanges_14 {D : va_G} {cy : Nat → ClassId} {ad : Nat → Nat} {bs : Nat} {X : State → Heap → Prop} (l1 : Int32) (l2 : Int64) (k0 : Int32) (s : t_S) (Q : Int32 → Prop) (hk : t_hk (k_X13_inRanges_14 l1 l2 k0 s) Q) : mj_G D cy ad bs X cX13_inRanges 6 yX13_inRanges.cls (some .boolean) yX13_inRanges.name 1 0 0 1065 (t_P (fun v s' => s' = s ∧ ∃ x, v = some (.int x) ∧ Q (x))) 14 [(0, .ref 950), (1, .int l1), (2, .long l2)] [.int k0] (t_m s) 1065 0 0 := by
  refine mj_istore (lv2 := [(4, .int k0), (0, .ref 950), (1, .int l1), (2, .long l2)]) dX13_inRanges_14 (by decide) rfl ?_
  refine mj_aload_n dX13_inRanges_16 1 rfl ?_
  refine t_getR 959 dX13_inRanges_17 F_X13_39 qr_950_21 ?_
  refine mj_iload_n dX13_inRanges_20 2 rfl ?_
  refine t_chkK hk (fun c0 hk => ?_)
  refine t_iald dX13_inRanges_21 qa_959 (t_ixv c0) ?_
  refine mj_istore (lv2 := [(5, .int (s.1 959 (l1.toNatClampNeg))), (4, .int k0), (0, .ref 950), (1, .int l1), (2, .long l2)]) dX13_inRanges_22 (by decide) rfl ?_
  refine mj_sublv [(0, .ref 950), (2, .long l2), (4, .int k0), (5, .int (s.1 959 (l1.toNatClampNeg)))] [2, 4, 1, 0] rfl ?_
  exact LH_X13_inRanges_24 _ _ l2 k0 (s.1 959 (l1.toNatClampNeg)) _ hk
noncomputable def f_X13_inRanges (x1 : Int32) (x2 : Int64) (s : t_S) : Option (Int32) :=
 if t_ix x1 13000 = true then
  if (0 : Int32) ≤ (s.1 959 (x1.toNatClampNeg)) then (k_X13_inRanges_14 x1 x2 0 s)
 else (k_X13_inRanges_14 x1 x2 1 s)
else none
set_option maxRecDepth 4000 in
set_option maxHeartbeats 1000000 in
theorem C_X13_inRanges (x1 : Int32) (x2 : Int64) (s : t_S) (r : Int32) (hr : f_X13_inRanges x1 x2 s = some r) : t_C yX13_inRanges cX13_inRanges 6 (some .boolean) 1 [.ref 950, .int x1, .long x2] s (fun v s' => v = some (.int r) ∧ s' = s) := by
  refine t_C.imp (P := fun v s' => s' = s ∧ ∃ x, v = some (.int x) ∧ (fun q => q = r) (x)) (t_C.of (by decide +kernel) (Nat.le_of_ble_eq_true rfl) ?_) (fun v s' hp => by obtain ⟨rfl, x, rfl, rfl⟩ := hp; exact ⟨rfl, rfl⟩)
  intro D cy ad bs X
  have hk : t_hk (f_X13_inRanges x1 x2 s) (fun q => q = r) := ⟨r, hr, rfl⟩
  show mj_G D cy ad bs X cX13_inRanges 6 yX13_inRanges.cls (some .boolean) yX13_inRanges.name 1 0 0 1065 (t_P (fun v s' => s' = s ∧ ∃ x, v = some (.int x) ∧ (fun q => q = r) (x))) 0 [(0, .ref 950), (1, .int x1), (2, .long x2)] [] (t_m s) 1065 0 0
  refine mj_aload_n dX13_inRanges_0 0 rfl ?_
  refine t_getR 959 dX13_inRanges_1 F_X13_39 qr_950_21 ?_
  refine mj_iload_n dX13_inRanges_4 1 rfl ?_
  refine t_chkK hk (fun c0 hk => ?_)
  refine t_iald dX13_inRanges_5 qa_959 (t_ixv c0) ?_
  refine mj_if_ge 13 dX13_inRanges_6 (by decide) (fun z => t_posK hk z (fun hk => ?_)) (fun z => t_negK hk z (fun hk => ?_))
  · refine mj_iconst (v := 0) dX13_inRanges_13 (by decide) ?_
    exact B_X13_inRanges_14 _ _ _ _ _ hk
  · refine mj_iconst (v := 1) dX13_inRanges_9 (by decide) ?_
    refine mj_goto 14 dX13_inRanges_10 (by decide) ?_
    exact B_X13_inRanges_14 _ _ _ _ _ hk

