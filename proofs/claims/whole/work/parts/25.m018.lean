/-! Methods as functions, 18: X1_readInt, X1_readText, X1_readPart -/
theorem qf_856_8 : t_okf 856 1 8 0 = true := by decide +kernel
theorem qr_856_11 : t_okr 856 1 11 860 = true := by decide +kernel
theorem dX1_readInt_0 : decode cX1_readInt 0 = .ok (.aload_n 0, 1) := by decide +kernel
theorem dX1_readInt_1 : decode cX1_readInt 1 = .ok (.getfield 218, 3) := by decide +kernel
theorem dX1_readInt_101 : decode cX1_readInt 101 = .ok (.imul, 1) := by decide +kernel
theorem dX1_readInt_102 : decode cX1_readInt 102 = .ok (.invokevirtual 253, 3) := by decide +kernel
theorem dX1_readInt_105 : decode cX1_readInt 105 = .ok (.bipush 64, 2) := by decide +kernel
theorem dX1_readInt_107 : decode cX1_readInt 107 = .ok (.bipush 8, 2) := by decide +kernel
theorem dX1_readInt_109 : decode cX1_readInt 109 = .ok (.iload 5, 2) := by decide +kernel
theorem dX1_readInt_111 : decode cX1_readInt 111 = .ok (.imul, 1) := by decide +kernel
theorem dX1_readInt_112 : decode cX1_readInt 112 = .ok (.isub, 1) := by decide +kernel
theorem dX1_readInt_113 : decode cX1_readInt 113 = .ok (.lshl, 1) := by decide +kernel
theorem dX1_readInt_114 : decode cX1_readInt 114 = .ok (.bipush 64, 2) := by decide +kernel
theorem dX1_readInt_116 : decode cX1_readInt 116 = .ok (.bipush 8, 2) := by decide +kernel
theorem dX1_readInt_118 : decode cX1_readInt 118 = .ok (.iload 5, 2) := by decide +kernel
theorem dX1_readInt_12 : decode cX1_readInt 12 = .ok (.iload_n 1, 1) := by decide +kernel
theorem dX1_readInt_120 : decode cX1_readInt 120 = .ok (.imul, 1) := by decide +kernel
theorem dX1_readInt_121 : decode cX1_readInt 121 = .ok (.isub, 1) := by decide +kernel
theorem dX1_readInt_122 : decode cX1_readInt 122 = .ok (.lshr, 1) := by decide +kernel
theorem dX1_readInt_123 : decode cX1_readInt 123 = .ok (.lstore_n 3, 1) := by decide +kernel
theorem dX1_readInt_124 : decode cX1_readInt 124 = .ok (.aload_n 0, 1) := by decide +kernel
theorem dX1_readInt_125 : decode cX1_readInt 125 = .ok (.getfield 221, 3) := by decide +kernel
theorem dX1_readInt_128 : decode cX1_readInt 128 = .ok (.ifCond .ge 17, 3) := by decide +kernel
theorem dX1_readInt_13 : decode cX1_readInt 13 = .ok (.iaload, 1) := by decide +kernel
theorem dX1_readInt_131 : decode cX1_readInt 131 = .ok (.lload_n 3, 1) := by decide +kernel
theorem dX1_readInt_132 : decode cX1_readInt 132 = .ok (.invokestatic 193, 3) := by decide +kernel
theorem dX1_readInt_135 : decode cX1_readInt 135 = .ok (.iload 5, 2) := by decide +kernel
theorem dX1_readInt_137 : decode cX1_readInt 137 = .ok (.if_icmp .eq 8, 3) := by decide +kernel
theorem dX1_readInt_14 : decode cX1_readInt 14 = .ok (.ifCond .eq 40, 3) := by decide +kernel
theorem dX1_readInt_140 : decode cX1_readInt 140 = .ok (.aload_n 0, 1) := by decide +kernel
theorem dX1_readInt_141 : decode cX1_readInt 141 = .ok (.iload_n 2, 1) := by decide +kernel
theorem dX1_readInt_142 : decode cX1_readInt 142 = .ok (.putfield 221, 3) := by decide +kernel
theorem dX1_readInt_145 : decode cX1_readInt 145 = .ok (.aload_n 0, 1) := by decide +kernel
theorem dX1_readInt_146 : decode cX1_readInt 146 = .ok (.getfield 221, 3) := by decide +kernel
theorem dX1_readInt_149 : decode cX1_readInt 149 = .ok (.ifCond .ge 20, 3) := by decide +kernel
theorem dX1_readInt_152 : decode cX1_readInt 152 = .ok (.aload_n 0, 1) := by decide +kernel
theorem dX1_readInt_153 : decode cX1_readInt 153 = .ok (.getfield 39, 3) := by decide +kernel
theorem dX1_readInt_156 : decode cX1_readInt 156 = .ok (.iload_n 1, 1) := by decide +kernel
theorem dX1_readInt_157 : decode cX1_readInt 157 = .ok (.lload_n 3, 1) := by decide +kernel
theorem dX1_readInt_158 : decode cX1_readInt 158 = .ok (.invokevirtual 281, 3) := by decide +kernel
theorem dX1_readInt_161 : decode cX1_readInt 161 = .ok (.ifCond .ne 8, 3) := by decide +kernel
theorem dX1_readInt_164 : decode cX1_readInt 164 = .ok (.aload_n 0, 1) := by decide +kernel
theorem dX1_readInt_165 : decode cX1_readInt 165 = .ok (.iload_n 2, 1) := by decide +kernel
theorem dX1_readInt_166 : decode cX1_readInt 166 = .ok (.putfield 221, 3) := by decide +kernel
theorem dX1_readInt_169 : decode cX1_readInt 169 = .ok (.aload_n 0, 1) := by decide +kernel
theorem dX1_readInt_17 : decode cX1_readInt 17 = .ok (.aload_n 0, 1) := by decide +kernel
theorem dX1_readInt_170 : decode cX1_readInt 170 = .ok (.getfield 221, 3) := by decide +kernel
theorem dX1_readInt_173 : decode cX1_readInt 173 = .ok (.ifCond .ge 12, 3) := by decide +kernel
theorem dX1_readInt_176 : decode cX1_readInt 176 = .ok (.aload_n 0, 1) := by decide +kernel
theorem dX1_readInt_177 : decode cX1_readInt 177 = .ok (.iconst 0, 1) := by decide +kernel
theorem dX1_readInt_178 : decode cX1_readInt 178 = .ok (.lload_n 3, 1) := by decide +kernel
theorem dX1_readInt_179 : decode cX1_readInt 179 = .ok (.invokestatic 243, 3) := by decide +kernel
theorem dX1_readInt_18 : decode cX1_readInt 18 = .ok (.getfield 39, 3) := by decide +kernel
theorem dX1_readInt_182 : decode cX1_readInt 182 = .ok (.invokevirtual 247, 3) := by decide +kernel
theorem dX1_readInt_185 : decode cX1_readInt 185 = .ok (.return_, 1) := by decide +kernel
theorem dX1_readInt_21 : decode cX1_readInt 21 = .ok (.getfield 187, 3) := by decide +kernel
theorem dX1_readInt_24 : decode cX1_readInt 24 = .ok (.iload_n 1, 1) := by decide +kernel
theorem dX1_readInt_25 : decode cX1_readInt 25 = .ok (.laload, 1) := by decide +kernel
theorem dX1_readInt_26 : decode cX1_readInt 26 = .ok (.aload_n 0, 1) := by decide +kernel
theorem dX1_readInt_27 : decode cX1_readInt 27 = .ok (.aload_n 0, 1) := by decide +kernel
theorem dX1_readInt_28 : decode cX1_readInt 28 = .ok (.getfield 39, 3) := by decide +kernel
theorem dX1_readInt_31 : decode cX1_readInt 31 = .ok (.getfield 190, 3) := by decide +kernel
theorem dX1_readInt_34 : decode cX1_readInt 34 = .ok (.iload_n 1, 1) := by decide +kernel
theorem dX1_readInt_35 : decode cX1_readInt 35 = .ok (.laload, 1) := by decide +kernel
theorem dX1_readInt_36 : decode cX1_readInt 36 = .ok (.aload_n 0, 1) := by decide +kernel
theorem dX1_readInt_37 : decode cX1_readInt 37 = .ok (.getfield 39, 3) := by decide +kernel
theorem dX1_readInt_4 : decode cX1_readInt 4 = .ok (.istore_n 2, 1) := by decide +kernel
theorem dX1_readInt_40 : decode cX1_readInt 40 = .ok (.getfield 187, 3) := by decide +kernel
theorem dX1_readInt_43 : decode cX1_readInt 43 = .ok (.iload_n 1, 1) := by decide +kernel
theorem dX1_readInt_44 : decode cX1_readInt 44 = .ok (.laload, 1) := by decide +kernel
theorem dX1_readInt_45 : decode cX1_readInt 45 = .ok (.lsub, 1) := by decide +kernel
theorem dX1_readInt_46 : decode cX1_readInt 46 = .ok (.invokevirtual 263, 3) := by decide +kernel
theorem dX1_readInt_49 : decode cX1_readInt 49 = .ok (.ladd, 1) := by decide +kernel
theorem dX1_readInt_5 : decode cX1_readInt 5 = .ok (.aload_n 0, 1) := by decide +kernel
theorem dX1_readInt_50 : decode cX1_readInt 50 = .ok (.lstore_n 3, 1) := by decide +kernel
theorem dX1_readInt_51 : decode cX1_readInt 51 = .ok (.goto 94, 3) := by decide +kernel
theorem dX1_readInt_54 : decode cX1_readInt 54 = .ok (.aload_n 0, 1) := by decide +kernel
theorem dX1_readInt_55 : decode cX1_readInt 55 = .ok (.bipush 8, 2) := by decide +kernel
theorem dX1_readInt_57 : decode cX1_readInt 57 = .ok (.invokevirtual 253, 3) := by decide +kernel
theorem dX1_readInt_6 : decode cX1_readInt 6 = .ok (.getfield 39, 3) := by decide +kernel
theorem dX1_readInt_60 : decode cX1_readInt 60 = .ok (.l2i, 1) := by decide +kernel
theorem dX1_readInt_61 : decode cX1_readInt 61 = .ok (.istore 5, 2) := by decide +kernel
theorem dX1_readInt_63 : decode cX1_readInt 63 = .ok (.aload_n 0, 1) := by decide +kernel
theorem dX1_readInt_64 : decode cX1_readInt 64 = .ok (.getfield 221, 3) := by decide +kernel
theorem dX1_readInt_67 : decode cX1_readInt 67 = .ok (.ifCond .ge 21, 3) := by decide +kernel
theorem dX1_readInt_70 : decode cX1_readInt 70 = .ok (.iload 5, 2) := by decide +kernel
theorem dX1_readInt_72 : decode cX1_readInt 72 = .ok (.iconst 1, 1) := by decide +kernel
theorem dX1_readInt_73 : decode cX1_readInt 73 = .ok (.if_icmp .lt 10, 3) := by decide +kernel
theorem dX1_readInt_76 : decode cX1_readInt 76 = .ok (.iload 5, 2) := by decide +kernel
theorem dX1_readInt_78 : decode cX1_readInt 78 = .ok (.bipush 7, 2) := by decide +kernel
theorem dX1_readInt_80 : decode cX1_readInt 80 = .ok (.if_icmp .le 8, 3) := by decide +kernel
theorem dX1_readInt_83 : decode cX1_readInt 83 = .ok (.aload_n 0, 1) := by decide +kernel
theorem dX1_readInt_84 : decode cX1_readInt 84 = .ok (.iload_n 2, 1) := by decide +kernel
theorem dX1_readInt_85 : decode cX1_readInt 85 = .ok (.putfield 221, 3) := by decide +kernel
theorem dX1_readInt_88 : decode cX1_readInt 88 = .ok (.aload_n 0, 1) := by decide +kernel
theorem dX1_readInt_89 : decode cX1_readInt 89 = .ok (.getfield 221, 3) := by decide +kernel
theorem dX1_readInt_9 : decode cX1_readInt 9 = .ok (.getfield 163, 3) := by decide +kernel
theorem dX1_readInt_92 : decode cX1_readInt 92 = .ok (.ifCond .lt 4, 3) := by decide +kernel
theorem dX1_readInt_95 : decode cX1_readInt 95 = .ok (.return_, 1) := by decide +kernel
theorem dX1_readInt_96 : decode cX1_readInt 96 = .ok (.aload_n 0, 1) := by decide +kernel
theorem dX1_readInt_97 : decode cX1_readInt 97 = .ok (.bipush 8, 2) := by decide +kernel
theorem dX1_readInt_99 : decode cX1_readInt 99 = .ok (.iload 5, 2) := by decide +kernel
noncomputable def k_X1_readInt_169 (l3 : Int64) (s : t_S) : Option (t_S) :=
 if (0 : Int32) ≤ (s.1 856 10) then (some (s))
 else ((f_X1_putCell (f_X8_plainCell (0 : Int32) l3 s) s).bind (fun r2 =>
 some (r2)))
set_option maxRecDepth 4000 in
set_option maxHeartbeats 1000000 in
theorem B_X1_readInt_169 {D : va_G} {cy : Nat → ClassId} {ad : Nat → Nat} {bs : Nat} {X : State → Heap → Prop} (l3 : Int64) (s : t_S) (Q : t_S → Prop) (hk : t_hk (k_X1_readInt_169 l3 s) Q) : mj_G D cy ad bs X cX1_readInt 6 yX1_readInt.cls none yX1_readInt.name 4 0 0 1065 (t_P (fun v s' => v = none ∧ Q (s'))) 169 [(0, .ref 856), (3, .long l3)] [] (t_m s) 1065 0 0 := by
  refine mj_aload_n dX1_readInt_169 0 rfl ?_
  refine t_getI dX1_readInt_170 F_X1_221 qf_856_10 ?_
  refine mj_if_ge 185 dX1_readInt_173 (by decide) (fun z => t_posK hk z (fun hk => ?_)) (fun z => t_negK hk z (fun hk => ?_))
  · exact t_somK hk (fun hf => t_vret dX1_readInt_185 rfl ⟨rfl, hf⟩ (Nat.le_of_ble_eq_true rfl) (Nat.le_of_ble_eq_true rfl))
  · refine mj_aload_n dX1_readInt_176 0 rfl ?_
    refine mj_iconst (v := 0) dX1_readInt_177 (by decide) ?_
    refine mj_lload_n dX1_readInt_178 1 rfl ?_
    refine t_callSlP dX1_readInt_179 M_X8_plainCell (C_X8_plainCell _ _ _) ML_X1_243 SM_X8_plainCell (As := [.int 0, .long l3]) rfl rfl (Nat.le_of_ble_eq_true rfl) (Nat.le_of_ble_eq_true rfl) (Nat.le_of_ble_eq_true rfl) (Nat.le_of_ble_eq_true rfl) ?_
    refine t_bndK hk (fun r2 er2 hk => ?_)
    refine t_callVvE dX1_readInt_182 M_X1_putCell (C_X1_putCell _ _ _ er2) ML_X1_247 IM_X1_putCell SE_X1_putCell qc_856 rfl (As := [.long (f_X8_plainCell (0 : Int32) l3 s)]) rfl rfl (Nat.le_of_ble_eq_true rfl) (Nat.le_of_ble_eq_true rfl) (Nat.le_of_ble_eq_true rfl) (Nat.le_of_ble_eq_true rfl) ?_
    exact t_somK hk (fun hf => t_vret dX1_readInt_185 rfl ⟨rfl, hf⟩ (Nat.le_of_ble_eq_true rfl) (Nat.le_of_ble_eq_true rfl))
noncomputable def k_X1_readInt_145 (l1 : Int32) (l2 : Int32) (l3 : Int64) (s : t_S) : Option (t_S) :=
 if (0 : Int32) ≤ (s.1 856 10) then (k_X1_readInt_169 l3 s)
 else ((f_X11_inRanges l1 l3 s).bind (fun r1 =>
 if r1 = (0 : Int32) then (t_let (t_setI s 856 10 l2) (fun s1 =>
 k_X1_readInt_169 l3 s1))
 else (k_X1_readInt_169 l3 s)))
set_option maxRecDepth 4000 in
set_option maxHeartbeats 1000000 in
theorem B_X1_readInt_145 {D : va_G} {cy : Nat → ClassId} {ad : Nat → Nat} {bs : Nat} {X : State → Heap → Prop} (l1 : Int32) (l2 : Int32) (l3 : Int64) (s : t_S) (Q : t_S → Prop) (hk : t_hk (k_X1_readInt_145 l1 l2 l3 s) Q) : mj_G D cy ad bs X cX1_readInt 6 yX1_readInt.cls none yX1_readInt.name 4 0 0 1065 (t_P (fun v s' => v = none ∧ Q (s'))) 145 [(0, .ref 856), (1, .int l1), (2, .int l2), (3, .long l3)] [] (t_m s) 1065 0 0 := by
  refine mj_aload_n dX1_readInt_145 0 rfl ?_
  refine t_getI dX1_readInt_146 F_X1_221 qf_856_10 ?_
  refine mj_if_ge 169 dX1_readInt_149 (by decide) (fun z => t_posK hk z (fun hk => ?_)) (fun z => t_negK hk z (fun hk => ?_))
  · refine mj_sublv [(0, .ref 856), (3, .long l3)] [0, 3] rfl ?_
    exact B_X1_readInt_169 _ _ _ hk
  · refine mj_aload_n dX1_readInt_152 0 rfl ?_
    refine t_getR 316 dX1_readInt_153 F_X1_39 qr_856_1 ?_
    refine mj_iload_n dX1_readInt_156 1 rfl ?_
    refine mj_lload_n dX1_readInt_157 3 rfl ?_
    refine t_bndK hk (fun r1 er1 hk => ?_)
    refine t_callViP dX1_readInt_158 M_X11_inRanges (C_X11_inRanges _ _ _ _ er1) ML_X1_281 IM_X11_inRanges SE_X11_inRanges qc_316 rfl (As := [.int l1, .long l3]) rfl rfl (Nat.le_of_ble_eq_true rfl) (Nat.le_of_ble_eq_true rfl) (Nat.le_of_ble_eq_true rfl) (Nat.le_of_ble_eq_true rfl) ?_
    refine mj_if_ne 169 dX1_readInt_161 (by decide) (fun z => t_negK hk z (fun hk => ?_)) (fun z => t_posK hk z (fun hk => ?_))
    · refine mj_sublv [(0, .ref 856), (3, .long l3)] [0, 3] rfl ?_
      exact B_X1_readInt_169 _ _ _ hk
    · refine mj_aload_n dX1_readInt_164 0 rfl ?_
      refine mj_iload_n dX1_readInt_165 2 rfl ?_
      refine t_putIK dX1_readInt_166 F_X1_221 qf_856_10 rfl (fun s1 ws1 => t_letE hk ws1 (fun hk => ?_))
      refine mj_sublv [(0, .ref 856), (3, .long l3)] [0, 3] rfl ?_
      exact B_X1_readInt_169 _ _ _ hk
noncomputable def k_X1_readInt_88 (l1 : Int32) (l2 : Int32) (l5 : Int32) (s : t_S) : Option (t_S) :=
 if (s.1 856 10) < (0 : Int32) then ((f_X1_take ((8 : Int32) * l5) s).bind (fun r1 =>
 if (0 : Int32) ≤ (r1.2.1 856 10) then (k_X1_readInt_145 l1 l2 ((r1.1 <<< (((64 : Int32) - ((8 : Int32) * l5)).toInt64 &&& 63)) >>> (((64 : Int32) - ((8 : Int32) * l5)).toInt64 &&& 63)) r1.2)
 else ((f_X1_bytesFor ((r1.1 <<< (((64 : Int32) - ((8 : Int32) * l5)).toInt64 &&& 63)) >>> (((64 : Int32) - ((8 : Int32) * l5)).toInt64 &&& 63)) r1.2).bind (fun r2 =>
 if r2 = l5 then (k_X1_readInt_145 l1 l2 ((r1.1 <<< (((64 : Int32) - ((8 : Int32) * l5)).toInt64 &&& 63)) >>> (((64 : Int32) - ((8 : Int32) * l5)).toInt64 &&& 63)) r1.2)
 else (t_let (t_setI r1.2 856 10 l2) (fun s1 =>
 k_X1_readInt_145 l1 l2 ((r1.1 <<< (((64 : Int32) - ((8 : Int32) * l5)).toInt64 &&& 63)) >>> (((64 : Int32) - ((8 : Int32) * l5)).toInt64 &&& 63)) s1))))))
 else (some (s))
set_option maxRecDepth 4000 in
set_option maxHeartbeats 1000000 in
theorem B_X1_readInt_88 {D : va_G} {cy : Nat → ClassId} {ad : Nat → Nat} {bs : Nat} {X : State → Heap → Prop} (l1 : Int32) (l2 : Int32) (l5 : Int32) (s : t_S) (Q : t_S → Prop) (hk : t_hk (k_X1_readInt_88 l1 l2 l5 s) Q) : mj_G D cy ad bs X cX1_readInt 6 yX1_readInt.cls none yX1_readInt.name 4 0 0 1065 (t_P (fun v s' => v = none ∧ Q (s'))) 88 [(0, .ref 856), (1, .int l1), (2, .int l2), (5, .int l5)] [] (t_m s) 1065 0 0 := by
  refine mj_aload_n dX1_readInt_88 0 rfl ?_
  refine t_getI dX1_readInt_89 F_X1_221 qf_856_10 ?_
  refine mj_if_lt 96 dX1_readInt_92 (by decide) (fun z => t_posK hk z (fun hk => ?_)) (fun z => t_negK hk z (fun hk => ?_))
  · refine mj_aload_n dX1_readInt_96 0 rfl ?_
    refine mj_bipush (v := 8) dX1_readInt_97 (by decide) ?_
    refine mj_iload dX1_readInt_99 3 rfl ?_
    refine mj_imul dX1_readInt_101 ?_
    refine t_bndK hk (fun r1 er1 hk => ?_)
    refine t_callVlE dX1_readInt_102 M_X1_take (C_X1_take _ _ _ er1) ML_X1_253 IM_X1_take SE_X1_take qc_856 rfl (As := [.int ((8 : Int32) * l5)]) rfl rfl (Nat.le_of_ble_eq_true rfl) (Nat.le_of_ble_eq_true rfl) (Nat.le_of_ble_eq_true rfl) (Nat.le_of_ble_eq_true rfl) ?_
    refine mj_bipush (v := 64) dX1_readInt_105 (by decide) ?_
    refine mj_bipush (v := 8) dX1_readInt_107 (by decide) ?_
    refine mj_iload dX1_readInt_109 3 rfl ?_
    refine mj_imul dX1_readInt_111 ?_
    refine mj_isub dX1_readInt_112 ?_
    refine mj_lshl dX1_readInt_113 rfl ?_
    refine mj_bipush (v := 64) dX1_readInt_114 (by decide) ?_
    refine mj_bipush (v := 8) dX1_readInt_116 (by decide) ?_
    refine mj_iload dX1_readInt_118 3 rfl ?_
    refine mj_imul dX1_readInt_120 ?_
    refine mj_isub dX1_readInt_121 ?_
    refine mj_lshr dX1_readInt_122 rfl ?_
    refine mj_lstore_n 3 (lv2 := [(3, .long ((r1.1 <<< (((64 : Int32) - ((8 : Int32) * l5)).toInt64 &&& 63)) >>> (((64 : Int32) - ((8 : Int32) * l5)).toInt64 &&& 63))), (0, .ref 856), (1, .int l1), (2, .int l2), (5, .int l5)]) dX1_readInt_123 rfl (by decide) rfl ?_
    refine mj_aload_n dX1_readInt_124 1 rfl ?_
    refine t_getI dX1_readInt_125 F_X1_221 qf_856_10 ?_
    refine mj_if_ge 145 dX1_readInt_128 (by decide) (fun z => t_posK hk z (fun hk => ?_)) (fun z => t_negK hk z (fun hk => ?_))
    · refine mj_sublv [(0, .ref 856), (1, .int l1), (2, .int l2), (3, .long ((r1.1 <<< (((64 : Int32) - ((8 : Int32) * l5)).toInt64 &&& 63)) >>> (((64 : Int32) - ((8 : Int32) * l5)).toInt64 &&& 63)))] [1, 2, 3, 0] rfl ?_
      exact B_X1_readInt_145 _ _ _ _ _ hk
    · refine mj_lload_n dX1_readInt_131 0 rfl ?_
      refine t_bndK hk (fun r2 er2 hk => ?_)
      refine t_callSiP dX1_readInt_132 M_X1_bytesFor (C_X1_bytesFor _ _ _ er2) ML_X1_193 SM_X1_bytesFor (As := [.long ((r1.1 <<< (((64 : Int32) - ((8 : Int32) * l5)).toInt64 &&& 63)) >>> (((64 : Int32) - ((8 : Int32) * l5)).toInt64 &&& 63))]) rfl rfl (Nat.le_of_ble_eq_true rfl) (Nat.le_of_ble_eq_true rfl) (Nat.le_of_ble_eq_true rfl) (Nat.le_of_ble_eq_true rfl) ?_
      refine mj_iload dX1_readInt_135 4 rfl ?_
      refine mj_icmp_eq 145 dX1_readInt_137 (by decide) (fun z => t_posK hk z (fun hk => ?_)) (fun z => t_negK hk z (fun hk => ?_))
      · refine mj_sublv [(0, .ref 856), (1, .int l1), (2, .int l2), (3, .long ((r1.1 <<< (((64 : Int32) - ((8 : Int32) * l5)).toInt64 &&& 63)) >>> (((64 : Int32) - ((8 : Int32) * l5)).toInt64 &&& 63)))] [1, 2, 3, 0] rfl ?_
        exact B_X1_readInt_145 _ _ _ _ _ hk
      · refine mj_aload_n dX1_readInt_140 1 rfl ?_
        refine mj_iload_n dX1_readInt_141 3 rfl ?_
        refine t_putIK dX1_readInt_142 F_X1_221 qf_856_10 rfl (fun s1 ws1 => t_letE hk ws1 (fun hk => ?_))
        refine mj_sublv [(0, .ref 856), (1, .int l1), (2, .int l2), (3, .long ((r1.1 <<< (((64 : Int32) - ((8 : Int32) * l5)).toInt64 &&& 63)) >>> (((64 : Int32) - ((8 : Int32) * l5)).toInt64 &&& 63)))] [1, 2, 3, 0] rfl ?_
        exact B_X1_readInt_145 _ _ _ _ _ hk
  · exact t_somK hk (fun hf => t_vret dX1_readInt_95 rfl ⟨rfl, hf⟩ (Nat.le_of_ble_eq_true rfl) (Nat.le_of_ble_eq_true rfl))
noncomputable def k_X1_readInt_83 (l1 : Int32) (l2 : Int32) (l5 : Int32) (s : t_S) : Option (t_S) :=
 t_let (t_setI s 856 10 l2) (fun s1 =>
 k_X1_readInt_88 l1 l2 l5 s1)
set_option maxRecDepth 4000 in
set_option maxHeartbeats 1000000 in
theorem B_X1_readInt_83 {D : va_G} {cy : Nat → ClassId} {ad : Nat → Nat} {bs : Nat} {X : State → Heap → Prop} (l1 : Int32) (l2 : Int32) (l5 : Int32) (s : t_S) (Q : t_S → Prop) (hk : t_hk (k_X1_readInt_83 l1 l2 l5 s) Q) : mj_G D cy ad bs X cX1_readInt 6 yX1_readInt.cls none yX1_readInt.name 4 0 0 1065 (t_P (fun v s' => v = none ∧ Q (s'))) 83 [(0, .ref 856), (1, .int l1), (2, .int l2), (5, .int l5)] [] (t_m s) 1065 0 0 := by
  refine mj_aload_n dX1_readInt_83 0 rfl ?_
  refine mj_iload_n dX1_readInt_84 2 rfl ?_
  refine t_putIK dX1_readInt_85 F_X1_221 qf_856_10 rfl (fun s1 ws1 => t_letE hk ws1 (fun hk => ?_))
  exact B_X1_readInt_88 _ _ _ _ _ hk
noncomputable def f_X1_readInt (x1 : Int32) (s : t_S) : Option (t_S) :=
 if t_ix x1 3001 = true then
  if (s.1 321 (x1.toNatClampNeg)) = (0 : Int32) then ((f_X1_take (8 : Int32) s).bind (fun r2 =>
 if (0 : Int32) ≤ (r2.2.1 856 10) then (k_X1_readInt_88 x1 (s.1 856 9) r2.1.toInt32 r2.2)
 else (if r2.1.toInt32 < (1 : Int32) then (k_X1_readInt_83 x1 (s.1 856 9) r2.1.toInt32 r2.2)
 else (if r2.1.toInt32 ≤ (7 : Int32) then (k_X1_readInt_88 x1 (s.1 856 9) r2.1.toInt32 r2.2)
 else (k_X1_readInt_83 x1 (s.1 856 9) r2.1.toInt32 r2.2)))))
 else ((f_X1_takeUpTo ((s.2.1 323 (x1.toNatClampNeg)) - (s.2.1 322 (x1.toNatClampNeg))) s).bind (fun r3 =>
 k_X1_readInt_145 x1 (s.1 856 9) ((s.2.1 322 (x1.toNatClampNeg)) + r3.1) r3.2))
else none
set_option maxRecDepth 4000 in
set_option maxHeartbeats 1000000 in
theorem C_X1_readInt (x1 : Int32) (s : t_S) (r : t_S) (hr : f_X1_readInt x1 s = some r) : t_C yX1_readInt cX1_readInt 6 none 4 [.ref 856, .int x1] s (fun v s' => v = none ∧ s' = r) := by
  refine t_C.imp (P := fun v s' => v = none ∧ (fun q => q = r) (s')) (t_C.of (by decide +kernel) (Nat.le_of_ble_eq_true rfl) ?_) (fun v s' hp => hp)
  intro D cy ad bs X
  have hk : t_hk (f_X1_readInt x1 s) (fun q => q = r) := ⟨r, hr, rfl⟩
  show mj_G D cy ad bs X cX1_readInt 6 yX1_readInt.cls none yX1_readInt.name 4 0 0 1065 (t_P (fun v s' => v = none ∧ (fun q => q = r) (s'))) 0 [(0, .ref 856), (1, .int x1)] [] (t_m s) 1065 0 0
  refine mj_aload_n dX1_readInt_0 0 rfl ?_
  refine t_getI dX1_readInt_1 F_X1_218 qf_856_9 ?_
  refine mj_istore_n 2 (lv2 := [(2, .int (s.1 856 9)), (0, .ref 856), (1, .int x1)]) dX1_readInt_4 rfl (by decide) rfl ?_
  refine mj_aload_n dX1_readInt_5 1 rfl ?_
  refine t_getR 316 dX1_readInt_6 F_X1_39 qr_856_1 ?_
  refine t_getR 321 dX1_readInt_9 F_X1_163 qr_316_4 ?_
  refine mj_iload_n dX1_readInt_12 2 rfl ?_
  refine t_chkK hk (fun c0 hk => ?_)
  refine t_iald dX1_readInt_13 qa_321 (t_ixv c0) ?_
  refine mj_if_eq 54 dX1_readInt_14 (by decide) (fun z => t_posK hk z (fun hk => ?_)) (fun z => t_negK hk z (fun hk => ?_))
  · refine mj_aload_n dX1_readInt_54 1 rfl ?_
    refine mj_bipush (v := 8) dX1_readInt_55 (by decide) ?_
    refine t_bndK hk (fun r2 er2 hk => ?_)
    refine t_callVlE dX1_readInt_57 M_X1_take (C_X1_take _ _ _ er2) ML_X1_253 IM_X1_take SE_X1_take qc_856 rfl (As := [.int 8]) rfl rfl (Nat.le_of_ble_eq_true rfl) (Nat.le_of_ble_eq_true rfl) (Nat.le_of_ble_eq_true rfl) (Nat.le_of_ble_eq_true rfl) ?_
    refine mj_l2i (v := r2.1.toInt32) dX1_readInt_60 rfl ?_
    refine mj_istore (lv2 := [(5, .int r2.1.toInt32), (2, .int (s.1 856 9)), (0, .ref 856), (1, .int x1)]) dX1_readInt_61 (by decide) rfl ?_
    refine mj_aload_n dX1_readInt_63 2 rfl ?_
    refine t_getI dX1_readInt_64 F_X1_221 qf_856_10 ?_
    refine mj_if_ge 88 dX1_readInt_67 (by decide) (fun z => t_posK hk z (fun hk => ?_)) (fun z => t_negK hk z (fun hk => ?_))
    · refine mj_sublv [(0, .ref 856), (1, .int x1), (2, .int (s.1 856 9)), (5, .int r2.1.toInt32)] [2, 3, 1, 0] rfl ?_
      exact B_X1_readInt_88 _ _ _ _ _ hk
    · refine mj_iload dX1_readInt_70 0 rfl ?_
      refine mj_iconst (v := 1) dX1_readInt_72 (by decide) ?_
      refine mj_icmp_lt 83 dX1_readInt_73 (by decide) (fun z => t_posK hk z (fun hk => ?_)) (fun z => t_negK hk z (fun hk => ?_))
      · refine mj_sublv [(0, .ref 856), (1, .int x1), (2, .int (s.1 856 9)), (5, .int r2.1.toInt32)] [2, 3, 1, 0] rfl ?_
        exact B_X1_readInt_83 _ _ _ _ _ hk
      · refine mj_iload dX1_readInt_76 0 rfl ?_
        refine mj_bipush (v := 7) dX1_readInt_78 (by decide) ?_
        refine mj_icmp_le 88 dX1_readInt_80 (by decide) (fun z => t_posK hk z (fun hk => ?_)) (fun z => t_negK hk z (fun hk => ?_))
        · refine mj_sublv [(0, .ref 856), (1, .int x1), (2, .int (s.1 856 9)), (5, .int r2.1.toInt32)] [2, 3, 1, 0] rfl ?_
          exact B_X1_readInt_88 _ _ _ _ _ hk
        · refine mj_sublv [(0, .ref 856), (1, .int x1), (2, .int (s.1 856 9)), (5, .int r2.1.toInt32)] [2, 3, 1, 0] rfl ?_
          exact B_X1_readInt_83 _ _ _ _ _ hk
  · refine mj_aload_n dX1_readInt_17 1 rfl ?_
    refine t_getR 316 dX1_readInt_18 F_X1_39 qr_856_1 ?_
    refine t_getR 322 dX1_readInt_21 F_X1_187 qr_316_5 ?_
    refine mj_iload_n dX1_readInt_24 2 rfl ?_
    refine t_lald dX1_readInt_25 qa_322 (t_ixv c0) ?_
    refine mj_aload_n dX1_readInt_26 1 rfl ?_
    refine mj_aload_n dX1_readInt_27 1 rfl ?_
    refine t_getR 316 dX1_readInt_28 F_X1_39 qr_856_1 ?_
    refine t_getR 323 dX1_readInt_31 F_X1_190 qr_316_6 ?_
    refine mj_iload_n dX1_readInt_34 2 rfl ?_
    refine t_lald dX1_readInt_35 qa_323 (t_ixv c0) ?_
    refine mj_aload_n dX1_readInt_36 1 rfl ?_
    refine t_getR 316 dX1_readInt_37 F_X1_39 qr_856_1 ?_
    refine t_getR 322 dX1_readInt_40 F_X1_187 qr_316_5 ?_
    refine mj_iload_n dX1_readInt_43 2 rfl ?_
    refine t_lald dX1_readInt_44 qa_322 (t_ixv c0) ?_
    refine mj_lsub dX1_readInt_45 ?_
    refine t_bndK hk (fun r3 er3 hk => ?_)
    refine t_callVlE dX1_readInt_46 M_X1_takeUpTo (C_X1_takeUpTo _ _ _ er3) ML_X1_263 IM_X1_takeUpTo SE_X1_takeUpTo qc_856 rfl (As := [.long ((s.2.1 323 (x1.toNatClampNeg)) - (s.2.1 322 (x1.toNatClampNeg)))]) rfl rfl (Nat.le_of_ble_eq_true rfl) (Nat.le_of_ble_eq_true rfl) (Nat.le_of_ble_eq_true rfl) (Nat.le_of_ble_eq_true rfl) ?_
    refine mj_ladd dX1_readInt_49 ?_
    refine mj_lstore_n 3 (lv2 := [(3, .long ((s.2.1 322 (x1.toNatClampNeg)) + r3.1)), (2, .int (s.1 856 9)), (0, .ref 856), (1, .int x1)]) dX1_readInt_50 rfl (by decide) rfl ?_
    refine mj_goto 145 dX1_readInt_51 (by decide) ?_
    refine mj_sublv [(0, .ref 856), (1, .int x1), (2, .int (s.1 856 9)), (3, .long ((s.2.1 322 (x1.toNatClampNeg)) + r3.1))] [2, 3, 1, 0] rfl ?_
    exact B_X1_readInt_145 _ _ _ _ _ hk

theorem dX1_readText_0 : decode cX1_readText 0 = .ok (.aload_n 0, 1) := by decide +kernel
theorem dX1_readText_1 : decode cX1_readText 1 = .ok (.getfield 218, 3) := by decide +kernel
theorem dX1_readText_101 : decode cX1_readText 101 = .ok (.iadd, 1) := by decide +kernel
theorem dX1_readText_102 : decode cX1_readText 102 = .ok (.bipush 8, 2) := by decide +kernel
theorem dX1_readText_104 : decode cX1_readText 104 = .ok (.idiv, 1) := by decide +kernel
theorem dX1_readText_105 : decode cX1_readText 105 = .ok (.iadd, 1) := by decide +kernel
theorem dX1_readText_106 : decode cX1_readText 106 = .ok (.putfield 212, 3) := by decide +kernel
theorem dX1_readText_109 : decode cX1_readText 109 = .ok (.iconst 0, 1) := by decide +kernel
theorem dX1_readText_110 : decode cX1_readText 110 = .ok (.istore 5, 2) := by decide +kernel
theorem dX1_readText_112 : decode cX1_readText 112 = .ok (.iload 5, 2) := by decide +kernel
theorem dX1_readText_114 : decode cX1_readText 114 = .ok (.iload_n 3, 1) := by decide +kernel
theorem dX1_readText_115 : decode cX1_readText 115 = .ok (.if_icmp .ge 74, 3) := by decide +kernel
theorem dX1_readText_118 : decode cX1_readText 118 = .ok (.aload_n 0, 1) := by decide +kernel
theorem dX1_readText_119 : decode cX1_readText 119 = .ok (.getfield 221, 3) := by decide +kernel
theorem dX1_readText_12 : decode cX1_readText 12 = .ok (.iload_n 1, 1) := by decide +kernel
theorem dX1_readText_122 : decode cX1_readText 122 = .ok (.ifCond .ge 67, 3) := by decide +kernel
theorem dX1_readText_125 : decode cX1_readText 125 = .ok (.aload_n 0, 1) := by decide +kernel
theorem dX1_readText_126 : decode cX1_readText 126 = .ok (.getfield 218, 3) := by decide +kernel
theorem dX1_readText_129 : decode cX1_readText 129 = .ok (.istore 6, 2) := by decide +kernel
theorem dX1_readText_13 : decode cX1_readText 13 = .ok (.laload, 1) := by decide +kernel
theorem dX1_readText_131 : decode cX1_readText 131 = .ok (.bipush 32, 2) := by decide +kernel
theorem dX1_readText_133 : decode cX1_readText 133 = .ok (.aload_n 0, 1) := by decide +kernel
theorem dX1_readText_134 : decode cX1_readText 134 = .ok (.bipush 7, 2) := by decide +kernel
theorem dX1_readText_136 : decode cX1_readText 136 = .ok (.invokevirtual 253, 3) := by decide +kernel
theorem dX1_readText_139 : decode cX1_readText 139 = .ok (.l2i, 1) := by decide +kernel
theorem dX1_readText_14 : decode cX1_readText 14 = .ok (.aload_n 0, 1) := by decide +kernel
theorem dX1_readText_140 : decode cX1_readText 140 = .ok (.iadd, 1) := by decide +kernel
theorem dX1_readText_141 : decode cX1_readText 141 = .ok (.istore 7, 2) := by decide +kernel
theorem dX1_readText_143 : decode cX1_readText 143 = .ok (.aload_n 0, 1) := by decide +kernel
theorem dX1_readText_144 : decode cX1_readText 144 = .ok (.getfield 221, 3) := by decide +kernel
theorem dX1_readText_147 : decode cX1_readText 147 = .ok (.ifCond .ge 23, 3) := by decide +kernel
theorem dX1_readText_15 : decode cX1_readText 15 = .ok (.aload_n 0, 1) := by decide +kernel
theorem dX1_readText_150 : decode cX1_readText 150 = .ok (.iload 7, 2) := by decide +kernel
theorem dX1_readText_152 : decode cX1_readText 152 = .ok (.bipush 126, 2) := by decide +kernel
theorem dX1_readText_154 : decode cX1_readText 154 = .ok (.if_icmp .gt 10, 3) := by decide +kernel
theorem dX1_readText_157 : decode cX1_readText 157 = .ok (.iload 7, 2) := by decide +kernel
theorem dX1_readText_159 : decode cX1_readText 159 = .ok (.bipush 34, 2) := by decide +kernel
theorem dX1_readText_16 : decode cX1_readText 16 = .ok (.getfield 39, 3) := by decide +kernel
theorem dX1_readText_161 : decode cX1_readText 161 = .ok (.if_icmp .ne 9, 3) := by decide +kernel
theorem dX1_readText_164 : decode cX1_readText 164 = .ok (.aload_n 0, 1) := by decide +kernel
theorem dX1_readText_165 : decode cX1_readText 165 = .ok (.iload 6, 2) := by decide +kernel
theorem dX1_readText_167 : decode cX1_readText 167 = .ok (.putfield 221, 3) := by decide +kernel
theorem dX1_readText_170 : decode cX1_readText 170 = .ok (.aload_n 0, 1) := by decide +kernel
theorem dX1_readText_171 : decode cX1_readText 171 = .ok (.getfield 18, 3) := by decide +kernel
theorem dX1_readText_174 : decode cX1_readText 174 = .ok (.iload 4, 2) := by decide +kernel
theorem dX1_readText_176 : decode cX1_readText 176 = .ok (.iload 5, 2) := by decide +kernel
theorem dX1_readText_178 : decode cX1_readText 178 = .ok (.iload 7, 2) := by decide +kernel
theorem dX1_readText_180 : decode cX1_readText 180 = .ok (.invokestatic 288, 3) := by decide +kernel
theorem dX1_readText_183 : decode cX1_readText 183 = .ok (.iinc 5 1, 3) := by decide +kernel
theorem dX1_readText_186 : decode cX1_readText 186 = .ok (.goto (-74), 3) := by decide +kernel
theorem dX1_readText_189 : decode cX1_readText 189 = .ok (.return_, 1) := by decide +kernel
theorem dX1_readText_19 : decode cX1_readText 19 = .ok (.getfield 190, 3) := by decide +kernel
theorem dX1_readText_22 : decode cX1_readText 22 = .ok (.iload_n 1, 1) := by decide +kernel
theorem dX1_readText_23 : decode cX1_readText 23 = .ok (.laload, 1) := by decide +kernel
theorem dX1_readText_24 : decode cX1_readText 24 = .ok (.aload_n 0, 1) := by decide +kernel
theorem dX1_readText_25 : decode cX1_readText 25 = .ok (.getfield 39, 3) := by decide +kernel
theorem dX1_readText_28 : decode cX1_readText 28 = .ok (.getfield 187, 3) := by decide +kernel
theorem dX1_readText_31 : decode cX1_readText 31 = .ok (.iload_n 1, 1) := by decide +kernel
theorem dX1_readText_32 : decode cX1_readText 32 = .ok (.laload, 1) := by decide +kernel
theorem dX1_readText_33 : decode cX1_readText 33 = .ok (.lsub, 1) := by decide +kernel
theorem dX1_readText_34 : decode cX1_readText 34 = .ok (.invokevirtual 263, 3) := by decide +kernel
theorem dX1_readText_37 : decode cX1_readText 37 = .ok (.ladd, 1) := by decide +kernel
theorem dX1_readText_38 : decode cX1_readText 38 = .ok (.l2i, 1) := by decide +kernel
theorem dX1_readText_39 : decode cX1_readText 39 = .ok (.istore_n 3, 1) := by decide +kernel
theorem dX1_readText_4 : decode cX1_readText 4 = .ok (.istore_n 2, 1) := by decide +kernel
theorem dX1_readText_40 : decode cX1_readText 40 = .ok (.aload_n 0, 1) := by decide +kernel
theorem dX1_readText_41 : decode cX1_readText 41 = .ok (.getfield 221, 3) := by decide +kernel
theorem dX1_readText_44 : decode cX1_readText 44 = .ok (.ifCond .lt 4, 3) := by decide +kernel
theorem dX1_readText_47 : decode cX1_readText 47 = .ok (.return_, 1) := by decide +kernel
theorem dX1_readText_48 : decode cX1_readText 48 = .ok (.aload_n 0, 1) := by decide +kernel
theorem dX1_readText_49 : decode cX1_readText 49 = .ok (.dup, 1) := by decide +kernel
theorem dX1_readText_5 : decode cX1_readText 5 = .ok (.aload_n 0, 1) := by decide +kernel
theorem dX1_readText_50 : decode cX1_readText 50 = .ok (.getfield 215, 3) := by decide +kernel
theorem dX1_readText_53 : decode cX1_readText 53 = .ok (.iload_n 3, 1) := by decide +kernel
theorem dX1_readText_54 : decode cX1_readText 54 = .ok (.bipush 7, 2) := by decide +kernel
theorem dX1_readText_56 : decode cX1_readText 56 = .ok (.iadd, 1) := by decide +kernel
theorem dX1_readText_57 : decode cX1_readText 57 = .ok (.bipush 8, 2) := by decide +kernel
theorem dX1_readText_59 : decode cX1_readText 59 = .ok (.idiv, 1) := by decide +kernel
theorem dX1_readText_6 : decode cX1_readText 6 = .ok (.getfield 39, 3) := by decide +kernel
theorem dX1_readText_60 : decode cX1_readText 60 = .ok (.iadd, 1) := by decide +kernel
theorem dX1_readText_61 : decode cX1_readText 61 = .ok (.putfield 215, 3) := by decide +kernel
theorem dX1_readText_64 : decode cX1_readText 64 = .ok (.aload_n 0, 1) := by decide +kernel
theorem dX1_readText_65 : decode cX1_readText 65 = .ok (.getfield 215, 3) := by decide +kernel
theorem dX1_readText_68 : decode cX1_readText 68 = .ok (.bipush 120, 2) := by decide +kernel
theorem dX1_readText_70 : decode cX1_readText 70 = .ok (.if_icmp .le 9, 3) := by decide +kernel
theorem dX1_readText_73 : decode cX1_readText 73 = .ok (.aload_n 0, 1) := by decide +kernel
theorem dX1_readText_74 : decode cX1_readText 74 = .ok (.iload_n 2, 1) := by decide +kernel
theorem dX1_readText_75 : decode cX1_readText 75 = .ok (.putfield 221, 3) := by decide +kernel
theorem dX1_readText_78 : decode cX1_readText 78 = .ok (.return_, 1) := by decide +kernel
theorem dX1_readText_79 : decode cX1_readText 79 = .ok (.aload_n 0, 1) := by decide +kernel
theorem dX1_readText_80 : decode cX1_readText 80 = .ok (.getfield 212, 3) := by decide +kernel
theorem dX1_readText_83 : decode cX1_readText 83 = .ok (.istore 4, 2) := by decide +kernel
theorem dX1_readText_85 : decode cX1_readText 85 = .ok (.aload_n 0, 1) := by decide +kernel
theorem dX1_readText_86 : decode cX1_readText 86 = .ok (.iload_n 3, 1) := by decide +kernel
theorem dX1_readText_87 : decode cX1_readText 87 = .ok (.invokestatic 285, 3) := by decide +kernel
theorem dX1_readText_9 : decode cX1_readText 9 = .ok (.getfield 187, 3) := by decide +kernel
theorem dX1_readText_90 : decode cX1_readText 90 = .ok (.invokevirtual 247, 3) := by decide +kernel
theorem dX1_readText_93 : decode cX1_readText 93 = .ok (.aload_n 0, 1) := by decide +kernel
theorem dX1_readText_94 : decode cX1_readText 94 = .ok (.dup, 1) := by decide +kernel
theorem dX1_readText_95 : decode cX1_readText 95 = .ok (.getfield 212, 3) := by decide +kernel
theorem dX1_readText_98 : decode cX1_readText 98 = .ok (.iload_n 3, 1) := by decide +kernel
theorem dX1_readText_99 : decode cX1_readText 99 = .ok (.bipush 7, 2) := by decide +kernel
noncomputable def k_X1_readText_170 (l3 : Int32) (l4 : Int32) (l5 : Int32) (l7 : Int32) (s : t_S) : Option ((Int32 × Int32 × Int32 × t_S) ⊕ (t_S)) :=
 (f_X8_putSign 859 l4 l5 l7 s).bind (fun r1 =>
 some (.inl (l3, l4, (l5 + 1), r1)))
set_option maxRecDepth 4000 in
set_option maxHeartbeats 1000000 in
theorem B_X1_readText_170 {D : va_G} {cy : Nat → ClassId} {ad : Nat → Nat} {bs : Nat} {X : State → Heap → Prop} (l3 : Int32) (l4 : Int32) (l5 : Int32) (l7 : Int32) (s : t_S) (Q : (Int32 × Int32 × Int32 × t_S) ⊕ (t_S) → Prop) (Hb112 : ∀ (y0 : Int32) (y1 : Int32) (y2 : Int32) (y3 : t_S), Q (.inl (y0, y1, y2, y3)) → mj_G D cy ad bs X cX1_readText 8 yX1_readText.cls none yX1_readText.name 4 0 0 1065 (t_P (fun v s' => v = none ∧ Q (.inr (s')))) 112 [(0, .ref 856), (3, .int (y0)), (4, .int (y1)), (5, .int (y2))] [] (t_m y3) 1065 0 0) (hk : t_hk (k_X1_readText_170 l3 l4 l5 l7 s) Q) : mj_G D cy ad bs X cX1_readText 8 yX1_readText.cls none yX1_readText.name 4 0 0 1065 (t_P (fun v s' => v = none ∧ Q (.inr (s')))) 170 [(0, .ref 856), (3, .int l3), (4, .int l4), (5, .int l5), (7, .int l7)] [] (t_m s) 1065 0 0 := by
  refine mj_aload_n dX1_readText_170 0 rfl ?_
  refine t_getR 859 dX1_readText_171 F_X1_18 qr_856_6 ?_
  refine mj_iload dX1_readText_174 2 rfl ?_
  refine mj_iload dX1_readText_176 3 rfl ?_
  refine mj_iload dX1_readText_178 4 rfl ?_
  refine t_bndK hk (fun r1 er1 hk => ?_)
  refine t_callSvE dX1_readText_180 M_X8_putSign (C_X8_putSign _ _ _ _ _ _ er1) ML_X1_288 SM_X8_putSign (As := [.ref 859, .int l4, .int l5, .int l7]) rfl rfl (Nat.le_of_ble_eq_true rfl) (Nat.le_of_ble_eq_true rfl) (Nat.le_of_ble_eq_true rfl) (Nat.le_of_ble_eq_true rfl) ?_
  refine mj_iinc (k := 3) (v := (l5 + 1)) (lv2 := [(5, .int (l5 + 1)), (0, .ref 856), (3, .int l3), (4, .int l4), (7, .int l7)]) dX1_readText_183 rfl rfl (by decide) rfl ?_
  refine mj_goto 112 dX1_readText_186 (by decide) ?_
  refine mj_sublv [(0, .ref 856), (3, .int l3), (4, .int l4), (5, .int (l5 + 1))] [1, 2, 3, 0] rfl ?_
  exact t_somK hk (fun hf => Hb112 l3 l4 (l5 + 1) r1 hf)
noncomputable def k_X1_readText_164 (l3 : Int32) (l4 : Int32) (l5 : Int32) (l6 : Int32) (l7 : Int32) (s : t_S) : Option ((Int32 × Int32 × Int32 × t_S) ⊕ (t_S)) :=
 t_let (t_setI s 856 10 l6) (fun s1 =>
 k_X1_readText_170 l3 l4 l5 l7 s1)
set_option maxRecDepth 4000 in
set_option maxHeartbeats 1000000 in
theorem B_X1_readText_164 {D : va_G} {cy : Nat → ClassId} {ad : Nat → Nat} {bs : Nat} {X : State → Heap → Prop} (l3 : Int32) (l4 : Int32) (l5 : Int32) (l6 : Int32) (l7 : Int32) (s : t_S) (Q : (Int32 × Int32 × Int32 × t_S) ⊕ (t_S) → Prop) (Hb112 : ∀ (y0 : Int32) (y1 : Int32) (y2 : Int32) (y3 : t_S), Q (.inl (y0, y1, y2, y3)) → mj_G D cy ad bs X cX1_readText 8 yX1_readText.cls none yX1_readText.name 4 0 0 1065 (t_P (fun v s' => v = none ∧ Q (.inr (s')))) 112 [(0, .ref 856), (3, .int (y0)), (4, .int (y1)), (5, .int (y2))] [] (t_m y3) 1065 0 0) (hk : t_hk (k_X1_readText_164 l3 l4 l5 l6 l7 s) Q) : mj_G D cy ad bs X cX1_readText 8 yX1_readText.cls none yX1_readText.name 4 0 0 1065 (t_P (fun v s' => v = none ∧ Q (.inr (s')))) 164 [(0, .ref 856), (3, .int l3), (4, .int l4), (5, .int l5), (6, .int l6), (7, .int l7)] [] (t_m s) 1065 0 0 := by
  refine mj_aload_n dX1_readText_164 0 rfl ?_
  refine mj_iload dX1_readText_165 4 rfl ?_
  refine t_putIK dX1_readText_167 F_X1_221 qf_856_10 rfl (fun s1 ws1 => t_letE hk ws1 (fun hk => ?_))
  refine mj_sublv [(0, .ref 856), (3, .int l3), (4, .int l4), (5, .int l5), (7, .int l7)] [0, 1, 2, 3, 5] rfl ?_
  exact B_X1_readText_170 _ _ _ _ _ _ (fun y0 y1 y2 y3 hx => Hb112 y0 y1 y2 y3 hx) hk
noncomputable def k_X1_readText_112 (l3 : Int32) (l4 : Int32) (l5 : Int32) (s : t_S) : Option ((Int32 × Int32 × Int32 × t_S) ⊕ (t_S)) :=
 if l3 ≤ l5 then ((some (s)).map Sum.inr)
 else (if (0 : Int32) ≤ (s.1 856 10) then ((some (s)).map Sum.inr)
 else ((f_X1_take (7 : Int32) s).bind (fun r1 =>
 if (0 : Int32) ≤ (r1.2.1 856 10) then (k_X1_readText_170 l3 l4 l5 ((32 : Int32) + r1.1.toInt32) r1.2)
 else (if (126 : Int32) < ((32 : Int32) + r1.1.toInt32) then (k_X1_readText_164 l3 l4 l5 (s.1 856 9) ((32 : Int32) + r1.1.toInt32) r1.2)
 else (if ((32 : Int32) + r1.1.toInt32) = (34 : Int32) then (k_X1_readText_164 l3 l4 l5 (s.1 856 9) ((32 : Int32) + r1.1.toInt32) r1.2)
 else (k_X1_readText_170 l3 l4 l5 ((32 : Int32) + r1.1.toInt32) r1.2))))))
set_option maxRecDepth 4000 in
set_option maxHeartbeats 1000000 in
theorem B_X1_readText_112 {D : va_G} {cy : Nat → ClassId} {ad : Nat → Nat} {bs : Nat} {X : State → Heap → Prop} (l3 : Int32) (l4 : Int32) (l5 : Int32) (s : t_S) (Q : (Int32 × Int32 × Int32 × t_S) ⊕ (t_S) → Prop) (Hb112 : ∀ (y0 : Int32) (y1 : Int32) (y2 : Int32) (y3 : t_S), Q (.inl (y0, y1, y2, y3)) → mj_G D cy ad bs X cX1_readText 8 yX1_readText.cls none yX1_readText.name 4 0 0 1065 (t_P (fun v s' => v = none ∧ Q (.inr (s')))) 112 [(0, .ref 856), (3, .int (y0)), (4, .int (y1)), (5, .int (y2))] [] (t_m y3) 1065 0 0) (hk : t_hk (k_X1_readText_112 l3 l4 l5 s) Q) : mj_G D cy ad bs X cX1_readText 8 yX1_readText.cls none yX1_readText.name 4 0 0 1065 (t_P (fun v s' => v = none ∧ Q (.inr (s')))) 112 [(0, .ref 856), (3, .int l3), (4, .int l4), (5, .int l5)] [] (t_m s) 1065 0 0 := by
  refine mj_iload dX1_readText_112 3 rfl ?_
  refine mj_iload_n dX1_readText_114 1 rfl ?_
  refine mj_icmp_ge 189 dX1_readText_115 (by decide) (fun z => t_posK hk z (fun hk => ?_)) (fun z => t_negK hk z (fun hk => ?_))
  · refine t_mapK hk (fun hk => ?_)
    exact t_somK hk (fun hf => t_vret dX1_readText_189 rfl ⟨rfl, hf⟩ (Nat.le_of_ble_eq_true rfl) (Nat.le_of_ble_eq_true rfl))
  · refine mj_aload_n dX1_readText_118 0 rfl ?_
    refine t_getI dX1_readText_119 F_X1_221 qf_856_10 ?_
    refine mj_if_ge 189 dX1_readText_122 (by decide) (fun z => t_posK hk z (fun hk => ?_)) (fun z => t_negK hk z (fun hk => ?_))
    · refine t_mapK hk (fun hk => ?_)
      exact t_somK hk (fun hf => t_vret dX1_readText_189 rfl ⟨rfl, hf⟩ (Nat.le_of_ble_eq_true rfl) (Nat.le_of_ble_eq_true rfl))
    · refine mj_aload_n dX1_readText_125 0 rfl ?_
      refine t_getI dX1_readText_126 F_X1_218 qf_856_9 ?_
      refine mj_istore (lv2 := [(6, .int (s.1 856 9)), (0, .ref 856), (3, .int l3), (4, .int l4), (5, .int l5)]) dX1_readText_129 (by decide) rfl ?_
      refine mj_bipush (v := 32) dX1_readText_131 (by decide) ?_
      refine mj_aload_n dX1_readText_133 1 rfl ?_
      refine mj_bipush (v := 7) dX1_readText_134 (by decide) ?_
      refine t_bndK hk (fun r1 er1 hk => ?_)
      refine t_callVlE dX1_readText_136 M_X1_take (C_X1_take _ _ _ er1) ML_X1_253 IM_X1_take SE_X1_take qc_856 rfl (As := [.int 7]) rfl rfl (Nat.le_of_ble_eq_true rfl) (Nat.le_of_ble_eq_true rfl) (Nat.le_of_ble_eq_true rfl) (Nat.le_of_ble_eq_true rfl) ?_
      refine mj_l2i (v := r1.1.toInt32) dX1_readText_139 rfl ?_
      refine mj_iadd dX1_readText_140 ?_
      refine mj_istore (lv2 := [(7, .int ((32 : Int32) + r1.1.toInt32)), (6, .int (s.1 856 9)), (0, .ref 856), (3, .int l3), (4, .int l4), (5, .int l5)]) dX1_readText_141 (by decide) rfl ?_
      refine mj_aload_n dX1_readText_143 2 rfl ?_
      refine t_getI dX1_readText_144 F_X1_221 qf_856_10 ?_
      refine mj_if_ge 170 dX1_readText_147 (by decide) (fun z => t_posK hk z (fun hk => ?_)) (fun z => t_negK hk z (fun hk => ?_))
      · refine mj_sublv [(0, .ref 856), (3, .int l3), (4, .int l4), (5, .int l5), (7, .int ((32 : Int32) + r1.1.toInt32))] [2, 3, 4, 5, 0] rfl ?_
        exact B_X1_readText_170 _ _ _ _ _ _ (fun y0 y1 y2 y3 hx => Hb112 y0 y1 y2 y3 hx) hk
      · refine mj_iload dX1_readText_150 0 rfl ?_
        refine mj_bipush (v := 126) dX1_readText_152 (by decide) ?_
        refine mj_icmp_gt 164 dX1_readText_154 (by decide) (fun z => t_posK hk z (fun hk => ?_)) (fun z => t_negK hk z (fun hk => ?_))
        · refine mj_sublv [(0, .ref 856), (3, .int l3), (4, .int l4), (5, .int l5), (6, .int (s.1 856 9)), (7, .int ((32 : Int32) + r1.1.toInt32))] [2, 3, 4, 5, 1, 0] rfl ?_
          exact B_X1_readText_164 _ _ _ _ _ _ _ (fun y0 y1 y2 y3 hx => Hb112 y0 y1 y2 y3 hx) hk
        · refine mj_iload dX1_readText_157 0 rfl ?_
          refine mj_bipush (v := 34) dX1_readText_159 (by decide) ?_
          refine mj_icmp_ne 170 dX1_readText_161 (by decide) (fun z => t_negK hk z (fun hk => ?_)) (fun z => t_posK hk z (fun hk => ?_))
          · refine mj_sublv [(0, .ref 856), (3, .int l3), (4, .int l4), (5, .int l5), (7, .int ((32 : Int32) + r1.1.toInt32))] [2, 3, 4, 5, 0] rfl ?_
            exact B_X1_readText_170 _ _ _ _ _ _ (fun y0 y1 y2 y3 hx => Hb112 y0 y1 y2 y3 hx) hk
          · refine mj_sublv [(0, .ref 856), (3, .int l3), (4, .int l4), (5, .int l5), (6, .int (s.1 856 9)), (7, .int ((32 : Int32) + r1.1.toInt32))] [2, 3, 4, 5, 1, 0] rfl ?_
            exact B_X1_readText_164 _ _ _ _ _ _ _ (fun y0 y1 y2 y3 hx => Hb112 y0 y1 y2 y3 hx) hk
noncomputable def b_X1_readText_112 (x : Int32 × Int32 × Int32 × t_S) : Option ((Int32 × Int32 × Int32 × t_S) ⊕ (t_S)) := k_X1_readText_112 x.1 x.2.1 x.2.2.1 x.2.2.2
set_option maxRecDepth 4000 in
set_option maxHeartbeats 1000000 in
theorem LH_X1_readText_112 {D : va_G} {cy : Nat → ClassId} {ad : Nat → Nat} {bs : Nat} {X : State → Heap → Prop} : ∀ (n : Nat) (y0 : Int32) (y1 : Int32) (y2 : Int32) (y3 : t_S) (Q : t_S → Prop) (hk : t_hk (t_loop (b_X1_readText_112) n (y0, y1, y2, y3)) Q), mj_G D cy ad bs X cX1_readText 8 yX1_readText.cls none yX1_readText.name 4 0 0 1065 (t_P (fun v s' => v = none ∧ Q (s'))) 112 [(0, .ref 856), (3, .int (y0)), (4, .int (y1)), (5, .int (y2))] [] (t_m y3) 1065 0 0 := by
  intro n
  induction n with
  | zero => intro y0 y1 y2 y3 Q hk; obtain ⟨r, hr, _⟩ := hk; cases hr
  | succ n ih =>
    intro y0 y1 y2 y3 Q hk
    exact B_X1_readText_112 y0 y1 y2 y3 (fun y => t_lq (b_X1_readText_112) n Q y) (fun y0' y1' y2' y3' hy => ih y0' y1' y2' y3' Q hy) (t_lp hk)
noncomputable def f_X1_readText (x1 : Int32) (s : t_S) : Option (t_S) :=
 if t_ix x1 3001 = true then
  (f_X1_takeUpTo ((s.2.1 323 (x1.toNatClampNeg)) - (s.2.1 322 (x1.toNatClampNeg))) s).bind (fun r2 =>
 if (r2.2.1 856 10) < (0 : Int32) then (t_let (t_setI r2.2 856 8 ((r2.2.1 856 8) + (((((s.2.1 322 (x1.toNatClampNeg)) + r2.1).toInt32) + (7 : Int32)) / (8 : Int32)))) (fun s1 =>
 if (s1.1 856 8) ≤ (120 : Int32) then ((f_X8_textCell (((s.2.1 322 (x1.toNatClampNeg)) + r2.1).toInt32) s1).bind (fun r3 =>
 (f_X1_putCell r3 s1).bind (fun r4 =>
 t_let (t_setI r4 856 7 ((r4.1 856 7) + (((((s.2.1 322 (x1.toNatClampNeg)) + r2.1).toInt32) + (7 : Int32)) / (8 : Int32)))) (fun s2 =>
 t_loop (b_X1_readText_112) t_N ((((s.2.1 322 (x1.toNatClampNeg)) + r2.1).toInt32), (s1.1 856 7), 0, s2)))))
 else (t_let (t_setI s1 856 10 (s.1 856 9)) (fun s3 =>
 some (s3)))))
 else (some (r2.2)))
else none
set_option maxRecDepth 4000 in
set_option maxHeartbeats 1000000 in
theorem C_X1_readText (x1 : Int32) (s : t_S) (r : t_S) (hr : f_X1_readText x1 s = some r) : t_C yX1_readText cX1_readText 8 none 4 [.ref 856, .int x1] s (fun v s' => v = none ∧ s' = r) := by
  refine t_C.imp (P := fun v s' => v = none ∧ (fun q => q = r) (s')) (t_C.of (by decide +kernel) (Nat.le_of_ble_eq_true rfl) ?_) (fun v s' hp => hp)
  intro D cy ad bs X
  have hk : t_hk (f_X1_readText x1 s) (fun q => q = r) := ⟨r, hr, rfl⟩
  show mj_G D cy ad bs X cX1_readText 8 yX1_readText.cls none yX1_readText.name 4 0 0 1065 (t_P (fun v s' => v = none ∧ (fun q => q = r) (s'))) 0 [(0, .ref 856), (1, .int x1)] [] (t_m s) 1065 0 0
  refine mj_aload_n dX1_readText_0 0 rfl ?_
  refine t_getI dX1_readText_1 F_X1_218 qf_856_9 ?_
  refine mj_istore_n 2 (lv2 := [(2, .int (s.1 856 9)), (0, .ref 856), (1, .int x1)]) dX1_readText_4 rfl (by decide) rfl ?_
  refine mj_aload_n dX1_readText_5 1 rfl ?_
  refine t_getR 316 dX1_readText_6 F_X1_39 qr_856_1 ?_
  refine t_getR 322 dX1_readText_9 F_X1_187 qr_316_5 ?_
  refine mj_iload_n dX1_readText_12 2 rfl ?_
  refine t_chkK hk (fun c0 hk => ?_)
  refine t_lald dX1_readText_13 qa_322 (t_ixv c0) ?_
  refine mj_aload_n dX1_readText_14 1 rfl ?_
  refine mj_aload_n dX1_readText_15 1 rfl ?_
  refine t_getR 316 dX1_readText_16 F_X1_39 qr_856_1 ?_
  refine t_getR 323 dX1_readText_19 F_X1_190 qr_316_6 ?_
  refine mj_iload_n dX1_readText_22 2 rfl ?_
  refine t_lald dX1_readText_23 qa_323 (t_ixv c0) ?_
  refine mj_aload_n dX1_readText_24 1 rfl ?_
  refine t_getR 316 dX1_readText_25 F_X1_39 qr_856_1 ?_
  refine t_getR 322 dX1_readText_28 F_X1_187 qr_316_5 ?_
  refine mj_iload_n dX1_readText_31 2 rfl ?_
  refine t_lald dX1_readText_32 qa_322 (t_ixv c0) ?_
  refine mj_lsub dX1_readText_33 ?_
  refine t_bndK hk (fun r2 er2 hk => ?_)
  refine t_callVlE dX1_readText_34 M_X1_takeUpTo (C_X1_takeUpTo _ _ _ er2) ML_X1_263 IM_X1_takeUpTo SE_X1_takeUpTo qc_856 rfl (As := [.long ((s.2.1 323 (x1.toNatClampNeg)) - (s.2.1 322 (x1.toNatClampNeg)))]) rfl rfl (Nat.le_of_ble_eq_true rfl) (Nat.le_of_ble_eq_true rfl) (Nat.le_of_ble_eq_true rfl) (Nat.le_of_ble_eq_true rfl) ?_
  refine mj_ladd dX1_readText_37 ?_
  refine mj_l2i (v := ((s.2.1 322 (x1.toNatClampNeg)) + r2.1).toInt32) dX1_readText_38 rfl ?_
  refine mj_istore_n 3 (lv2 := [(3, .int (((s.2.1 322 (x1.toNatClampNeg)) + r2.1).toInt32)), (2, .int (s.1 856 9)), (0, .ref 856), (1, .int x1)]) dX1_readText_39 rfl (by decide) rfl ?_
  refine mj_aload_n dX1_readText_40 2 rfl ?_
  refine t_getI dX1_readText_41 F_X1_221 qf_856_10 ?_
  refine mj_if_lt 48 dX1_readText_44 (by decide) (fun z => t_posK hk z (fun hk => ?_)) (fun z => t_negK hk z (fun hk => ?_))
  · refine mj_aload_n dX1_readText_48 2 rfl ?_
    refine mj_dup dX1_readText_49 rfl ?_
    refine t_getI dX1_readText_50 F_X1_215 qf_856_8 ?_
    refine mj_iload_n dX1_readText_53 0 rfl ?_
    refine mj_bipush (v := 7) dX1_readText_54 (by decide) ?_
    refine mj_iadd dX1_readText_56 ?_
    refine mj_bipush (v := 8) dX1_readText_57 (by decide) ?_
    refine mj_idiv dX1_readText_59 (by decide) ?_
    refine mj_iadd dX1_readText_60 ?_
    refine t_putIK dX1_readText_61 F_X1_215 qf_856_8 rfl (fun s1 ws1 => t_letE hk ws1 (fun hk => ?_))
    refine mj_aload_n dX1_readText_64 2 rfl ?_
    refine t_getI dX1_readText_65 F_X1_215 qf_856_8 ?_
    refine mj_bipush (v := 120) dX1_readText_68 (by decide) ?_
    refine mj_icmp_le 79 dX1_readText_70 (by decide) (fun z => t_posK hk z (fun hk => ?_)) (fun z => t_negK hk z (fun hk => ?_))
    · refine mj_aload_n dX1_readText_79 2 rfl ?_
      refine t_getI dX1_readText_80 F_X1_212 qf_856_7 ?_
      refine mj_istore (lv2 := [(4, .int (s1.1 856 7)), (3, .int (((s.2.1 322 (x1.toNatClampNeg)) + r2.1).toInt32)), (2, .int (s.1 856 9)), (0, .ref 856), (1, .int x1)]) dX1_readText_83 (by decide) rfl ?_
      refine mj_aload_n dX1_readText_85 3 rfl ?_
      refine mj_iload_n dX1_readText_86 1 rfl ?_
      refine t_bndK hk (fun r3 er3 hk => ?_)
      refine t_callSlP dX1_readText_87 M_X8_textCell (C_X8_textCell _ _ _ er3) ML_X1_285 SM_X8_textCell (As := [.int (((s.2.1 322 (x1.toNatClampNeg)) + r2.1).toInt32)]) rfl rfl (Nat.le_of_ble_eq_true rfl) (Nat.le_of_ble_eq_true rfl) (Nat.le_of_ble_eq_true rfl) (Nat.le_of_ble_eq_true rfl) ?_
      refine t_bndK hk (fun r4 er4 hk => ?_)
      refine t_callVvE dX1_readText_90 M_X1_putCell (C_X1_putCell _ _ _ er4) ML_X1_247 IM_X1_putCell SE_X1_putCell qc_856 rfl (As := [.long r3]) rfl rfl (Nat.le_of_ble_eq_true rfl) (Nat.le_of_ble_eq_true rfl) (Nat.le_of_ble_eq_true rfl) (Nat.le_of_ble_eq_true rfl) ?_
      refine mj_aload_n dX1_readText_93 3 rfl ?_
      refine mj_dup dX1_readText_94 rfl ?_
      refine t_getI dX1_readText_95 F_X1_212 qf_856_7 ?_
      refine mj_iload_n dX1_readText_98 1 rfl ?_
      refine mj_bipush (v := 7) dX1_readText_99 (by decide) ?_
      refine mj_iadd dX1_readText_101 ?_
      refine mj_bipush (v := 8) dX1_readText_102 (by decide) ?_
      refine mj_idiv dX1_readText_104 (by decide) ?_
      refine mj_iadd dX1_readText_105 ?_
      refine t_putIK dX1_readText_106 F_X1_212 qf_856_7 rfl (fun s2 ws2 => t_letE hk ws2 (fun hk => ?_))
      refine mj_iconst (v := 0) dX1_readText_109 (by decide) ?_
      refine mj_istore (lv2 := [(5, .int 0), (4, .int (s1.1 856 7)), (3, .int (((s.2.1 322 (x1.toNatClampNeg)) + r2.1).toInt32)), (2, .int (s.1 856 9)), (0, .ref 856), (1, .int x1)]) dX1_readText_110 (by decide) rfl ?_
      refine mj_sublv [(0, .ref 856), (3, .int (((s.2.1 322 (x1.toNatClampNeg)) + r2.1).toInt32)), (4, .int (s1.1 856 7)), (5, .int 0)] [4, 2, 1, 0] rfl ?_
      exact LH_X1_readText_112 _ (((s.2.1 322 (x1.toNatClampNeg)) + r2.1).toInt32) (s1.1 856 7) 0 s2 _ hk
    · refine mj_aload_n dX1_readText_73 2 rfl ?_
      refine mj_iload_n dX1_readText_74 1 rfl ?_
      refine t_putIK dX1_readText_75 F_X1_221 qf_856_10 rfl (fun s3 ws3 => t_letE hk ws3 (fun hk => ?_))
      exact t_somK hk (fun hf => t_vret dX1_readText_78 rfl ⟨rfl, hf⟩ (Nat.le_of_ble_eq_true rfl) (Nat.le_of_ble_eq_true rfl))
  · exact t_somK hk (fun hf => t_vret dX1_readText_47 rfl ⟨rfl, hf⟩ (Nat.le_of_ble_eq_true rfl) (Nat.le_of_ble_eq_true rfl))

theorem dX1_readPart_0 : decode cX1_readPart 0 = .ok (.aload_n 0, 1) := by decide +kernel
theorem dX1_readPart_1 : decode cX1_readPart 1 = .ok (.getfield 39, 3) := by decide +kernel
theorem dX1_readPart_10 : decode cX1_readPart 10 = .ok (.dup, 1) := by decide +kernel
theorem dX1_readPart_11 : decode cX1_readPart 11 = .ok (.getfield 215, 3) := by decide +kernel
theorem dX1_readPart_124 : decode cX1_readPart 124 = .ok (.aload_n 0, 1) := by decide +kernel
theorem dX1_readPart_125 : decode cX1_readPart 125 = .ok (.iload_n 3, 1) := by decide +kernel
theorem dX1_readPart_126 : decode cX1_readPart 126 = .ok (.invokevirtual 250, 3) := by decide +kernel
theorem dX1_readPart_129 : decode cX1_readPart 129 = .ok (.goto 115, 3) := by decide +kernel
theorem dX1_readPart_132 : decode cX1_readPart 132 = .ok (.aload_n 0, 1) := by decide +kernel
theorem dX1_readPart_133 : decode cX1_readPart 133 = .ok (.aload_n 0, 1) := by decide +kernel
theorem dX1_readPart_134 : decode cX1_readPart 134 = .ok (.iconst 1, 1) := by decide +kernel
theorem dX1_readPart_135 : decode cX1_readPart 135 = .ok (.invokevirtual 253, 3) := by decide +kernel
theorem dX1_readPart_138 : decode cX1_readPart 138 = .ok (.lconst 1, 1) := by decide +kernel
theorem dX1_readPart_139 : decode cX1_readPart 139 = .ok (.lcmp, 1) := by decide +kernel
theorem dX1_readPart_14 : decode cX1_readPart 14 = .ok (.iload_n 2, 1) := by decide +kernel
theorem dX1_readPart_140 : decode cX1_readPart 140 = .ok (.ifCond .ne 7, 3) := by decide +kernel
theorem dX1_readPart_143 : decode cX1_readPart 143 = .ok (.iconst 1, 1) := by decide +kernel
theorem dX1_readPart_144 : decode cX1_readPart 144 = .ok (.goto 4, 3) := by decide +kernel
theorem dX1_readPart_147 : decode cX1_readPart 147 = .ok (.iconst 0, 1) := by decide +kernel
theorem dX1_readPart_148 : decode cX1_readPart 148 = .ok (.invokestatic 257, 3) := by decide +kernel
theorem dX1_readPart_15 : decode cX1_readPart 15 = .ok (.ifCond .lt 7, 3) := by decide +kernel
theorem dX1_readPart_151 : decode cX1_readPart 151 = .ok (.invokevirtual 247, 3) := by decide +kernel
theorem dX1_readPart_154 : decode cX1_readPart 154 = .ok (.goto 90, 3) := by decide +kernel
theorem dX1_readPart_157 : decode cX1_readPart 157 = .ok (.aload_n 0, 1) := by decide +kernel
theorem dX1_readPart_158 : decode cX1_readPart 158 = .ok (.aload_n 0, 1) := by decide +kernel
theorem dX1_readPart_159 : decode cX1_readPart 159 = .ok (.getfield 39, 3) := by decide +kernel
theorem dX1_readPart_162 : decode cX1_readPart 162 = .ok (.getfield 163, 3) := by decide +kernel
theorem dX1_readPart_165 : decode cX1_readPart 165 = .ok (.iload_n 3, 1) := by decide +kernel
theorem dX1_readPart_166 : decode cX1_readPart 166 = .ok (.iaload, 1) := by decide +kernel
theorem dX1_readPart_167 : decode cX1_readPart 167 = .ok (.iconst 1, 1) := by decide +kernel
theorem dX1_readPart_168 : decode cX1_readPart 168 = .ok (.isub, 1) := by decide +kernel
theorem dX1_readPart_169 : decode cX1_readPart 169 = .ok (.i2l, 1) := by decide +kernel
theorem dX1_readPart_170 : decode cX1_readPart 170 = .ok (.invokevirtual 263, 3) := by decide +kernel
theorem dX1_readPart_173 : decode cX1_readPart 173 = .ok (.l2i, 1) := by decide +kernel
theorem dX1_readPart_174 : decode cX1_readPart 174 = .ok (.istore 4, 2) := by decide +kernel
theorem dX1_readPart_176 : decode cX1_readPart 176 = .ok (.aload_n 0, 1) := by decide +kernel
theorem dX1_readPart_177 : decode cX1_readPart 177 = .ok (.getfield 221, 3) := by decide +kernel
theorem dX1_readPart_18 : decode cX1_readPart 18 = .ok (.iconst 2, 1) := by decide +kernel
theorem dX1_readPart_180 : decode cX1_readPart 180 = .ok (.ifCond .ge 64, 3) := by decide +kernel
theorem dX1_readPart_183 : decode cX1_readPart 183 = .ok (.aload_n 0, 1) := by decide +kernel
theorem dX1_readPart_184 : decode cX1_readPart 184 = .ok (.iconst 3, 1) := by decide +kernel
theorem dX1_readPart_185 : decode cX1_readPart 185 = .ok (.aload_n 0, 1) := by decide +kernel
theorem dX1_readPart_186 : decode cX1_readPart 186 = .ok (.getfield 39, 3) := by decide +kernel
theorem dX1_readPart_189 : decode cX1_readPart 189 = .ok (.getfield 266, 3) := by decide +kernel
theorem dX1_readPart_19 : decode cX1_readPart 19 = .ok (.goto 4, 3) := by decide +kernel
theorem dX1_readPart_192 : decode cX1_readPart 192 = .ok (.aload_n 0, 1) := by decide +kernel
theorem dX1_readPart_193 : decode cX1_readPart 193 = .ok (.getfield 39, 3) := by decide +kernel
theorem dX1_readPart_196 : decode cX1_readPart 196 = .ok (.getfield 181, 3) := by decide +kernel
theorem dX1_readPart_199 : decode cX1_readPart 199 = .ok (.iload_n 3, 1) := by decide +kernel
theorem dX1_readPart_200 : decode cX1_readPart 200 = .ok (.iaload, 1) := by decide +kernel
theorem dX1_readPart_201 : decode cX1_readPart 201 = .ok (.iload 4, 2) := by decide +kernel
theorem dX1_readPart_203 : decode cX1_readPart 203 = .ok (.iadd, 1) := by decide +kernel
theorem dX1_readPart_204 : decode cX1_readPart 204 = .ok (.iaload, 1) := by decide +kernel
theorem dX1_readPart_205 : decode cX1_readPart 205 = .ok (.i2l, 1) := by decide +kernel
theorem dX1_readPart_206 : decode cX1_readPart 206 = .ok (.invokestatic 243, 3) := by decide +kernel
theorem dX1_readPart_209 : decode cX1_readPart 209 = .ok (.invokevirtual 247, 3) := by decide +kernel
theorem dX1_readPart_212 : decode cX1_readPart 212 = .ok (.goto 32, 3) := by decide +kernel
theorem dX1_readPart_215 : decode cX1_readPart 215 = .ok (.aload_n 0, 1) := by decide +kernel
theorem dX1_readPart_216 : decode cX1_readPart 216 = .ok (.iload_n 3, 1) := by decide +kernel
theorem dX1_readPart_217 : decode cX1_readPart 217 = .ok (.invokevirtual 269, 3) := by decide +kernel
theorem dX1_readPart_22 : decode cX1_readPart 22 = .ok (.iconst 1, 1) := by decide +kernel
theorem dX1_readPart_220 : decode cX1_readPart 220 = .ok (.goto 24, 3) := by decide +kernel
theorem dX1_readPart_223 : decode cX1_readPart 223 = .ok (.aload_n 0, 1) := by decide +kernel
theorem dX1_readPart_224 : decode cX1_readPart 224 = .ok (.iload_n 3, 1) := by decide +kernel
theorem dX1_readPart_225 : decode cX1_readPart 225 = .ok (.invokevirtual 272, 3) := by decide +kernel
theorem dX1_readPart_228 : decode cX1_readPart 228 = .ok (.goto 16, 3) := by decide +kernel
theorem dX1_readPart_23 : decode cX1_readPart 23 = .ok (.iadd, 1) := by decide +kernel
theorem dX1_readPart_231 : decode cX1_readPart 231 = .ok (.aload_n 0, 1) := by decide +kernel
theorem dX1_readPart_232 : decode cX1_readPart 232 = .ok (.iload_n 3, 1) := by decide +kernel
theorem dX1_readPart_233 : decode cX1_readPart 233 = .ok (.invokevirtual 275, 3) := by decide +kernel
theorem dX1_readPart_236 : decode cX1_readPart 236 = .ok (.goto 8, 3) := by decide +kernel
theorem dX1_readPart_239 : decode cX1_readPart 239 = .ok (.aload_n 0, 1) := by decide +kernel
theorem dX1_readPart_24 : decode cX1_readPart 24 = .ok (.putfield 215, 3) := by decide +kernel
theorem dX1_readPart_240 : decode cX1_readPart 240 = .ok (.iload_n 3, 1) := by decide +kernel
theorem dX1_readPart_241 : decode cX1_readPart 241 = .ok (.invokevirtual 278, 3) := by decide +kernel
theorem dX1_readPart_244 : decode cX1_readPart 244 = .ok (.return_, 1) := by decide +kernel
theorem dX1_readPart_27 : decode cX1_readPart 27 = .ok (.aload_n 0, 1) := by decide +kernel
theorem dX1_readPart_28 : decode cX1_readPart 28 = .ok (.getfield 39, 3) := by decide +kernel
theorem dX1_readPart_31 : decode cX1_readPart 31 = .ok (.getfield 239, 3) := by decide +kernel
theorem dX1_readPart_34 : decode cX1_readPart 34 = .ok (.iload_n 3, 1) := by decide +kernel
theorem dX1_readPart_35 : decode cX1_readPart 35 = .ok (.iaload, 1) := by decide +kernel
theorem dX1_readPart_36 : decode cX1_readPart 36 = .ok (.ldc 242, 2) := by decide +kernel
theorem dX1_readPart_38 : decode cX1_readPart 38 = .ok (.if_icmp .ge 12, 3) := by decide +kernel
theorem dX1_readPart_4 : decode cX1_readPart 4 = .ok (.iload_n 1, 1) := by decide +kernel
theorem dX1_readPart_41 : decode cX1_readPart 41 = .ok (.aload_n 0, 1) := by decide +kernel
theorem dX1_readPart_42 : decode cX1_readPart 42 = .ok (.getfield 215, 3) := by decide +kernel
theorem dX1_readPart_45 : decode cX1_readPart 45 = .ok (.bipush 120, 2) := by decide +kernel
theorem dX1_readPart_47 : decode cX1_readPart 47 = .ok (.if_icmp .le 12, 3) := by decide +kernel
theorem dX1_readPart_5 : decode cX1_readPart 5 = .ok (.invokevirtual 139, 3) := by decide +kernel
theorem dX1_readPart_50 : decode cX1_readPart 50 = .ok (.aload_n 0, 1) := by decide +kernel
theorem dX1_readPart_51 : decode cX1_readPart 51 = .ok (.aload_n 0, 1) := by decide +kernel
theorem dX1_readPart_52 : decode cX1_readPart 52 = .ok (.getfield 218, 3) := by decide +kernel
theorem dX1_readPart_55 : decode cX1_readPart 55 = .ok (.putfield 221, 3) := by decide +kernel
theorem dX1_readPart_58 : decode cX1_readPart 58 = .ok (.return_, 1) := by decide +kernel
theorem dX1_readPart_59 : decode cX1_readPart 59 = .ok (.iload_n 2, 1) := by decide +kernel
theorem dX1_readPart_60 : decode cX1_readPart 60 = .ok (.ifCond .lt 14, 3) := by decide +kernel
theorem dX1_readPart_63 : decode cX1_readPart 63 = .ok (.aload_n 0, 1) := by decide +kernel
theorem dX1_readPart_64 : decode cX1_readPart 64 = .ok (.bipush 9, 2) := by decide +kernel
theorem dX1_readPart_66 : decode cX1_readPart 66 = .ok (.iload_n 2, 1) := by decide +kernel
theorem dX1_readPart_67 : decode cX1_readPart 67 = .ok (.i2l, 1) := by decide +kernel
theorem dX1_readPart_68 : decode cX1_readPart 68 = .ok (.invokestatic 243, 3) := by decide +kernel
theorem dX1_readPart_71 : decode cX1_readPart 71 = .ok (.invokevirtual 247, 3) := by decide +kernel
theorem dX1_readPart_74 : decode cX1_readPart 74 = .ok (.aload_n 0, 1) := by decide +kernel
theorem dX1_readPart_75 : decode cX1_readPart 75 = .ok (.getfield 39, 3) := by decide +kernel
theorem dX1_readPart_78 : decode cX1_readPart 78 = .ok (.getfield 149, 3) := by decide +kernel
theorem dX1_readPart_8 : decode cX1_readPart 8 = .ok (.istore_n 3, 1) := by decide +kernel
theorem dX1_readPart_81 : decode cX1_readPart 81 = .ok (.iload_n 3, 1) := by decide +kernel
theorem dX1_readPart_82 : decode cX1_readPart 82 = .ok (.iaload, 1) := by decide +kernel
theorem dX1_readPart_83 : decode cX1_readPart 83 = .ok (.tableswitch 156 1 7 #[41, 49, 132, 74, 156, 148, 140], 41) := by decide +kernel
theorem dX1_readPart_9 : decode cX1_readPart 9 = .ok (.aload_n 0, 1) := by decide +kernel
noncomputable def k_X1_readPart_50 (s : t_S) : Option (t_S) :=
 t_let (t_setI s 856 10 (s.1 856 9)) (fun s1 =>
 some (s1))
set_option maxRecDepth 4000 in
set_option maxHeartbeats 1000000 in
theorem B_X1_readPart_50 {D : va_G} {cy : Nat → ClassId} {ad : Nat → Nat} {bs : Nat} {X : State → Heap → Prop} (s : t_S) (Q : t_S → Prop) (hk : t_hk (k_X1_readPart_50 s) Q) : mj_G D cy ad bs X cX1_readPart 5 yX1_readPart.cls none yX1_readPart.name 5 0 0 1065 (t_P (fun v s' => v = none ∧ Q (s'))) 50 [(0, .ref 856)] [] (t_m s) 1065 0 0 := by
  refine mj_aload_n dX1_readPart_50 0 rfl ?_
  refine mj_aload_n dX1_readPart_51 0 rfl ?_
  refine t_getI dX1_readPart_52 F_X1_218 qf_856_9 ?_
  refine t_putIK dX1_readPart_55 F_X1_221 qf_856_10 rfl (fun s1 ws1 => t_letE hk ws1 (fun hk => ?_))
  exact t_somK hk (fun hf => t_vret dX1_readPart_58 rfl ⟨rfl, hf⟩ (Nat.le_of_ble_eq_true rfl) (Nat.le_of_ble_eq_true rfl))
noncomputable def k_X1_readPart_148 (k0 : Int32) (s : t_S) : Option (t_S) :=
 (f_X1_putCell (f_X0_truth k0 s) s).bind (fun r2 =>
 some (r2))
set_option maxRecDepth 4000 in
set_option maxHeartbeats 1000000 in
theorem B_X1_readPart_148 {D : va_G} {cy : Nat → ClassId} {ad : Nat → Nat} {bs : Nat} {X : State → Heap → Prop} (k0 : Int32) (s : t_S) (Q : t_S → Prop) (hk : t_hk (k_X1_readPart_148 k0 s) Q) : mj_G D cy ad bs X cX1_readPart 5 yX1_readPart.cls none yX1_readPart.name 5 0 0 1065 (t_P (fun v s' => v = none ∧ Q (s'))) 148 [] [.int k0, .ref 856] (t_m s) 1065 0 0 := by
  refine t_callSlP dX1_readPart_148 M_X0_truth (C_X0_truth _ _) ML_X1_257 SM_X0_truth (As := [.int k0]) rfl rfl (Nat.le_of_ble_eq_true rfl) (Nat.le_of_ble_eq_true rfl) (Nat.le_of_ble_eq_true rfl) (Nat.le_of_ble_eq_true rfl) ?_
  refine t_bndK hk (fun r2 er2 hk => ?_)
  refine t_callVvE dX1_readPart_151 M_X1_putCell (C_X1_putCell _ _ _ er2) ML_X1_247 IM_X1_putCell SE_X1_putCell qc_856 rfl (As := [.long (f_X0_truth k0 s)]) rfl rfl (Nat.le_of_ble_eq_true rfl) (Nat.le_of_ble_eq_true rfl) (Nat.le_of_ble_eq_true rfl) (Nat.le_of_ble_eq_true rfl) ?_
  refine mj_goto 244 dX1_readPart_154 (by decide) ?_
  exact t_somK hk (fun hf => t_vret dX1_readPart_244 rfl ⟨rfl, hf⟩ (Nat.le_of_ble_eq_true rfl) (Nat.le_of_ble_eq_true rfl))
noncomputable def k_X1_readPart_74 (l3 : Int32) (s : t_S) : Option (t_S) :=
 if t_ix l3 3001 = true then
  if (s.1 317 (l3.toNatClampNeg)).toInt < 1 ∨ 7 < (s.1 317 (l3.toNatClampNeg)).toInt then ((f_X1_openRecord l3 s).bind (fun r2 =>
 some (r2)))
 else if (s.1 317 (l3.toNatClampNeg)).toInt = 1 then ((f_X1_readInt l3 s).bind (fun r3 =>
 some (r3)))
 else if (s.1 317 (l3.toNatClampNeg)).toInt = 2 then ((f_X1_take (1 : Int32) s).bind (fun r4 =>
 if (lg_cmp r4.1 (1 : Int64)) = (0 : Int32) then (k_X1_readPart_148 1 r4.2)
 else (k_X1_readPart_148 0 r4.2)))
 else if (s.1 317 (l3.toNatClampNeg)).toInt = 3 then ((f_X1_readText l3 s).bind (fun r5 =>
 some (r5)))
 else if (s.1 317 (l3.toNatClampNeg)).toInt = 4 then ((f_X1_takeUpTo (((s.1 321 (l3.toNatClampNeg)) - (1 : Int32)).toInt64) s).bind (fun r6 =>
 if (0 : Int32) ≤ (r6.2.1 856 10) then (some (r6.2))
 else (if t_ix ((r6.2.1 318 (l3.toNatClampNeg)) + r6.1.toInt32) 6002 = true then
  (f_X1_putCell (f_X8_plainCell (3 : Int32) ((r6.2.1 325 (((r6.2.1 318 (l3.toNatClampNeg)) + r6.1.toInt32).toNatClampNeg)).toInt64) r6.2) r6.2).bind (fun r9 =>
 some (r9))
else none)))
 else if (s.1 317 (l3.toNatClampNeg)).toInt = 5 then ((f_X1_openRecord l3 s).bind (fun r10 =>
 some (r10)))
 else if (s.1 317 (l3.toNatClampNeg)).toInt = 6 then ((f_X1_openChoice l3 s).bind (fun r11 =>
 some (r11)))
 else ((f_X1_openList l3 s).bind (fun r12 =>
 some (r12)))
else none
set_option maxRecDepth 4000 in
set_option maxHeartbeats 1000000 in
theorem B_X1_readPart_74 {D : va_G} {cy : Nat → ClassId} {ad : Nat → Nat} {bs : Nat} {X : State → Heap → Prop} (l3 : Int32) (s : t_S) (Q : t_S → Prop) (hk : t_hk (k_X1_readPart_74 l3 s) Q) : mj_G D cy ad bs X cX1_readPart 5 yX1_readPart.cls none yX1_readPart.name 5 0 0 1065 (t_P (fun v s' => v = none ∧ Q (s'))) 74 [(0, .ref 856), (3, .int l3)] [] (t_m s) 1065 0 0 := by
  refine mj_aload_n dX1_readPart_74 0 rfl ?_
  refine t_getR 316 dX1_readPart_75 F_X1_39 qr_856_1 ?_
  refine t_getR 317 dX1_readPart_78 F_X1_149 qr_316_0 ?_
  refine mj_iload_n dX1_readPart_81 1 rfl ?_
  refine t_chkK hk (fun c0 hk => ?_)
  refine t_iald dX1_readPart_82 qa_317 (t_ixv c0) ?_
  by_cases hout : (s.1 317 (l3.toNatClampNeg)).toInt < 1 ∨ 7 < (s.1 317 (l3.toNatClampNeg)).toInt
  · replace hk := t_pos hk hout
    refine mj_tableOut 239 dX1_readPart_83 hout (by decide) ?_
    refine mj_aload_n dX1_readPart_239 0 rfl ?_
    refine mj_iload_n dX1_readPart_240 1 rfl ?_
    refine t_bndK hk (fun r2 er2 hk => ?_)
    refine t_callVvE dX1_readPart_241 M_X1_openRecord (C_X1_openRecord _ _ _ er2) ML_X1_278 IM_X1_openRecord SE_X1_openRecord qc_856 rfl (As := [.int l3]) rfl rfl (Nat.le_of_ble_eq_true rfl) (Nat.le_of_ble_eq_true rfl) (Nat.le_of_ble_eq_true rfl) (Nat.le_of_ble_eq_true rfl) ?_
    exact t_somK hk (fun hf => t_vret dX1_readPart_244 rfl ⟨rfl, hf⟩ (Nat.le_of_ble_eq_true rfl) (Nat.le_of_ble_eq_true rfl))
  · replace hk := t_neg hk hout
    have hh1 : ¬ (s.1 317 (l3.toNatClampNeg)).toInt < 1 := fun z => hout (Or.inl z)
    have hh2 : ¬ (7 : Int) < (s.1 317 (l3.toNatClampNeg)).toInt := fun z => hout (Or.inr z)
    by_cases h0 : (s.1 317 (l3.toNatClampNeg)).toInt = 1
    · replace hk := t_pos hk h0
      refine mj_tableIn 124 dX1_readPart_83 hh1 hh2 (by rw [h0]; rfl) (by decide) ?_
      refine mj_aload_n dX1_readPart_124 0 rfl ?_
      refine mj_iload_n dX1_readPart_125 1 rfl ?_
      refine t_bndK hk (fun r3 er3 hk => ?_)
      refine t_callVvE dX1_readPart_126 M_X1_readInt (C_X1_readInt _ _ _ er3) ML_X1_250 IM_X1_readInt SE_X1_readInt qc_856 rfl (As := [.int l3]) rfl rfl (Nat.le_of_ble_eq_true rfl) (Nat.le_of_ble_eq_true rfl) (Nat.le_of_ble_eq_true rfl) (Nat.le_of_ble_eq_true rfl) ?_
      refine mj_goto 244 dX1_readPart_129 (by decide) ?_
      exact t_somK hk (fun hf => t_vret dX1_readPart_244 rfl ⟨rfl, hf⟩ (Nat.le_of_ble_eq_true rfl) (Nat.le_of_ble_eq_true rfl))
    replace hk := t_neg hk h0
    by_cases h1 : (s.1 317 (l3.toNatClampNeg)).toInt = 2
    · replace hk := t_pos hk h1
      refine mj_tableIn 132 dX1_readPart_83 hh1 hh2 (by rw [h1]; rfl) (by decide) ?_
      refine mj_aload_n dX1_readPart_132 0 rfl ?_
      refine mj_aload_n dX1_readPart_133 0 rfl ?_
      refine mj_iconst (v := 1) dX1_readPart_134 (by decide) ?_
      refine t_bndK hk (fun r4 er4 hk => ?_)
      refine t_callVlE dX1_readPart_135 M_X1_take (C_X1_take _ _ _ er4) ML_X1_253 IM_X1_take SE_X1_take qc_856 rfl (As := [.int 1]) rfl rfl (Nat.le_of_ble_eq_true rfl) (Nat.le_of_ble_eq_true rfl) (Nat.le_of_ble_eq_true rfl) (Nat.le_of_ble_eq_true rfl) ?_
      refine mj_lconst (v := 1) dX1_readPart_138 (by decide) ?_
      refine mj_lcmp dX1_readPart_139 ?_
      refine mj_if_ne 147 dX1_readPart_140 (by decide) (fun z => t_negK hk z (fun hk => ?_)) (fun z => t_posK hk z (fun hk => ?_))
      · refine mj_iconst (v := 0) dX1_readPart_147 (by decide) ?_
        refine mj_sublv [] [] rfl ?_
        exact B_X1_readPart_148 _ _ _ hk
      · refine mj_iconst (v := 1) dX1_readPart_143 (by decide) ?_
        refine mj_goto 148 dX1_readPart_144 (by decide) ?_
        refine mj_sublv [] [] rfl ?_
        exact B_X1_readPart_148 _ _ _ hk
    replace hk := t_neg hk h1
    by_cases h2 : (s.1 317 (l3.toNatClampNeg)).toInt = 3
    · replace hk := t_pos hk h2
      refine mj_tableIn 215 dX1_readPart_83 hh1 hh2 (by rw [h2]; rfl) (by decide) ?_
      refine mj_aload_n dX1_readPart_215 0 rfl ?_
      refine mj_iload_n dX1_readPart_216 1 rfl ?_
      refine t_bndK hk (fun r5 er5 hk => ?_)
      refine t_callVvE dX1_readPart_217 M_X1_readText (C_X1_readText _ _ _ er5) ML_X1_269 IM_X1_readText SE_X1_readText qc_856 rfl (As := [.int l3]) rfl rfl (Nat.le_of_ble_eq_true rfl) (Nat.le_of_ble_eq_true rfl) (Nat.le_of_ble_eq_true rfl) (Nat.le_of_ble_eq_true rfl) ?_
      refine mj_goto 244 dX1_readPart_220 (by decide) ?_
      exact t_somK hk (fun hf => t_vret dX1_readPart_244 rfl ⟨rfl, hf⟩ (Nat.le_of_ble_eq_true rfl) (Nat.le_of_ble_eq_true rfl))
    replace hk := t_neg hk h2
    by_cases h3 : (s.1 317 (l3.toNatClampNeg)).toInt = 4
    · replace hk := t_pos hk h3
      refine mj_tableIn 157 dX1_readPart_83 hh1 hh2 (by rw [h3]; rfl) (by decide) ?_
      refine mj_aload_n dX1_readPart_157 0 rfl ?_
      refine mj_aload_n dX1_readPart_158 0 rfl ?_
      refine t_getR 316 dX1_readPart_159 F_X1_39 qr_856_1 ?_
      refine t_getR 321 dX1_readPart_162 F_X1_163 qr_316_4 ?_
      refine mj_iload_n dX1_readPart_165 1 rfl ?_
      refine t_iald dX1_readPart_166 qa_321 (t_ixv c0) ?_
      refine mj_iconst (v := 1) dX1_readPart_167 (by decide) ?_
      refine mj_isub dX1_readPart_168 ?_
      refine mj_i2l (v := ((s.1 321 (l3.toNatClampNeg)) - (1 : Int32)).toInt64) dX1_readPart_169 rfl ?_
      refine t_bndK hk (fun r6 er6 hk => ?_)
      refine t_callVlE dX1_readPart_170 M_X1_takeUpTo (C_X1_takeUpTo _ _ _ er6) ML_X1_263 IM_X1_takeUpTo SE_X1_takeUpTo qc_856 rfl (As := [.long (((s.1 321 (l3.toNatClampNeg)) - (1 : Int32)).toInt64)]) rfl rfl (Nat.le_of_ble_eq_true rfl) (Nat.le_of_ble_eq_true rfl) (Nat.le_of_ble_eq_true rfl) (Nat.le_of_ble_eq_true rfl) ?_
      refine mj_l2i (v := r6.1.toInt32) dX1_readPart_173 rfl ?_
      refine mj_istore (lv2 := [(4, .int r6.1.toInt32), (0, .ref 856), (3, .int l3)]) dX1_readPart_174 (by decide) rfl ?_
      refine mj_aload_n dX1_readPart_176 1 rfl ?_
      refine t_getI dX1_readPart_177 F_X1_221 qf_856_10 ?_
      refine mj_if_ge 244 dX1_readPart_180 (by decide) (fun z => t_posK hk z (fun hk => ?_)) (fun z => t_negK hk z (fun hk => ?_))
      · exact t_somK hk (fun hf => t_vret dX1_readPart_244 rfl ⟨rfl, hf⟩ (Nat.le_of_ble_eq_true rfl) (Nat.le_of_ble_eq_true rfl))
      · refine mj_aload_n dX1_readPart_183 1 rfl ?_
        refine mj_iconst (v := 3) dX1_readPart_184 (by decide) ?_
        refine mj_aload_n dX1_readPart_185 1 rfl ?_
        refine t_getR 316 dX1_readPart_186 F_X1_39 qr_856_1 ?_
        refine t_getR 325 dX1_readPart_189 F_X1_266 qr_316_9 ?_
        refine mj_aload_n dX1_readPart_192 1 rfl ?_
        refine t_getR 316 dX1_readPart_193 F_X1_39 qr_856_1 ?_
        refine t_getR 318 dX1_readPart_196 F_X1_181 qr_316_1 ?_
        refine mj_iload_n dX1_readPart_199 2 rfl ?_
        refine t_iald dX1_readPart_200 qa_318 (t_ixv c0) ?_
        refine mj_iload dX1_readPart_201 0 rfl ?_
        refine mj_iadd dX1_readPart_203 ?_
        refine t_chkK hk (fun c6 hk => ?_)
        refine t_iald dX1_readPart_204 qa_325 (t_ixv c6) ?_
        refine mj_i2l (v := (r6.2.1 325 (((r6.2.1 318 (l3.toNatClampNeg)) + r6.1.toInt32).toNatClampNeg)).toInt64) dX1_readPart_205 rfl ?_
        refine t_callSlP dX1_readPart_206 M_X8_plainCell (C_X8_plainCell _ _ _) ML_X1_243 SM_X8_plainCell (As := [.int 3, .long ((r6.2.1 325 (((r6.2.1 318 (l3.toNatClampNeg)) + r6.1.toInt32).toNatClampNeg)).toInt64)]) rfl rfl (Nat.le_of_ble_eq_true rfl) (Nat.le_of_ble_eq_true rfl) (Nat.le_of_ble_eq_true rfl) (Nat.le_of_ble_eq_true rfl) ?_
        refine t_bndK hk (fun r9 er9 hk => ?_)
        refine t_callVvE dX1_readPart_209 M_X1_putCell (C_X1_putCell _ _ _ er9) ML_X1_247 IM_X1_putCell SE_X1_putCell qc_856 rfl (As := [.long (f_X8_plainCell (3 : Int32) ((r6.2.1 325 (((r6.2.1 318 (l3.toNatClampNeg)) + r6.1.toInt32).toNatClampNeg)).toInt64) r6.2)]) rfl rfl (Nat.le_of_ble_eq_true rfl) (Nat.le_of_ble_eq_true rfl) (Nat.le_of_ble_eq_true rfl) (Nat.le_of_ble_eq_true rfl) ?_
        refine mj_goto 244 dX1_readPart_212 (by decide) ?_
        exact t_somK hk (fun hf => t_vret dX1_readPart_244 rfl ⟨rfl, hf⟩ (Nat.le_of_ble_eq_true rfl) (Nat.le_of_ble_eq_true rfl))
    replace hk := t_neg hk h3
    by_cases h4 : (s.1 317 (l3.toNatClampNeg)).toInt = 5
    · replace hk := t_pos hk h4
      refine mj_tableIn 239 dX1_readPart_83 hh1 hh2 (by rw [h4]; rfl) (by decide) ?_
      refine mj_aload_n dX1_readPart_239 0 rfl ?_
      refine mj_iload_n dX1_readPart_240 1 rfl ?_
      refine t_bndK hk (fun r10 er10 hk => ?_)
      refine t_callVvE dX1_readPart_241 M_X1_openRecord (C_X1_openRecord _ _ _ er10) ML_X1_278 IM_X1_openRecord SE_X1_openRecord qc_856 rfl (As := [.int l3]) rfl rfl (Nat.le_of_ble_eq_true rfl) (Nat.le_of_ble_eq_true rfl) (Nat.le_of_ble_eq_true rfl) (Nat.le_of_ble_eq_true rfl) ?_
      exact t_somK hk (fun hf => t_vret dX1_readPart_244 rfl ⟨rfl, hf⟩ (Nat.le_of_ble_eq_true rfl) (Nat.le_of_ble_eq_true rfl))
    replace hk := t_neg hk h4
    by_cases h5 : (s.1 317 (l3.toNatClampNeg)).toInt = 6
    · replace hk := t_pos hk h5
      refine mj_tableIn 231 dX1_readPart_83 hh1 hh2 (by rw [h5]; rfl) (by decide) ?_
      refine mj_aload_n dX1_readPart_231 0 rfl ?_
      refine mj_iload_n dX1_readPart_232 1 rfl ?_
      refine t_bndK hk (fun r11 er11 hk => ?_)
      refine t_callVvE dX1_readPart_233 M_X1_openChoice (C_X1_openChoice _ _ _ er11) ML_X1_275 IM_X1_openChoice SE_X1_openChoice qc_856 rfl (As := [.int l3]) rfl rfl (Nat.le_of_ble_eq_true rfl) (Nat.le_of_ble_eq_true rfl) (Nat.le_of_ble_eq_true rfl) (Nat.le_of_ble_eq_true rfl) ?_
      refine mj_goto 244 dX1_readPart_236 (by decide) ?_
      exact t_somK hk (fun hf => t_vret dX1_readPart_244 rfl ⟨rfl, hf⟩ (Nat.le_of_ble_eq_true rfl) (Nat.le_of_ble_eq_true rfl))
    replace hk := t_neg hk h5
    have h6 : (s.1 317 (l3.toNatClampNeg)).toInt = 7 := by omega
    refine mj_tableIn 223 dX1_readPart_83 hh1 hh2 (by rw [h6]; rfl) (by decide) ?_
    refine mj_aload_n dX1_readPart_223 0 rfl ?_
    refine mj_iload_n dX1_readPart_224 1 rfl ?_
    refine t_bndK hk (fun r12 er12 hk => ?_)
    refine t_callVvE dX1_readPart_225 M_X1_openList (C_X1_openList _ _ _ er12) ML_X1_272 IM_X1_openList SE_X1_openList qc_856 rfl (As := [.int l3]) rfl rfl (Nat.le_of_ble_eq_true rfl) (Nat.le_of_ble_eq_true rfl) (Nat.le_of_ble_eq_true rfl) (Nat.le_of_ble_eq_true rfl) ?_
    refine mj_goto 244 dX1_readPart_228 (by decide) ?_
    exact t_somK hk (fun hf => t_vret dX1_readPart_244 rfl ⟨rfl, hf⟩ (Nat.le_of_ble_eq_true rfl) (Nat.le_of_ble_eq_true rfl))
noncomputable def k_X1_readPart_23 (l2 : Int32) (l3 : Int32) (k0 : Int32) (k1 : Int32) (s : t_S) : Option (t_S) :=
 t_let (t_setI s 856 8 (k1 + k0)) (fun s1 =>
 if t_ix l3 3001 = true then
  if (2000000 : Int32) ≤ (s1.1 324 (l3.toNatClampNeg)) then (k_X1_readPart_50 s1)
 else (if (s1.1 856 8) ≤ (120 : Int32) then (if l2 < (0 : Int32) then (k_X1_readPart_74 l3 s1)
 else ((f_X1_putCell (f_X8_plainCell (9 : Int32) l2.toInt64 s1) s1).bind (fun r3 =>
 k_X1_readPart_74 l3 r3)))
 else (k_X1_readPart_50 s1))
else none)
set_option maxRecDepth 4000 in
set_option maxHeartbeats 1000000 in
theorem B_X1_readPart_23 {D : va_G} {cy : Nat → ClassId} {ad : Nat → Nat} {bs : Nat} {X : State → Heap → Prop} (l2 : Int32) (l3 : Int32) (k0 : Int32) (k1 : Int32) (s : t_S) (Q : t_S → Prop) (hk : t_hk (k_X1_readPart_23 l2 l3 k0 k1 s) Q) : mj_G D cy ad bs X cX1_readPart 5 yX1_readPart.cls none yX1_readPart.name 5 0 0 1065 (t_P (fun v s' => v = none ∧ Q (s'))) 23 [(0, .ref 856), (2, .int l2), (3, .int l3)] [.int k0, .int k1, .ref 856] (t_m s) 1065 0 0 := by
  refine mj_iadd dX1_readPart_23 ?_
  refine t_putIK dX1_readPart_24 F_X1_215 qf_856_8 rfl (fun s1 ws1 => t_letE hk ws1 (fun hk => ?_))
  refine mj_aload_n dX1_readPart_27 0 rfl ?_
  refine t_getR 316 dX1_readPart_28 F_X1_39 qr_856_1 ?_
  refine t_getR 324 dX1_readPart_31 F_X1_239 qr_316_7 ?_
  refine mj_iload_n dX1_readPart_34 2 rfl ?_
  refine t_chkK hk (fun c0 hk => ?_)
  refine t_iald dX1_readPart_35 qa_324 (t_ixv c0) ?_
  refine mj_ldc dX1_readPart_36 K_X1_242 ?_
  refine mj_icmp_ge 50 dX1_readPart_38 (by decide) (fun z => t_posK hk z (fun hk => ?_)) (fun z => t_negK hk z (fun hk => ?_))
  · refine mj_sublv [(0, .ref 856)] [0] rfl ?_
    exact B_X1_readPart_50 _ _ hk
  · refine mj_aload_n dX1_readPart_41 0 rfl ?_
    refine t_getI dX1_readPart_42 F_X1_215 qf_856_8 ?_
    refine mj_bipush (v := 120) dX1_readPart_45 (by decide) ?_
    refine mj_icmp_le 59 dX1_readPart_47 (by decide) (fun z => t_posK hk z (fun hk => ?_)) (fun z => t_negK hk z (fun hk => ?_))
    · refine mj_iload_n dX1_readPart_59 1 rfl ?_
      refine mj_if_lt 74 dX1_readPart_60 (by decide) (fun z => t_posK hk z (fun hk => ?_)) (fun z => t_negK hk z (fun hk => ?_))
      · refine mj_sublv [(0, .ref 856), (3, .int l3)] [0, 2] rfl ?_
        exact B_X1_readPart_74 _ _ _ hk
      · refine mj_aload_n dX1_readPart_63 0 rfl ?_
        refine mj_bipush (v := 9) dX1_readPart_64 (by decide) ?_
        refine mj_iload_n dX1_readPart_66 1 rfl ?_
        refine mj_i2l (v := l2.toInt64) dX1_readPart_67 rfl ?_
        refine t_callSlP dX1_readPart_68 M_X8_plainCell (C_X8_plainCell _ _ _) ML_X1_243 SM_X8_plainCell (As := [.int 9, .long l2.toInt64]) rfl rfl (Nat.le_of_ble_eq_true rfl) (Nat.le_of_ble_eq_true rfl) (Nat.le_of_ble_eq_true rfl) (Nat.le_of_ble_eq_true rfl) ?_
        refine t_bndK hk (fun r3 er3 hk => ?_)
        refine t_callVvE dX1_readPart_71 M_X1_putCell (C_X1_putCell _ _ _ er3) ML_X1_247 IM_X1_putCell SE_X1_putCell qc_856 rfl (As := [.long (f_X8_plainCell (9 : Int32) l2.toInt64 s1)]) rfl rfl (Nat.le_of_ble_eq_true rfl) (Nat.le_of_ble_eq_true rfl) (Nat.le_of_ble_eq_true rfl) (Nat.le_of_ble_eq_true rfl) ?_
        refine mj_sublv [(0, .ref 856), (3, .int l3)] [0, 2] rfl ?_
        exact B_X1_readPart_74 _ _ _ hk
    · refine mj_sublv [(0, .ref 856)] [0] rfl ?_
      exact B_X1_readPart_50 _ _ hk
noncomputable def f_X1_readPart (x1 : Int32) (x2 : Int32) (s : t_S) : Option (t_S) :=
 (f_X11_resolve x1 s).bind (fun r1 =>
 if x2 < (0 : Int32) then (k_X1_readPart_23 x2 r1 1 (s.1 856 8) s)
 else (k_X1_readPart_23 x2 r1 2 (s.1 856 8) s))
set_option maxRecDepth 4000 in
set_option maxHeartbeats 1000000 in
theorem C_X1_readPart (x1 : Int32) (x2 : Int32) (s : t_S) (r : t_S) (hr : f_X1_readPart x1 x2 s = some r) : t_C yX1_readPart cX1_readPart 5 none 5 [.ref 856, .int x1, .int x2] s (fun v s' => v = none ∧ s' = r) := by
  refine t_C.imp (P := fun v s' => v = none ∧ (fun q => q = r) (s')) (t_C.of (by decide +kernel) (Nat.le_of_ble_eq_true rfl) ?_) (fun v s' hp => hp)
  intro D cy ad bs X
  have hk : t_hk (f_X1_readPart x1 x2 s) (fun q => q = r) := ⟨r, hr, rfl⟩
  show mj_G D cy ad bs X cX1_readPart 5 yX1_readPart.cls none yX1_readPart.name 5 0 0 1065 (t_P (fun v s' => v = none ∧ (fun q => q = r) (s'))) 0 [(0, .ref 856), (1, .int x1), (2, .int x2)] [] (t_m s) 1065 0 0
  refine mj_aload_n dX1_readPart_0 0 rfl ?_
  refine t_getR 316 dX1_readPart_1 F_X1_39 qr_856_1 ?_
  refine mj_iload_n dX1_readPart_4 1 rfl ?_
  refine t_bndK hk (fun r1 er1 hk => ?_)
  refine t_callViP dX1_readPart_5 M_X11_resolve (C_X11_resolve _ _ _ er1) ML_X1_139 IM_X11_resolve SE_X11_resolve qc_316 rfl (As := [.int x1]) rfl rfl (Nat.le_of_ble_eq_true rfl) (Nat.le_of_ble_eq_true rfl) (Nat.le_of_ble_eq_true rfl) (Nat.le_of_ble_eq_true rfl) ?_
  refine mj_istore_n 3 (lv2 := [(3, .int r1), (0, .ref 856), (1, .int x1), (2, .int x2)]) dX1_readPart_8 rfl (by decide) rfl ?_
  refine mj_aload_n dX1_readPart_9 1 rfl ?_
  refine mj_dup dX1_readPart_10 rfl ?_
  refine t_getI dX1_readPart_11 F_X1_215 qf_856_8 ?_
  refine mj_iload_n dX1_readPart_14 3 rfl ?_
  refine mj_if_lt 22 dX1_readPart_15 (by decide) (fun z => t_posK hk z (fun hk => ?_)) (fun z => t_negK hk z (fun hk => ?_))
  · refine mj_iconst (v := 1) dX1_readPart_22 (by decide) ?_
    refine mj_sublv [(0, .ref 856), (2, .int x2), (3, .int r1)] [1, 3, 0] rfl ?_
    exact B_X1_readPart_23 _ _ _ _ _ _ hk
  · refine mj_iconst (v := 2) dX1_readPart_18 (by decide) ?_
    refine mj_goto 23 dX1_readPart_19 (by decide) ?_
    refine mj_sublv [(0, .ref 856), (2, .int x2), (3, .int r1)] [1, 3, 0] rfl ?_
    exact B_X1_readPart_23 _ _ _ _ _ _ hk

