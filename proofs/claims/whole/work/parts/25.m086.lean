/-! Methods as functions, 86: X13_readInt, X13_readList, X13_readRecord, X13_weigh -/
theorem qf_950_128 : t_okf 950 13 128 1 = true := by decide +kernel
theorem dX13_readInt_0 : decode cX13_readInt 0 = .ok (.lconst 0, 1) := by decide +kernel
theorem dX13_readInt_1 : decode cX13_readInt 1 = .ok (.lstore_n 3, 1) := by decide +kernel
theorem dX13_readInt_100 : decode cX13_readInt 100 = .ok (.lshl, 1) := by decide +kernel
theorem dX13_readInt_101 : decode cX13_readInt 101 = .ok (.bipush 64, 2) := by decide +kernel
theorem dX13_readInt_103 : decode cX13_readInt 103 = .ok (.iload 7, 2) := by decide +kernel
theorem dX13_readInt_105 : decode cX13_readInt 105 = .ok (.isub, 1) := by decide +kernel
theorem dX13_readInt_106 : decode cX13_readInt 106 = .ok (.lshr, 1) := by decide +kernel
theorem dX13_readInt_107 : decode cX13_readInt 107 = .ok (.lstore_n 3, 1) := by decide +kernel
theorem dX13_readInt_108 : decode cX13_readInt 108 = .ok (.aload_n 0, 1) := by decide +kernel
theorem dX13_readInt_109 : decode cX13_readInt 109 = .ok (.getfield 1155, 3) := by decide +kernel
theorem dX13_readInt_11 : decode cX13_readInt 11 = .ok (.aload_n 0, 1) := by decide +kernel
theorem dX13_readInt_112 : decode cX13_readInt 112 = .ok (.iconst (-1), 1) := by decide +kernel
theorem dX13_readInt_113 : decode cX13_readInt 113 = .ok (.if_icmp .ne 32, 3) := by decide +kernel
theorem dX13_readInt_116 : decode cX13_readInt 116 = .ok (.lload_n 3, 1) := by decide +kernel
theorem dX13_readInt_117 : decode cX13_readInt 117 = .ok (.invokestatic 1142, 3) := by decide +kernel
theorem dX13_readInt_12 : decode cX13_readInt 12 = .ok (.iload_n 1, 1) := by decide +kernel
theorem dX13_readInt_120 : decode cX13_readInt 120 = .ok (.i2l, 1) := by decide +kernel
theorem dX13_readInt_121 : decode cX13_readInt 121 = .ok (.lload 5, 2) := by decide +kernel
theorem dX13_readInt_123 : decode cX13_readInt 123 = .ok (.lcmp, 1) := by decide +kernel
theorem dX13_readInt_124 : decode cX13_readInt 124 = .ok (.ifCond .ne 16, 3) := by decide +kernel
theorem dX13_readInt_127 : decode cX13_readInt 127 = .ok (.lload_n 3, 1) := by decide +kernel
theorem dX13_readInt_128 : decode cX13_readInt 128 = .ok (.ldc2_w 522, 3) := by decide +kernel
theorem dX13_readInt_13 : decode cX13_readInt 13 = .ok (.invokevirtual 1129, 3) := by decide +kernel
theorem dX13_readInt_131 : decode cX13_readInt 131 = .ok (.ldc2_w 864, 3) := by decide +kernel
theorem dX13_readInt_134 : decode cX13_readInt 134 = .ok (.invokestatic 371, 3) := by decide +kernel
theorem dX13_readInt_137 : decode cX13_readInt 137 = .ok (.ifCond .ne 8, 3) := by decide +kernel
theorem dX13_readInt_140 : decode cX13_readInt 140 = .ok (.aload_n 0, 1) := by decide +kernel
theorem dX13_readInt_141 : decode cX13_readInt 141 = .ok (.iload_n 2, 1) := by decide +kernel
theorem dX13_readInt_142 : decode cX13_readInt 142 = .ok (.invokevirtual 1161, 3) := by decide +kernel
theorem dX13_readInt_145 : decode cX13_readInt 145 = .ok (.aload_n 0, 1) := by decide +kernel
theorem dX13_readInt_146 : decode cX13_readInt 146 = .ok (.getfield 1155, 3) := by decide +kernel
theorem dX13_readInt_149 : decode cX13_readInt 149 = .ok (.iconst (-1), 1) := by decide +kernel
theorem dX13_readInt_150 : decode cX13_readInt 150 = .ok (.if_icmp .ne 17, 3) := by decide +kernel
theorem dX13_readInt_153 : decode cX13_readInt 153 = .ok (.aload_n 0, 1) := by decide +kernel
theorem dX13_readInt_154 : decode cX13_readInt 154 = .ok (.iload_n 1, 1) := by decide +kernel
theorem dX13_readInt_155 : decode cX13_readInt 155 = .ok (.lload_n 3, 1) := by decide +kernel
theorem dX13_readInt_156 : decode cX13_readInt 156 = .ok (.invokevirtual 1039, 3) := by decide +kernel
theorem dX13_readInt_159 : decode cX13_readInt 159 = .ok (.ifCond .ne 8, 3) := by decide +kernel
theorem dX13_readInt_16 : decode cX13_readInt 16 = .ok (.lstore 5, 2) := by decide +kernel
theorem dX13_readInt_162 : decode cX13_readInt 162 = .ok (.aload_n 0, 1) := by decide +kernel
theorem dX13_readInt_163 : decode cX13_readInt 163 = .ok (.iload_n 2, 1) := by decide +kernel
theorem dX13_readInt_164 : decode cX13_readInt 164 = .ok (.invokevirtual 1161, 3) := by decide +kernel
theorem dX13_readInt_167 : decode cX13_readInt 167 = .ok (.aload_n 0, 1) := by decide +kernel
theorem dX13_readInt_168 : decode cX13_readInt 168 = .ok (.lconst 0, 1) := by decide +kernel
theorem dX13_readInt_169 : decode cX13_readInt 169 = .ok (.invokevirtual 1192, 3) := by decide +kernel
theorem dX13_readInt_172 : decode cX13_readInt 172 = .ok (.aload_n 0, 1) := by decide +kernel
theorem dX13_readInt_173 : decode cX13_readInt 173 = .ok (.lload_n 3, 1) := by decide +kernel
theorem dX13_readInt_174 : decode cX13_readInt 174 = .ok (.invokevirtual 1192, 3) := by decide +kernel
theorem dX13_readInt_177 : decode cX13_readInt 177 = .ok (.return_, 1) := by decide +kernel
theorem dX13_readInt_18 : decode cX13_readInt 18 = .ok (.lload 5, 2) := by decide +kernel
theorem dX13_readInt_2 : decode cX13_readInt 2 = .ok (.aload_n 0, 1) := by decide +kernel
theorem dX13_readInt_20 : decode cX13_readInt 20 = .ok (.aload_n 0, 1) := by decide +kernel
theorem dX13_readInt_21 : decode cX13_readInt 21 = .ok (.aload_n 0, 1) := by decide +kernel
theorem dX13_readInt_22 : decode cX13_readInt 22 = .ok (.iload_n 1, 1) := by decide +kernel
theorem dX13_readInt_23 : decode cX13_readInt 23 = .ok (.invokevirtual 1132, 3) := by decide +kernel
theorem dX13_readInt_26 : decode cX13_readInt 26 = .ok (.lload 5, 2) := by decide +kernel
theorem dX13_readInt_28 : decode cX13_readInt 28 = .ok (.lsub, 1) := by decide +kernel
theorem dX13_readInt_29 : decode cX13_readInt 29 = .ok (.invokestatic 1135, 3) := by decide +kernel
theorem dX13_readInt_3 : decode cX13_readInt 3 = .ok (.getfield 39, 3) := by decide +kernel
theorem dX13_readInt_32 : decode cX13_readInt 32 = .ok (.invokevirtual 1195, 3) := by decide +kernel
theorem dX13_readInt_35 : decode cX13_readInt 35 = .ok (.ladd, 1) := by decide +kernel
theorem dX13_readInt_36 : decode cX13_readInt 36 = .ok (.lstore_n 3, 1) := by decide +kernel
theorem dX13_readInt_37 : decode cX13_readInt 37 = .ok (.goto 108, 3) := by decide +kernel
theorem dX13_readInt_40 : decode cX13_readInt 40 = .ok (.aload_n 0, 1) := by decide +kernel
theorem dX13_readInt_41 : decode cX13_readInt 41 = .ok (.bipush 8, 2) := by decide +kernel
theorem dX13_readInt_43 : decode cX13_readInt 43 = .ok (.invokevirtual 1195, 3) := by decide +kernel
theorem dX13_readInt_46 : decode cX13_readInt 46 = .ok (.lstore 5, 2) := by decide +kernel
theorem dX13_readInt_48 : decode cX13_readInt 48 = .ok (.aload_n 0, 1) := by decide +kernel
theorem dX13_readInt_49 : decode cX13_readInt 49 = .ok (.getfield 1155, 3) := by decide +kernel
theorem dX13_readInt_52 : decode cX13_readInt 52 = .ok (.iconst (-1), 1) := by decide +kernel
theorem dX13_readInt_53 : decode cX13_readInt 53 = .ok (.if_icmp .ne 20, 3) := by decide +kernel
theorem dX13_readInt_56 : decode cX13_readInt 56 = .ok (.lload 5, 2) := by decide +kernel
theorem dX13_readInt_58 : decode cX13_readInt 58 = .ok (.lconst 1, 1) := by decide +kernel
theorem dX13_readInt_59 : decode cX13_readInt 59 = .ok (.ldc2_w 697, 3) := by decide +kernel
theorem dX13_readInt_6 : decode cX13_readInt 6 = .ok (.iload_n 1, 1) := by decide +kernel
theorem dX13_readInt_62 : decode cX13_readInt 62 = .ok (.invokestatic 371, 3) := by decide +kernel
theorem dX13_readInt_65 : decode cX13_readInt 65 = .ok (.ifCond .ne 8, 3) := by decide +kernel
theorem dX13_readInt_68 : decode cX13_readInt 68 = .ok (.aload_n 0, 1) := by decide +kernel
theorem dX13_readInt_69 : decode cX13_readInt 69 = .ok (.iload_n 2, 1) := by decide +kernel
theorem dX13_readInt_7 : decode cX13_readInt 7 = .ok (.iaload, 1) := by decide +kernel
theorem dX13_readInt_70 : decode cX13_readInt 70 = .ok (.invokevirtual 1161, 3) := by decide +kernel
theorem dX13_readInt_73 : decode cX13_readInt 73 = .ok (.aload_n 0, 1) := by decide +kernel
theorem dX13_readInt_74 : decode cX13_readInt 74 = .ok (.getfield 1155, 3) := by decide +kernel
theorem dX13_readInt_77 : decode cX13_readInt 77 = .ok (.iconst (-1), 1) := by decide +kernel
theorem dX13_readInt_78 : decode cX13_readInt 78 = .ok (.if_icmp .ne 67, 3) := by decide +kernel
theorem dX13_readInt_8 : decode cX13_readInt 8 = .ok (.ifCond .lt 32, 3) := by decide +kernel
theorem dX13_readInt_81 : decode cX13_readInt 81 = .ok (.bipush 8, 2) := by decide +kernel
theorem dX13_readInt_83 : decode cX13_readInt 83 = .ok (.lload 5, 2) := by decide +kernel
theorem dX13_readInt_85 : decode cX13_readInt 85 = .ok (.l2i, 1) := by decide +kernel
theorem dX13_readInt_86 : decode cX13_readInt 86 = .ok (.imul, 1) := by decide +kernel
theorem dX13_readInt_87 : decode cX13_readInt 87 = .ok (.istore 7, 2) := by decide +kernel
theorem dX13_readInt_89 : decode cX13_readInt 89 = .ok (.aload_n 0, 1) := by decide +kernel
theorem dX13_readInt_90 : decode cX13_readInt 90 = .ok (.iload 7, 2) := by decide +kernel
theorem dX13_readInt_92 : decode cX13_readInt 92 = .ok (.invokevirtual 1195, 3) := by decide +kernel
theorem dX13_readInt_95 : decode cX13_readInt 95 = .ok (.bipush 64, 2) := by decide +kernel
theorem dX13_readInt_97 : decode cX13_readInt 97 = .ok (.iload 7, 2) := by decide +kernel
theorem dX13_readInt_99 : decode cX13_readInt 99 = .ok (.isub, 1) := by decide +kernel
noncomputable def k_X13_readInt_167 (l3 : Int64) (s : t_S) : Option (t_S) :=
 (f_X13_put (0 : Int64) s).bind (fun r1 =>
 (f_X13_put l3 r1).bind (fun r2 =>
 some (r2)))
set_option maxRecDepth 4000 in
set_option maxHeartbeats 1000000 in
theorem B_X13_readInt_167 {D : va_G} {cy : Nat → ClassId} {ad : Nat → Nat} {bs : Nat} {X : State → Heap → Prop} (l3 : Int64) (s : t_S) (Q : t_S → Prop) (hk : t_hk (k_X13_readInt_167 l3 s) Q) : mj_G D cy ad bs X cX13_readInt 8 yX13_readInt.cls none yX13_readInt.name 2 0 0 1065 (t_P (fun v s' => v = none ∧ Q (s'))) 167 [(0, .ref 950), (3, .long l3)] [] (t_m s) 1065 0 0 := by
  refine mj_aload_n dX13_readInt_167 0 rfl ?_
  refine mj_lconst (v := 0) dX13_readInt_168 (by decide) ?_
  refine t_bndK hk (fun r1 er1 hk => ?_)
  refine t_callVvE dX13_readInt_169 M_X13_put (C_X13_put _ _ _ er1) ML_X13_1192 IM_X13_put SE_X13_put qc_950 rfl (As := [.long 0]) rfl rfl (Nat.le_of_ble_eq_true rfl) (Nat.le_of_ble_eq_true rfl) (Nat.le_of_ble_eq_true rfl) (Nat.le_of_ble_eq_true rfl) ?_
  refine mj_aload_n dX13_readInt_172 0 rfl ?_
  refine mj_lload_n dX13_readInt_173 1 rfl ?_
  refine t_bndK hk (fun r2 er2 hk => ?_)
  refine t_callVvE dX13_readInt_174 M_X13_put (C_X13_put _ _ _ er2) ML_X13_1192 IM_X13_put SE_X13_put qc_950 rfl (As := [.long l3]) rfl rfl (Nat.le_of_ble_eq_true rfl) (Nat.le_of_ble_eq_true rfl) (Nat.le_of_ble_eq_true rfl) (Nat.le_of_ble_eq_true rfl) ?_
  exact t_somK hk (fun hf => t_vret dX13_readInt_177 rfl ⟨rfl, hf⟩ (Nat.le_of_ble_eq_true rfl) (Nat.le_of_ble_eq_true rfl))
noncomputable def k_X13_readInt_145 (l1 : Int32) (l2 : Int32) (l3 : Int64) (s : t_S) : Option (t_S) :=
 if (s.1 950 127) = (-1 : Int32) then ((f_X13_inRanges l1 l3 s).bind (fun r1 =>
 if r1 = (0 : Int32) then ((f_X13_wrongBit l2 s).bind (fun r2 =>
 k_X13_readInt_167 l3 r2))
 else (k_X13_readInt_167 l3 s)))
 else (k_X13_readInt_167 l3 s)
set_option maxRecDepth 4000 in
set_option maxHeartbeats 1000000 in
theorem B_X13_readInt_145 {D : va_G} {cy : Nat → ClassId} {ad : Nat → Nat} {bs : Nat} {X : State → Heap → Prop} (l1 : Int32) (l2 : Int32) (l3 : Int64) (s : t_S) (Q : t_S → Prop) (hk : t_hk (k_X13_readInt_145 l1 l2 l3 s) Q) : mj_G D cy ad bs X cX13_readInt 8 yX13_readInt.cls none yX13_readInt.name 2 0 0 1065 (t_P (fun v s' => v = none ∧ Q (s'))) 145 [(0, .ref 950), (1, .int l1), (2, .int l2), (3, .long l3)] [] (t_m s) 1065 0 0 := by
  refine mj_aload_n dX13_readInt_145 0 rfl ?_
  refine t_getI dX13_readInt_146 F_X13_1155 qf_950_127 ?_
  refine mj_iconst (v := (-1)) dX13_readInt_149 (by decide) ?_
  refine mj_icmp_ne 167 dX13_readInt_150 (by decide) (fun z => t_negK hk z (fun hk => ?_)) (fun z => t_posK hk z (fun hk => ?_))
  · refine mj_sublv [(0, .ref 950), (3, .long l3)] [0, 3] rfl ?_
    exact B_X13_readInt_167 _ _ _ hk
  · refine mj_aload_n dX13_readInt_153 0 rfl ?_
    refine mj_iload_n dX13_readInt_154 1 rfl ?_
    refine mj_lload_n dX13_readInt_155 3 rfl ?_
    refine t_bndK hk (fun r1 er1 hk => ?_)
    refine t_callViP dX13_readInt_156 M_X13_inRanges (C_X13_inRanges _ _ _ _ er1) ML_X13_1039 IM_X13_inRanges SE_X13_inRanges qc_950 rfl (As := [.int l1, .long l3]) rfl rfl (Nat.le_of_ble_eq_true rfl) (Nat.le_of_ble_eq_true rfl) (Nat.le_of_ble_eq_true rfl) (Nat.le_of_ble_eq_true rfl) ?_
    refine mj_if_ne 167 dX13_readInt_159 (by decide) (fun z => t_negK hk z (fun hk => ?_)) (fun z => t_posK hk z (fun hk => ?_))
    · refine mj_sublv [(0, .ref 950), (3, .long l3)] [0, 3] rfl ?_
      exact B_X13_readInt_167 _ _ _ hk
    · refine mj_aload_n dX13_readInt_162 0 rfl ?_
      refine mj_iload_n dX13_readInt_163 2 rfl ?_
      refine t_bndK hk (fun r2 er2 hk => ?_)
      refine t_callVvE dX13_readInt_164 M_X13_wrongBit (C_X13_wrongBit _ _ _ er2) ML_X13_1161 IM_X13_wrongBit SE_X13_wrongBit qc_950 rfl (As := [.int l2]) rfl rfl (Nat.le_of_ble_eq_true rfl) (Nat.le_of_ble_eq_true rfl) (Nat.le_of_ble_eq_true rfl) (Nat.le_of_ble_eq_true rfl) ?_
      refine mj_sublv [(0, .ref 950), (3, .long l3)] [0, 3] rfl ?_
      exact B_X13_readInt_167 _ _ _ hk
noncomputable def k_X13_readInt_140 (l1 : Int32) (l2 : Int32) (l3 : Int64) (s : t_S) : Option (t_S) :=
 (f_X13_wrongBit l2 s).bind (fun r1 =>
 k_X13_readInt_145 l1 l2 l3 r1)
set_option maxRecDepth 4000 in
set_option maxHeartbeats 1000000 in
theorem B_X13_readInt_140 {D : va_G} {cy : Nat → ClassId} {ad : Nat → Nat} {bs : Nat} {X : State → Heap → Prop} (l1 : Int32) (l2 : Int32) (l3 : Int64) (s : t_S) (Q : t_S → Prop) (hk : t_hk (k_X13_readInt_140 l1 l2 l3 s) Q) : mj_G D cy ad bs X cX13_readInt 8 yX13_readInt.cls none yX13_readInt.name 2 0 0 1065 (t_P (fun v s' => v = none ∧ Q (s'))) 140 [(0, .ref 950), (1, .int l1), (2, .int l2), (3, .long l3)] [] (t_m s) 1065 0 0 := by
  refine mj_aload_n dX13_readInt_140 0 rfl ?_
  refine mj_iload_n dX13_readInt_141 2 rfl ?_
  refine t_bndK hk (fun r1 er1 hk => ?_)
  refine t_callVvE dX13_readInt_142 M_X13_wrongBit (C_X13_wrongBit _ _ _ er1) ML_X13_1161 IM_X13_wrongBit SE_X13_wrongBit qc_950 rfl (As := [.int l2]) rfl rfl (Nat.le_of_ble_eq_true rfl) (Nat.le_of_ble_eq_true rfl) (Nat.le_of_ble_eq_true rfl) (Nat.le_of_ble_eq_true rfl) ?_
  exact B_X13_readInt_145 _ _ _ _ _ hk
noncomputable def k_X13_readInt_73 (l1 : Int32) (l2 : Int32) (l3 : Int64) (l5 : Int64) (s : t_S) : Option (t_S) :=
 if (s.1 950 127) = (-1 : Int32) then ((f_X13_take ((8 : Int32) * l5.toInt32) s).bind (fun r1 =>
 if (r1.2.1 950 127) = (-1 : Int32) then ((f_X13_bytesFor ((r1.1 <<< (((64 : Int32) - ((8 : Int32) * l5.toInt32)).toInt64 &&& 63)) >>> (((64 : Int32) - ((8 : Int32) * l5.toInt32)).toInt64 &&& 63)) r1.2).bind (fun r2 =>
 if (lg_cmp r2.toInt64 l5) = (0 : Int32) then (if (f_X13_in ((r1.1 <<< (((64 : Int32) - ((8 : Int32) * l5.toInt32)).toInt64 &&& 63)) >>> (((64 : Int32) - ((8 : Int32) * l5.toInt32)).toInt64 &&& 63)) (-1000000000000000 : Int64) (1000000000000000 : Int64) r1.2) = (0 : Int32) then (k_X13_readInt_140 l1 l2 ((r1.1 <<< (((64 : Int32) - ((8 : Int32) * l5.toInt32)).toInt64 &&& 63)) >>> (((64 : Int32) - ((8 : Int32) * l5.toInt32)).toInt64 &&& 63)) r1.2)
 else (k_X13_readInt_145 l1 l2 ((r1.1 <<< (((64 : Int32) - ((8 : Int32) * l5.toInt32)).toInt64 &&& 63)) >>> (((64 : Int32) - ((8 : Int32) * l5.toInt32)).toInt64 &&& 63)) r1.2))
 else (k_X13_readInt_140 l1 l2 ((r1.1 <<< (((64 : Int32) - ((8 : Int32) * l5.toInt32)).toInt64 &&& 63)) >>> (((64 : Int32) - ((8 : Int32) * l5.toInt32)).toInt64 &&& 63)) r1.2)))
 else (k_X13_readInt_145 l1 l2 ((r1.1 <<< (((64 : Int32) - ((8 : Int32) * l5.toInt32)).toInt64 &&& 63)) >>> (((64 : Int32) - ((8 : Int32) * l5.toInt32)).toInt64 &&& 63)) r1.2)))
 else (k_X13_readInt_145 l1 l2 l3 s)
set_option maxRecDepth 4000 in
set_option maxHeartbeats 1000000 in
theorem B_X13_readInt_73 {D : va_G} {cy : Nat → ClassId} {ad : Nat → Nat} {bs : Nat} {X : State → Heap → Prop} (l1 : Int32) (l2 : Int32) (l3 : Int64) (l5 : Int64) (s : t_S) (Q : t_S → Prop) (hk : t_hk (k_X13_readInt_73 l1 l2 l3 l5 s) Q) : mj_G D cy ad bs X cX13_readInt 8 yX13_readInt.cls none yX13_readInt.name 2 0 0 1065 (t_P (fun v s' => v = none ∧ Q (s'))) 73 [(0, .ref 950), (1, .int l1), (2, .int l2), (3, .long l3), (5, .long l5)] [] (t_m s) 1065 0 0 := by
  refine mj_aload_n dX13_readInt_73 0 rfl ?_
  refine t_getI dX13_readInt_74 F_X13_1155 qf_950_127 ?_
  refine mj_iconst (v := (-1)) dX13_readInt_77 (by decide) ?_
  refine mj_icmp_ne 145 dX13_readInt_78 (by decide) (fun z => t_negK hk z (fun hk => ?_)) (fun z => t_posK hk z (fun hk => ?_))
  · refine mj_sublv [(0, .ref 950), (1, .int l1), (2, .int l2), (3, .long l3)] [0, 1, 2, 3] rfl ?_
    exact B_X13_readInt_145 _ _ _ _ _ hk
  · refine mj_bipush (v := 8) dX13_readInt_81 (by decide) ?_
    refine mj_lload dX13_readInt_83 4 rfl ?_
    refine mj_l2i (v := l5.toInt32) dX13_readInt_85 rfl ?_
    refine mj_imul dX13_readInt_86 ?_
    refine mj_istore (lv2 := [(7, .int ((8 : Int32) * l5.toInt32)), (0, .ref 950), (1, .int l1), (2, .int l2), (3, .long l3), (5, .long l5)]) dX13_readInt_87 (by decide) rfl ?_
    refine mj_aload_n dX13_readInt_89 1 rfl ?_
    refine mj_iload dX13_readInt_90 0 rfl ?_
    refine t_bndK hk (fun r1 er1 hk => ?_)
    refine t_callVlE dX13_readInt_92 M_X13_take (C_X13_take _ _ _ er1) ML_X13_1195 IM_X13_take SE_X13_take qc_950 rfl (As := [.int ((8 : Int32) * l5.toInt32)]) rfl rfl (Nat.le_of_ble_eq_true rfl) (Nat.le_of_ble_eq_true rfl) (Nat.le_of_ble_eq_true rfl) (Nat.le_of_ble_eq_true rfl) ?_
    refine mj_bipush (v := 64) dX13_readInt_95 (by decide) ?_
    refine mj_iload dX13_readInt_97 0 rfl ?_
    refine mj_isub dX13_readInt_99 ?_
    refine mj_lshl dX13_readInt_100 rfl ?_
    refine mj_bipush (v := 64) dX13_readInt_101 (by decide) ?_
    refine mj_iload dX13_readInt_103 0 rfl ?_
    refine mj_isub dX13_readInt_105 ?_
    refine mj_lshr dX13_readInt_106 rfl ?_
    refine mj_lstore_n 3 (lv2 := [(3, .long ((r1.1 <<< (((64 : Int32) - ((8 : Int32) * l5.toInt32)).toInt64 &&& 63)) >>> (((64 : Int32) - ((8 : Int32) * l5.toInt32)).toInt64 &&& 63))), (7, .int ((8 : Int32) * l5.toInt32)), (0, .ref 950), (1, .int l1), (2, .int l2), (5, .long l5)]) dX13_readInt_107 rfl (by decide) rfl ?_
    refine mj_aload_n dX13_readInt_108 2 rfl ?_
    refine t_getI dX13_readInt_109 F_X13_1155 qf_950_127 ?_
    refine mj_iconst (v := (-1)) dX13_readInt_112 (by decide) ?_
    refine mj_icmp_ne 145 dX13_readInt_113 (by decide) (fun z => t_negK hk z (fun hk => ?_)) (fun z => t_posK hk z (fun hk => ?_))
    · refine mj_sublv [(0, .ref 950), (1, .int l1), (2, .int l2), (3, .long ((r1.1 <<< (((64 : Int32) - ((8 : Int32) * l5.toInt32)).toInt64 &&& 63)) >>> (((64 : Int32) - ((8 : Int32) * l5.toInt32)).toInt64 &&& 63)))] [2, 3, 4, 0] rfl ?_
      exact B_X13_readInt_145 _ _ _ _ _ hk
    · refine mj_lload_n dX13_readInt_116 0 rfl ?_
      refine t_bndK hk (fun r2 er2 hk => ?_)
      refine t_callSiP dX13_readInt_117 M_X13_bytesFor (C_X13_bytesFor _ _ _ er2) ML_X13_1142 SM_X13_bytesFor (As := [.long ((r1.1 <<< (((64 : Int32) - ((8 : Int32) * l5.toInt32)).toInt64 &&& 63)) >>> (((64 : Int32) - ((8 : Int32) * l5.toInt32)).toInt64 &&& 63))]) rfl rfl (Nat.le_of_ble_eq_true rfl) (Nat.le_of_ble_eq_true rfl) (Nat.le_of_ble_eq_true rfl) (Nat.le_of_ble_eq_true rfl) ?_
      refine mj_i2l (v := r2.toInt64) dX13_readInt_120 rfl ?_
      refine mj_lload dX13_readInt_121 5 rfl ?_
      refine mj_lcmp dX13_readInt_123 ?_
      refine mj_if_ne 140 dX13_readInt_124 (by decide) (fun z => t_negK hk z (fun hk => ?_)) (fun z => t_posK hk z (fun hk => ?_))
      · refine mj_sublv [(0, .ref 950), (1, .int l1), (2, .int l2), (3, .long ((r1.1 <<< (((64 : Int32) - ((8 : Int32) * l5.toInt32)).toInt64 &&& 63)) >>> (((64 : Int32) - ((8 : Int32) * l5.toInt32)).toInt64 &&& 63)))] [2, 3, 4, 0] rfl ?_
        exact B_X13_readInt_140 _ _ _ _ _ hk
      · refine mj_lload_n dX13_readInt_127 0 rfl ?_
        refine mj_ldc2 dX13_readInt_128 K_X13_522 ?_
        refine mj_ldc2 dX13_readInt_131 K_X13_864 ?_
        refine t_callSiP dX13_readInt_134 M_X13_in (C_X13_in _ _ _ _) ML_X13_371 SM_X13_in (As := [.long ((r1.1 <<< (((64 : Int32) - ((8 : Int32) * l5.toInt32)).toInt64 &&& 63)) >>> (((64 : Int32) - ((8 : Int32) * l5.toInt32)).toInt64 &&& 63)), .long (-1000000000000000), .long 1000000000000000]) rfl rfl (Nat.le_of_ble_eq_true rfl) (Nat.le_of_ble_eq_true rfl) (Nat.le_of_ble_eq_true rfl) (Nat.le_of_ble_eq_true rfl) ?_
        refine mj_if_ne 145 dX13_readInt_137 (by decide) (fun z => t_negK hk z (fun hk => ?_)) (fun z => t_posK hk z (fun hk => ?_))
        · refine mj_sublv [(0, .ref 950), (1, .int l1), (2, .int l2), (3, .long ((r1.1 <<< (((64 : Int32) - ((8 : Int32) * l5.toInt32)).toInt64 &&& 63)) >>> (((64 : Int32) - ((8 : Int32) * l5.toInt32)).toInt64 &&& 63)))] [2, 3, 4, 0] rfl ?_
          exact B_X13_readInt_145 _ _ _ _ _ hk
        · refine mj_sublv [(0, .ref 950), (1, .int l1), (2, .int l2), (3, .long ((r1.1 <<< (((64 : Int32) - ((8 : Int32) * l5.toInt32)).toInt64 &&& 63)) >>> (((64 : Int32) - ((8 : Int32) * l5.toInt32)).toInt64 &&& 63)))] [2, 3, 4, 0] rfl ?_
          exact B_X13_readInt_140 _ _ _ _ _ hk
noncomputable def f_X13_readInt (x1 : Int32) (x2 : Int32) (s : t_S) : Option (t_S) :=
 if t_ix x1 13000 = true then
  if (s.1 959 (x1.toNatClampNeg)) < (0 : Int32) then ((f_X13_take (8 : Int32) s).bind (fun r2 =>
 if (r2.2.1 950 127) = (-1 : Int32) then (if (f_X13_in r2.1 (1 : Int64) (7 : Int64) r2.2) = (0 : Int32) then ((f_X13_wrongBit x2 r2.2).bind (fun r4 =>
 k_X13_readInt_73 x1 x2 0 r2.1 r4))
 else (k_X13_readInt_73 x1 x2 0 r2.1 r2.2))
 else (k_X13_readInt_73 x1 x2 0 r2.1 r2.2)))
 else ((f_X13_leastOf x1 s).bind (fun r5 =>
 (f_X13_greatestOf x1 s).bind (fun r6 =>
 (f_X13_bitsFor (r6 - r5) s).bind (fun r7 =>
 (f_X13_take r7 s).bind (fun r8 =>
 k_X13_readInt_145 x1 x2 (r5 + r8.1) r8.2)))))
else none
set_option maxRecDepth 4000 in
set_option maxHeartbeats 1000000 in
theorem C_X13_readInt (x1 : Int32) (x2 : Int32) (s : t_S) (r : t_S) (hr : f_X13_readInt x1 x2 s = some r) : t_C yX13_readInt cX13_readInt 8 none 2 [.ref 950, .int x1, .int x2] s (fun v s' => v = none ∧ s' = r) := by
  refine t_C.imp (P := fun v s' => v = none ∧ (fun q => q = r) (s')) (t_C.of (by decide +kernel) (Nat.le_of_ble_eq_true rfl) ?_) (fun v s' hp => hp)
  intro D cy ad bs X
  have hk : t_hk (f_X13_readInt x1 x2 s) (fun q => q = r) := ⟨r, hr, rfl⟩
  show mj_G D cy ad bs X cX13_readInt 8 yX13_readInt.cls none yX13_readInt.name 2 0 0 1065 (t_P (fun v s' => v = none ∧ (fun q => q = r) (s'))) 0 [(0, .ref 950), (1, .int x1), (2, .int x2)] [] (t_m s) 1065 0 0
  refine mj_lconst (v := 0) dX13_readInt_0 (by decide) ?_
  refine mj_lstore_n 3 (lv2 := [(3, .long 0), (0, .ref 950), (1, .int x1), (2, .int x2)]) dX13_readInt_1 rfl (by decide) rfl ?_
  refine mj_aload_n dX13_readInt_2 1 rfl ?_
  refine t_getR 959 dX13_readInt_3 F_X13_39 qr_950_21 ?_
  refine mj_iload_n dX13_readInt_6 2 rfl ?_
  refine t_chkK hk (fun c0 hk => ?_)
  refine t_iald dX13_readInt_7 qa_959 (t_ixv c0) ?_
  refine mj_if_lt 40 dX13_readInt_8 (by decide) (fun z => t_posK hk z (fun hk => ?_)) (fun z => t_negK hk z (fun hk => ?_))
  · refine mj_aload_n dX13_readInt_40 1 rfl ?_
    refine mj_bipush (v := 8) dX13_readInt_41 (by decide) ?_
    refine t_bndK hk (fun r2 er2 hk => ?_)
    refine t_callVlE dX13_readInt_43 M_X13_take (C_X13_take _ _ _ er2) ML_X13_1195 IM_X13_take SE_X13_take qc_950 rfl (As := [.int 8]) rfl rfl (Nat.le_of_ble_eq_true rfl) (Nat.le_of_ble_eq_true rfl) (Nat.le_of_ble_eq_true rfl) (Nat.le_of_ble_eq_true rfl) ?_
    refine mj_lstore (lv2 := [(5, .long r2.1), (3, .long 0), (0, .ref 950), (1, .int x1), (2, .int x2)]) dX13_readInt_46 (by decide) rfl ?_
    refine mj_aload_n dX13_readInt_48 2 rfl ?_
    refine t_getI dX13_readInt_49 F_X13_1155 qf_950_127 ?_
    refine mj_iconst (v := (-1)) dX13_readInt_52 (by decide) ?_
    refine mj_icmp_ne 73 dX13_readInt_53 (by decide) (fun z => t_negK hk z (fun hk => ?_)) (fun z => t_posK hk z (fun hk => ?_))
    · refine mj_sublv [(0, .ref 950), (1, .int x1), (2, .int x2), (3, .long 0), (5, .long r2.1)] [2, 3, 4, 1, 0] rfl ?_
      exact B_X13_readInt_73 _ _ _ _ _ _ hk
    · refine mj_lload dX13_readInt_56 0 rfl ?_
      refine mj_lconst (v := 1) dX13_readInt_58 (by decide) ?_
      refine mj_ldc2 dX13_readInt_59 K_X13_697 ?_
      refine t_callSiP dX13_readInt_62 M_X13_in (C_X13_in _ _ _ _) ML_X13_371 SM_X13_in (As := [.long r2.1, .long 1, .long 7]) rfl rfl (Nat.le_of_ble_eq_true rfl) (Nat.le_of_ble_eq_true rfl) (Nat.le_of_ble_eq_true rfl) (Nat.le_of_ble_eq_true rfl) ?_
      refine mj_if_ne 73 dX13_readInt_65 (by decide) (fun z => t_negK hk z (fun hk => ?_)) (fun z => t_posK hk z (fun hk => ?_))
      · refine mj_sublv [(0, .ref 950), (1, .int x1), (2, .int x2), (3, .long 0), (5, .long r2.1)] [2, 3, 4, 1, 0] rfl ?_
        exact B_X13_readInt_73 _ _ _ _ _ _ hk
      · refine mj_aload_n dX13_readInt_68 2 rfl ?_
        refine mj_iload_n dX13_readInt_69 4 rfl ?_
        refine t_bndK hk (fun r4 er4 hk => ?_)
        refine t_callVvE dX13_readInt_70 M_X13_wrongBit (C_X13_wrongBit _ _ _ er4) ML_X13_1161 IM_X13_wrongBit SE_X13_wrongBit qc_950 rfl (As := [.int x2]) rfl rfl (Nat.le_of_ble_eq_true rfl) (Nat.le_of_ble_eq_true rfl) (Nat.le_of_ble_eq_true rfl) (Nat.le_of_ble_eq_true rfl) ?_
        refine mj_sublv [(0, .ref 950), (1, .int x1), (2, .int x2), (3, .long 0), (5, .long r2.1)] [2, 3, 4, 1, 0] rfl ?_
        exact B_X13_readInt_73 _ _ _ _ _ _ hk
  · refine mj_aload_n dX13_readInt_11 1 rfl ?_
    refine mj_iload_n dX13_readInt_12 2 rfl ?_
    refine t_bndK hk (fun r5 er5 hk => ?_)
    refine t_callVlP dX13_readInt_13 M_X13_leastOf (C_X13_leastOf _ _ _ er5) ML_X13_1129 IM_X13_leastOf SE_X13_leastOf qc_950 rfl (As := [.int x1]) rfl rfl (Nat.le_of_ble_eq_true rfl) (Nat.le_of_ble_eq_true rfl) (Nat.le_of_ble_eq_true rfl) (Nat.le_of_ble_eq_true rfl) ?_
    refine mj_lstore (lv2 := [(5, .long r5), (3, .long 0), (0, .ref 950), (1, .int x1), (2, .int x2)]) dX13_readInt_16 (by decide) rfl ?_
    refine mj_lload dX13_readInt_18 0 rfl ?_
    refine mj_aload_n dX13_readInt_20 2 rfl ?_
    refine mj_aload_n dX13_readInt_21 2 rfl ?_
    refine mj_iload_n dX13_readInt_22 3 rfl ?_
    refine t_bndK hk (fun r6 er6 hk => ?_)
    refine t_callVlP dX13_readInt_23 M_X13_greatestOf (C_X13_greatestOf _ _ _ er6) ML_X13_1132 IM_X13_greatestOf SE_X13_greatestOf qc_950 rfl (As := [.int x1]) rfl rfl (Nat.le_of_ble_eq_true rfl) (Nat.le_of_ble_eq_true rfl) (Nat.le_of_ble_eq_true rfl) (Nat.le_of_ble_eq_true rfl) ?_
    refine mj_lload dX13_readInt_26 0 rfl ?_
    refine mj_lsub dX13_readInt_28 ?_
    refine t_bndK hk (fun r7 er7 hk => ?_)
    refine t_callSiP dX13_readInt_29 M_X13_bitsFor (C_X13_bitsFor _ _ _ er7) ML_X13_1135 SM_X13_bitsFor (As := [.long (r6 - r5)]) rfl rfl (Nat.le_of_ble_eq_true rfl) (Nat.le_of_ble_eq_true rfl) (Nat.le_of_ble_eq_true rfl) (Nat.le_of_ble_eq_true rfl) ?_
    refine t_bndK hk (fun r8 er8 hk => ?_)
    refine t_callVlE dX13_readInt_32 M_X13_take (C_X13_take _ _ _ er8) ML_X13_1195 IM_X13_take SE_X13_take qc_950 rfl (As := [.int r7]) rfl rfl (Nat.le_of_ble_eq_true rfl) (Nat.le_of_ble_eq_true rfl) (Nat.le_of_ble_eq_true rfl) (Nat.le_of_ble_eq_true rfl) ?_
    refine mj_ladd dX13_readInt_35 ?_
    refine mj_lstore_n 3 (lv2 := [(3, .long (r5 + r8.1)), (5, .long r5), (0, .ref 950), (1, .int x1), (2, .int x2)]) dX13_readInt_36 rfl (by decide) rfl ?_
    refine mj_goto 145 dX13_readInt_37 (by decide) ?_
    refine mj_sublv [(0, .ref 950), (1, .int x1), (2, .int x2), (3, .long (r5 + r8.1))] [2, 3, 4, 0] rfl ?_
    exact B_X13_readInt_145 _ _ _ _ _ hk

theorem dX13_readList_0 : decode cX13_readList 0 = .ok (.aload_n 0, 1) := by decide +kernel
theorem dX13_readList_1 : decode cX13_readList 1 = .ok (.getfield 32, 3) := by decide +kernel
theorem dX13_readList_11 : decode cX13_readList 11 = .ok (.iload_n 1, 1) := by decide +kernel
theorem dX13_readList_12 : decode cX13_readList 12 = .ok (.laload, 1) := by decide +kernel
theorem dX13_readList_13 : decode cX13_readList 13 = .ok (.aload_n 0, 1) := by decide +kernel
theorem dX13_readList_14 : decode cX13_readList 14 = .ok (.getfield 32, 3) := by decide +kernel
theorem dX13_readList_17 : decode cX13_readList 17 = .ok (.iload_n 1, 1) := by decide +kernel
theorem dX13_readList_18 : decode cX13_readList 18 = .ok (.laload, 1) := by decide +kernel
theorem dX13_readList_19 : decode cX13_readList 19 = .ok (.lsub, 1) := by decide +kernel
theorem dX13_readList_20 : decode cX13_readList 20 = .ok (.invokestatic 1135, 3) := by decide +kernel
theorem dX13_readList_23 : decode cX13_readList 23 = .ok (.invokevirtual 1195, 3) := by decide +kernel
theorem dX13_readList_26 : decode cX13_readList 26 = .ok (.ladd, 1) := by decide +kernel
theorem dX13_readList_27 : decode cX13_readList 27 = .ok (.lstore_n 3, 1) := by decide +kernel
theorem dX13_readList_28 : decode cX13_readList 28 = .ok (.aload_n 0, 1) := by decide +kernel
theorem dX13_readList_29 : decode cX13_readList 29 = .ok (.getfield 1155, 3) := by decide +kernel
theorem dX13_readList_32 : decode cX13_readList 32 = .ok (.iconst (-1), 1) := by decide +kernel
theorem dX13_readList_33 : decode cX13_readList 33 = .ok (.if_icmp .ne 19, 3) := by decide +kernel
theorem dX13_readList_36 : decode cX13_readList 36 = .ok (.lload_n 3, 1) := by decide +kernel
theorem dX13_readList_37 : decode cX13_readList 37 = .ok (.aload_n 0, 1) := by decide +kernel
theorem dX13_readList_38 : decode cX13_readList 38 = .ok (.getfield 36, 3) := by decide +kernel
theorem dX13_readList_4 : decode cX13_readList 4 = .ok (.iload_n 1, 1) := by decide +kernel
theorem dX13_readList_41 : decode cX13_readList 41 = .ok (.iload_n 1, 1) := by decide +kernel
theorem dX13_readList_42 : decode cX13_readList 42 = .ok (.laload, 1) := by decide +kernel
theorem dX13_readList_43 : decode cX13_readList 43 = .ok (.lcmp, 1) := by decide +kernel
theorem dX13_readList_44 : decode cX13_readList 44 = .ok (.ifCond .le 8, 3) := by decide +kernel
theorem dX13_readList_47 : decode cX13_readList 47 = .ok (.aload_n 0, 1) := by decide +kernel
theorem dX13_readList_48 : decode cX13_readList 48 = .ok (.iload_n 2, 1) := by decide +kernel
theorem dX13_readList_49 : decode cX13_readList 49 = .ok (.invokevirtual 1161, 3) := by decide +kernel
theorem dX13_readList_5 : decode cX13_readList 5 = .ok (.laload, 1) := by decide +kernel
theorem dX13_readList_52 : decode cX13_readList 52 = .ok (.aload_n 0, 1) := by decide +kernel
theorem dX13_readList_53 : decode cX13_readList 53 = .ok (.getfield 1155, 3) := by decide +kernel
theorem dX13_readList_56 : decode cX13_readList 56 = .ok (.iconst (-1), 1) := by decide +kernel
theorem dX13_readList_57 : decode cX13_readList 57 = .ok (.if_icmp .eq 4, 3) := by decide +kernel
theorem dX13_readList_6 : decode cX13_readList 6 = .ok (.aload_n 0, 1) := by decide +kernel
theorem dX13_readList_60 : decode cX13_readList 60 = .ok (.return_, 1) := by decide +kernel
theorem dX13_readList_61 : decode cX13_readList 61 = .ok (.aload_n 0, 1) := by decide +kernel
theorem dX13_readList_62 : decode cX13_readList 62 = .ok (.ldc2_w 951, 3) := by decide +kernel
theorem dX13_readList_65 : decode cX13_readList 65 = .ok (.invokevirtual 1192, 3) := by decide +kernel
theorem dX13_readList_68 : decode cX13_readList 68 = .ok (.aload_n 0, 1) := by decide +kernel
theorem dX13_readList_69 : decode cX13_readList 69 = .ok (.lload_n 3, 1) := by decide +kernel
theorem dX13_readList_7 : decode cX13_readList 7 = .ok (.aload_n 0, 1) := by decide +kernel
theorem dX13_readList_70 : decode cX13_readList 70 = .ok (.invokevirtual 1192, 3) := by decide +kernel
theorem dX13_readList_73 : decode cX13_readList 73 = .ok (.lload_n 3, 1) := by decide +kernel
theorem dX13_readList_74 : decode cX13_readList 74 = .ok (.lconst 0, 1) := by decide +kernel
theorem dX13_readList_75 : decode cX13_readList 75 = .ok (.lcmp, 1) := by decide +kernel
theorem dX13_readList_76 : decode cX13_readList 76 = .ok (.ifCond .le 21, 3) := by decide +kernel
theorem dX13_readList_79 : decode cX13_readList 79 = .ok (.aload_n 0, 1) := by decide +kernel
theorem dX13_readList_8 : decode cX13_readList 8 = .ok (.getfield 36, 3) := by decide +kernel
theorem dX13_readList_80 : decode cX13_readList 80 = .ok (.iconst 1, 1) := by decide +kernel
theorem dX13_readList_81 : decode cX13_readList 81 = .ok (.iload_n 1, 1) := by decide +kernel
theorem dX13_readList_82 : decode cX13_readList 82 = .ok (.invokevirtual 1170, 3) := by decide +kernel
theorem dX13_readList_85 : decode cX13_readList 85 = .ok (.aload_n 0, 1) := by decide +kernel
theorem dX13_readList_86 : decode cX13_readList 86 = .ok (.getfield 235, 3) := by decide +kernel
theorem dX13_readList_89 : decode cX13_readList 89 = .ok (.aload_n 0, 1) := by decide +kernel
theorem dX13_readList_90 : decode cX13_readList 90 = .ok (.getfield 1167, 3) := by decide +kernel
theorem dX13_readList_93 : decode cX13_readList 93 = .ok (.iconst 1, 1) := by decide +kernel
theorem dX13_readList_94 : decode cX13_readList 94 = .ok (.isub, 1) := by decide +kernel
theorem dX13_readList_95 : decode cX13_readList 95 = .ok (.lload_n 3, 1) := by decide +kernel
theorem dX13_readList_96 : decode cX13_readList 96 = .ok (.lastore, 1) := by decide +kernel
theorem dX13_readList_97 : decode cX13_readList 97 = .ok (.return_, 1) := by decide +kernel
noncomputable def k_X13_readList_52 (l1 : Int32) (l3 : Int64) (s : t_S) : Option (t_S) :=
 if (s.1 950 127) = (-1 : Int32) then ((f_X13_put (8 : Int64) s).bind (fun r1 =>
 (f_X13_put l3 r1).bind (fun r2 =>
 if (lg_cmp l3 (0 : Int64)) ≤ (0 : Int32) then (some (r2))
 else ((f_X13_openOne (1 : Int32) l1 r2).bind (fun r3 =>
 if t_ix ((r3.1 950 125) - (1 : Int32)) 400 = true then
  t_let (t_setJ r3 1023 (((r3.1 950 125) - (1 : Int32)).toNatClampNeg) l3) (fun s1 =>
 some (s1))
else none)))))
 else (some (s))
set_option maxRecDepth 4000 in
set_option maxHeartbeats 1000000 in
theorem B_X13_readList_52 {D : va_G} {cy : Nat → ClassId} {ad : Nat → Nat} {bs : Nat} {X : State → Heap → Prop} (l1 : Int32) (l3 : Int64) (s : t_S) (Q : t_S → Prop) (hk : t_hk (k_X13_readList_52 l1 l3 s) Q) : mj_G D cy ad bs X cX13_readList 5 yX13_readList.cls none yX13_readList.name 2 0 0 1065 (t_P (fun v s' => v = none ∧ Q (s'))) 52 [(0, .ref 950), (1, .int l1), (3, .long l3)] [] (t_m s) 1065 0 0 := by
  refine mj_aload_n dX13_readList_52 0 rfl ?_
  refine t_getI dX13_readList_53 F_X13_1155 qf_950_127 ?_
  refine mj_iconst (v := (-1)) dX13_readList_56 (by decide) ?_
  refine mj_icmp_eq 61 dX13_readList_57 (by decide) (fun z => t_posK hk z (fun hk => ?_)) (fun z => t_negK hk z (fun hk => ?_))
  · refine mj_aload_n dX13_readList_61 0 rfl ?_
    refine mj_ldc2 dX13_readList_62 K_X13_951 ?_
    refine t_bndK hk (fun r1 er1 hk => ?_)
    refine t_callVvE dX13_readList_65 M_X13_put (C_X13_put _ _ _ er1) ML_X13_1192 IM_X13_put SE_X13_put qc_950 rfl (As := [.long 8]) rfl rfl (Nat.le_of_ble_eq_true rfl) (Nat.le_of_ble_eq_true rfl) (Nat.le_of_ble_eq_true rfl) (Nat.le_of_ble_eq_true rfl) ?_
    refine mj_aload_n dX13_readList_68 0 rfl ?_
    refine mj_lload_n dX13_readList_69 2 rfl ?_
    refine t_bndK hk (fun r2 er2 hk => ?_)
    refine t_callVvE dX13_readList_70 M_X13_put (C_X13_put _ _ _ er2) ML_X13_1192 IM_X13_put SE_X13_put qc_950 rfl (As := [.long l3]) rfl rfl (Nat.le_of_ble_eq_true rfl) (Nat.le_of_ble_eq_true rfl) (Nat.le_of_ble_eq_true rfl) (Nat.le_of_ble_eq_true rfl) ?_
    refine mj_lload_n dX13_readList_73 2 rfl ?_
    refine mj_lconst (v := 0) dX13_readList_74 (by decide) ?_
    refine mj_lcmp dX13_readList_75 ?_
    refine mj_if_le 97 dX13_readList_76 (by decide) (fun z => t_posK hk z (fun hk => ?_)) (fun z => t_negK hk z (fun hk => ?_))
    · exact t_somK hk (fun hf => t_vret dX13_readList_97 rfl ⟨rfl, hf⟩ (Nat.le_of_ble_eq_true rfl) (Nat.le_of_ble_eq_true rfl))
    · refine mj_aload_n dX13_readList_79 0 rfl ?_
      refine mj_iconst (v := 1) dX13_readList_80 (by decide) ?_
      refine mj_iload_n dX13_readList_81 1 rfl ?_
      refine t_bndK hk (fun r3 er3 hk => ?_)
      refine t_callVvE dX13_readList_82 M_X13_openOne (C_X13_openOne _ _ _ _ er3) ML_X13_1170 IM_X13_openOne SE_X13_openOne qc_950 rfl (As := [.int 1, .int l1]) rfl rfl (Nat.le_of_ble_eq_true rfl) (Nat.le_of_ble_eq_true rfl) (Nat.le_of_ble_eq_true rfl) (Nat.le_of_ble_eq_true rfl) ?_
      refine mj_aload_n dX13_readList_85 0 rfl ?_
      refine t_getR 1023 dX13_readList_86 F_X13_235 qr_950_124 ?_
      refine mj_aload_n dX13_readList_89 0 rfl ?_
      refine t_getI dX13_readList_90 F_X13_1167 qf_950_125 ?_
      refine mj_iconst (v := 1) dX13_readList_93 (by decide) ?_
      refine mj_isub dX13_readList_94 ?_
      refine mj_lload_n dX13_readList_95 2 rfl ?_
      refine t_chkK hk (fun c3 hk => ?_)
      refine t_lastK dX13_readList_96 qa_1023 (t_ixv c3) (fun s1 ws1 => t_letE hk ws1 (fun hk => ?_))
      exact t_somK hk (fun hf => t_vret dX13_readList_97 rfl ⟨rfl, hf⟩ (Nat.le_of_ble_eq_true rfl) (Nat.le_of_ble_eq_true rfl))
  · exact t_somK hk (fun hf => t_vret dX13_readList_60 rfl ⟨rfl, hf⟩ (Nat.le_of_ble_eq_true rfl) (Nat.le_of_ble_eq_true rfl))
noncomputable def f_X13_readList (x1 : Int32) (x2 : Int32) (s : t_S) : Option (t_S) :=
 if t_ix x1 13000 = true then
  (f_X13_bitsFor ((s.2.1 958 (x1.toNatClampNeg)) - (s.2.1 957 (x1.toNatClampNeg))) s).bind (fun r2 =>
 (f_X13_take r2 s).bind (fun r3 =>
 if (r3.2.1 950 127) = (-1 : Int32) then (if (lg_cmp ((s.2.1 957 (x1.toNatClampNeg)) + r3.1) (r3.2.2.1 958 (x1.toNatClampNeg))) ≤ (0 : Int32) then (k_X13_readList_52 x1 ((s.2.1 957 (x1.toNatClampNeg)) + r3.1) r3.2)
 else ((f_X13_wrongBit x2 r3.2).bind (fun r4 =>
 k_X13_readList_52 x1 ((s.2.1 957 (x1.toNatClampNeg)) + r3.1) r4)))
 else (k_X13_readList_52 x1 ((s.2.1 957 (x1.toNatClampNeg)) + r3.1) r3.2)))
else none
set_option maxRecDepth 4000 in
set_option maxHeartbeats 1000000 in
theorem C_X13_readList (x1 : Int32) (x2 : Int32) (s : t_S) (r : t_S) (hr : f_X13_readList x1 x2 s = some r) : t_C yX13_readList cX13_readList 5 none 2 [.ref 950, .int x1, .int x2] s (fun v s' => v = none ∧ s' = r) := by
  refine t_C.imp (P := fun v s' => v = none ∧ (fun q => q = r) (s')) (t_C.of (by decide +kernel) (Nat.le_of_ble_eq_true rfl) ?_) (fun v s' hp => hp)
  intro D cy ad bs X
  have hk : t_hk (f_X13_readList x1 x2 s) (fun q => q = r) := ⟨r, hr, rfl⟩
  show mj_G D cy ad bs X cX13_readList 5 yX13_readList.cls none yX13_readList.name 2 0 0 1065 (t_P (fun v s' => v = none ∧ (fun q => q = r) (s'))) 0 [(0, .ref 950), (1, .int x1), (2, .int x2)] [] (t_m s) 1065 0 0
  refine mj_aload_n dX13_readList_0 0 rfl ?_
  refine t_getR 957 dX13_readList_1 F_X13_32 qr_950_19 ?_
  refine mj_iload_n dX13_readList_4 1 rfl ?_
  refine t_chkK hk (fun c0 hk => ?_)
  refine t_lald dX13_readList_5 qa_957 (t_ixv c0) ?_
  refine mj_aload_n dX13_readList_6 0 rfl ?_
  refine mj_aload_n dX13_readList_7 0 rfl ?_
  refine t_getR 958 dX13_readList_8 F_X13_36 qr_950_20 ?_
  refine mj_iload_n dX13_readList_11 1 rfl ?_
  refine t_lald dX13_readList_12 qa_958 (t_ixv c0) ?_
  refine mj_aload_n dX13_readList_13 0 rfl ?_
  refine t_getR 957 dX13_readList_14 F_X13_32 qr_950_19 ?_
  refine mj_iload_n dX13_readList_17 1 rfl ?_
  refine t_lald dX13_readList_18 qa_957 (t_ixv c0) ?_
  refine mj_lsub dX13_readList_19 ?_
  refine t_bndK hk (fun r2 er2 hk => ?_)
  refine t_callSiP dX13_readList_20 M_X13_bitsFor (C_X13_bitsFor _ _ _ er2) ML_X13_1135 SM_X13_bitsFor (As := [.long ((s.2.1 958 (x1.toNatClampNeg)) - (s.2.1 957 (x1.toNatClampNeg)))]) rfl rfl (Nat.le_of_ble_eq_true rfl) (Nat.le_of_ble_eq_true rfl) (Nat.le_of_ble_eq_true rfl) (Nat.le_of_ble_eq_true rfl) ?_
  refine t_bndK hk (fun r3 er3 hk => ?_)
  refine t_callVlE dX13_readList_23 M_X13_take (C_X13_take _ _ _ er3) ML_X13_1195 IM_X13_take SE_X13_take qc_950 rfl (As := [.int r2]) rfl rfl (Nat.le_of_ble_eq_true rfl) (Nat.le_of_ble_eq_true rfl) (Nat.le_of_ble_eq_true rfl) (Nat.le_of_ble_eq_true rfl) ?_
  refine mj_ladd dX13_readList_26 ?_
  refine mj_lstore_n 3 (lv2 := [(3, .long ((s.2.1 957 (x1.toNatClampNeg)) + r3.1)), (0, .ref 950), (1, .int x1), (2, .int x2)]) dX13_readList_27 rfl (by decide) rfl ?_
  refine mj_aload_n dX13_readList_28 1 rfl ?_
  refine t_getI dX13_readList_29 F_X13_1155 qf_950_127 ?_
  refine mj_iconst (v := (-1)) dX13_readList_32 (by decide) ?_
  refine mj_icmp_ne 52 dX13_readList_33 (by decide) (fun z => t_negK hk z (fun hk => ?_)) (fun z => t_posK hk z (fun hk => ?_))
  · refine mj_sublv [(0, .ref 950), (1, .int x1), (3, .long ((s.2.1 957 (x1.toNatClampNeg)) + r3.1))] [1, 2, 0] rfl ?_
    exact B_X13_readList_52 _ _ _ _ hk
  · refine mj_lload_n dX13_readList_36 0 rfl ?_
    refine mj_aload_n dX13_readList_37 1 rfl ?_
    refine t_getR 958 dX13_readList_38 F_X13_36 qr_950_20 ?_
    refine mj_iload_n dX13_readList_41 2 rfl ?_
    refine t_lald dX13_readList_42 qa_958 (t_ixv c0) ?_
    refine mj_lcmp dX13_readList_43 ?_
    refine mj_if_le 52 dX13_readList_44 (by decide) (fun z => t_posK hk z (fun hk => ?_)) (fun z => t_negK hk z (fun hk => ?_))
    · refine mj_sublv [(0, .ref 950), (1, .int x1), (3, .long ((s.2.1 957 (x1.toNatClampNeg)) + r3.1))] [1, 2, 0] rfl ?_
      exact B_X13_readList_52 _ _ _ _ hk
    · refine mj_aload_n dX13_readList_47 1 rfl ?_
      refine mj_iload_n dX13_readList_48 3 rfl ?_
      refine t_bndK hk (fun r4 er4 hk => ?_)
      refine t_callVvE dX13_readList_49 M_X13_wrongBit (C_X13_wrongBit _ _ _ er4) ML_X13_1161 IM_X13_wrongBit SE_X13_wrongBit qc_950 rfl (As := [.int x2]) rfl rfl (Nat.le_of_ble_eq_true rfl) (Nat.le_of_ble_eq_true rfl) (Nat.le_of_ble_eq_true rfl) (Nat.le_of_ble_eq_true rfl) ?_
      refine mj_sublv [(0, .ref 950), (1, .int x1), (3, .long ((s.2.1 957 (x1.toNatClampNeg)) + r3.1))] [1, 2, 0] rfl ?_
      exact B_X13_readList_52 _ _ _ _ hk

theorem dX13_readRecord_0 : decode cX13_readRecord 0 = .ok (.lconst 0, 1) := by decide +kernel
theorem dX13_readRecord_1 : decode cX13_readRecord 1 = .ok (.lstore_n 2, 1) := by decide +kernel
theorem dX13_readRecord_100 : decode cX13_readRecord 100 = .ok (.iconst (-1), 1) := by decide +kernel
theorem dX13_readRecord_101 : decode cX13_readRecord 101 = .ok (.if_icmp .eq 4, 3) := by decide +kernel
theorem dX13_readRecord_104 : decode cX13_readRecord 104 = .ok (.return_, 1) := by decide +kernel
theorem dX13_readRecord_105 : decode cX13_readRecord 105 = .ok (.aload_n 0, 1) := by decide +kernel
theorem dX13_readRecord_106 : decode cX13_readRecord 106 = .ok (.ldc2_w 853, 3) := by decide +kernel
theorem dX13_readRecord_109 : decode cX13_readRecord 109 = .ok (.invokevirtual 1192, 3) := by decide +kernel
theorem dX13_readRecord_112 : decode cX13_readRecord 112 = .ok (.aload_n 0, 1) := by decide +kernel
theorem dX13_readRecord_113 : decode cX13_readRecord 113 = .ok (.iload 4, 2) := by decide +kernel
theorem dX13_readRecord_115 : decode cX13_readRecord 115 = .ok (.i2l, 1) := by decide +kernel
theorem dX13_readRecord_116 : decode cX13_readRecord 116 = .ok (.invokevirtual 1192, 3) := by decide +kernel
theorem dX13_readRecord_119 : decode cX13_readRecord 119 = .ok (.iconst 0, 1) := by decide +kernel
theorem dX13_readRecord_12 : decode cX13_readRecord 12 = .ok (.iload_n 1, 1) := by decide +kernel
theorem dX13_readRecord_120 : decode cX13_readRecord 120 = .ok (.istore 5, 2) := by decide +kernel
theorem dX13_readRecord_122 : decode cX13_readRecord 122 = .ok (.aload_n 0, 1) := by decide +kernel
theorem dX13_readRecord_123 : decode cX13_readRecord 123 = .ok (.getfield 39, 3) := by decide +kernel
theorem dX13_readRecord_126 : decode cX13_readRecord 126 = .ok (.iload_n 1, 1) := by decide +kernel
theorem dX13_readRecord_127 : decode cX13_readRecord 127 = .ok (.iaload, 1) := by decide +kernel
theorem dX13_readRecord_128 : decode cX13_readRecord 128 = .ok (.istore 6, 2) := by decide +kernel
theorem dX13_readRecord_13 : decode cX13_readRecord 13 = .ok (.iaload, 1) := by decide +kernel
theorem dX13_readRecord_130 : decode cX13_readRecord 130 = .ok (.iload 6, 2) := by decide +kernel
theorem dX13_readRecord_132 : decode cX13_readRecord 132 = .ok (.ifCond .lt 40, 3) := by decide +kernel
theorem dX13_readRecord_135 : decode cX13_readRecord 135 = .ok (.lload_n 2, 1) := by decide +kernel
theorem dX13_readRecord_136 : decode cX13_readRecord 136 = .ok (.iload 5, 2) := by decide +kernel
theorem dX13_readRecord_138 : decode cX13_readRecord 138 = .ok (.lshr, 1) := by decide +kernel
theorem dX13_readRecord_139 : decode cX13_readRecord 139 = .ok (.lconst 1, 1) := by decide +kernel
theorem dX13_readRecord_14 : decode cX13_readRecord 14 = .ok (.istore 6, 2) := by decide +kernel
theorem dX13_readRecord_140 : decode cX13_readRecord 140 = .ok (.land, 1) := by decide +kernel
theorem dX13_readRecord_141 : decode cX13_readRecord 141 = .ok (.lconst 1, 1) := by decide +kernel
theorem dX13_readRecord_142 : decode cX13_readRecord 142 = .ok (.lcmp, 1) := by decide +kernel
theorem dX13_readRecord_143 : decode cX13_readRecord 143 = .ok (.ifCond .ne 14, 3) := by decide +kernel
theorem dX13_readRecord_146 : decode cX13_readRecord 146 = .ok (.aload_n 0, 1) := by decide +kernel
theorem dX13_readRecord_147 : decode cX13_readRecord 147 = .ok (.aload_n 0, 1) := by decide +kernel
theorem dX13_readRecord_148 : decode cX13_readRecord 148 = .ok (.getfield 32, 3) := by decide +kernel
theorem dX13_readRecord_151 : decode cX13_readRecord 151 = .ok (.iload 6, 2) := by decide +kernel
theorem dX13_readRecord_153 : decode cX13_readRecord 153 = .ok (.laload, 1) := by decide +kernel
theorem dX13_readRecord_154 : decode cX13_readRecord 154 = .ok (.invokevirtual 1192, 3) := by decide +kernel
theorem dX13_readRecord_157 : decode cX13_readRecord 157 = .ok (.iinc 5 1, 3) := by decide +kernel
theorem dX13_readRecord_16 : decode cX13_readRecord 16 = .ok (.iload 6, 2) := by decide +kernel
theorem dX13_readRecord_160 : decode cX13_readRecord 160 = .ok (.aload_n 0, 1) := by decide +kernel
theorem dX13_readRecord_161 : decode cX13_readRecord 161 = .ok (.getfield 42, 3) := by decide +kernel
theorem dX13_readRecord_164 : decode cX13_readRecord 164 = .ok (.iload 6, 2) := by decide +kernel
theorem dX13_readRecord_166 : decode cX13_readRecord 166 = .ok (.iaload, 1) := by decide +kernel
theorem dX13_readRecord_167 : decode cX13_readRecord 167 = .ok (.istore 6, 2) := by decide +kernel
theorem dX13_readRecord_169 : decode cX13_readRecord 169 = .ok (.goto (-39), 3) := by decide +kernel
theorem dX13_readRecord_172 : decode cX13_readRecord 172 = .ok (.aload_n 0, 1) := by decide +kernel
theorem dX13_readRecord_173 : decode cX13_readRecord 173 = .ok (.iconst 2, 1) := by decide +kernel
theorem dX13_readRecord_174 : decode cX13_readRecord 174 = .ok (.aload_n 0, 1) := by decide +kernel
theorem dX13_readRecord_175 : decode cX13_readRecord 175 = .ok (.getfield 39, 3) := by decide +kernel
theorem dX13_readRecord_178 : decode cX13_readRecord 178 = .ok (.iload_n 1, 1) := by decide +kernel
theorem dX13_readRecord_179 : decode cX13_readRecord 179 = .ok (.iaload, 1) := by decide +kernel
theorem dX13_readRecord_18 : decode cX13_readRecord 18 = .ok (.ifCond .lt 78, 3) := by decide +kernel
theorem dX13_readRecord_180 : decode cX13_readRecord 180 = .ok (.invokevirtual 1170, 3) := by decide +kernel
theorem dX13_readRecord_183 : decode cX13_readRecord 183 = .ok (.aload_n 0, 1) := by decide +kernel
theorem dX13_readRecord_184 : decode cX13_readRecord 184 = .ok (.getfield 235, 3) := by decide +kernel
theorem dX13_readRecord_187 : decode cX13_readRecord 187 = .ok (.aload_n 0, 1) := by decide +kernel
theorem dX13_readRecord_188 : decode cX13_readRecord 188 = .ok (.getfield 1167, 3) := by decide +kernel
theorem dX13_readRecord_191 : decode cX13_readRecord 191 = .ok (.iconst 1, 1) := by decide +kernel
theorem dX13_readRecord_192 : decode cX13_readRecord 192 = .ok (.isub, 1) := by decide +kernel
theorem dX13_readRecord_193 : decode cX13_readRecord 193 = .ok (.lload_n 2, 1) := by decide +kernel
theorem dX13_readRecord_194 : decode cX13_readRecord 194 = .ok (.lastore, 1) := by decide +kernel
theorem dX13_readRecord_195 : decode cX13_readRecord 195 = .ok (.return_, 1) := by decide +kernel
theorem dX13_readRecord_2 : decode cX13_readRecord 2 = .ok (.iconst 0, 1) := by decide +kernel
theorem dX13_readRecord_21 : decode cX13_readRecord 21 = .ok (.aload_n 0, 1) := by decide +kernel
theorem dX13_readRecord_22 : decode cX13_readRecord 22 = .ok (.getfield 36, 3) := by decide +kernel
theorem dX13_readRecord_25 : decode cX13_readRecord 25 = .ok (.iload 6, 2) := by decide +kernel
theorem dX13_readRecord_27 : decode cX13_readRecord 27 = .ok (.laload, 1) := by decide +kernel
theorem dX13_readRecord_28 : decode cX13_readRecord 28 = .ok (.lconst 0, 1) := by decide +kernel
theorem dX13_readRecord_29 : decode cX13_readRecord 29 = .ok (.lcmp, 1) := by decide +kernel
theorem dX13_readRecord_3 : decode cX13_readRecord 3 = .ok (.istore 4, 2) := by decide +kernel
theorem dX13_readRecord_30 : decode cX13_readRecord 30 = .ok (.ifCond .eq 13, 3) := by decide +kernel
theorem dX13_readRecord_33 : decode cX13_readRecord 33 = .ok (.aload_n 0, 1) := by decide +kernel
theorem dX13_readRecord_34 : decode cX13_readRecord 34 = .ok (.iconst 1, 1) := by decide +kernel
theorem dX13_readRecord_35 : decode cX13_readRecord 35 = .ok (.invokevirtual 1195, 3) := by decide +kernel
theorem dX13_readRecord_38 : decode cX13_readRecord 38 = .ok (.lconst 1, 1) := by decide +kernel
theorem dX13_readRecord_39 : decode cX13_readRecord 39 = .ok (.lcmp, 1) := by decide +kernel
theorem dX13_readRecord_40 : decode cX13_readRecord 40 = .ok (.ifCond .ne 7, 3) := by decide +kernel
theorem dX13_readRecord_43 : decode cX13_readRecord 43 = .ok (.iconst 1, 1) := by decide +kernel
theorem dX13_readRecord_44 : decode cX13_readRecord 44 = .ok (.goto 4, 3) := by decide +kernel
theorem dX13_readRecord_47 : decode cX13_readRecord 47 = .ok (.iconst 0, 1) := by decide +kernel
theorem dX13_readRecord_48 : decode cX13_readRecord 48 = .ok (.istore 7, 2) := by decide +kernel
theorem dX13_readRecord_5 : decode cX13_readRecord 5 = .ok (.iconst 0, 1) := by decide +kernel
theorem dX13_readRecord_50 : decode cX13_readRecord 50 = .ok (.lload_n 2, 1) := by decide +kernel
theorem dX13_readRecord_51 : decode cX13_readRecord 51 = .ok (.iload 7, 2) := by decide +kernel
theorem dX13_readRecord_53 : decode cX13_readRecord 53 = .ok (.ifCond .eq 10, 3) := by decide +kernel
theorem dX13_readRecord_56 : decode cX13_readRecord 56 = .ok (.lconst 1, 1) := by decide +kernel
theorem dX13_readRecord_57 : decode cX13_readRecord 57 = .ok (.iload 5, 2) := by decide +kernel
theorem dX13_readRecord_59 : decode cX13_readRecord 59 = .ok (.lshl, 1) := by decide +kernel
theorem dX13_readRecord_6 : decode cX13_readRecord 6 = .ok (.istore 5, 2) := by decide +kernel
theorem dX13_readRecord_60 : decode cX13_readRecord 60 = .ok (.goto 4, 3) := by decide +kernel
theorem dX13_readRecord_63 : decode cX13_readRecord 63 = .ok (.lconst 0, 1) := by decide +kernel
theorem dX13_readRecord_64 : decode cX13_readRecord 64 = .ok (.lor, 1) := by decide +kernel
theorem dX13_readRecord_65 : decode cX13_readRecord 65 = .ok (.lstore_n 2, 1) := by decide +kernel
theorem dX13_readRecord_66 : decode cX13_readRecord 66 = .ok (.iload 4, 2) := by decide +kernel
theorem dX13_readRecord_68 : decode cX13_readRecord 68 = .ok (.iload 7, 2) := by decide +kernel
theorem dX13_readRecord_70 : decode cX13_readRecord 70 = .ok (.ifCond .eq 7, 3) := by decide +kernel
theorem dX13_readRecord_73 : decode cX13_readRecord 73 = .ok (.iconst 1, 1) := by decide +kernel
theorem dX13_readRecord_74 : decode cX13_readRecord 74 = .ok (.goto 4, 3) := by decide +kernel
theorem dX13_readRecord_77 : decode cX13_readRecord 77 = .ok (.iconst 0, 1) := by decide +kernel
theorem dX13_readRecord_78 : decode cX13_readRecord 78 = .ok (.iadd, 1) := by decide +kernel
theorem dX13_readRecord_79 : decode cX13_readRecord 79 = .ok (.istore 4, 2) := by decide +kernel
theorem dX13_readRecord_8 : decode cX13_readRecord 8 = .ok (.aload_n 0, 1) := by decide +kernel
theorem dX13_readRecord_81 : decode cX13_readRecord 81 = .ok (.iinc 5 1, 3) := by decide +kernel
theorem dX13_readRecord_84 : decode cX13_readRecord 84 = .ok (.aload_n 0, 1) := by decide +kernel
theorem dX13_readRecord_85 : decode cX13_readRecord 85 = .ok (.getfield 42, 3) := by decide +kernel
theorem dX13_readRecord_88 : decode cX13_readRecord 88 = .ok (.iload 6, 2) := by decide +kernel
theorem dX13_readRecord_9 : decode cX13_readRecord 9 = .ok (.getfield 39, 3) := by decide +kernel
theorem dX13_readRecord_90 : decode cX13_readRecord 90 = .ok (.iaload, 1) := by decide +kernel
theorem dX13_readRecord_91 : decode cX13_readRecord 91 = .ok (.istore 6, 2) := by decide +kernel
theorem dX13_readRecord_93 : decode cX13_readRecord 93 = .ok (.goto (-77), 3) := by decide +kernel
theorem dX13_readRecord_96 : decode cX13_readRecord 96 = .ok (.aload_n 0, 1) := by decide +kernel
theorem dX13_readRecord_97 : decode cX13_readRecord 97 = .ok (.getfield 1155, 3) := by decide +kernel
noncomputable def k_X13_readRecord_78 (l1 : Int32) (l2 : Int64) (l5 : Int32) (l6 : Int32) (k0 : Int32) (k1 : Int32) (s : t_S) : Option ((Int32 × Int64 × Int32 × Int32 × Int32 × t_S) ⊕ (t_S)) :=
 if t_ix l6 13000 = true then
  some (.inl (l1, l2, (k1 + k0), (l5 + 1), (s.1 960 (l6.toNatClampNeg)), s))
else none
set_option maxRecDepth 4000 in
set_option maxHeartbeats 1000000 in
theorem B_X13_readRecord_78 {D : va_G} {cy : Nat → ClassId} {ad : Nat → Nat} {bs : Nat} {X : State → Heap → Prop} (l1 : Int32) (l2 : Int64) (l5 : Int32) (l6 : Int32) (k0 : Int32) (k1 : Int32) (s : t_S) (Q : (Int32 × Int64 × Int32 × Int32 × Int32 × t_S) ⊕ (t_S) → Prop) (Hb16 : ∀ (y0 : Int32) (y1 : Int64) (y2 : Int32) (y3 : Int32) (y4 : Int32) (y5 : t_S), Q (.inl (y0, y1, y2, y3, y4, y5)) → mj_G D cy ad bs X cX13_readRecord 8 yX13_readRecord.cls none yX13_readRecord.name 2 0 0 1065 (t_P (fun v s' => v = none ∧ Q (.inr (s')))) 16 [(0, .ref 950), (1, .int (y0)), (2, .long (y1)), (4, .int (y2)), (5, .int (y3)), (6, .int (y4))] [] (t_m y5) 1065 0 0) (hk : t_hk (k_X13_readRecord_78 l1 l2 l5 l6 k0 k1 s) Q) : mj_G D cy ad bs X cX13_readRecord 8 yX13_readRecord.cls none yX13_readRecord.name 2 0 0 1065 (t_P (fun v s' => v = none ∧ Q (.inr (s')))) 78 [(0, .ref 950), (1, .int l1), (2, .long l2), (5, .int l5), (6, .int l6)] [.int k0, .int k1] (t_m s) 1065 0 0 := by
  refine mj_iadd dX13_readRecord_78 ?_
  refine mj_istore (lv2 := [(4, .int (k1 + k0)), (0, .ref 950), (1, .int l1), (2, .long l2), (5, .int l5), (6, .int l6)]) dX13_readRecord_79 (by decide) rfl ?_
  refine mj_iinc (k := 4) (v := (l5 + 1)) (lv2 := [(5, .int (l5 + 1)), (4, .int (k1 + k0)), (0, .ref 950), (1, .int l1), (2, .long l2), (6, .int l6)]) dX13_readRecord_81 rfl rfl (by decide) rfl ?_
  refine mj_aload_n dX13_readRecord_84 2 rfl ?_
  refine t_getR 960 dX13_readRecord_85 F_X13_42 qr_950_22 ?_
  refine mj_iload dX13_readRecord_88 5 rfl ?_
  refine t_chkK hk (fun c0 hk => ?_)
  refine t_iald dX13_readRecord_90 qa_960 (t_ixv c0) ?_
  refine mj_istore (lv2 := [(6, .int (s.1 960 (l6.toNatClampNeg))), (5, .int (l5 + 1)), (4, .int (k1 + k0)), (0, .ref 950), (1, .int l1), (2, .long l2)]) dX13_readRecord_91 (by decide) rfl ?_
  refine mj_goto 16 dX13_readRecord_93 (by decide) ?_
  refine mj_sublv [(0, .ref 950), (1, .int l1), (2, .long l2), (4, .int (k1 + k0)), (5, .int (l5 + 1)), (6, .int (s.1 960 (l6.toNatClampNeg)))] [3, 4, 5, 2, 1, 0] rfl ?_
  exact t_somK hk (fun hf => Hb16 l1 l2 (k1 + k0) (l5 + 1) (s.1 960 (l6.toNatClampNeg)) s hf)
noncomputable def k_X13_readRecord_64 (l1 : Int32) (l4 : Int32) (l5 : Int32) (l6 : Int32) (l7 : Int32) (k0 : Int64) (k1 : Int64) (s : t_S) : Option ((Int32 × Int64 × Int32 × Int32 × Int32 × t_S) ⊕ (t_S)) :=
 if l7 = (0 : Int32) then (k_X13_readRecord_78 l1 (k1 ||| k0) l5 l6 0 l4 s)
 else (k_X13_readRecord_78 l1 (k1 ||| k0) l5 l6 1 l4 s)
set_option maxRecDepth 4000 in
set_option maxHeartbeats 1000000 in
theorem B_X13_readRecord_64 {D : va_G} {cy : Nat → ClassId} {ad : Nat → Nat} {bs : Nat} {X : State → Heap → Prop} (l1 : Int32) (l4 : Int32) (l5 : Int32) (l6 : Int32) (l7 : Int32) (k0 : Int64) (k1 : Int64) (s : t_S) (Q : (Int32 × Int64 × Int32 × Int32 × Int32 × t_S) ⊕ (t_S) → Prop) (Hb16 : ∀ (y0 : Int32) (y1 : Int64) (y2 : Int32) (y3 : Int32) (y4 : Int32) (y5 : t_S), Q (.inl (y0, y1, y2, y3, y4, y5)) → mj_G D cy ad bs X cX13_readRecord 8 yX13_readRecord.cls none yX13_readRecord.name 2 0 0 1065 (t_P (fun v s' => v = none ∧ Q (.inr (s')))) 16 [(0, .ref 950), (1, .int (y0)), (2, .long (y1)), (4, .int (y2)), (5, .int (y3)), (6, .int (y4))] [] (t_m y5) 1065 0 0) (hk : t_hk (k_X13_readRecord_64 l1 l4 l5 l6 l7 k0 k1 s) Q) : mj_G D cy ad bs X cX13_readRecord 8 yX13_readRecord.cls none yX13_readRecord.name 2 0 0 1065 (t_P (fun v s' => v = none ∧ Q (.inr (s')))) 64 [(0, .ref 950), (1, .int l1), (4, .int l4), (5, .int l5), (6, .int l6), (7, .int l7)] [.long k0, .long k1] (t_m s) 1065 0 0 := by
  refine mj_lor dX13_readRecord_64 ?_
  refine mj_lstore_n 2 (lv2 := [(2, .long (k1 ||| k0)), (0, .ref 950), (1, .int l1), (4, .int l4), (5, .int l5), (6, .int l6), (7, .int l7)]) dX13_readRecord_65 rfl (by decide) rfl ?_
  refine mj_iload dX13_readRecord_66 3 rfl ?_
  refine mj_iload dX13_readRecord_68 6 rfl ?_
  refine mj_if_eq 77 dX13_readRecord_70 (by decide) (fun z => t_posK hk z (fun hk => ?_)) (fun z => t_negK hk z (fun hk => ?_))
  · refine mj_iconst (v := 0) dX13_readRecord_77 (by decide) ?_
    refine mj_sublv [(0, .ref 950), (1, .int l1), (2, .long (k1 ||| k0)), (5, .int l5), (6, .int l6)] [1, 2, 0, 4, 5] rfl ?_
    exact B_X13_readRecord_78 _ _ _ _ _ _ _ _ (fun y0 y1 y2 y3 y4 y5 hx => Hb16 y0 y1 y2 y3 y4 y5 hx) hk
  · refine mj_iconst (v := 1) dX13_readRecord_73 (by decide) ?_
    refine mj_goto 78 dX13_readRecord_74 (by decide) ?_
    refine mj_sublv [(0, .ref 950), (1, .int l1), (2, .long (k1 ||| k0)), (5, .int l5), (6, .int l6)] [1, 2, 0, 4, 5] rfl ?_
    exact B_X13_readRecord_78 _ _ _ _ _ _ _ _ (fun y0 y1 y2 y3 y4 y5 hx => Hb16 y0 y1 y2 y3 y4 y5 hx) hk
noncomputable def k_X13_readRecord_48 (l1 : Int32) (l2 : Int64) (l4 : Int32) (l5 : Int32) (l6 : Int32) (k0 : Int32) (s : t_S) : Option ((Int32 × Int64 × Int32 × Int32 × Int32 × t_S) ⊕ (t_S)) :=
 if k0 = (0 : Int32) then (k_X13_readRecord_64 l1 l4 l5 l6 k0 0 l2 s)
 else (k_X13_readRecord_64 l1 l4 l5 l6 k0 ((1 : Int64) <<< (l5.toInt64 &&& 63)) l2 s)
set_option maxRecDepth 4000 in
set_option maxHeartbeats 1000000 in
theorem B_X13_readRecord_48 {D : va_G} {cy : Nat → ClassId} {ad : Nat → Nat} {bs : Nat} {X : State → Heap → Prop} (l1 : Int32) (l2 : Int64) (l4 : Int32) (l5 : Int32) (l6 : Int32) (k0 : Int32) (s : t_S) (Q : (Int32 × Int64 × Int32 × Int32 × Int32 × t_S) ⊕ (t_S) → Prop) (Hb16 : ∀ (y0 : Int32) (y1 : Int64) (y2 : Int32) (y3 : Int32) (y4 : Int32) (y5 : t_S), Q (.inl (y0, y1, y2, y3, y4, y5)) → mj_G D cy ad bs X cX13_readRecord 8 yX13_readRecord.cls none yX13_readRecord.name 2 0 0 1065 (t_P (fun v s' => v = none ∧ Q (.inr (s')))) 16 [(0, .ref 950), (1, .int (y0)), (2, .long (y1)), (4, .int (y2)), (5, .int (y3)), (6, .int (y4))] [] (t_m y5) 1065 0 0) (hk : t_hk (k_X13_readRecord_48 l1 l2 l4 l5 l6 k0 s) Q) : mj_G D cy ad bs X cX13_readRecord 8 yX13_readRecord.cls none yX13_readRecord.name 2 0 0 1065 (t_P (fun v s' => v = none ∧ Q (.inr (s')))) 48 [(0, .ref 950), (1, .int l1), (2, .long l2), (4, .int l4), (5, .int l5), (6, .int l6)] [.int k0] (t_m s) 1065 0 0 := by
  refine mj_istore (lv2 := [(7, .int k0), (0, .ref 950), (1, .int l1), (2, .long l2), (4, .int l4), (5, .int l5), (6, .int l6)]) dX13_readRecord_48 (by decide) rfl ?_
  refine mj_lload_n dX13_readRecord_50 3 rfl ?_
  refine mj_iload dX13_readRecord_51 0 rfl ?_
  refine mj_if_eq 63 dX13_readRecord_53 (by decide) (fun z => t_posK hk z (fun hk => ?_)) (fun z => t_negK hk z (fun hk => ?_))
  · refine mj_lconst (v := 0) dX13_readRecord_63 (by decide) ?_
    refine mj_sublv [(0, .ref 950), (1, .int l1), (4, .int l4), (5, .int l5), (6, .int l6), (7, .int k0)] [1, 2, 4, 5, 6, 0] rfl ?_
    exact B_X13_readRecord_64 _ _ _ _ _ _ _ _ _ (fun y0 y1 y2 y3 y4 y5 hx => Hb16 y0 y1 y2 y3 y4 y5 hx) hk
  · refine mj_lconst (v := 1) dX13_readRecord_56 (by decide) ?_
    refine mj_iload dX13_readRecord_57 5 rfl ?_
    refine mj_lshl dX13_readRecord_59 rfl ?_
    refine mj_goto 64 dX13_readRecord_60 (by decide) ?_
    refine mj_sublv [(0, .ref 950), (1, .int l1), (4, .int l4), (5, .int l5), (6, .int l6), (7, .int k0)] [1, 2, 4, 5, 6, 0] rfl ?_
    exact B_X13_readRecord_64 _ _ _ _ _ _ _ _ _ (fun y0 y1 y2 y3 y4 y5 hx => Hb16 y0 y1 y2 y3 y4 y5 hx) hk
noncomputable def k_X13_readRecord_157 (l1 : Int32) (l2 : Int64) (l5 : Int32) (l6 : Int32) (s : t_S) : Option ((Int32 × Int64 × Int32 × Int32 × t_S) ⊕ (t_S)) :=
 if t_ix l6 13000 = true then
  some (.inl (l1, l2, (l5 + 1), (s.1 960 (l6.toNatClampNeg)), s))
else none
set_option maxRecDepth 4000 in
set_option maxHeartbeats 1000000 in
theorem B_X13_readRecord_157 {D : va_G} {cy : Nat → ClassId} {ad : Nat → Nat} {bs : Nat} {X : State → Heap → Prop} (l1 : Int32) (l2 : Int64) (l5 : Int32) (l6 : Int32) (s : t_S) (Q : (Int32 × Int64 × Int32 × Int32 × t_S) ⊕ (t_S) → Prop) (Hb130 : ∀ (y0 : Int32) (y1 : Int64) (y2 : Int32) (y3 : Int32) (y4 : t_S), Q (.inl (y0, y1, y2, y3, y4)) → mj_G D cy ad bs X cX13_readRecord 8 yX13_readRecord.cls none yX13_readRecord.name 2 0 0 1065 (t_P (fun v s' => v = none ∧ Q (.inr (s')))) 130 [(0, .ref 950), (1, .int (y0)), (2, .long (y1)), (5, .int (y2)), (6, .int (y3))] [] (t_m y4) 1065 0 0) (hk : t_hk (k_X13_readRecord_157 l1 l2 l5 l6 s) Q) : mj_G D cy ad bs X cX13_readRecord 8 yX13_readRecord.cls none yX13_readRecord.name 2 0 0 1065 (t_P (fun v s' => v = none ∧ Q (.inr (s')))) 157 [(0, .ref 950), (1, .int l1), (2, .long l2), (5, .int l5), (6, .int l6)] [] (t_m s) 1065 0 0 := by
  refine mj_iinc (k := 3) (v := (l5 + 1)) (lv2 := [(5, .int (l5 + 1)), (0, .ref 950), (1, .int l1), (2, .long l2), (6, .int l6)]) dX13_readRecord_157 rfl rfl (by decide) rfl ?_
  refine mj_aload_n dX13_readRecord_160 1 rfl ?_
  refine t_getR 960 dX13_readRecord_161 F_X13_42 qr_950_22 ?_
  refine mj_iload dX13_readRecord_164 4 rfl ?_
  refine t_chkK hk (fun c0 hk => ?_)
  refine t_iald dX13_readRecord_166 qa_960 (t_ixv c0) ?_
  refine mj_istore (lv2 := [(6, .int (s.1 960 (l6.toNatClampNeg))), (5, .int (l5 + 1)), (0, .ref 950), (1, .int l1), (2, .long l2)]) dX13_readRecord_167 (by decide) rfl ?_
  refine mj_goto 130 dX13_readRecord_169 (by decide) ?_
  refine mj_sublv [(0, .ref 950), (1, .int l1), (2, .long l2), (5, .int (l5 + 1)), (6, .int (s.1 960 (l6.toNatClampNeg)))] [2, 3, 4, 1, 0] rfl ?_
  exact t_somK hk (fun hf => Hb130 l1 l2 (l5 + 1) (s.1 960 (l6.toNatClampNeg)) s hf)
noncomputable def k_X13_readRecord_130 (l1 : Int32) (l2 : Int64) (l5 : Int32) (l6 : Int32) (s : t_S) : Option ((Int32 × Int64 × Int32 × Int32 × t_S) ⊕ (t_S)) :=
 if l6 < (0 : Int32) then ((if t_ix l1 13000 = true then
  (f_X13_openOne (2 : Int32) (s.1 959 (l1.toNatClampNeg)) s).bind (fun r2 =>
 if t_ix ((r2.1 950 125) - (1 : Int32)) 400 = true then
  t_let (t_setJ r2 1023 (((r2.1 950 125) - (1 : Int32)).toNatClampNeg) l2) (fun s1 =>
 some (s1))
else none)
else none).map Sum.inr)
 else (if (lg_cmp ((l2 >>> (l5.toInt64 &&& 63)) &&& (1 : Int64)) (1 : Int64)) = (0 : Int32) then (if t_ix l6 13000 = true then
  (f_X13_put (s.2.1 957 (l6.toNatClampNeg)) s).bind (fun r5 =>
 k_X13_readRecord_157 l1 l2 l5 l6 r5)
else none)
 else (k_X13_readRecord_157 l1 l2 l5 l6 s))
set_option maxRecDepth 4000 in
set_option maxHeartbeats 1000000 in
theorem B_X13_readRecord_130 {D : va_G} {cy : Nat → ClassId} {ad : Nat → Nat} {bs : Nat} {X : State → Heap → Prop} (l1 : Int32) (l2 : Int64) (l5 : Int32) (l6 : Int32) (s : t_S) (Q : (Int32 × Int64 × Int32 × Int32 × t_S) ⊕ (t_S) → Prop) (Hb130 : ∀ (y0 : Int32) (y1 : Int64) (y2 : Int32) (y3 : Int32) (y4 : t_S), Q (.inl (y0, y1, y2, y3, y4)) → mj_G D cy ad bs X cX13_readRecord 8 yX13_readRecord.cls none yX13_readRecord.name 2 0 0 1065 (t_P (fun v s' => v = none ∧ Q (.inr (s')))) 130 [(0, .ref 950), (1, .int (y0)), (2, .long (y1)), (5, .int (y2)), (6, .int (y3))] [] (t_m y4) 1065 0 0) (hk : t_hk (k_X13_readRecord_130 l1 l2 l5 l6 s) Q) : mj_G D cy ad bs X cX13_readRecord 8 yX13_readRecord.cls none yX13_readRecord.name 2 0 0 1065 (t_P (fun v s' => v = none ∧ Q (.inr (s')))) 130 [(0, .ref 950), (1, .int l1), (2, .long l2), (5, .int l5), (6, .int l6)] [] (t_m s) 1065 0 0 := by
  refine mj_iload dX13_readRecord_130 4 rfl ?_
  refine mj_if_lt 172 dX13_readRecord_132 (by decide) (fun z => t_posK hk z (fun hk => ?_)) (fun z => t_negK hk z (fun hk => ?_))
  · refine t_mapK hk (fun hk => ?_)
    refine mj_aload_n dX13_readRecord_172 0 rfl ?_
    refine mj_iconst (v := 2) dX13_readRecord_173 (by decide) ?_
    refine mj_aload_n dX13_readRecord_174 0 rfl ?_
    refine t_getR 959 dX13_readRecord_175 F_X13_39 qr_950_21 ?_
    refine mj_iload_n dX13_readRecord_178 1 rfl ?_
    refine t_chkK hk (fun c0 hk => ?_)
    refine t_iald dX13_readRecord_179 qa_959 (t_ixv c0) ?_
    refine t_bndK hk (fun r2 er2 hk => ?_)
    refine t_callVvE dX13_readRecord_180 M_X13_openOne (C_X13_openOne _ _ _ _ er2) ML_X13_1170 IM_X13_openOne SE_X13_openOne qc_950 rfl (As := [.int 2, .int (s.1 959 (l1.toNatClampNeg))]) rfl rfl (Nat.le_of_ble_eq_true rfl) (Nat.le_of_ble_eq_true rfl) (Nat.le_of_ble_eq_true rfl) (Nat.le_of_ble_eq_true rfl) ?_
    refine mj_aload_n dX13_readRecord_183 0 rfl ?_
    refine t_getR 1023 dX13_readRecord_184 F_X13_235 qr_950_124 ?_
    refine mj_aload_n dX13_readRecord_187 0 rfl ?_
    refine t_getI dX13_readRecord_188 F_X13_1167 qf_950_125 ?_
    refine mj_iconst (v := 1) dX13_readRecord_191 (by decide) ?_
    refine mj_isub dX13_readRecord_192 ?_
    refine mj_lload_n dX13_readRecord_193 2 rfl ?_
    refine t_chkK hk (fun c2 hk => ?_)
    refine t_lastK dX13_readRecord_194 qa_1023 (t_ixv c2) (fun s1 ws1 => t_letE hk ws1 (fun hk => ?_))
    exact t_somK hk (fun hf => t_vret dX13_readRecord_195 rfl ⟨rfl, hf⟩ (Nat.le_of_ble_eq_true rfl) (Nat.le_of_ble_eq_true rfl))
  · refine mj_lload_n dX13_readRecord_135 2 rfl ?_
    refine mj_iload dX13_readRecord_136 3 rfl ?_
    refine mj_lshr dX13_readRecord_138 rfl ?_
    refine mj_lconst (v := 1) dX13_readRecord_139 (by decide) ?_
    refine mj_land dX13_readRecord_140 ?_
    refine mj_lconst (v := 1) dX13_readRecord_141 (by decide) ?_
    refine mj_lcmp dX13_readRecord_142 ?_
    refine mj_if_ne 157 dX13_readRecord_143 (by decide) (fun z => t_negK hk z (fun hk => ?_)) (fun z => t_posK hk z (fun hk => ?_))
    · exact B_X13_readRecord_157 _ _ _ _ _ _ (fun y0 y1 y2 y3 y4 hx => Hb130 y0 y1 y2 y3 y4 hx) hk
    · refine mj_aload_n dX13_readRecord_146 0 rfl ?_
      refine mj_aload_n dX13_readRecord_147 0 rfl ?_
      refine t_getR 957 dX13_readRecord_148 F_X13_32 qr_950_19 ?_
      refine mj_iload dX13_readRecord_151 4 rfl ?_
      refine t_chkK hk (fun c3 hk => ?_)
      refine t_lald dX13_readRecord_153 qa_957 (t_ixv c3) ?_
      refine t_bndK hk (fun r5 er5 hk => ?_)
      refine t_callVvE dX13_readRecord_154 M_X13_put (C_X13_put _ _ _ er5) ML_X13_1192 IM_X13_put SE_X13_put qc_950 rfl (As := [.long (s.2.1 957 (l6.toNatClampNeg))]) rfl rfl (Nat.le_of_ble_eq_true rfl) (Nat.le_of_ble_eq_true rfl) (Nat.le_of_ble_eq_true rfl) (Nat.le_of_ble_eq_true rfl) ?_
      exact B_X13_readRecord_157 _ _ _ _ _ _ (fun y0 y1 y2 y3 y4 hx => Hb130 y0 y1 y2 y3 y4 hx) hk
noncomputable def b_X13_readRecord_130 (x : Int32 × Int64 × Int32 × Int32 × t_S) : Option ((Int32 × Int64 × Int32 × Int32 × t_S) ⊕ (t_S)) := k_X13_readRecord_130 x.1 x.2.1 x.2.2.1 x.2.2.2.1 x.2.2.2.2
set_option maxRecDepth 4000 in
set_option maxHeartbeats 1000000 in
theorem LH_X13_readRecord_130 {D : va_G} {cy : Nat → ClassId} {ad : Nat → Nat} {bs : Nat} {X : State → Heap → Prop} : ∀ (n : Nat) (y0 : Int32) (y1 : Int64) (y2 : Int32) (y3 : Int32) (y4 : t_S) (Q : t_S → Prop) (hk : t_hk (t_loop (b_X13_readRecord_130) n (y0, y1, y2, y3, y4)) Q), mj_G D cy ad bs X cX13_readRecord 8 yX13_readRecord.cls none yX13_readRecord.name 2 0 0 1065 (t_P (fun v s' => v = none ∧ Q (s'))) 130 [(0, .ref 950), (1, .int (y0)), (2, .long (y1)), (5, .int (y2)), (6, .int (y3))] [] (t_m y4) 1065 0 0 := by
  intro n
  induction n with
  | zero => intro y0 y1 y2 y3 y4 Q hk; obtain ⟨r, hr, _⟩ := hk; cases hr
  | succ n ih =>
    intro y0 y1 y2 y3 y4 Q hk
    exact B_X13_readRecord_130 y0 y1 y2 y3 y4 (fun y => t_lq (b_X13_readRecord_130) n Q y) (fun y0' y1' y2' y3' y4' hy => ih y0' y1' y2' y3' y4' Q hy) (t_lp (b := b_X13_readRecord_130) (n := n) (x := (y0, y1, y2, y3, y4)) hk)
noncomputable def k_X13_readRecord_43 (l1 : Int32) (l2 : Int64) (l4 : Int32) (l5 : Int32) (l6 : Int32) (s : t_S) : Option ((Int32 × Int64 × Int32 × Int32 × Int32 × t_S) ⊕ (t_S)) :=
 k_X13_readRecord_48 l1 l2 l4 l5 l6 1 s
set_option maxRecDepth 4000 in
set_option maxHeartbeats 1000000 in
theorem B_X13_readRecord_43 {D : va_G} {cy : Nat → ClassId} {ad : Nat → Nat} {bs : Nat} {X : State → Heap → Prop} (l1 : Int32) (l2 : Int64) (l4 : Int32) (l5 : Int32) (l6 : Int32) (s : t_S) (Q : (Int32 × Int64 × Int32 × Int32 × Int32 × t_S) ⊕ (t_S) → Prop) (Hb16 : ∀ (y0 : Int32) (y1 : Int64) (y2 : Int32) (y3 : Int32) (y4 : Int32) (y5 : t_S), Q (.inl (y0, y1, y2, y3, y4, y5)) → mj_G D cy ad bs X cX13_readRecord 8 yX13_readRecord.cls none yX13_readRecord.name 2 0 0 1065 (t_P (fun v s' => v = none ∧ Q (.inr (s')))) 16 [(0, .ref 950), (1, .int (y0)), (2, .long (y1)), (4, .int (y2)), (5, .int (y3)), (6, .int (y4))] [] (t_m y5) 1065 0 0) (hk : t_hk (k_X13_readRecord_43 l1 l2 l4 l5 l6 s) Q) : mj_G D cy ad bs X cX13_readRecord 8 yX13_readRecord.cls none yX13_readRecord.name 2 0 0 1065 (t_P (fun v s' => v = none ∧ Q (.inr (s')))) 43 [(0, .ref 950), (1, .int l1), (2, .long l2), (4, .int l4), (5, .int l5), (6, .int l6)] [] (t_m s) 1065 0 0 := by
  refine mj_iconst (v := 1) dX13_readRecord_43 (by decide) ?_
  refine mj_goto 48 dX13_readRecord_44 (by decide) ?_
  exact B_X13_readRecord_48 _ _ _ _ _ _ _ _ (fun y0 y1 y2 y3 y4 y5 hx => Hb16 y0 y1 y2 y3 y4 y5 hx) hk
noncomputable def k_X13_readRecord_16 (l1 : Int32) (l2 : Int64) (l4 : Int32) (l5 : Int32) (l6 : Int32) (s : t_S) : Option ((Int32 × Int64 × Int32 × Int32 × Int32 × t_S) ⊕ (t_S)) :=
 if l6 < (0 : Int32) then ((if (s.1 950 127) = (-1 : Int32) then ((f_X13_put (6 : Int64) s).bind (fun r1 =>
 (f_X13_put l4.toInt64 r1).bind (fun r2 =>
 if t_ix l1 13000 = true then
  t_loop (b_X13_readRecord_130) t_N (l1, l2, 0, (r2.1 959 (l1.toNatClampNeg)), r2)
else none)))
 else (some (s))).map Sum.inr)
 else (if t_ix l6 13000 = true then
  if (lg_cmp (s.2.1 958 (l6.toNatClampNeg)) (0 : Int64)) = (0 : Int32) then (k_X13_readRecord_43 l1 l2 l4 l5 l6 s)
 else ((f_X13_take (1 : Int32) s).bind (fun r5 =>
 if (lg_cmp r5.1 (1 : Int64)) = (0 : Int32) then (k_X13_readRecord_43 l1 l2 l4 l5 l6 r5.2)
 else (k_X13_readRecord_48 l1 l2 l4 l5 l6 0 r5.2)))
else none)
set_option maxRecDepth 4000 in
set_option maxHeartbeats 1000000 in
theorem B_X13_readRecord_16 {D : va_G} {cy : Nat → ClassId} {ad : Nat → Nat} {bs : Nat} {X : State → Heap → Prop} (l1 : Int32) (l2 : Int64) (l4 : Int32) (l5 : Int32) (l6 : Int32) (s : t_S) (Q : (Int32 × Int64 × Int32 × Int32 × Int32 × t_S) ⊕ (t_S) → Prop) (Hb16 : ∀ (y0 : Int32) (y1 : Int64) (y2 : Int32) (y3 : Int32) (y4 : Int32) (y5 : t_S), Q (.inl (y0, y1, y2, y3, y4, y5)) → mj_G D cy ad bs X cX13_readRecord 8 yX13_readRecord.cls none yX13_readRecord.name 2 0 0 1065 (t_P (fun v s' => v = none ∧ Q (.inr (s')))) 16 [(0, .ref 950), (1, .int (y0)), (2, .long (y1)), (4, .int (y2)), (5, .int (y3)), (6, .int (y4))] [] (t_m y5) 1065 0 0) (hk : t_hk (k_X13_readRecord_16 l1 l2 l4 l5 l6 s) Q) : mj_G D cy ad bs X cX13_readRecord 8 yX13_readRecord.cls none yX13_readRecord.name 2 0 0 1065 (t_P (fun v s' => v = none ∧ Q (.inr (s')))) 16 [(0, .ref 950), (1, .int l1), (2, .long l2), (4, .int l4), (5, .int l5), (6, .int l6)] [] (t_m s) 1065 0 0 := by
  refine mj_iload dX13_readRecord_16 5 rfl ?_
  refine mj_if_lt 96 dX13_readRecord_18 (by decide) (fun z => t_posK hk z (fun hk => ?_)) (fun z => t_negK hk z (fun hk => ?_))
  · refine t_mapK hk (fun hk => ?_)
    refine mj_aload_n dX13_readRecord_96 0 rfl ?_
    refine t_getI dX13_readRecord_97 F_X13_1155 qf_950_127 ?_
    refine mj_iconst (v := (-1)) dX13_readRecord_100 (by decide) ?_
    refine mj_icmp_eq 105 dX13_readRecord_101 (by decide) (fun z => t_posK hk z (fun hk => ?_)) (fun z => t_negK hk z (fun hk => ?_))
    · refine mj_aload_n dX13_readRecord_105 0 rfl ?_
      refine mj_ldc2 dX13_readRecord_106 K_X13_853 ?_
      refine t_bndK hk (fun r1 er1 hk => ?_)
      refine t_callVvE dX13_readRecord_109 M_X13_put (C_X13_put _ _ _ er1) ML_X13_1192 IM_X13_put SE_X13_put qc_950 rfl (As := [.long 6]) rfl rfl (Nat.le_of_ble_eq_true rfl) (Nat.le_of_ble_eq_true rfl) (Nat.le_of_ble_eq_true rfl) (Nat.le_of_ble_eq_true rfl) ?_
      refine mj_aload_n dX13_readRecord_112 0 rfl ?_
      refine mj_iload dX13_readRecord_113 3 rfl ?_
      refine mj_i2l (v := l4.toInt64) dX13_readRecord_115 rfl ?_
      refine t_bndK hk (fun r2 er2 hk => ?_)
      refine t_callVvE dX13_readRecord_116 M_X13_put (C_X13_put _ _ _ er2) ML_X13_1192 IM_X13_put SE_X13_put qc_950 rfl (As := [.long l4.toInt64]) rfl rfl (Nat.le_of_ble_eq_true rfl) (Nat.le_of_ble_eq_true rfl) (Nat.le_of_ble_eq_true rfl) (Nat.le_of_ble_eq_true rfl) ?_
      refine mj_iconst (v := 0) dX13_readRecord_119 (by decide) ?_
      refine mj_istore (lv2 := [(5, .int 0), (0, .ref 950), (1, .int l1), (2, .long l2), (4, .int l4), (6, .int l6)]) dX13_readRecord_120 (by decide) rfl ?_
      refine mj_aload_n dX13_readRecord_122 1 rfl ?_
      refine t_getR 959 dX13_readRecord_123 F_X13_39 qr_950_21 ?_
      refine mj_iload_n dX13_readRecord_126 2 rfl ?_
      refine t_chkK hk (fun c2 hk => ?_)
      refine t_iald dX13_readRecord_127 qa_959 (t_ixv c2) ?_
      refine mj_istore (lv2 := [(6, .int (r2.1 959 (l1.toNatClampNeg))), (5, .int 0), (0, .ref 950), (1, .int l1), (2, .long l2), (4, .int l4)]) dX13_readRecord_128 (by decide) rfl ?_
      refine mj_sublv [(0, .ref 950), (1, .int l1), (2, .long l2), (5, .int 0), (6, .int (r2.1 959 (l1.toNatClampNeg)))] [2, 3, 4, 1, 0] rfl ?_
      exact LH_X13_readRecord_130 _ l1 l2 0 (r2.1 959 (l1.toNatClampNeg)) r2 _ hk
    · exact t_somK hk (fun hf => t_vret dX13_readRecord_104 rfl ⟨rfl, hf⟩ (Nat.le_of_ble_eq_true rfl) (Nat.le_of_ble_eq_true rfl))
  · refine mj_aload_n dX13_readRecord_21 0 rfl ?_
    refine t_getR 958 dX13_readRecord_22 F_X13_36 qr_950_20 ?_
    refine mj_iload dX13_readRecord_25 5 rfl ?_
    refine t_chkK hk (fun c3 hk => ?_)
    refine t_lald dX13_readRecord_27 qa_958 (t_ixv c3) ?_
    refine mj_lconst (v := 0) dX13_readRecord_28 (by decide) ?_
    refine mj_lcmp dX13_readRecord_29 ?_
    refine mj_if_eq 43 dX13_readRecord_30 (by decide) (fun z => t_posK hk z (fun hk => ?_)) (fun z => t_negK hk z (fun hk => ?_))
    · exact B_X13_readRecord_43 _ _ _ _ _ _ _ (fun y0 y1 y2 y3 y4 y5 hx => Hb16 y0 y1 y2 y3 y4 y5 hx) hk
    · refine mj_aload_n dX13_readRecord_33 0 rfl ?_
      refine mj_iconst (v := 1) dX13_readRecord_34 (by decide) ?_
      refine t_bndK hk (fun r5 er5 hk => ?_)
      refine t_callVlE dX13_readRecord_35 M_X13_take (C_X13_take _ _ _ er5) ML_X13_1195 IM_X13_take SE_X13_take qc_950 rfl (As := [.int 1]) rfl rfl (Nat.le_of_ble_eq_true rfl) (Nat.le_of_ble_eq_true rfl) (Nat.le_of_ble_eq_true rfl) (Nat.le_of_ble_eq_true rfl) ?_
      refine mj_lconst (v := 1) dX13_readRecord_38 (by decide) ?_
      refine mj_lcmp dX13_readRecord_39 ?_
      refine mj_if_ne 47 dX13_readRecord_40 (by decide) (fun z => t_negK hk z (fun hk => ?_)) (fun z => t_posK hk z (fun hk => ?_))
      · refine mj_iconst (v := 0) dX13_readRecord_47 (by decide) ?_
        exact B_X13_readRecord_48 _ _ _ _ _ _ _ _ (fun y0 y1 y2 y3 y4 y5 hx => Hb16 y0 y1 y2 y3 y4 y5 hx) hk
      · exact B_X13_readRecord_43 _ _ _ _ _ _ _ (fun y0 y1 y2 y3 y4 y5 hx => Hb16 y0 y1 y2 y3 y4 y5 hx) hk
noncomputable def b_X13_readRecord_16 (x : Int32 × Int64 × Int32 × Int32 × Int32 × t_S) : Option ((Int32 × Int64 × Int32 × Int32 × Int32 × t_S) ⊕ (t_S)) := k_X13_readRecord_16 x.1 x.2.1 x.2.2.1 x.2.2.2.1 x.2.2.2.2.1 x.2.2.2.2.2
set_option maxRecDepth 4000 in
set_option maxHeartbeats 1000000 in
theorem LH_X13_readRecord_16 {D : va_G} {cy : Nat → ClassId} {ad : Nat → Nat} {bs : Nat} {X : State → Heap → Prop} : ∀ (n : Nat) (y0 : Int32) (y1 : Int64) (y2 : Int32) (y3 : Int32) (y4 : Int32) (y5 : t_S) (Q : t_S → Prop) (hk : t_hk (t_loop (b_X13_readRecord_16) n (y0, y1, y2, y3, y4, y5)) Q), mj_G D cy ad bs X cX13_readRecord 8 yX13_readRecord.cls none yX13_readRecord.name 2 0 0 1065 (t_P (fun v s' => v = none ∧ Q (s'))) 16 [(0, .ref 950), (1, .int (y0)), (2, .long (y1)), (4, .int (y2)), (5, .int (y3)), (6, .int (y4))] [] (t_m y5) 1065 0 0 := by
  intro n
  induction n with
  | zero => intro y0 y1 y2 y3 y4 y5 Q hk; obtain ⟨r, hr, _⟩ := hk; cases hr
  | succ n ih =>
    intro y0 y1 y2 y3 y4 y5 Q hk
    exact B_X13_readRecord_16 y0 y1 y2 y3 y4 y5 (fun y => t_lq (b_X13_readRecord_16) n Q y) (fun y0' y1' y2' y3' y4' y5' hy => ih y0' y1' y2' y3' y4' y5' Q hy) (t_lp (b := b_X13_readRecord_16) (n := n) (x := (y0, y1, y2, y3, y4, y5)) hk)
noncomputable def f_X13_readRecord (x1 : Int32) (s : t_S) : Option (t_S) :=
 if t_ix x1 13000 = true then
  t_loop (b_X13_readRecord_16) t_N (x1, 0, 0, 0, (s.1 959 (x1.toNatClampNeg)), s)
else none
set_option maxRecDepth 4000 in
set_option maxHeartbeats 1000000 in
theorem C_X13_readRecord (x1 : Int32) (s : t_S) (r : t_S) (hr : f_X13_readRecord x1 s = some r) : t_C yX13_readRecord cX13_readRecord 8 none 2 [.ref 950, .int x1] s (fun v s' => v = none ∧ s' = r) := by
  refine t_C.imp (P := fun v s' => v = none ∧ (fun q => q = r) (s')) (t_C.of (by decide +kernel) (Nat.le_of_ble_eq_true rfl) ?_) (fun v s' hp => hp)
  intro D cy ad bs X
  have hk : t_hk (f_X13_readRecord x1 s) (fun q => q = r) := ⟨r, hr, rfl⟩
  show mj_G D cy ad bs X cX13_readRecord 8 yX13_readRecord.cls none yX13_readRecord.name 2 0 0 1065 (t_P (fun v s' => v = none ∧ (fun q => q = r) (s'))) 0 [(0, .ref 950), (1, .int x1)] [] (t_m s) 1065 0 0
  refine mj_lconst (v := 0) dX13_readRecord_0 (by decide) ?_
  refine mj_lstore_n 2 (lv2 := [(2, .long 0), (0, .ref 950), (1, .int x1)]) dX13_readRecord_1 rfl (by decide) rfl ?_
  refine mj_iconst (v := 0) dX13_readRecord_2 (by decide) ?_
  refine mj_istore (lv2 := [(4, .int 0), (2, .long 0), (0, .ref 950), (1, .int x1)]) dX13_readRecord_3 (by decide) rfl ?_
  refine mj_iconst (v := 0) dX13_readRecord_5 (by decide) ?_
  refine mj_istore (lv2 := [(5, .int 0), (4, .int 0), (2, .long 0), (0, .ref 950), (1, .int x1)]) dX13_readRecord_6 (by decide) rfl ?_
  refine mj_aload_n dX13_readRecord_8 3 rfl ?_
  refine t_getR 959 dX13_readRecord_9 F_X13_39 qr_950_21 ?_
  refine mj_iload_n dX13_readRecord_12 4 rfl ?_
  refine t_chkK hk (fun c0 hk => ?_)
  refine t_iald dX13_readRecord_13 qa_959 (t_ixv c0) ?_
  refine mj_istore (lv2 := [(6, .int (s.1 959 (x1.toNatClampNeg))), (5, .int 0), (4, .int 0), (2, .long 0), (0, .ref 950), (1, .int x1)]) dX13_readRecord_14 (by decide) rfl ?_
  refine mj_sublv [(0, .ref 950), (1, .int x1), (2, .long 0), (4, .int 0), (5, .int 0), (6, .int (s.1 959 (x1.toNatClampNeg)))] [4, 5, 3, 2, 1, 0] rfl ?_
  exact LH_X13_readRecord_16 _ x1 0 0 0 (s.1 959 (x1.toNatClampNeg)) s _ hk

theorem dX13_weigh_0 : decode cX13_weigh 0 = .ok (.aload_n 0, 1) := by decide +kernel
theorem dX13_weigh_1 : decode cX13_weigh 1 = .ok (.aload_n 0, 1) := by decide +kernel
theorem dX13_weigh_10 : decode cX13_weigh 10 = .ok (.aload_n 0, 1) := by decide +kernel
theorem dX13_weigh_11 : decode cX13_weigh 11 = .ok (.getfield 1164, 3) := by decide +kernel
theorem dX13_weigh_14 : decode cX13_weigh 14 = .ok (.ldc2_w 1076, 3) := by decide +kernel
theorem dX13_weigh_17 : decode cX13_weigh 17 = .ok (.lcmp, 1) := by decide +kernel
theorem dX13_weigh_18 : decode cX13_weigh 18 = .ok (.ifCond .le 8, 3) := by decide +kernel
theorem dX13_weigh_2 : decode cX13_weigh 2 = .ok (.getfield 1164, 3) := by decide +kernel
theorem dX13_weigh_21 : decode cX13_weigh 21 = .ok (.aload_n 0, 1) := by decide +kernel
theorem dX13_weigh_22 : decode cX13_weigh 22 = .ok (.iload_n 3, 1) := by decide +kernel
theorem dX13_weigh_23 : decode cX13_weigh 23 = .ok (.invokevirtual 1161, 3) := by decide +kernel
theorem dX13_weigh_26 : decode cX13_weigh 26 = .ok (.return_, 1) := by decide +kernel
theorem dX13_weigh_5 : decode cX13_weigh 5 = .ok (.lload_n 1, 1) := by decide +kernel
theorem dX13_weigh_6 : decode cX13_weigh 6 = .ok (.ladd, 1) := by decide +kernel
theorem dX13_weigh_7 : decode cX13_weigh 7 = .ok (.putfield 1164, 3) := by decide +kernel
noncomputable def f_X13_weigh (x1 : Int64) (x2 : Int32) (s : t_S) : Option (t_S) :=
 t_let (t_setJ s 950 128 ((s.2.1 950 128) + x1)) (fun s1 =>
 if (lg_cmp (s1.2.1 950 128) (120 : Int64)) ≤ (0 : Int32) then (some (s1))
 else ((f_X13_wrongBit x2 s1).bind (fun r1 =>
 some (r1))))
set_option maxRecDepth 4000 in
set_option maxHeartbeats 1000000 in
theorem C_X13_weigh (x1 : Int64) (x2 : Int32) (s : t_S) (r : t_S) (hr : f_X13_weigh x1 x2 s = some r) : t_C yX13_weigh cX13_weigh 4 none 1 [.ref 950, .long x1, .int x2] s (fun v s' => v = none ∧ s' = r) := by
  refine t_C.imp (P := fun v s' => v = none ∧ (fun q => q = r) (s')) (t_C.of (by decide +kernel) (Nat.le_of_ble_eq_true rfl) ?_) (fun v s' hp => hp)
  intro D cy ad bs X
  have hk : t_hk (f_X13_weigh x1 x2 s) (fun q => q = r) := ⟨r, hr, rfl⟩
  show mj_G D cy ad bs X cX13_weigh 4 yX13_weigh.cls none yX13_weigh.name 1 0 0 1065 (t_P (fun v s' => v = none ∧ (fun q => q = r) (s'))) 0 [(0, .ref 950), (1, .long x1), (3, .int x2)] [] (t_m s) 1065 0 0
  refine mj_aload_n dX13_weigh_0 0 rfl ?_
  refine mj_aload_n dX13_weigh_1 0 rfl ?_
  refine t_getJ dX13_weigh_2 F_X13_1164 qf_950_128 ?_
  refine mj_lload_n dX13_weigh_5 1 rfl ?_
  refine mj_ladd dX13_weigh_6 ?_
  refine t_putJK dX13_weigh_7 F_X13_1164 qf_950_128 rfl (fun s1 ws1 => t_letE hk ws1 (fun hk => ?_))
  refine mj_aload_n dX13_weigh_10 0 rfl ?_
  refine t_getJ dX13_weigh_11 F_X13_1164 qf_950_128 ?_
  refine mj_ldc2 dX13_weigh_14 K_X13_1076 ?_
  refine mj_lcmp dX13_weigh_17 ?_
  refine mj_if_le 26 dX13_weigh_18 (by decide) (fun z => t_posK hk z (fun hk => ?_)) (fun z => t_negK hk z (fun hk => ?_))
  · exact t_somK hk (fun hf => t_vret dX13_weigh_26 rfl ⟨rfl, hf⟩ (Nat.le_of_ble_eq_true rfl) (Nat.le_of_ble_eq_true rfl))
  · refine mj_aload_n dX13_weigh_21 0 rfl ?_
    refine mj_iload_n dX13_weigh_22 2 rfl ?_
    refine t_bndK hk (fun r1 er1 hk => ?_)
    refine t_callVvE dX13_weigh_23 M_X13_wrongBit (C_X13_wrongBit _ _ _ er1) ML_X13_1161 IM_X13_wrongBit SE_X13_wrongBit qc_950 rfl (As := [.int x2]) rfl rfl (Nat.le_of_ble_eq_true rfl) (Nat.le_of_ble_eq_true rfl) (Nat.le_of_ble_eq_true rfl) (Nat.le_of_ble_eq_true rfl) ?_
    exact t_somK hk (fun hf => t_vret dX13_weigh_26 rfl ⟨rfl, hf⟩ (Nat.le_of_ble_eq_true rfl) (Nat.le_of_ble_eq_true rfl))

