/-! Methods as functions, 30: X6_readEnum, X6_readInt, X6_setSpan -/
theorem dX6_readEnum_0 : decode cX6_readEnum 0 = .ok (.aload_n 0, 1) := by decide +kernel
theorem dX6_readEnum_1 : decode cX6_readEnum 1 = .ok (.getfield 28, 3) := by decide +kernel
theorem dX6_readEnum_10 : decode cX6_readEnum 10 = .ok (.getfield 33, 3) := by decide +kernel
theorem dX6_readEnum_102 : decode cX6_readEnum 102 = .ok (.getfield 82, 3) := by decide +kernel
theorem dX6_readEnum_105 : decode cX6_readEnum 105 = .ok (.ifCond .eq 4, 3) := by decide +kernel
theorem dX6_readEnum_108 : decode cX6_readEnum 108 = .ok (.return_, 1) := by decide +kernel
theorem dX6_readEnum_109 : decode cX6_readEnum 109 = .ok (.aload_n 0, 1) := by decide +kernel
theorem dX6_readEnum_110 : decode cX6_readEnum 110 = .ok (.getfield 28, 3) := by decide +kernel
theorem dX6_readEnum_113 : decode cX6_readEnum 113 = .ok (.getfield 370, 3) := by decide +kernel
theorem dX6_readEnum_116 : decode cX6_readEnum 116 = .ok (.aload_n 0, 1) := by decide +kernel
theorem dX6_readEnum_117 : decode cX6_readEnum 117 = .ok (.getfield 28, 3) := by decide +kernel
theorem dX6_readEnum_120 : decode cX6_readEnum 120 = .ok (.invokevirtual 166, 3) := by decide +kernel
theorem dX6_readEnum_123 : decode cX6_readEnum 123 = .ok (.iconst 1, 1) := by decide +kernel
theorem dX6_readEnum_124 : decode cX6_readEnum 124 = .ok (.bastore, 1) := by decide +kernel
theorem dX6_readEnum_125 : decode cX6_readEnum 125 = .ok (.aload_n 0, 1) := by decide +kernel
theorem dX6_readEnum_126 : decode cX6_readEnum 126 = .ok (.getfield 33, 3) := by decide +kernel
theorem dX6_readEnum_129 : decode cX6_readEnum 129 = .ok (.getfield 374, 3) := by decide +kernel
theorem dX6_readEnum_13 : decode cX6_readEnum 13 = .ok (.getfield 329, 3) := by decide +kernel
theorem dX6_readEnum_132 : decode cX6_readEnum 132 = .ok (.aload_n 0, 1) := by decide +kernel
theorem dX6_readEnum_133 : decode cX6_readEnum 133 = .ok (.getfield 33, 3) := by decide +kernel
theorem dX6_readEnum_136 : decode cX6_readEnum 136 = .ok (.getfield 364, 3) := by decide +kernel
theorem dX6_readEnum_139 : decode cX6_readEnum 139 = .ok (.aload_n 0, 1) := by decide +kernel
theorem dX6_readEnum_140 : decode cX6_readEnum 140 = .ok (.getfield 28, 3) := by decide +kernel
theorem dX6_readEnum_143 : decode cX6_readEnum 143 = .ok (.invokevirtual 166, 3) := by decide +kernel
theorem dX6_readEnum_146 : decode cX6_readEnum 146 = .ok (.iastore, 1) := by decide +kernel
theorem dX6_readEnum_147 : decode cX6_readEnum 147 = .ok (.aload_n 0, 1) := by decide +kernel
theorem dX6_readEnum_148 : decode cX6_readEnum 148 = .ok (.getfield 33, 3) := by decide +kernel
theorem dX6_readEnum_151 : decode cX6_readEnum 151 = .ok (.dup, 1) := by decide +kernel
theorem dX6_readEnum_152 : decode cX6_readEnum 152 = .ok (.getfield 364, 3) := by decide +kernel
theorem dX6_readEnum_155 : decode cX6_readEnum 155 = .ok (.iconst 1, 1) := by decide +kernel
theorem dX6_readEnum_156 : decode cX6_readEnum 156 = .ok (.iadd, 1) := by decide +kernel
theorem dX6_readEnum_157 : decode cX6_readEnum 157 = .ok (.putfield 364, 3) := by decide +kernel
theorem dX6_readEnum_16 : decode cX6_readEnum 16 = .ok (.iload_n 1, 1) := by decide +kernel
theorem dX6_readEnum_160 : decode cX6_readEnum 160 = .ok (.aload_n 0, 1) := by decide +kernel
theorem dX6_readEnum_161 : decode cX6_readEnum 161 = .ok (.getfield 33, 3) := by decide +kernel
theorem dX6_readEnum_164 : decode cX6_readEnum 164 = .ok (.getfield 362, 3) := by decide +kernel
theorem dX6_readEnum_167 : decode cX6_readEnum 167 = .ok (.iload_n 1, 1) := by decide +kernel
theorem dX6_readEnum_168 : decode cX6_readEnum 168 = .ok (.dup2, 1) := by decide +kernel
theorem dX6_readEnum_169 : decode cX6_readEnum 169 = .ok (.iaload, 1) := by decide +kernel
theorem dX6_readEnum_17 : decode cX6_readEnum 17 = .ok (.aload_n 0, 1) := by decide +kernel
theorem dX6_readEnum_170 : decode cX6_readEnum 170 = .ok (.iconst 1, 1) := by decide +kernel
theorem dX6_readEnum_171 : decode cX6_readEnum 171 = .ok (.iadd, 1) := by decide +kernel
theorem dX6_readEnum_172 : decode cX6_readEnum 172 = .ok (.iastore, 1) := by decide +kernel
theorem dX6_readEnum_173 : decode cX6_readEnum 173 = .ok (.aload_n 0, 1) := by decide +kernel
theorem dX6_readEnum_174 : decode cX6_readEnum 174 = .ok (.getfield 28, 3) := by decide +kernel
theorem dX6_readEnum_177 : decode cX6_readEnum 177 = .ok (.invokevirtual 170, 3) := by decide +kernel
theorem dX6_readEnum_18 : decode cX6_readEnum 18 = .ok (.getfield 33, 3) := by decide +kernel
theorem dX6_readEnum_180 : decode cX6_readEnum 180 = .ok (.aload_n 0, 1) := by decide +kernel
theorem dX6_readEnum_181 : decode cX6_readEnum 181 = .ok (.getfield 28, 3) := by decide +kernel
theorem dX6_readEnum_184 : decode cX6_readEnum 184 = .ok (.bipush 44, 2) := by decide +kernel
theorem dX6_readEnum_186 : decode cX6_readEnum 186 = .ok (.invokevirtual 246, 3) := by decide +kernel
theorem dX6_readEnum_189 : decode cX6_readEnum 189 = .ok (.ifCond .ne 6, 3) := by decide +kernel
theorem dX6_readEnum_192 : decode cX6_readEnum 192 = .ok (.goto 9, 3) := by decide +kernel
theorem dX6_readEnum_195 : decode cX6_readEnum 195 = .ok (.iinc 2 1, 3) := by decide +kernel
theorem dX6_readEnum_198 : decode cX6_readEnum 198 = .ok (.goto (-171), 3) := by decide +kernel
theorem dX6_readEnum_201 : decode cX6_readEnum 201 = .ok (.aload_n 0, 1) := by decide +kernel
theorem dX6_readEnum_202 : decode cX6_readEnum 202 = .ok (.getfield 28, 3) := by decide +kernel
theorem dX6_readEnum_205 : decode cX6_readEnum 205 = .ok (.bipush 125, 2) := by decide +kernel
theorem dX6_readEnum_207 : decode cX6_readEnum 207 = .ok (.invokevirtual 184, 3) := by decide +kernel
theorem dX6_readEnum_21 : decode cX6_readEnum 21 = .ok (.getfield 364, 3) := by decide +kernel
theorem dX6_readEnum_210 : decode cX6_readEnum 210 = .ok (.return_, 1) := by decide +kernel
theorem dX6_readEnum_24 : decode cX6_readEnum 24 = .ok (.iastore, 1) := by decide +kernel
theorem dX6_readEnum_25 : decode cX6_readEnum 25 = .ok (.iconst 0, 1) := by decide +kernel
theorem dX6_readEnum_26 : decode cX6_readEnum 26 = .ok (.istore_n 2, 1) := by decide +kernel
theorem dX6_readEnum_27 : decode cX6_readEnum 27 = .ok (.iload_n 2, 1) := by decide +kernel
theorem dX6_readEnum_28 : decode cX6_readEnum 28 = .ok (.bipush 16, 2) := by decide +kernel
theorem dX6_readEnum_30 : decode cX6_readEnum 30 = .ok (.if_icmp .gt 171, 3) := by decide +kernel
theorem dX6_readEnum_33 : decode cX6_readEnum 33 = .ok (.aload_n 0, 1) := by decide +kernel
theorem dX6_readEnum_34 : decode cX6_readEnum 34 = .ok (.getfield 28, 3) := by decide +kernel
theorem dX6_readEnum_37 : decode cX6_readEnum 37 = .ok (.getfield 85, 3) := by decide +kernel
theorem dX6_readEnum_4 : decode cX6_readEnum 4 = .ok (.bipush 123, 2) := by decide +kernel
theorem dX6_readEnum_40 : decode cX6_readEnum 40 = .ok (.iconst 1, 1) := by decide +kernel
theorem dX6_readEnum_41 : decode cX6_readEnum 41 = .ok (.if_icmp .eq 14, 3) := by decide +kernel
theorem dX6_readEnum_44 : decode cX6_readEnum 44 = .ok (.aload_n 0, 1) := by decide +kernel
theorem dX6_readEnum_45 : decode cX6_readEnum 45 = .ok (.getfield 28, 3) := by decide +kernel
theorem dX6_readEnum_48 : decode cX6_readEnum 48 = .ok (.iconst 2, 1) := by decide +kernel
theorem dX6_readEnum_49 : decode cX6_readEnum 49 = .ok (.invokevirtual 100, 3) := by decide +kernel
theorem dX6_readEnum_52 : decode cX6_readEnum 52 = .ok (.goto 46, 3) := by decide +kernel
theorem dX6_readEnum_55 : decode cX6_readEnum 55 = .ok (.aload_n 0, 1) := by decide +kernel
theorem dX6_readEnum_56 : decode cX6_readEnum 56 = .ok (.getfield 33, 3) := by decide +kernel
theorem dX6_readEnum_59 : decode cX6_readEnum 59 = .ok (.iload_n 1, 1) := by decide +kernel
theorem dX6_readEnum_6 : decode cX6_readEnum 6 = .ok (.invokevirtual 184, 3) := by decide +kernel
theorem dX6_readEnum_60 : decode cX6_readEnum 60 = .ok (.aload_n 0, 1) := by decide +kernel
theorem dX6_readEnum_61 : decode cX6_readEnum 61 = .ok (.getfield 28, 3) := by decide +kernel
theorem dX6_readEnum_64 : decode cX6_readEnum 64 = .ok (.invokevirtual 166, 3) := by decide +kernel
theorem dX6_readEnum_67 : decode cX6_readEnum 67 = .ok (.invokevirtual 367, 3) := by decide +kernel
theorem dX6_readEnum_70 : decode cX6_readEnum 70 = .ok (.ifCond .lt 14, 3) := by decide +kernel
theorem dX6_readEnum_73 : decode cX6_readEnum 73 = .ok (.aload_n 0, 1) := by decide +kernel
theorem dX6_readEnum_74 : decode cX6_readEnum 74 = .ok (.getfield 28, 3) := by decide +kernel
theorem dX6_readEnum_77 : decode cX6_readEnum 77 = .ok (.iconst 3, 1) := by decide +kernel
theorem dX6_readEnum_78 : decode cX6_readEnum 78 = .ok (.invokevirtual 100, 3) := by decide +kernel
theorem dX6_readEnum_81 : decode cX6_readEnum 81 = .ok (.goto 17, 3) := by decide +kernel
theorem dX6_readEnum_84 : decode cX6_readEnum 84 = .ok (.iload_n 2, 1) := by decide +kernel
theorem dX6_readEnum_85 : decode cX6_readEnum 85 = .ok (.bipush 16, 2) := by decide +kernel
theorem dX6_readEnum_87 : decode cX6_readEnum 87 = .ok (.if_icmp .ne 11, 3) := by decide +kernel
theorem dX6_readEnum_9 : decode cX6_readEnum 9 = .ok (.aload_n 0, 1) := by decide +kernel
theorem dX6_readEnum_90 : decode cX6_readEnum 90 = .ok (.aload_n 0, 1) := by decide +kernel
theorem dX6_readEnum_91 : decode cX6_readEnum 91 = .ok (.getfield 28, 3) := by decide +kernel
theorem dX6_readEnum_94 : decode cX6_readEnum 94 = .ok (.iconst 5, 1) := by decide +kernel
theorem dX6_readEnum_95 : decode cX6_readEnum 95 = .ok (.invokevirtual 100, 3) := by decide +kernel
theorem dX6_readEnum_98 : decode cX6_readEnum 98 = .ok (.aload_n 0, 1) := by decide +kernel
theorem dX6_readEnum_99 : decode cX6_readEnum 99 = .ok (.getfield 28, 3) := by decide +kernel
noncomputable def k_X6_readEnum_201 (s : t_S) : Option (t_S) :=
 (f_X2_need (125 : Int32) s).bind (fun r1 =>
 some (r1))
set_option maxRecDepth 4000 in
set_option maxHeartbeats 1000000 in
theorem B_X6_readEnum_201 {D : va_G} {cy : Nat → ClassId} {ad : Nat → Nat} {bs : Nat} {X : State → Heap → Prop} (s : t_S) (Q : t_S → Prop) (hk : t_hk (k_X6_readEnum_201 s) Q) : mj_G D cy ad bs X cX6_readEnum 3 yX6_readEnum.cls none yX6_readEnum.name 2 0 0 1065 (t_P (fun v s' => v = none ∧ Q (s'))) 201 [(0, .ref 845)] [] (t_m s) 1065 0 0 := by
  refine mj_aload_n dX6_readEnum_201 0 rfl ?_
  refine t_getR 1 dX6_readEnum_202 F_X6_28 qr_845_0 ?_
  refine mj_bipush (v := 125) dX6_readEnum_205 (by decide) ?_
  refine t_bndK hk (fun r1 er1 hk => ?_)
  refine t_callVvE dX6_readEnum_207 M_X2_need (C_X2_need _ _ _ er1) ML_X6_184 IM_X2_need SE_X2_need qc_1 rfl (As := [.int 125]) rfl rfl (Nat.le_of_ble_eq_true rfl) (Nat.le_of_ble_eq_true rfl) (Nat.le_of_ble_eq_true rfl) (Nat.le_of_ble_eq_true rfl) ?_
  exact t_somK hk (fun hf => t_vret dX6_readEnum_210 rfl ⟨rfl, hf⟩ (Nat.le_of_ble_eq_true rfl) (Nat.le_of_ble_eq_true rfl))
noncomputable def k_X6_readEnum_98 (l1 : Int32) (l2 : Int32) (s : t_S) : Option ((Int32 × Int32 × t_S) ⊕ (t_S)) :=
 if (s.1 1 11) = (0 : Int32) then (if t_ix (f_X2_word s) 8000 = true then
  t_let (t_setI s 7 ((f_X2_word s).toNatClampNeg) (1 : Int32)) (fun s1 =>
 if t_ix (s1.1 316 10) 6002 = true then
  t_let (t_setI s1 325 ((s1.1 316 10).toNatClampNeg) (f_X2_word s1)) (fun s2 =>
 t_let (t_setI s2 316 10 ((s2.1 316 10) + (1 : Int32))) (fun s3 =>
 if t_ix l1 3001 = true then
  t_let (t_setI s3 321 (l1.toNatClampNeg) ((s3.1 321 (l1.toNatClampNeg)) + (1 : Int32))) (fun s4 =>
 (f_X2_advance s4).bind (fun r6 =>
 (f_X2_take (44 : Int32) r6).bind (fun r7 =>
 if r7.1 = (0 : Int32) then ((k_X6_readEnum_201 r7.2).map Sum.inr)
 else (some (.inl (l1, (l2 + 1), r7.2))))))
else none))
else none)
else none)
 else ((some (s)).map Sum.inr)
set_option maxRecDepth 4000 in
set_option maxHeartbeats 1000000 in
theorem B_X6_readEnum_98 {D : va_G} {cy : Nat → ClassId} {ad : Nat → Nat} {bs : Nat} {X : State → Heap → Prop} (l1 : Int32) (l2 : Int32) (s : t_S) (Q : (Int32 × Int32 × t_S) ⊕ (t_S) → Prop) (Hb27 : ∀ (y0 : Int32) (y1 : Int32) (y2 : t_S), Q (.inl (y0, y1, y2)) → mj_G D cy ad bs X cX6_readEnum 3 yX6_readEnum.cls none yX6_readEnum.name 2 0 0 1065 (t_P (fun v s' => v = none ∧ Q (.inr (s')))) 27 [(0, .ref 845), (1, .int (y0)), (2, .int (y1))] [] (t_m y2) 1065 0 0) (hk : t_hk (k_X6_readEnum_98 l1 l2 s) Q) : mj_G D cy ad bs X cX6_readEnum 3 yX6_readEnum.cls none yX6_readEnum.name 2 0 0 1065 (t_P (fun v s' => v = none ∧ Q (.inr (s')))) 98 [(0, .ref 845), (1, .int l1), (2, .int l2)] [] (t_m s) 1065 0 0 := by
  refine mj_aload_n dX6_readEnum_98 0 rfl ?_
  refine t_getR 1 dX6_readEnum_99 F_X6_28 qr_845_0 ?_
  refine t_getI dX6_readEnum_102 F_X6_82 qf_1_11 ?_
  refine mj_if_eq 109 dX6_readEnum_105 (by decide) (fun z => t_posK hk z (fun hk => ?_)) (fun z => t_negK hk z (fun hk => ?_))
  · refine mj_aload_n dX6_readEnum_109 0 rfl ?_
    refine t_getR 1 dX6_readEnum_110 F_X6_28 qr_845_0 ?_
    refine t_getR 7 dX6_readEnum_113 F_X6_370 qr_1_15 ?_
    refine mj_aload_n dX6_readEnum_116 0 rfl ?_
    refine t_getR 1 dX6_readEnum_117 F_X6_28 qr_845_0 ?_
    refine t_callViP dX6_readEnum_120 M_X2_word (C_X2_word _) ML_X6_166 IM_X2_word SE_X2_word qc_1 rfl (As := []) rfl rfl (Nat.le_of_ble_eq_true rfl) (Nat.le_of_ble_eq_true rfl) (Nat.le_of_ble_eq_true rfl) (Nat.le_of_ble_eq_true rfl) ?_
    refine mj_iconst (v := 1) dX6_readEnum_123 (by decide) ?_
    refine t_chkK hk (fun c1 hk => ?_)
    refine t_zastK dX6_readEnum_124 qa_7 (t_ixv c1) (by decide) (fun s1 ws1 => t_letE hk ws1 (fun hk => ?_))
    refine mj_aload_n dX6_readEnum_125 0 rfl ?_
    refine t_getR 316 dX6_readEnum_126 F_X6_33 qr_845_1 ?_
    refine t_getR 325 dX6_readEnum_129 F_X6_374 qr_316_9 ?_
    refine mj_aload_n dX6_readEnum_132 0 rfl ?_
    refine t_getR 316 dX6_readEnum_133 F_X6_33 qr_845_1 ?_
    refine t_getI dX6_readEnum_136 F_X6_364 qf_316_10 ?_
    refine mj_aload_n dX6_readEnum_139 0 rfl ?_
    refine t_getR 1 dX6_readEnum_140 F_X6_28 qr_845_0 ?_
    refine t_callViP dX6_readEnum_143 M_X2_word (C_X2_word _) ML_X6_166 IM_X2_word SE_X2_word qc_1 rfl (As := []) rfl rfl (Nat.le_of_ble_eq_true rfl) (Nat.le_of_ble_eq_true rfl) (Nat.le_of_ble_eq_true rfl) (Nat.le_of_ble_eq_true rfl) ?_
    refine t_chkK hk (fun c3 hk => ?_)
    refine t_iastK dX6_readEnum_146 qa_325 (t_ixv c3) (fun s2 ws2 => t_letE hk ws2 (fun hk => ?_))
    refine mj_aload_n dX6_readEnum_147 0 rfl ?_
    refine t_getR 316 dX6_readEnum_148 F_X6_33 qr_845_1 ?_
    refine mj_dup dX6_readEnum_151 rfl ?_
    refine t_getI dX6_readEnum_152 F_X6_364 qf_316_10 ?_
    refine mj_iconst (v := 1) dX6_readEnum_155 (by decide) ?_
    refine mj_iadd dX6_readEnum_156 ?_
    refine t_putIK dX6_readEnum_157 F_X6_364 qf_316_10 rfl (fun s3 ws3 => t_letE hk ws3 (fun hk => ?_))
    refine mj_aload_n dX6_readEnum_160 0 rfl ?_
    refine t_getR 316 dX6_readEnum_161 F_X6_33 qr_845_1 ?_
    refine t_getR 321 dX6_readEnum_164 F_X6_362 qr_316_4 ?_
    refine mj_iload_n dX6_readEnum_167 1 rfl ?_
    refine mj_dup2 dX6_readEnum_168 rfl rfl ?_
    refine t_chkK hk (fun c4 hk => ?_)
    refine t_iald dX6_readEnum_169 qa_321 (t_ixv c4) ?_
    refine mj_iconst (v := 1) dX6_readEnum_170 (by decide) ?_
    refine mj_iadd dX6_readEnum_171 ?_
    refine t_iastK dX6_readEnum_172 qa_321 (t_ixv c4) (fun s4 ws4 => t_letE hk ws4 (fun hk => ?_))
    refine mj_aload_n dX6_readEnum_173 0 rfl ?_
    refine t_getR 1 dX6_readEnum_174 F_X6_28 qr_845_0 ?_
    refine t_bndK hk (fun r6 er6 hk => ?_)
    refine t_callVvE dX6_readEnum_177 M_X2_advance (C_X2_advance _ _ er6) ML_X6_170 IM_X2_advance SE_X2_advance qc_1 rfl (As := []) rfl rfl (Nat.le_of_ble_eq_true rfl) (Nat.le_of_ble_eq_true rfl) (Nat.le_of_ble_eq_true rfl) (Nat.le_of_ble_eq_true rfl) ?_
    refine mj_aload_n dX6_readEnum_180 0 rfl ?_
    refine t_getR 1 dX6_readEnum_181 F_X6_28 qr_845_0 ?_
    refine mj_bipush (v := 44) dX6_readEnum_184 (by decide) ?_
    refine t_bndK hk (fun r7 er7 hk => ?_)
    refine t_callViE dX6_readEnum_186 M_X2_take (C_X2_take _ _ _ er7) ML_X6_246 IM_X2_take SE_X2_take qc_1 rfl (As := [.int 44]) rfl rfl (Nat.le_of_ble_eq_true rfl) (Nat.le_of_ble_eq_true rfl) (Nat.le_of_ble_eq_true rfl) (Nat.le_of_ble_eq_true rfl) ?_
    refine mj_if_ne 195 dX6_readEnum_189 (by decide) (fun z => t_negK hk z (fun hk => ?_)) (fun z => t_posK hk z (fun hk => ?_))
    · refine mj_iinc (k := 2) (v := (l2 + 1)) (lv2 := [(2, .int (l2 + 1)), (0, .ref 845), (1, .int l1)]) dX6_readEnum_195 rfl rfl (by decide) rfl ?_
      refine mj_goto 27 dX6_readEnum_198 (by decide) ?_
      refine mj_sublv [(0, .ref 845), (1, .int l1), (2, .int (l2 + 1))] [1, 2, 0] rfl ?_
      exact t_somK hk (fun hf => Hb27 l1 (l2 + 1) r7.2 hf)
    · refine t_mapK hk (fun hk => ?_)
      refine mj_goto 201 dX6_readEnum_192 (by decide) ?_
      refine mj_sublv [(0, .ref 845)] [0] rfl ?_
      exact B_X6_readEnum_201 _ _ hk
  · refine t_mapK hk (fun hk => ?_)
    exact t_somK hk (fun hf => t_vret dX6_readEnum_108 rfl ⟨rfl, hf⟩ (Nat.le_of_ble_eq_true rfl) (Nat.le_of_ble_eq_true rfl))
noncomputable def k_X6_readEnum_27 (l1 : Int32) (l2 : Int32) (s : t_S) : Option ((Int32 × Int32 × t_S) ⊕ (t_S)) :=
 if (16 : Int32) < l2 then ((k_X6_readEnum_201 s).map Sum.inr)
 else (if (s.1 1 8) = (1 : Int32) then ((f_X11_memberOf l1 (f_X2_word s) s).bind (fun r2 =>
 if r2 < (0 : Int32) then (if l2 = (16 : Int32) then ((f_X2_fail (5 : Int32) s).bind (fun r3 =>
 k_X6_readEnum_98 l1 l2 r3))
 else (k_X6_readEnum_98 l1 l2 s))
 else ((f_X2_fail (3 : Int32) s).bind (fun r4 =>
 k_X6_readEnum_98 l1 l2 r4))))
 else ((f_X2_fail (2 : Int32) s).bind (fun r5 =>
 k_X6_readEnum_98 l1 l2 r5)))
set_option maxRecDepth 4000 in
set_option maxHeartbeats 1000000 in
theorem B_X6_readEnum_27 {D : va_G} {cy : Nat → ClassId} {ad : Nat → Nat} {bs : Nat} {X : State → Heap → Prop} (l1 : Int32) (l2 : Int32) (s : t_S) (Q : (Int32 × Int32 × t_S) ⊕ (t_S) → Prop) (Hb27 : ∀ (y0 : Int32) (y1 : Int32) (y2 : t_S), Q (.inl (y0, y1, y2)) → mj_G D cy ad bs X cX6_readEnum 3 yX6_readEnum.cls none yX6_readEnum.name 2 0 0 1065 (t_P (fun v s' => v = none ∧ Q (.inr (s')))) 27 [(0, .ref 845), (1, .int (y0)), (2, .int (y1))] [] (t_m y2) 1065 0 0) (hk : t_hk (k_X6_readEnum_27 l1 l2 s) Q) : mj_G D cy ad bs X cX6_readEnum 3 yX6_readEnum.cls none yX6_readEnum.name 2 0 0 1065 (t_P (fun v s' => v = none ∧ Q (.inr (s')))) 27 [(0, .ref 845), (1, .int l1), (2, .int l2)] [] (t_m s) 1065 0 0 := by
  refine mj_iload_n dX6_readEnum_27 2 rfl ?_
  refine mj_bipush (v := 16) dX6_readEnum_28 (by decide) ?_
  refine mj_icmp_gt 201 dX6_readEnum_30 (by decide) (fun z => t_posK hk z (fun hk => ?_)) (fun z => t_negK hk z (fun hk => ?_))
  · refine mj_sublv [(0, .ref 845)] [0] rfl ?_
    refine t_mapK hk (fun hk => ?_)
    exact B_X6_readEnum_201 _ _ hk
  · refine mj_aload_n dX6_readEnum_33 0 rfl ?_
    refine t_getR 1 dX6_readEnum_34 F_X6_28 qr_845_0 ?_
    refine t_getI dX6_readEnum_37 F_X6_85 qf_1_8 ?_
    refine mj_iconst (v := 1) dX6_readEnum_40 (by decide) ?_
    refine mj_icmp_eq 55 dX6_readEnum_41 (by decide) (fun z => t_posK hk z (fun hk => ?_)) (fun z => t_negK hk z (fun hk => ?_))
    · refine mj_aload_n dX6_readEnum_55 0 rfl ?_
      refine t_getR 316 dX6_readEnum_56 F_X6_33 qr_845_1 ?_
      refine mj_iload_n dX6_readEnum_59 1 rfl ?_
      refine mj_aload_n dX6_readEnum_60 0 rfl ?_
      refine t_getR 1 dX6_readEnum_61 F_X6_28 qr_845_0 ?_
      refine t_callViP dX6_readEnum_64 M_X2_word (C_X2_word _) ML_X6_166 IM_X2_word SE_X2_word qc_1 rfl (As := []) rfl rfl (Nat.le_of_ble_eq_true rfl) (Nat.le_of_ble_eq_true rfl) (Nat.le_of_ble_eq_true rfl) (Nat.le_of_ble_eq_true rfl) ?_
      refine t_bndK hk (fun r2 er2 hk => ?_)
      refine t_callViP dX6_readEnum_67 M_X11_memberOf (C_X11_memberOf _ _ _ _ er2) ML_X6_367 IM_X11_memberOf SE_X11_memberOf qc_316 rfl (As := [.int l1, .int (f_X2_word s)]) rfl rfl (Nat.le_of_ble_eq_true rfl) (Nat.le_of_ble_eq_true rfl) (Nat.le_of_ble_eq_true rfl) (Nat.le_of_ble_eq_true rfl) ?_
      refine mj_if_lt 84 dX6_readEnum_70 (by decide) (fun z => t_posK hk z (fun hk => ?_)) (fun z => t_negK hk z (fun hk => ?_))
      · refine mj_iload_n dX6_readEnum_84 2 rfl ?_
        refine mj_bipush (v := 16) dX6_readEnum_85 (by decide) ?_
        refine mj_icmp_ne 98 dX6_readEnum_87 (by decide) (fun z => t_negK hk z (fun hk => ?_)) (fun z => t_posK hk z (fun hk => ?_))
        · exact B_X6_readEnum_98 _ _ _ _ (fun y0 y1 y2 hx => Hb27 y0 y1 y2 hx) hk
        · refine mj_aload_n dX6_readEnum_90 0 rfl ?_
          refine t_getR 1 dX6_readEnum_91 F_X6_28 qr_845_0 ?_
          refine mj_iconst (v := 5) dX6_readEnum_94 (by decide) ?_
          refine t_bndK hk (fun r3 er3 hk => ?_)
          refine t_callVvE dX6_readEnum_95 M_X2_fail (C_X2_fail _ _ _ er3) ML_X6_100 IM_X2_fail SE_X2_fail qc_1 rfl (As := [.int 5]) rfl rfl (Nat.le_of_ble_eq_true rfl) (Nat.le_of_ble_eq_true rfl) (Nat.le_of_ble_eq_true rfl) (Nat.le_of_ble_eq_true rfl) ?_
          exact B_X6_readEnum_98 _ _ _ _ (fun y0 y1 y2 hx => Hb27 y0 y1 y2 hx) hk
      · refine mj_aload_n dX6_readEnum_73 0 rfl ?_
        refine t_getR 1 dX6_readEnum_74 F_X6_28 qr_845_0 ?_
        refine mj_iconst (v := 3) dX6_readEnum_77 (by decide) ?_
        refine t_bndK hk (fun r4 er4 hk => ?_)
        refine t_callVvE dX6_readEnum_78 M_X2_fail (C_X2_fail _ _ _ er4) ML_X6_100 IM_X2_fail SE_X2_fail qc_1 rfl (As := [.int 3]) rfl rfl (Nat.le_of_ble_eq_true rfl) (Nat.le_of_ble_eq_true rfl) (Nat.le_of_ble_eq_true rfl) (Nat.le_of_ble_eq_true rfl) ?_
        refine mj_goto 98 dX6_readEnum_81 (by decide) ?_
        exact B_X6_readEnum_98 _ _ _ _ (fun y0 y1 y2 hx => Hb27 y0 y1 y2 hx) hk
    · refine mj_aload_n dX6_readEnum_44 0 rfl ?_
      refine t_getR 1 dX6_readEnum_45 F_X6_28 qr_845_0 ?_
      refine mj_iconst (v := 2) dX6_readEnum_48 (by decide) ?_
      refine t_bndK hk (fun r5 er5 hk => ?_)
      refine t_callVvE dX6_readEnum_49 M_X2_fail (C_X2_fail _ _ _ er5) ML_X6_100 IM_X2_fail SE_X2_fail qc_1 rfl (As := [.int 2]) rfl rfl (Nat.le_of_ble_eq_true rfl) (Nat.le_of_ble_eq_true rfl) (Nat.le_of_ble_eq_true rfl) (Nat.le_of_ble_eq_true rfl) ?_
      refine mj_goto 98 dX6_readEnum_52 (by decide) ?_
      exact B_X6_readEnum_98 _ _ _ _ (fun y0 y1 y2 hx => Hb27 y0 y1 y2 hx) hk
noncomputable def b_X6_readEnum_27 (x : Int32 × Int32 × t_S) : Option ((Int32 × Int32 × t_S) ⊕ (t_S)) := k_X6_readEnum_27 x.1 x.2.1 x.2.2
set_option maxRecDepth 4000 in
set_option maxHeartbeats 1000000 in
theorem LH_X6_readEnum_27 {D : va_G} {cy : Nat → ClassId} {ad : Nat → Nat} {bs : Nat} {X : State → Heap → Prop} : ∀ (n : Nat) (y0 : Int32) (y1 : Int32) (y2 : t_S) (Q : t_S → Prop) (hk : t_hk (t_loop (b_X6_readEnum_27) n (y0, y1, y2)) Q), mj_G D cy ad bs X cX6_readEnum 3 yX6_readEnum.cls none yX6_readEnum.name 2 0 0 1065 (t_P (fun v s' => v = none ∧ Q (s'))) 27 [(0, .ref 845), (1, .int (y0)), (2, .int (y1))] [] (t_m y2) 1065 0 0 := by
  intro n
  induction n with
  | zero => intro y0 y1 y2 Q hk; obtain ⟨r, hr, _⟩ := hk; cases hr
  | succ n ih =>
    intro y0 y1 y2 Q hk
    exact B_X6_readEnum_27 y0 y1 y2 (fun y => t_lq (b_X6_readEnum_27) n Q y) (fun y0' y1' y2' hy => ih y0' y1' y2' Q hy) (t_lp hk)
noncomputable def f_X6_readEnum (x1 : Int32) (s : t_S) : Option (t_S) :=
 (f_X2_need (123 : Int32) s).bind (fun r1 =>
 if t_ix x1 3001 = true then
  t_let (t_setI r1 318 (x1.toNatClampNeg) (r1.1 316 10)) (fun s1 =>
 t_loop (b_X6_readEnum_27) t_N (x1, 0, s1))
else none)
set_option maxRecDepth 4000 in
set_option maxHeartbeats 1000000 in
theorem C_X6_readEnum (x1 : Int32) (s : t_S) (r : t_S) (hr : f_X6_readEnum x1 s = some r) : t_C yX6_readEnum cX6_readEnum 3 none 2 [.ref 845, .int x1] s (fun v s' => v = none ∧ s' = r) := by
  refine t_C.imp (P := fun v s' => v = none ∧ (fun q => q = r) (s')) (t_C.of (by decide +kernel) (Nat.le_of_ble_eq_true rfl) ?_) (fun v s' hp => hp)
  intro D cy ad bs X
  have hk : t_hk (f_X6_readEnum x1 s) (fun q => q = r) := ⟨r, hr, rfl⟩
  show mj_G D cy ad bs X cX6_readEnum 3 yX6_readEnum.cls none yX6_readEnum.name 2 0 0 1065 (t_P (fun v s' => v = none ∧ (fun q => q = r) (s'))) 0 [(0, .ref 845), (1, .int x1)] [] (t_m s) 1065 0 0
  refine mj_aload_n dX6_readEnum_0 0 rfl ?_
  refine t_getR 1 dX6_readEnum_1 F_X6_28 qr_845_0 ?_
  refine mj_bipush (v := 123) dX6_readEnum_4 (by decide) ?_
  refine t_bndK hk (fun r1 er1 hk => ?_)
  refine t_callVvE dX6_readEnum_6 M_X2_need (C_X2_need _ _ _ er1) ML_X6_184 IM_X2_need SE_X2_need qc_1 rfl (As := [.int 123]) rfl rfl (Nat.le_of_ble_eq_true rfl) (Nat.le_of_ble_eq_true rfl) (Nat.le_of_ble_eq_true rfl) (Nat.le_of_ble_eq_true rfl) ?_
  refine mj_aload_n dX6_readEnum_9 0 rfl ?_
  refine t_getR 316 dX6_readEnum_10 F_X6_33 qr_845_1 ?_
  refine t_getR 318 dX6_readEnum_13 F_X6_329 qr_316_1 ?_
  refine mj_iload_n dX6_readEnum_16 1 rfl ?_
  refine mj_aload_n dX6_readEnum_17 0 rfl ?_
  refine t_getR 316 dX6_readEnum_18 F_X6_33 qr_845_1 ?_
  refine t_getI dX6_readEnum_21 F_X6_364 qf_316_10 ?_
  refine t_chkK hk (fun c1 hk => ?_)
  refine t_iastK dX6_readEnum_24 qa_318 (t_ixv c1) (fun s1 ws1 => t_letE hk ws1 (fun hk => ?_))
  refine mj_iconst (v := 0) dX6_readEnum_25 (by decide) ?_
  refine mj_istore_n 2 (lv2 := [(2, .int 0), (0, .ref 845), (1, .int x1)]) dX6_readEnum_26 rfl (by decide) rfl ?_
  refine mj_sublv [(0, .ref 845), (1, .int x1), (2, .int 0)] [1, 2, 0] rfl ?_
  exact LH_X6_readEnum_27 _ x1 0 s1 _ hk

theorem dX6_readInt_0 : decode cX6_readInt 0 = .ok (.aload_n 0, 1) := by decide +kernel
theorem dX6_readInt_1 : decode cX6_readInt 1 = .ok (.getfield 33, 3) := by decide +kernel
theorem dX6_readInt_100 : decode cX6_readInt 100 = .ok (.getfield 82, 3) := by decide +kernel
theorem dX6_readInt_103 : decode cX6_readInt 103 = .ok (.ifCond .eq 4, 3) := by decide +kernel
theorem dX6_readInt_106 : decode cX6_readInt 106 = .ok (.return_, 1) := by decide +kernel
theorem dX6_readInt_107 : decode cX6_readInt 107 = .ok (.aload_n 0, 1) := by decide +kernel
theorem dX6_readInt_108 : decode cX6_readInt 108 = .ok (.getfield 33, 3) := by decide +kernel
theorem dX6_readInt_11 : decode cX6_readInt 11 = .ok (.lastore, 1) := by decide +kernel
theorem dX6_readInt_111 : decode cX6_readInt 111 = .ok (.bipush 10, 2) := by decide +kernel
theorem dX6_readInt_113 : decode cX6_readInt 113 = .ok (.invokevirtual 301, 3) := by decide +kernel
theorem dX6_readInt_116 : decode cX6_readInt 116 = .ok (.istore 4, 2) := by decide +kernel
theorem dX6_readInt_118 : decode cX6_readInt 118 = .ok (.aload_n 0, 1) := by decide +kernel
theorem dX6_readInt_119 : decode cX6_readInt 119 = .ok (.getfield 33, 3) := by decide +kernel
theorem dX6_readInt_12 : decode cX6_readInt 12 = .ok (.aload_n 0, 1) := by decide +kernel
theorem dX6_readInt_122 : decode cX6_readInt 122 = .ok (.getfield 332, 3) := by decide +kernel
theorem dX6_readInt_125 : decode cX6_readInt 125 = .ok (.iload 4, 2) := by decide +kernel
theorem dX6_readInt_127 : decode cX6_readInt 127 = .ok (.aload_n 0, 1) := by decide +kernel
theorem dX6_readInt_128 : decode cX6_readInt 128 = .ok (.ldc2_w 342, 3) := by decide +kernel
theorem dX6_readInt_13 : decode cX6_readInt 13 = .ok (.getfield 33, 3) := by decide +kernel
theorem dX6_readInt_131 : decode cX6_readInt 131 = .ok (.invokevirtual 346, 3) := by decide +kernel
theorem dX6_readInt_134 : decode cX6_readInt 134 = .ok (.lastore, 1) := by decide +kernel
theorem dX6_readInt_135 : decode cX6_readInt 135 = .ok (.aload_n 0, 1) := by decide +kernel
theorem dX6_readInt_136 : decode cX6_readInt 136 = .ok (.getfield 33, 3) := by decide +kernel
theorem dX6_readInt_139 : decode cX6_readInt 139 = .ok (.getfield 306, 3) := by decide +kernel
theorem dX6_readInt_142 : decode cX6_readInt 142 = .ok (.iload 4, 2) := by decide +kernel
theorem dX6_readInt_144 : decode cX6_readInt 144 = .ok (.aload_n 0, 1) := by decide +kernel
theorem dX6_readInt_145 : decode cX6_readInt 145 = .ok (.getfield 28, 3) := by decide +kernel
theorem dX6_readInt_148 : decode cX6_readInt 148 = .ok (.bipush 10, 2) := by decide +kernel
theorem dX6_readInt_150 : decode cX6_readInt 150 = .ok (.invokevirtual 246, 3) := by decide +kernel
theorem dX6_readInt_153 : decode cX6_readInt 153 = .ok (.ifCond .eq 20, 3) := by decide +kernel
theorem dX6_readInt_156 : decode cX6_readInt 156 = .ok (.aload_n 0, 1) := by decide +kernel
theorem dX6_readInt_157 : decode cX6_readInt 157 = .ok (.aload_n 0, 1) := by decide +kernel
theorem dX6_readInt_158 : decode cX6_readInt 158 = .ok (.getfield 33, 3) := by decide +kernel
theorem dX6_readInt_16 : decode cX6_readInt 16 = .ok (.getfield 306, 3) := by decide +kernel
theorem dX6_readInt_161 : decode cX6_readInt 161 = .ok (.getfield 332, 3) := by decide +kernel
theorem dX6_readInt_164 : decode cX6_readInt 164 = .ok (.iload 4, 2) := by decide +kernel
theorem dX6_readInt_166 : decode cX6_readInt 166 = .ok (.laload, 1) := by decide +kernel
theorem dX6_readInt_167 : decode cX6_readInt 167 = .ok (.invokevirtual 346, 3) := by decide +kernel
theorem dX6_readInt_170 : decode cX6_readInt 170 = .ok (.goto 13, 3) := by decide +kernel
theorem dX6_readInt_173 : decode cX6_readInt 173 = .ok (.aload_n 0, 1) := by decide +kernel
theorem dX6_readInt_174 : decode cX6_readInt 174 = .ok (.getfield 33, 3) := by decide +kernel
theorem dX6_readInt_177 : decode cX6_readInt 177 = .ok (.getfield 332, 3) := by decide +kernel
theorem dX6_readInt_180 : decode cX6_readInt 180 = .ok (.iload 4, 2) := by decide +kernel
theorem dX6_readInt_182 : decode cX6_readInt 182 = .ok (.laload, 1) := by decide +kernel
theorem dX6_readInt_183 : decode cX6_readInt 183 = .ok (.lastore, 1) := by decide +kernel
theorem dX6_readInt_184 : decode cX6_readInt 184 = .ok (.iload_n 3, 1) := by decide +kernel
theorem dX6_readInt_185 : decode cX6_readInt 185 = .ok (.ifCond .ne 17, 3) := by decide +kernel
theorem dX6_readInt_188 : decode cX6_readInt 188 = .ok (.aload_n 0, 1) := by decide +kernel
theorem dX6_readInt_189 : decode cX6_readInt 189 = .ok (.getfield 33, 3) := by decide +kernel
theorem dX6_readInt_19 : decode cX6_readInt 19 = .ok (.iload_n 1, 1) := by decide +kernel
theorem dX6_readInt_192 : decode cX6_readInt 192 = .ok (.getfield 329, 3) := by decide +kernel
theorem dX6_readInt_195 : decode cX6_readInt 195 = .ok (.iload_n 1, 1) := by decide +kernel
theorem dX6_readInt_196 : decode cX6_readInt 196 = .ok (.iload 4, 2) := by decide +kernel
theorem dX6_readInt_198 : decode cX6_readInt 198 = .ok (.iastore, 1) := by decide +kernel
theorem dX6_readInt_199 : decode cX6_readInt 199 = .ok (.goto 14, 3) := by decide +kernel
theorem dX6_readInt_20 : decode cX6_readInt 20 = .ok (.ldc2_w 344, 3) := by decide +kernel
theorem dX6_readInt_202 : decode cX6_readInt 202 = .ok (.aload_n 0, 1) := by decide +kernel
theorem dX6_readInt_203 : decode cX6_readInt 203 = .ok (.getfield 33, 3) := by decide +kernel
theorem dX6_readInt_206 : decode cX6_readInt 206 = .ok (.getfield 350, 3) := by decide +kernel
theorem dX6_readInt_209 : decode cX6_readInt 209 = .ok (.iload_n 2, 1) := by decide +kernel
theorem dX6_readInt_210 : decode cX6_readInt 210 = .ok (.iload 4, 2) := by decide +kernel
theorem dX6_readInt_212 : decode cX6_readInt 212 = .ok (.iastore, 1) := by decide +kernel
theorem dX6_readInt_213 : decode cX6_readInt 213 = .ok (.aload_n 0, 1) := by decide +kernel
theorem dX6_readInt_214 : decode cX6_readInt 214 = .ok (.getfield 33, 3) := by decide +kernel
theorem dX6_readInt_217 : decode cX6_readInt 217 = .ok (.getfield 332, 3) := by decide +kernel
theorem dX6_readInt_220 : decode cX6_readInt 220 = .ok (.iload_n 1, 1) := by decide +kernel
theorem dX6_readInt_221 : decode cX6_readInt 221 = .ok (.iload_n 3, 1) := by decide +kernel
theorem dX6_readInt_222 : decode cX6_readInt 222 = .ok (.ifCond .ne 16, 3) := by decide +kernel
theorem dX6_readInt_225 : decode cX6_readInt 225 = .ok (.aload_n 0, 1) := by decide +kernel
theorem dX6_readInt_226 : decode cX6_readInt 226 = .ok (.getfield 33, 3) := by decide +kernel
theorem dX6_readInt_229 : decode cX6_readInt 229 = .ok (.getfield 332, 3) := by decide +kernel
theorem dX6_readInt_23 : decode cX6_readInt 23 = .ok (.lastore, 1) := by decide +kernel
theorem dX6_readInt_232 : decode cX6_readInt 232 = .ok (.iload 4, 2) := by decide +kernel
theorem dX6_readInt_234 : decode cX6_readInt 234 = .ok (.laload, 1) := by decide +kernel
theorem dX6_readInt_235 : decode cX6_readInt 235 = .ok (.goto 25, 3) := by decide +kernel
theorem dX6_readInt_238 : decode cX6_readInt 238 = .ok (.aload_n 0, 1) := by decide +kernel
theorem dX6_readInt_239 : decode cX6_readInt 239 = .ok (.getfield 33, 3) := by decide +kernel
theorem dX6_readInt_24 : decode cX6_readInt 24 = .ok (.aload_n 0, 1) := by decide +kernel
theorem dX6_readInt_242 : decode cX6_readInt 242 = .ok (.getfield 332, 3) := by decide +kernel
theorem dX6_readInt_245 : decode cX6_readInt 245 = .ok (.iload_n 1, 1) := by decide +kernel
theorem dX6_readInt_246 : decode cX6_readInt 246 = .ok (.laload, 1) := by decide +kernel
theorem dX6_readInt_247 : decode cX6_readInt 247 = .ok (.aload_n 0, 1) := by decide +kernel
theorem dX6_readInt_248 : decode cX6_readInt 248 = .ok (.getfield 33, 3) := by decide +kernel
theorem dX6_readInt_25 : decode cX6_readInt 25 = .ok (.getfield 28, 3) := by decide +kernel
theorem dX6_readInt_251 : decode cX6_readInt 251 = .ok (.getfield 332, 3) := by decide +kernel
theorem dX6_readInt_254 : decode cX6_readInt 254 = .ok (.iload 4, 2) := by decide +kernel
theorem dX6_readInt_256 : decode cX6_readInt 256 = .ok (.laload, 1) := by decide +kernel
theorem dX6_readInt_257 : decode cX6_readInt 257 = .ok (.invokestatic 353, 3) := by decide +kernel
theorem dX6_readInt_260 : decode cX6_readInt 260 = .ok (.lastore, 1) := by decide +kernel
theorem dX6_readInt_261 : decode cX6_readInt 261 = .ok (.aload_n 0, 1) := by decide +kernel
theorem dX6_readInt_262 : decode cX6_readInt 262 = .ok (.getfield 33, 3) := by decide +kernel
theorem dX6_readInt_265 : decode cX6_readInt 265 = .ok (.getfield 306, 3) := by decide +kernel
theorem dX6_readInt_268 : decode cX6_readInt 268 = .ok (.iload_n 1, 1) := by decide +kernel
theorem dX6_readInt_269 : decode cX6_readInt 269 = .ok (.iload_n 3, 1) := by decide +kernel
theorem dX6_readInt_270 : decode cX6_readInt 270 = .ok (.ifCond .ne 16, 3) := by decide +kernel
theorem dX6_readInt_273 : decode cX6_readInt 273 = .ok (.aload_n 0, 1) := by decide +kernel
theorem dX6_readInt_274 : decode cX6_readInt 274 = .ok (.getfield 33, 3) := by decide +kernel
theorem dX6_readInt_277 : decode cX6_readInt 277 = .ok (.getfield 306, 3) := by decide +kernel
theorem dX6_readInt_28 : decode cX6_readInt 28 = .ok (.bipush 40, 2) := by decide +kernel
theorem dX6_readInt_280 : decode cX6_readInt 280 = .ok (.iload 4, 2) := by decide +kernel
theorem dX6_readInt_282 : decode cX6_readInt 282 = .ok (.laload, 1) := by decide +kernel
theorem dX6_readInt_283 : decode cX6_readInt 283 = .ok (.goto 25, 3) := by decide +kernel
theorem dX6_readInt_286 : decode cX6_readInt 286 = .ok (.aload_n 0, 1) := by decide +kernel
theorem dX6_readInt_287 : decode cX6_readInt 287 = .ok (.getfield 33, 3) := by decide +kernel
theorem dX6_readInt_290 : decode cX6_readInt 290 = .ok (.getfield 306, 3) := by decide +kernel
theorem dX6_readInt_293 : decode cX6_readInt 293 = .ok (.iload_n 1, 1) := by decide +kernel
theorem dX6_readInt_294 : decode cX6_readInt 294 = .ok (.laload, 1) := by decide +kernel
theorem dX6_readInt_295 : decode cX6_readInt 295 = .ok (.aload_n 0, 1) := by decide +kernel
theorem dX6_readInt_296 : decode cX6_readInt 296 = .ok (.getfield 33, 3) := by decide +kernel
theorem dX6_readInt_299 : decode cX6_readInt 299 = .ok (.getfield 306, 3) := by decide +kernel
theorem dX6_readInt_30 : decode cX6_readInt 30 = .ok (.invokevirtual 246, 3) := by decide +kernel
theorem dX6_readInt_302 : decode cX6_readInt 302 = .ok (.iload 4, 2) := by decide +kernel
theorem dX6_readInt_304 : decode cX6_readInt 304 = .ok (.laload, 1) := by decide +kernel
theorem dX6_readInt_305 : decode cX6_readInt 305 = .ok (.invokestatic 359, 3) := by decide +kernel
theorem dX6_readInt_308 : decode cX6_readInt 308 = .ok (.lastore, 1) := by decide +kernel
theorem dX6_readInt_309 : decode cX6_readInt 309 = .ok (.aload_n 0, 1) := by decide +kernel
theorem dX6_readInt_310 : decode cX6_readInt 310 = .ok (.getfield 33, 3) := by decide +kernel
theorem dX6_readInt_313 : decode cX6_readInt 313 = .ok (.getfield 362, 3) := by decide +kernel
theorem dX6_readInt_316 : decode cX6_readInt 316 = .ok (.iload_n 1, 1) := by decide +kernel
theorem dX6_readInt_317 : decode cX6_readInt 317 = .ok (.dup2, 1) := by decide +kernel
theorem dX6_readInt_318 : decode cX6_readInt 318 = .ok (.iaload, 1) := by decide +kernel
theorem dX6_readInt_319 : decode cX6_readInt 319 = .ok (.iconst 1, 1) := by decide +kernel
theorem dX6_readInt_320 : decode cX6_readInt 320 = .ok (.iadd, 1) := by decide +kernel
theorem dX6_readInt_321 : decode cX6_readInt 321 = .ok (.iastore, 1) := by decide +kernel
theorem dX6_readInt_322 : decode cX6_readInt 322 = .ok (.iload 4, 2) := by decide +kernel
theorem dX6_readInt_324 : decode cX6_readInt 324 = .ok (.istore_n 2, 1) := by decide +kernel
theorem dX6_readInt_325 : decode cX6_readInt 325 = .ok (.aload_n 0, 1) := by decide +kernel
theorem dX6_readInt_326 : decode cX6_readInt 326 = .ok (.getfield 28, 3) := by decide +kernel
theorem dX6_readInt_329 : decode cX6_readInt 329 = .ok (.bipush 44, 2) := by decide +kernel
theorem dX6_readInt_33 : decode cX6_readInt 33 = .ok (.ifCond .ne 4, 3) := by decide +kernel
theorem dX6_readInt_331 : decode cX6_readInt 331 = .ok (.invokevirtual 246, 3) := by decide +kernel
theorem dX6_readInt_334 : decode cX6_readInt 334 = .ok (.ifCond .ne 6, 3) := by decide +kernel
theorem dX6_readInt_337 : decode cX6_readInt 337 = .ok (.goto 9, 3) := by decide +kernel
theorem dX6_readInt_340 : decode cX6_readInt 340 = .ok (.iinc 3 1, 3) := by decide +kernel
theorem dX6_readInt_343 : decode cX6_readInt 343 = .ok (.goto (-302), 3) := by decide +kernel
theorem dX6_readInt_346 : decode cX6_readInt 346 = .ok (.aload_n 0, 1) := by decide +kernel
theorem dX6_readInt_347 : decode cX6_readInt 347 = .ok (.getfield 28, 3) := by decide +kernel
theorem dX6_readInt_350 : decode cX6_readInt 350 = .ok (.bipush 41, 2) := by decide +kernel
theorem dX6_readInt_352 : decode cX6_readInt 352 = .ok (.invokevirtual 184, 3) := by decide +kernel
theorem dX6_readInt_355 : decode cX6_readInt 355 = .ok (.return_, 1) := by decide +kernel
theorem dX6_readInt_36 : decode cX6_readInt 36 = .ok (.return_, 1) := by decide +kernel
theorem dX6_readInt_37 : decode cX6_readInt 37 = .ok (.iconst (-1), 1) := by decide +kernel
theorem dX6_readInt_38 : decode cX6_readInt 38 = .ok (.istore_n 2, 1) := by decide +kernel
theorem dX6_readInt_39 : decode cX6_readInt 39 = .ok (.iconst 0, 1) := by decide +kernel
theorem dX6_readInt_4 : decode cX6_readInt 4 = .ok (.getfield 332, 3) := by decide +kernel
theorem dX6_readInt_40 : decode cX6_readInt 40 = .ok (.istore_n 3, 1) := by decide +kernel
theorem dX6_readInt_41 : decode cX6_readInt 41 = .ok (.iload_n 3, 1) := by decide +kernel
theorem dX6_readInt_42 : decode cX6_readInt 42 = .ok (.bipush 6, 2) := by decide +kernel
theorem dX6_readInt_44 : decode cX6_readInt 44 = .ok (.if_icmp .gt 302, 3) := by decide +kernel
theorem dX6_readInt_47 : decode cX6_readInt 47 = .ok (.aload_n 0, 1) := by decide +kernel
theorem dX6_readInt_48 : decode cX6_readInt 48 = .ok (.getfield 28, 3) := by decide +kernel
theorem dX6_readInt_51 : decode cX6_readInt 51 = .ok (.getfield 85, 3) := by decide +kernel
theorem dX6_readInt_54 : decode cX6_readInt 54 = .ok (.bipush 45, 2) := by decide +kernel
theorem dX6_readInt_56 : decode cX6_readInt 56 = .ok (.if_icmp .eq 22, 3) := by decide +kernel
theorem dX6_readInt_59 : decode cX6_readInt 59 = .ok (.aload_n 0, 1) := by decide +kernel
theorem dX6_readInt_60 : decode cX6_readInt 60 = .ok (.getfield 28, 3) := by decide +kernel
theorem dX6_readInt_63 : decode cX6_readInt 63 = .ok (.getfield 85, 3) := by decide +kernel
theorem dX6_readInt_66 : decode cX6_readInt 66 = .ok (.iconst 2, 1) := by decide +kernel
theorem dX6_readInt_67 : decode cX6_readInt 67 = .ok (.if_icmp .eq 11, 3) := by decide +kernel
theorem dX6_readInt_7 : decode cX6_readInt 7 = .ok (.iload_n 1, 1) := by decide +kernel
theorem dX6_readInt_70 : decode cX6_readInt 70 = .ok (.aload_n 0, 1) := by decide +kernel
theorem dX6_readInt_71 : decode cX6_readInt 71 = .ok (.getfield 28, 3) := by decide +kernel
theorem dX6_readInt_74 : decode cX6_readInt 74 = .ok (.iconst 2, 1) := by decide +kernel
theorem dX6_readInt_75 : decode cX6_readInt 75 = .ok (.invokevirtual 100, 3) := by decide +kernel
theorem dX6_readInt_78 : decode cX6_readInt 78 = .ok (.iload_n 3, 1) := by decide +kernel
theorem dX6_readInt_79 : decode cX6_readInt 79 = .ok (.bipush 6, 2) := by decide +kernel
theorem dX6_readInt_8 : decode cX6_readInt 8 = .ok (.ldc2_w 342, 3) := by decide +kernel
theorem dX6_readInt_81 : decode cX6_readInt 81 = .ok (.if_icmp .ne 11, 3) := by decide +kernel
theorem dX6_readInt_84 : decode cX6_readInt 84 = .ok (.aload_n 0, 1) := by decide +kernel
theorem dX6_readInt_85 : decode cX6_readInt 85 = .ok (.getfield 28, 3) := by decide +kernel
theorem dX6_readInt_88 : decode cX6_readInt 88 = .ok (.iconst 5, 1) := by decide +kernel
theorem dX6_readInt_89 : decode cX6_readInt 89 = .ok (.invokevirtual 100, 3) := by decide +kernel
theorem dX6_readInt_92 : decode cX6_readInt 92 = .ok (.aload_n 0, 1) := by decide +kernel
theorem dX6_readInt_93 : decode cX6_readInt 93 = .ok (.invokevirtual 298, 3) := by decide +kernel
theorem dX6_readInt_96 : decode cX6_readInt 96 = .ok (.aload_n 0, 1) := by decide +kernel
theorem dX6_readInt_97 : decode cX6_readInt 97 = .ok (.getfield 28, 3) := by decide +kernel
noncomputable def k_X6_readInt_346 (s : t_S) : Option (t_S) :=
 (f_X2_need (41 : Int32) s).bind (fun r1 =>
 some (r1))
set_option maxRecDepth 4000 in
set_option maxHeartbeats 1000000 in
theorem B_X6_readInt_346 {D : va_G} {cy : Nat → ClassId} {ad : Nat → Nat} {bs : Nat} {X : State → Heap → Prop} (s : t_S) (Q : t_S → Prop) (hk : t_hk (k_X6_readInt_346 s) Q) : mj_G D cy ad bs X cX6_readInt 5 yX6_readInt.cls none yX6_readInt.name 2 0 0 1065 (t_P (fun v s' => v = none ∧ Q (s'))) 346 [(0, .ref 845)] [] (t_m s) 1065 0 0 := by
  refine mj_aload_n dX6_readInt_346 0 rfl ?_
  refine t_getR 1 dX6_readInt_347 F_X6_28 qr_845_0 ?_
  refine mj_bipush (v := 41) dX6_readInt_350 (by decide) ?_
  refine t_bndK hk (fun r1 er1 hk => ?_)
  refine t_callVvE dX6_readInt_352 M_X2_need (C_X2_need _ _ _ er1) ML_X6_184 IM_X2_need SE_X2_need qc_1 rfl (As := [.int 41]) rfl rfl (Nat.le_of_ble_eq_true rfl) (Nat.le_of_ble_eq_true rfl) (Nat.le_of_ble_eq_true rfl) (Nat.le_of_ble_eq_true rfl) ?_
  exact t_somK hk (fun hf => t_vret dX6_readInt_355 rfl ⟨rfl, hf⟩ (Nat.le_of_ble_eq_true rfl) (Nat.le_of_ble_eq_true rfl))
noncomputable def k_X6_readInt_308 (l1 : Int32) (l3 : Int32) (l4 : Int32) (k0 : Int64) (k1 : Int32) (s : t_S) : Option ((Int32 × Int32 × Int32 × t_S) ⊕ (t_S)) :=
 if t_ix k1 3001 = true then
  t_let (t_setJ s 323 (k1.toNatClampNeg) k0) (fun s1 =>
 if t_ix l1 3001 = true then
  t_let (t_setI s1 321 (l1.toNatClampNeg) ((s1.1 321 (l1.toNatClampNeg)) + (1 : Int32))) (fun s2 =>
 (f_X2_take (44 : Int32) s2).bind (fun r3 =>
 if r3.1 = (0 : Int32) then ((k_X6_readInt_346 r3.2).map Sum.inr)
 else (some (.inl (l1, l4, (l3 + 1), r3.2)))))
else none)
else none
set_option maxRecDepth 4000 in
set_option maxHeartbeats 1000000 in
theorem B_X6_readInt_308 {D : va_G} {cy : Nat → ClassId} {ad : Nat → Nat} {bs : Nat} {X : State → Heap → Prop} (l1 : Int32) (l3 : Int32) (l4 : Int32) (k0 : Int64) (k1 : Int32) (s : t_S) (Q : (Int32 × Int32 × Int32 × t_S) ⊕ (t_S) → Prop) (Hb41 : ∀ (y0 : Int32) (y1 : Int32) (y2 : Int32) (y3 : t_S), Q (.inl (y0, y1, y2, y3)) → mj_G D cy ad bs X cX6_readInt 5 yX6_readInt.cls none yX6_readInt.name 2 0 0 1065 (t_P (fun v s' => v = none ∧ Q (.inr (s')))) 41 [(0, .ref 845), (1, .int (y0)), (2, .int (y1)), (3, .int (y2))] [] (t_m y3) 1065 0 0) (hk : t_hk (k_X6_readInt_308 l1 l3 l4 k0 k1 s) Q) : mj_G D cy ad bs X cX6_readInt 5 yX6_readInt.cls none yX6_readInt.name 2 0 0 1065 (t_P (fun v s' => v = none ∧ Q (.inr (s')))) 308 [(0, .ref 845), (1, .int l1), (3, .int l3), (4, .int l4)] [.long k0, .int k1, .ref 323] (t_m s) 1065 0 0 := by
  refine t_chkK hk (fun c0 hk => ?_)
  refine t_lastK dX6_readInt_308 qa_323 (t_ixv c0) (fun s1 ws1 => t_letE hk ws1 (fun hk => ?_))
  refine mj_aload_n dX6_readInt_309 0 rfl ?_
  refine t_getR 316 dX6_readInt_310 F_X6_33 qr_845_1 ?_
  refine t_getR 321 dX6_readInt_313 F_X6_362 qr_316_4 ?_
  refine mj_iload_n dX6_readInt_316 1 rfl ?_
  refine mj_dup2 dX6_readInt_317 rfl rfl ?_
  refine t_chkK hk (fun c1 hk => ?_)
  refine t_iald dX6_readInt_318 qa_321 (t_ixv c1) ?_
  refine mj_iconst (v := 1) dX6_readInt_319 (by decide) ?_
  refine mj_iadd dX6_readInt_320 ?_
  refine t_iastK dX6_readInt_321 qa_321 (t_ixv c1) (fun s2 ws2 => t_letE hk ws2 (fun hk => ?_))
  refine mj_iload dX6_readInt_322 3 rfl ?_
  refine mj_istore_n 2 (lv2 := [(2, .int l4), (0, .ref 845), (1, .int l1), (3, .int l3), (4, .int l4)]) dX6_readInt_324 rfl (by decide) rfl ?_
  refine mj_aload_n dX6_readInt_325 1 rfl ?_
  refine t_getR 1 dX6_readInt_326 F_X6_28 qr_845_0 ?_
  refine mj_bipush (v := 44) dX6_readInt_329 (by decide) ?_
  refine t_bndK hk (fun r3 er3 hk => ?_)
  refine t_callViE dX6_readInt_331 M_X2_take (C_X2_take _ _ _ er3) ML_X6_246 IM_X2_take SE_X2_take qc_1 rfl (As := [.int 44]) rfl rfl (Nat.le_of_ble_eq_true rfl) (Nat.le_of_ble_eq_true rfl) (Nat.le_of_ble_eq_true rfl) (Nat.le_of_ble_eq_true rfl) ?_
  refine mj_if_ne 340 dX6_readInt_334 (by decide) (fun z => t_negK hk z (fun hk => ?_)) (fun z => t_posK hk z (fun hk => ?_))
  · refine mj_iinc (k := 3) (v := (l3 + 1)) (lv2 := [(3, .int (l3 + 1)), (2, .int l4), (0, .ref 845), (1, .int l1), (4, .int l4)]) dX6_readInt_340 rfl rfl (by decide) rfl ?_
    refine mj_goto 41 dX6_readInt_343 (by decide) ?_
    refine mj_sublv [(0, .ref 845), (1, .int l1), (2, .int l4), (3, .int (l3 + 1))] [2, 3, 1, 0] rfl ?_
    exact t_somK hk (fun hf => Hb41 l1 l4 (l3 + 1) r3.2 hf)
  · refine t_mapK hk (fun hk => ?_)
    refine mj_goto 346 dX6_readInt_337 (by decide) ?_
    refine mj_sublv [(0, .ref 845)] [1] rfl ?_
    exact B_X6_readInt_346 _ _ hk
noncomputable def k_X6_readInt_260 (l1 : Int32) (l3 : Int32) (l4 : Int32) (k0 : Int64) (k1 : Int32) (s : t_S) : Option ((Int32 × Int32 × Int32 × t_S) ⊕ (t_S)) :=
 if t_ix k1 3001 = true then
  t_let (t_setJ s 322 (k1.toNatClampNeg) k0) (fun s1 =>
 if l3 = (0 : Int32) then (if t_ix l4 3001 = true then
  k_X6_readInt_308 l1 l3 l4 (s1.2.1 323 (l4.toNatClampNeg)) l1 s1
else none)
 else (if t_ix l1 3001 = true then
  if t_ix l4 3001 = true then
  k_X6_readInt_308 l1 l3 l4 (if (s1.2.1 323 (l4.toNatClampNeg)) < (s1.2.1 323 (l1.toNatClampNeg)) then (s1.2.1 323 (l1.toNatClampNeg)) else (s1.2.1 323 (l4.toNatClampNeg))) l1 s1
else none
else none))
else none
set_option maxRecDepth 4000 in
set_option maxHeartbeats 1000000 in
theorem B_X6_readInt_260 {D : va_G} {cy : Nat → ClassId} {ad : Nat → Nat} {bs : Nat} {X : State → Heap → Prop} (l1 : Int32) (l3 : Int32) (l4 : Int32) (k0 : Int64) (k1 : Int32) (s : t_S) (Q : (Int32 × Int32 × Int32 × t_S) ⊕ (t_S) → Prop) (Hb41 : ∀ (y0 : Int32) (y1 : Int32) (y2 : Int32) (y3 : t_S), Q (.inl (y0, y1, y2, y3)) → mj_G D cy ad bs X cX6_readInt 5 yX6_readInt.cls none yX6_readInt.name 2 0 0 1065 (t_P (fun v s' => v = none ∧ Q (.inr (s')))) 41 [(0, .ref 845), (1, .int (y0)), (2, .int (y1)), (3, .int (y2))] [] (t_m y3) 1065 0 0) (hk : t_hk (k_X6_readInt_260 l1 l3 l4 k0 k1 s) Q) : mj_G D cy ad bs X cX6_readInt 5 yX6_readInt.cls none yX6_readInt.name 2 0 0 1065 (t_P (fun v s' => v = none ∧ Q (.inr (s')))) 260 [(0, .ref 845), (1, .int l1), (3, .int l3), (4, .int l4)] [.long k0, .int k1, .ref 322] (t_m s) 1065 0 0 := by
  refine t_chkK hk (fun c0 hk => ?_)
  refine t_lastK dX6_readInt_260 qa_322 (t_ixv c0) (fun s1 ws1 => t_letE hk ws1 (fun hk => ?_))
  refine mj_aload_n dX6_readInt_261 0 rfl ?_
  refine t_getR 316 dX6_readInt_262 F_X6_33 qr_845_1 ?_
  refine t_getR 323 dX6_readInt_265 F_X6_306 qr_316_6 ?_
  refine mj_iload_n dX6_readInt_268 1 rfl ?_
  refine mj_iload_n dX6_readInt_269 2 rfl ?_
  refine mj_if_ne 286 dX6_readInt_270 (by decide) (fun z => t_negK hk z (fun hk => ?_)) (fun z => t_posK hk z (fun hk => ?_))
  · refine mj_aload_n dX6_readInt_286 0 rfl ?_
    refine t_getR 316 dX6_readInt_287 F_X6_33 qr_845_1 ?_
    refine t_getR 323 dX6_readInt_290 F_X6_306 qr_316_6 ?_
    refine mj_iload_n dX6_readInt_293 1 rfl ?_
    refine t_chkK hk (fun c1 hk => ?_)
    refine t_lald dX6_readInt_294 qa_323 (t_ixv c1) ?_
    refine mj_aload_n dX6_readInt_295 0 rfl ?_
    refine t_getR 316 dX6_readInt_296 F_X6_33 qr_845_1 ?_
    refine t_getR 323 dX6_readInt_299 F_X6_306 qr_316_6 ?_
    refine mj_iload dX6_readInt_302 3 rfl ?_
    refine t_chkK hk (fun c2 hk => ?_)
    refine t_lald dX6_readInt_304 qa_323 (t_ixv c2) ?_
    refine mj_lmax dX6_readInt_305 MJ_max_X6_359 (Nat.le_of_ble_eq_true rfl) (Nat.le_of_ble_eq_true rfl) (Nat.le_of_ble_eq_true rfl) (Nat.le_of_ble_eq_true rfl) ?_
    exact B_X6_readInt_308 _ _ _ _ _ _ _ (fun y0 y1 y2 y3 hx => Hb41 y0 y1 y2 y3 hx) hk
  · refine mj_aload_n dX6_readInt_273 0 rfl ?_
    refine t_getR 316 dX6_readInt_274 F_X6_33 qr_845_1 ?_
    refine t_getR 323 dX6_readInt_277 F_X6_306 qr_316_6 ?_
    refine mj_iload dX6_readInt_280 3 rfl ?_
    refine t_chkK hk (fun c3 hk => ?_)
    refine t_lald dX6_readInt_282 qa_323 (t_ixv c3) ?_
    refine mj_goto 308 dX6_readInt_283 (by decide) ?_
    exact B_X6_readInt_308 _ _ _ _ _ _ _ (fun y0 y1 y2 y3 hx => Hb41 y0 y1 y2 y3 hx) hk
noncomputable def k_X6_readInt_213 (l1 : Int32) (l3 : Int32) (l4 : Int32) (s : t_S) : Option ((Int32 × Int32 × Int32 × t_S) ⊕ (t_S)) :=
 if l3 = (0 : Int32) then (if t_ix l4 3001 = true then
  k_X6_readInt_260 l1 l3 l4 (s.2.1 322 (l4.toNatClampNeg)) l1 s
else none)
 else (if t_ix l1 3001 = true then
  if t_ix l4 3001 = true then
  k_X6_readInt_260 l1 l3 l4 (if (s.2.1 322 (l4.toNatClampNeg)) < (s.2.1 322 (l1.toNatClampNeg)) then (s.2.1 322 (l4.toNatClampNeg)) else (s.2.1 322 (l1.toNatClampNeg))) l1 s
else none
else none)
set_option maxRecDepth 4000 in
set_option maxHeartbeats 1000000 in
theorem B_X6_readInt_213 {D : va_G} {cy : Nat → ClassId} {ad : Nat → Nat} {bs : Nat} {X : State → Heap → Prop} (l1 : Int32) (l3 : Int32) (l4 : Int32) (s : t_S) (Q : (Int32 × Int32 × Int32 × t_S) ⊕ (t_S) → Prop) (Hb41 : ∀ (y0 : Int32) (y1 : Int32) (y2 : Int32) (y3 : t_S), Q (.inl (y0, y1, y2, y3)) → mj_G D cy ad bs X cX6_readInt 5 yX6_readInt.cls none yX6_readInt.name 2 0 0 1065 (t_P (fun v s' => v = none ∧ Q (.inr (s')))) 41 [(0, .ref 845), (1, .int (y0)), (2, .int (y1)), (3, .int (y2))] [] (t_m y3) 1065 0 0) (hk : t_hk (k_X6_readInt_213 l1 l3 l4 s) Q) : mj_G D cy ad bs X cX6_readInt 5 yX6_readInt.cls none yX6_readInt.name 2 0 0 1065 (t_P (fun v s' => v = none ∧ Q (.inr (s')))) 213 [(0, .ref 845), (1, .int l1), (3, .int l3), (4, .int l4)] [] (t_m s) 1065 0 0 := by
  refine mj_aload_n dX6_readInt_213 0 rfl ?_
  refine t_getR 316 dX6_readInt_214 F_X6_33 qr_845_1 ?_
  refine t_getR 322 dX6_readInt_217 F_X6_332 qr_316_5 ?_
  refine mj_iload_n dX6_readInt_220 1 rfl ?_
  refine mj_iload_n dX6_readInt_221 2 rfl ?_
  refine mj_if_ne 238 dX6_readInt_222 (by decide) (fun z => t_negK hk z (fun hk => ?_)) (fun z => t_posK hk z (fun hk => ?_))
  · refine mj_aload_n dX6_readInt_238 0 rfl ?_
    refine t_getR 316 dX6_readInt_239 F_X6_33 qr_845_1 ?_
    refine t_getR 322 dX6_readInt_242 F_X6_332 qr_316_5 ?_
    refine mj_iload_n dX6_readInt_245 1 rfl ?_
    refine t_chkK hk (fun c0 hk => ?_)
    refine t_lald dX6_readInt_246 qa_322 (t_ixv c0) ?_
    refine mj_aload_n dX6_readInt_247 0 rfl ?_
    refine t_getR 316 dX6_readInt_248 F_X6_33 qr_845_1 ?_
    refine t_getR 322 dX6_readInt_251 F_X6_332 qr_316_5 ?_
    refine mj_iload dX6_readInt_254 3 rfl ?_
    refine t_chkK hk (fun c1 hk => ?_)
    refine t_lald dX6_readInt_256 qa_322 (t_ixv c1) ?_
    refine mj_lmin dX6_readInt_257 MJ_min_X6_353 (Nat.le_of_ble_eq_true rfl) (Nat.le_of_ble_eq_true rfl) (Nat.le_of_ble_eq_true rfl) (Nat.le_of_ble_eq_true rfl) ?_
    exact B_X6_readInt_260 _ _ _ _ _ _ _ (fun y0 y1 y2 y3 hx => Hb41 y0 y1 y2 y3 hx) hk
  · refine mj_aload_n dX6_readInt_225 0 rfl ?_
    refine t_getR 316 dX6_readInt_226 F_X6_33 qr_845_1 ?_
    refine t_getR 322 dX6_readInt_229 F_X6_332 qr_316_5 ?_
    refine mj_iload dX6_readInt_232 3 rfl ?_
    refine t_chkK hk (fun c2 hk => ?_)
    refine t_lald dX6_readInt_234 qa_322 (t_ixv c2) ?_
    refine mj_goto 260 dX6_readInt_235 (by decide) ?_
    exact B_X6_readInt_260 _ _ _ _ _ _ _ (fun y0 y1 y2 y3 hx => Hb41 y0 y1 y2 y3 hx) hk
noncomputable def k_X6_readInt_183 (l1 : Int32) (l2 : Int32) (l3 : Int32) (l4 : Int32) (k0 : Int64) (k1 : Int32) (s : t_S) : Option ((Int32 × Int32 × Int32 × t_S) ⊕ (t_S)) :=
 if t_ix k1 3001 = true then
  t_let (t_setJ s 323 (k1.toNatClampNeg) k0) (fun s1 =>
 if l3 = (0 : Int32) then (if t_ix l1 3001 = true then
  t_let (t_setI s1 318 (l1.toNatClampNeg) l4) (fun s3 =>
 k_X6_readInt_213 l1 l3 l4 s3)
else none)
 else (if t_ix l2 3001 = true then
  t_let (t_setI s1 319 (l2.toNatClampNeg) l4) (fun s2 =>
 k_X6_readInt_213 l1 l3 l4 s2)
else none))
else none
set_option maxRecDepth 4000 in
set_option maxHeartbeats 1000000 in
theorem B_X6_readInt_183 {D : va_G} {cy : Nat → ClassId} {ad : Nat → Nat} {bs : Nat} {X : State → Heap → Prop} (l1 : Int32) (l2 : Int32) (l3 : Int32) (l4 : Int32) (k0 : Int64) (k1 : Int32) (s : t_S) (Q : (Int32 × Int32 × Int32 × t_S) ⊕ (t_S) → Prop) (Hb41 : ∀ (y0 : Int32) (y1 : Int32) (y2 : Int32) (y3 : t_S), Q (.inl (y0, y1, y2, y3)) → mj_G D cy ad bs X cX6_readInt 5 yX6_readInt.cls none yX6_readInt.name 2 0 0 1065 (t_P (fun v s' => v = none ∧ Q (.inr (s')))) 41 [(0, .ref 845), (1, .int (y0)), (2, .int (y1)), (3, .int (y2))] [] (t_m y3) 1065 0 0) (hk : t_hk (k_X6_readInt_183 l1 l2 l3 l4 k0 k1 s) Q) : mj_G D cy ad bs X cX6_readInt 5 yX6_readInt.cls none yX6_readInt.name 2 0 0 1065 (t_P (fun v s' => v = none ∧ Q (.inr (s')))) 183 [(0, .ref 845), (1, .int l1), (2, .int l2), (3, .int l3), (4, .int l4)] [.long k0, .int k1, .ref 323] (t_m s) 1065 0 0 := by
  refine t_chkK hk (fun c0 hk => ?_)
  refine t_lastK dX6_readInt_183 qa_323 (t_ixv c0) (fun s1 ws1 => t_letE hk ws1 (fun hk => ?_))
  refine mj_iload_n dX6_readInt_184 3 rfl ?_
  refine mj_if_ne 202 dX6_readInt_185 (by decide) (fun z => t_negK hk z (fun hk => ?_)) (fun z => t_posK hk z (fun hk => ?_))
  · refine mj_aload_n dX6_readInt_202 0 rfl ?_
    refine t_getR 316 dX6_readInt_203 F_X6_33 qr_845_1 ?_
    refine t_getR 319 dX6_readInt_206 F_X6_350 qr_316_2 ?_
    refine mj_iload_n dX6_readInt_209 2 rfl ?_
    refine mj_iload dX6_readInt_210 4 rfl ?_
    refine t_chkK hk (fun c1 hk => ?_)
    refine t_iastK dX6_readInt_212 qa_319 (t_ixv c1) (fun s2 ws2 => t_letE hk ws2 (fun hk => ?_))
    refine mj_sublv [(0, .ref 845), (1, .int l1), (3, .int l3), (4, .int l4)] [0, 1, 3, 4] rfl ?_
    exact B_X6_readInt_213 _ _ _ _ _ (fun y0 y1 y2 y3 hx => Hb41 y0 y1 y2 y3 hx) hk
  · refine mj_aload_n dX6_readInt_188 0 rfl ?_
    refine t_getR 316 dX6_readInt_189 F_X6_33 qr_845_1 ?_
    refine t_getR 318 dX6_readInt_192 F_X6_329 qr_316_1 ?_
    refine mj_iload_n dX6_readInt_195 1 rfl ?_
    refine mj_iload dX6_readInt_196 4 rfl ?_
    refine t_chkK hk (fun c2 hk => ?_)
    refine t_iastK dX6_readInt_198 qa_318 (t_ixv c2) (fun s3 ws3 => t_letE hk ws3 (fun hk => ?_))
    refine mj_goto 213 dX6_readInt_199 (by decide) ?_
    refine mj_sublv [(0, .ref 845), (1, .int l1), (3, .int l3), (4, .int l4)] [0, 1, 3, 4] rfl ?_
    exact B_X6_readInt_213 _ _ _ _ _ (fun y0 y1 y2 y3 hx => Hb41 y0 y1 y2 y3 hx) hk
noncomputable def k_X6_readInt_92 (l1 : Int32) (l2 : Int32) (l3 : Int32) (s : t_S) : Option ((Int32 × Int32 × Int32 × t_S) ⊕ (t_S)) :=
 (f_X6_node s).bind (fun r1 =>
 if (r1.1 1 11) = (0 : Int32) then ((f_X11_add (10 : Int32) r1).bind (fun r2 =>
 (f_X6_readNumber (-1000000000000000 : Int64) r2.2).bind (fun r3 =>
 if t_ix r2.1 3001 = true then
  t_let (t_setJ r3.2 322 (r2.1.toNatClampNeg) r3.1) (fun s1 =>
 (f_X2_take (10 : Int32) s1).bind (fun r5 =>
 if r5.1 = (0 : Int32) then (k_X6_readInt_183 l1 l2 l3 r2.1 (r5.2.2.1 322 (r2.1.toNatClampNeg)) r2.1 r5.2)
 else ((f_X6_readNumber (r5.2.2.1 322 (r2.1.toNatClampNeg)) r5.2).bind (fun r6 =>
 k_X6_readInt_183 l1 l2 l3 r2.1 r6.1 r2.1 r6.2))))
else none)))
 else ((some (r1)).map Sum.inr))
set_option maxRecDepth 4000 in
set_option maxHeartbeats 1000000 in
theorem B_X6_readInt_92 {D : va_G} {cy : Nat → ClassId} {ad : Nat → Nat} {bs : Nat} {X : State → Heap → Prop} (l1 : Int32) (l2 : Int32) (l3 : Int32) (s : t_S) (Q : (Int32 × Int32 × Int32 × t_S) ⊕ (t_S) → Prop) (Hb41 : ∀ (y0 : Int32) (y1 : Int32) (y2 : Int32) (y3 : t_S), Q (.inl (y0, y1, y2, y3)) → mj_G D cy ad bs X cX6_readInt 5 yX6_readInt.cls none yX6_readInt.name 2 0 0 1065 (t_P (fun v s' => v = none ∧ Q (.inr (s')))) 41 [(0, .ref 845), (1, .int (y0)), (2, .int (y1)), (3, .int (y2))] [] (t_m y3) 1065 0 0) (hk : t_hk (k_X6_readInt_92 l1 l2 l3 s) Q) : mj_G D cy ad bs X cX6_readInt 5 yX6_readInt.cls none yX6_readInt.name 2 0 0 1065 (t_P (fun v s' => v = none ∧ Q (.inr (s')))) 92 [(0, .ref 845), (1, .int l1), (2, .int l2), (3, .int l3)] [] (t_m s) 1065 0 0 := by
  refine mj_aload_n dX6_readInt_92 0 rfl ?_
  refine t_bndK hk (fun r1 er1 hk => ?_)
  refine t_callVvE dX6_readInt_93 M_X6_node (C_X6_node _ _ er1) ML_X6_298 IM_X6_node SE_X6_node qc_845 rfl (As := []) rfl rfl (Nat.le_of_ble_eq_true rfl) (Nat.le_of_ble_eq_true rfl) (Nat.le_of_ble_eq_true rfl) (Nat.le_of_ble_eq_true rfl) ?_
  refine mj_aload_n dX6_readInt_96 0 rfl ?_
  refine t_getR 1 dX6_readInt_97 F_X6_28 qr_845_0 ?_
  refine t_getI dX6_readInt_100 F_X6_82 qf_1_11 ?_
  refine mj_if_eq 107 dX6_readInt_103 (by decide) (fun z => t_posK hk z (fun hk => ?_)) (fun z => t_negK hk z (fun hk => ?_))
  · refine mj_aload_n dX6_readInt_107 0 rfl ?_
    refine t_getR 316 dX6_readInt_108 F_X6_33 qr_845_1 ?_
    refine mj_bipush (v := 10) dX6_readInt_111 (by decide) ?_
    refine t_bndK hk (fun r2 er2 hk => ?_)
    refine t_callViE dX6_readInt_113 M_X11_add (C_X11_add _ _ _ er2) ML_X6_301 IM_X11_add SE_X11_add qc_316 rfl (As := [.int 10]) rfl rfl (Nat.le_of_ble_eq_true rfl) (Nat.le_of_ble_eq_true rfl) (Nat.le_of_ble_eq_true rfl) (Nat.le_of_ble_eq_true rfl) ?_
    refine mj_istore (lv2 := [(4, .int r2.1), (0, .ref 845), (1, .int l1), (2, .int l2), (3, .int l3)]) dX6_readInt_116 (by decide) rfl ?_
    refine mj_aload_n dX6_readInt_118 1 rfl ?_
    refine t_getR 316 dX6_readInt_119 F_X6_33 qr_845_1 ?_
    refine t_getR 322 dX6_readInt_122 F_X6_332 qr_316_5 ?_
    refine mj_iload dX6_readInt_125 0 rfl ?_
    refine mj_aload_n dX6_readInt_127 1 rfl ?_
    refine mj_ldc2 dX6_readInt_128 K_X6_342 ?_
    refine t_bndK hk (fun r3 er3 hk => ?_)
    refine t_callVlE dX6_readInt_131 M_X6_readNumber (C_X6_readNumber _ _ _ er3) ML_X6_346 IM_X6_readNumber SE_X6_readNumber qc_845 rfl (As := [.long (-1000000000000000)]) rfl rfl (Nat.le_of_ble_eq_true rfl) (Nat.le_of_ble_eq_true rfl) (Nat.le_of_ble_eq_true rfl) (Nat.le_of_ble_eq_true rfl) ?_
    refine t_chkK hk (fun c3 hk => ?_)
    refine t_lastK dX6_readInt_134 qa_322 (t_ixv c3) (fun s1 ws1 => t_letE hk ws1 (fun hk => ?_))
    refine mj_aload_n dX6_readInt_135 1 rfl ?_
    refine t_getR 316 dX6_readInt_136 F_X6_33 qr_845_1 ?_
    refine t_getR 323 dX6_readInt_139 F_X6_306 qr_316_6 ?_
    refine mj_iload dX6_readInt_142 0 rfl ?_
    refine mj_aload_n dX6_readInt_144 1 rfl ?_
    refine t_getR 1 dX6_readInt_145 F_X6_28 qr_845_0 ?_
    refine mj_bipush (v := 10) dX6_readInt_148 (by decide) ?_
    refine t_bndK hk (fun r5 er5 hk => ?_)
    refine t_callViE dX6_readInt_150 M_X2_take (C_X2_take _ _ _ er5) ML_X6_246 IM_X2_take SE_X2_take qc_1 rfl (As := [.int 10]) rfl rfl (Nat.le_of_ble_eq_true rfl) (Nat.le_of_ble_eq_true rfl) (Nat.le_of_ble_eq_true rfl) (Nat.le_of_ble_eq_true rfl) ?_
    refine mj_if_eq 173 dX6_readInt_153 (by decide) (fun z => t_posK hk z (fun hk => ?_)) (fun z => t_negK hk z (fun hk => ?_))
    · refine mj_aload_n dX6_readInt_173 1 rfl ?_
      refine t_getR 316 dX6_readInt_174 F_X6_33 qr_845_1 ?_
      refine t_getR 322 dX6_readInt_177 F_X6_332 qr_316_5 ?_
      refine mj_iload dX6_readInt_180 0 rfl ?_
      refine t_lald dX6_readInt_182 qa_322 (t_ixv c3) ?_
      refine mj_sublv [(0, .ref 845), (1, .int l1), (2, .int l2), (3, .int l3), (4, .int r2.1)] [1, 2, 3, 4, 0] rfl ?_
      exact B_X6_readInt_183 _ _ _ _ _ _ _ _ (fun y0 y1 y2 y3 hx => Hb41 y0 y1 y2 y3 hx) hk
    · refine mj_aload_n dX6_readInt_156 1 rfl ?_
      refine mj_aload_n dX6_readInt_157 1 rfl ?_
      refine t_getR 316 dX6_readInt_158 F_X6_33 qr_845_1 ?_
      refine t_getR 322 dX6_readInt_161 F_X6_332 qr_316_5 ?_
      refine mj_iload dX6_readInt_164 0 rfl ?_
      refine t_lald dX6_readInt_166 qa_322 (t_ixv c3) ?_
      refine t_bndK hk (fun r6 er6 hk => ?_)
      refine t_callVlE dX6_readInt_167 M_X6_readNumber (C_X6_readNumber _ _ _ er6) ML_X6_346 IM_X6_readNumber SE_X6_readNumber qc_845 rfl (As := [.long (r5.2.2.1 322 (r2.1.toNatClampNeg))]) rfl rfl (Nat.le_of_ble_eq_true rfl) (Nat.le_of_ble_eq_true rfl) (Nat.le_of_ble_eq_true rfl) (Nat.le_of_ble_eq_true rfl) ?_
      refine mj_goto 183 dX6_readInt_170 (by decide) ?_
      refine mj_sublv [(0, .ref 845), (1, .int l1), (2, .int l2), (3, .int l3), (4, .int r2.1)] [1, 2, 3, 4, 0] rfl ?_
      exact B_X6_readInt_183 _ _ _ _ _ _ _ _ (fun y0 y1 y2 y3 hx => Hb41 y0 y1 y2 y3 hx) hk
  · refine t_mapK hk (fun hk => ?_)
    exact t_somK hk (fun hf => t_vret dX6_readInt_106 rfl ⟨rfl, hf⟩ (Nat.le_of_ble_eq_true rfl) (Nat.le_of_ble_eq_true rfl))
noncomputable def k_X6_readInt_78 (l1 : Int32) (l2 : Int32) (l3 : Int32) (s : t_S) : Option ((Int32 × Int32 × Int32 × t_S) ⊕ (t_S)) :=
 if l3 = (6 : Int32) then ((f_X2_fail (5 : Int32) s).bind (fun r1 =>
 k_X6_readInt_92 l1 l2 l3 r1))
 else (k_X6_readInt_92 l1 l2 l3 s)
set_option maxRecDepth 4000 in
set_option maxHeartbeats 1000000 in
theorem B_X6_readInt_78 {D : va_G} {cy : Nat → ClassId} {ad : Nat → Nat} {bs : Nat} {X : State → Heap → Prop} (l1 : Int32) (l2 : Int32) (l3 : Int32) (s : t_S) (Q : (Int32 × Int32 × Int32 × t_S) ⊕ (t_S) → Prop) (Hb41 : ∀ (y0 : Int32) (y1 : Int32) (y2 : Int32) (y3 : t_S), Q (.inl (y0, y1, y2, y3)) → mj_G D cy ad bs X cX6_readInt 5 yX6_readInt.cls none yX6_readInt.name 2 0 0 1065 (t_P (fun v s' => v = none ∧ Q (.inr (s')))) 41 [(0, .ref 845), (1, .int (y0)), (2, .int (y1)), (3, .int (y2))] [] (t_m y3) 1065 0 0) (hk : t_hk (k_X6_readInt_78 l1 l2 l3 s) Q) : mj_G D cy ad bs X cX6_readInt 5 yX6_readInt.cls none yX6_readInt.name 2 0 0 1065 (t_P (fun v s' => v = none ∧ Q (.inr (s')))) 78 [(0, .ref 845), (1, .int l1), (2, .int l2), (3, .int l3)] [] (t_m s) 1065 0 0 := by
  refine mj_iload_n dX6_readInt_78 3 rfl ?_
  refine mj_bipush (v := 6) dX6_readInt_79 (by decide) ?_
  refine mj_icmp_ne 92 dX6_readInt_81 (by decide) (fun z => t_negK hk z (fun hk => ?_)) (fun z => t_posK hk z (fun hk => ?_))
  · exact B_X6_readInt_92 _ _ _ _ _ (fun y0 y1 y2 y3 hx => Hb41 y0 y1 y2 y3 hx) hk
  · refine mj_aload_n dX6_readInt_84 0 rfl ?_
    refine t_getR 1 dX6_readInt_85 F_X6_28 qr_845_0 ?_
    refine mj_iconst (v := 5) dX6_readInt_88 (by decide) ?_
    refine t_bndK hk (fun r1 er1 hk => ?_)
    refine t_callVvE dX6_readInt_89 M_X2_fail (C_X2_fail _ _ _ er1) ML_X6_100 IM_X2_fail SE_X2_fail qc_1 rfl (As := [.int 5]) rfl rfl (Nat.le_of_ble_eq_true rfl) (Nat.le_of_ble_eq_true rfl) (Nat.le_of_ble_eq_true rfl) (Nat.le_of_ble_eq_true rfl) ?_
    exact B_X6_readInt_92 _ _ _ _ _ (fun y0 y1 y2 y3 hx => Hb41 y0 y1 y2 y3 hx) hk
noncomputable def k_X6_readInt_41 (l1 : Int32) (l2 : Int32) (l3 : Int32) (s : t_S) : Option ((Int32 × Int32 × Int32 × t_S) ⊕ (t_S)) :=
 if (6 : Int32) < l3 then ((k_X6_readInt_346 s).map Sum.inr)
 else (if (s.1 1 8) = (45 : Int32) then (k_X6_readInt_78 l1 l2 l3 s)
 else (if (s.1 1 8) = (2 : Int32) then (k_X6_readInt_78 l1 l2 l3 s)
 else ((f_X2_fail (2 : Int32) s).bind (fun r1 =>
 k_X6_readInt_78 l1 l2 l3 r1))))
set_option maxRecDepth 4000 in
set_option maxHeartbeats 1000000 in
theorem B_X6_readInt_41 {D : va_G} {cy : Nat → ClassId} {ad : Nat → Nat} {bs : Nat} {X : State → Heap → Prop} (l1 : Int32) (l2 : Int32) (l3 : Int32) (s : t_S) (Q : (Int32 × Int32 × Int32 × t_S) ⊕ (t_S) → Prop) (Hb41 : ∀ (y0 : Int32) (y1 : Int32) (y2 : Int32) (y3 : t_S), Q (.inl (y0, y1, y2, y3)) → mj_G D cy ad bs X cX6_readInt 5 yX6_readInt.cls none yX6_readInt.name 2 0 0 1065 (t_P (fun v s' => v = none ∧ Q (.inr (s')))) 41 [(0, .ref 845), (1, .int (y0)), (2, .int (y1)), (3, .int (y2))] [] (t_m y3) 1065 0 0) (hk : t_hk (k_X6_readInt_41 l1 l2 l3 s) Q) : mj_G D cy ad bs X cX6_readInt 5 yX6_readInt.cls none yX6_readInt.name 2 0 0 1065 (t_P (fun v s' => v = none ∧ Q (.inr (s')))) 41 [(0, .ref 845), (1, .int l1), (2, .int l2), (3, .int l3)] [] (t_m s) 1065 0 0 := by
  refine mj_iload_n dX6_readInt_41 3 rfl ?_
  refine mj_bipush (v := 6) dX6_readInt_42 (by decide) ?_
  refine mj_icmp_gt 346 dX6_readInt_44 (by decide) (fun z => t_posK hk z (fun hk => ?_)) (fun z => t_negK hk z (fun hk => ?_))
  · refine mj_sublv [(0, .ref 845)] [0] rfl ?_
    refine t_mapK hk (fun hk => ?_)
    exact B_X6_readInt_346 _ _ hk
  · refine mj_aload_n dX6_readInt_47 0 rfl ?_
    refine t_getR 1 dX6_readInt_48 F_X6_28 qr_845_0 ?_
    refine t_getI dX6_readInt_51 F_X6_85 qf_1_8 ?_
    refine mj_bipush (v := 45) dX6_readInt_54 (by decide) ?_
    refine mj_icmp_eq 78 dX6_readInt_56 (by decide) (fun z => t_posK hk z (fun hk => ?_)) (fun z => t_negK hk z (fun hk => ?_))
    · exact B_X6_readInt_78 _ _ _ _ _ (fun y0 y1 y2 y3 hx => Hb41 y0 y1 y2 y3 hx) hk
    · refine mj_aload_n dX6_readInt_59 0 rfl ?_
      refine t_getR 1 dX6_readInt_60 F_X6_28 qr_845_0 ?_
      refine t_getI dX6_readInt_63 F_X6_85 qf_1_8 ?_
      refine mj_iconst (v := 2) dX6_readInt_66 (by decide) ?_
      refine mj_icmp_eq 78 dX6_readInt_67 (by decide) (fun z => t_posK hk z (fun hk => ?_)) (fun z => t_negK hk z (fun hk => ?_))
      · exact B_X6_readInt_78 _ _ _ _ _ (fun y0 y1 y2 y3 hx => Hb41 y0 y1 y2 y3 hx) hk
      · refine mj_aload_n dX6_readInt_70 0 rfl ?_
        refine t_getR 1 dX6_readInt_71 F_X6_28 qr_845_0 ?_
        refine mj_iconst (v := 2) dX6_readInt_74 (by decide) ?_
        refine t_bndK hk (fun r1 er1 hk => ?_)
        refine t_callVvE dX6_readInt_75 M_X2_fail (C_X2_fail _ _ _ er1) ML_X6_100 IM_X2_fail SE_X2_fail qc_1 rfl (As := [.int 2]) rfl rfl (Nat.le_of_ble_eq_true rfl) (Nat.le_of_ble_eq_true rfl) (Nat.le_of_ble_eq_true rfl) (Nat.le_of_ble_eq_true rfl) ?_
        exact B_X6_readInt_78 _ _ _ _ _ (fun y0 y1 y2 y3 hx => Hb41 y0 y1 y2 y3 hx) hk
noncomputable def b_X6_readInt_41 (x : Int32 × Int32 × Int32 × t_S) : Option ((Int32 × Int32 × Int32 × t_S) ⊕ (t_S)) := k_X6_readInt_41 x.1 x.2.1 x.2.2.1 x.2.2.2
set_option maxRecDepth 4000 in
set_option maxHeartbeats 1000000 in
theorem LH_X6_readInt_41 {D : va_G} {cy : Nat → ClassId} {ad : Nat → Nat} {bs : Nat} {X : State → Heap → Prop} : ∀ (n : Nat) (y0 : Int32) (y1 : Int32) (y2 : Int32) (y3 : t_S) (Q : t_S → Prop) (hk : t_hk (t_loop (b_X6_readInt_41) n (y0, y1, y2, y3)) Q), mj_G D cy ad bs X cX6_readInt 5 yX6_readInt.cls none yX6_readInt.name 2 0 0 1065 (t_P (fun v s' => v = none ∧ Q (s'))) 41 [(0, .ref 845), (1, .int (y0)), (2, .int (y1)), (3, .int (y2))] [] (t_m y3) 1065 0 0 := by
  intro n
  induction n with
  | zero => intro y0 y1 y2 y3 Q hk; obtain ⟨r, hr, _⟩ := hk; cases hr
  | succ n ih =>
    intro y0 y1 y2 y3 Q hk
    exact B_X6_readInt_41 y0 y1 y2 y3 (fun y => t_lq (b_X6_readInt_41) n Q y) (fun y0' y1' y2' y3' hy => ih y0' y1' y2' y3' Q hy) (t_lp hk)
noncomputable def f_X6_readInt (x1 : Int32) (s : t_S) : Option (t_S) :=
 if t_ix x1 3001 = true then
  t_let (t_setJ s 322 (x1.toNatClampNeg) (-1000000000000000 : Int64)) (fun s1 =>
 t_let (t_setJ s1 323 (x1.toNatClampNeg) (1000000000000000 : Int64)) (fun s2 =>
 (f_X2_take (40 : Int32) s2).bind (fun r2 =>
 if r2.1 = (0 : Int32) then (some (r2.2))
 else (t_loop (b_X6_readInt_41) t_N (x1, (-1), 0, r2.2)))))
else none
set_option maxRecDepth 4000 in
set_option maxHeartbeats 1000000 in
theorem C_X6_readInt (x1 : Int32) (s : t_S) (r : t_S) (hr : f_X6_readInt x1 s = some r) : t_C yX6_readInt cX6_readInt 5 none 2 [.ref 845, .int x1] s (fun v s' => v = none ∧ s' = r) := by
  refine t_C.imp (P := fun v s' => v = none ∧ (fun q => q = r) (s')) (t_C.of (by decide +kernel) (Nat.le_of_ble_eq_true rfl) ?_) (fun v s' hp => hp)
  intro D cy ad bs X
  have hk : t_hk (f_X6_readInt x1 s) (fun q => q = r) := ⟨r, hr, rfl⟩
  show mj_G D cy ad bs X cX6_readInt 5 yX6_readInt.cls none yX6_readInt.name 2 0 0 1065 (t_P (fun v s' => v = none ∧ (fun q => q = r) (s'))) 0 [(0, .ref 845), (1, .int x1)] [] (t_m s) 1065 0 0
  refine mj_aload_n dX6_readInt_0 0 rfl ?_
  refine t_getR 316 dX6_readInt_1 F_X6_33 qr_845_1 ?_
  refine t_getR 322 dX6_readInt_4 F_X6_332 qr_316_5 ?_
  refine mj_iload_n dX6_readInt_7 1 rfl ?_
  refine mj_ldc2 dX6_readInt_8 K_X6_342 ?_
  refine t_chkK hk (fun c0 hk => ?_)
  refine t_lastK dX6_readInt_11 qa_322 (t_ixv c0) (fun s1 ws1 => t_letE hk ws1 (fun hk => ?_))
  refine mj_aload_n dX6_readInt_12 0 rfl ?_
  refine t_getR 316 dX6_readInt_13 F_X6_33 qr_845_1 ?_
  refine t_getR 323 dX6_readInt_16 F_X6_306 qr_316_6 ?_
  refine mj_iload_n dX6_readInt_19 1 rfl ?_
  refine mj_ldc2 dX6_readInt_20 K_X6_344 ?_
  refine t_lastK dX6_readInt_23 qa_323 (t_ixv c0) (fun s2 ws2 => t_letE hk ws2 (fun hk => ?_))
  refine mj_aload_n dX6_readInt_24 0 rfl ?_
  refine t_getR 1 dX6_readInt_25 F_X6_28 qr_845_0 ?_
  refine mj_bipush (v := 40) dX6_readInt_28 (by decide) ?_
  refine t_bndK hk (fun r2 er2 hk => ?_)
  refine t_callViE dX6_readInt_30 M_X2_take (C_X2_take _ _ _ er2) ML_X6_246 IM_X2_take SE_X2_take qc_1 rfl (As := [.int 40]) rfl rfl (Nat.le_of_ble_eq_true rfl) (Nat.le_of_ble_eq_true rfl) (Nat.le_of_ble_eq_true rfl) (Nat.le_of_ble_eq_true rfl) ?_
  refine mj_if_ne 37 dX6_readInt_33 (by decide) (fun z => t_negK hk z (fun hk => ?_)) (fun z => t_posK hk z (fun hk => ?_))
  · refine mj_iconst (v := (-1)) dX6_readInt_37 (by decide) ?_
    refine mj_istore_n 2 (lv2 := [(2, .int (-1)), (0, .ref 845), (1, .int x1)]) dX6_readInt_38 rfl (by decide) rfl ?_
    refine mj_iconst (v := 0) dX6_readInt_39 (by decide) ?_
    refine mj_istore_n 3 (lv2 := [(3, .int 0), (2, .int (-1)), (0, .ref 845), (1, .int x1)]) dX6_readInt_40 rfl (by decide) rfl ?_
    refine mj_sublv [(0, .ref 845), (1, .int x1), (2, .int (-1)), (3, .int 0)] [2, 3, 1, 0] rfl ?_
    exact LH_X6_readInt_41 _ x1 (-1) 0 r2.2 _ hk
  · exact t_somK hk (fun hf => t_vret dX6_readInt_36 rfl ⟨rfl, hf⟩ (Nat.le_of_ble_eq_true rfl) (Nat.le_of_ble_eq_true rfl))

theorem dX6_setSpan_0 : decode cX6_setSpan 0 = .ok (.aload_n 0, 1) := by decide +kernel
theorem dX6_setSpan_1 : decode cX6_setSpan 1 = .ok (.getfield 33, 3) := by decide +kernel
theorem dX6_setSpan_11 : decode cX6_setSpan 11 = .ok (.ishr, 1) := by decide +kernel
theorem dX6_setSpan_12 : decode cX6_setSpan 12 = .ok (.sipush 255, 3) := by decide +kernel
theorem dX6_setSpan_15 : decode cX6_setSpan 15 = .ok (.iand, 1) := by decide +kernel
theorem dX6_setSpan_16 : decode cX6_setSpan 16 = .ok (.i2l, 1) := by decide +kernel
theorem dX6_setSpan_17 : decode cX6_setSpan 17 = .ok (.lastore, 1) := by decide +kernel
theorem dX6_setSpan_18 : decode cX6_setSpan 18 = .ok (.aload_n 0, 1) := by decide +kernel
theorem dX6_setSpan_19 : decode cX6_setSpan 19 = .ok (.getfield 33, 3) := by decide +kernel
theorem dX6_setSpan_22 : decode cX6_setSpan 22 = .ok (.getfield 306, 3) := by decide +kernel
theorem dX6_setSpan_25 : decode cX6_setSpan 25 = .ok (.iload_n 1, 1) := by decide +kernel
theorem dX6_setSpan_26 : decode cX6_setSpan 26 = .ok (.iload_n 2, 1) := by decide +kernel
theorem dX6_setSpan_27 : decode cX6_setSpan 27 = .ok (.bipush 16, 2) := by decide +kernel
theorem dX6_setSpan_29 : decode cX6_setSpan 29 = .ok (.ishr, 1) := by decide +kernel
theorem dX6_setSpan_30 : decode cX6_setSpan 30 = .ok (.sipush 255, 3) := by decide +kernel
theorem dX6_setSpan_33 : decode cX6_setSpan 33 = .ok (.iand, 1) := by decide +kernel
theorem dX6_setSpan_34 : decode cX6_setSpan 34 = .ok (.i2l, 1) := by decide +kernel
theorem dX6_setSpan_35 : decode cX6_setSpan 35 = .ok (.lastore, 1) := by decide +kernel
theorem dX6_setSpan_36 : decode cX6_setSpan 36 = .ok (.return_, 1) := by decide +kernel
theorem dX6_setSpan_4 : decode cX6_setSpan 4 = .ok (.getfield 332, 3) := by decide +kernel
theorem dX6_setSpan_7 : decode cX6_setSpan 7 = .ok (.iload_n 1, 1) := by decide +kernel
theorem dX6_setSpan_8 : decode cX6_setSpan 8 = .ok (.iload_n 2, 1) := by decide +kernel
theorem dX6_setSpan_9 : decode cX6_setSpan 9 = .ok (.bipush 8, 2) := by decide +kernel
noncomputable def f_X6_setSpan (x1 : Int32) (x2 : Int32) (s : t_S) : Option (t_S) :=
 if t_ix x1 3001 = true then
  t_let (t_setJ s 322 (x1.toNatClampNeg) (((x2 >>> ((8 : Int32) &&& 31)) &&& (255 : Int32)).toInt64)) (fun s1 =>
 t_let (t_setJ s1 323 (x1.toNatClampNeg) (((x2 >>> ((16 : Int32) &&& 31)) &&& (255 : Int32)).toInt64)) (fun s2 =>
 some (s2)))
else none
set_option maxRecDepth 4000 in
set_option maxHeartbeats 1000000 in
theorem C_X6_setSpan (x1 : Int32) (x2 : Int32) (s : t_S) (r : t_S) (hr : f_X6_setSpan x1 x2 s = some r) : t_C yX6_setSpan cX6_setSpan 3 none 0 [.ref 845, .int x1, .int x2] s (fun v s' => v = none ∧ s' = r) := by
  refine t_C.imp (P := fun v s' => v = none ∧ (fun q => q = r) (s')) (t_C.of (by decide +kernel) (Nat.le_of_ble_eq_true rfl) ?_) (fun v s' hp => hp)
  intro D cy ad bs X
  have hk : t_hk (f_X6_setSpan x1 x2 s) (fun q => q = r) := ⟨r, hr, rfl⟩
  show mj_G D cy ad bs X cX6_setSpan 3 yX6_setSpan.cls none yX6_setSpan.name 0 0 0 1065 (t_P (fun v s' => v = none ∧ (fun q => q = r) (s'))) 0 [(0, .ref 845), (1, .int x1), (2, .int x2)] [] (t_m s) 1065 0 0
  refine mj_aload_n dX6_setSpan_0 0 rfl ?_
  refine t_getR 316 dX6_setSpan_1 F_X6_33 qr_845_1 ?_
  refine t_getR 322 dX6_setSpan_4 F_X6_332 qr_316_5 ?_
  refine mj_iload_n dX6_setSpan_7 1 rfl ?_
  refine mj_iload_n dX6_setSpan_8 2 rfl ?_
  refine mj_bipush (v := 8) dX6_setSpan_9 (by decide) ?_
  refine mj_ishr dX6_setSpan_11 ?_
  refine mj_sipush (v := 255) dX6_setSpan_12 (by decide) ?_
  refine mj_iand dX6_setSpan_15 ?_
  refine mj_i2l (v := ((x2 >>> ((8 : Int32) &&& 31)) &&& (255 : Int32)).toInt64) dX6_setSpan_16 rfl ?_
  refine t_chkK hk (fun c0 hk => ?_)
  refine t_lastK dX6_setSpan_17 qa_322 (t_ixv c0) (fun s1 ws1 => t_letE hk ws1 (fun hk => ?_))
  refine mj_aload_n dX6_setSpan_18 0 rfl ?_
  refine t_getR 316 dX6_setSpan_19 F_X6_33 qr_845_1 ?_
  refine t_getR 323 dX6_setSpan_22 F_X6_306 qr_316_6 ?_
  refine mj_iload_n dX6_setSpan_25 1 rfl ?_
  refine mj_iload_n dX6_setSpan_26 2 rfl ?_
  refine mj_bipush (v := 16) dX6_setSpan_27 (by decide) ?_
  refine mj_ishr dX6_setSpan_29 ?_
  refine mj_sipush (v := 255) dX6_setSpan_30 (by decide) ?_
  refine mj_iand dX6_setSpan_33 ?_
  refine mj_i2l (v := ((x2 >>> ((16 : Int32) &&& 31)) &&& (255 : Int32)).toInt64) dX6_setSpan_34 rfl ?_
  refine t_lastK dX6_setSpan_35 qa_323 (t_ixv c0) (fun s2 ws2 => t_letE hk ws2 (fun hk => ?_))
  exact t_somK hk (fun hf => t_vret dX6_setSpan_36 rfl ⟨rfl, hf⟩ (Nat.le_of_ble_eq_true rfl) (Nat.le_of_ble_eq_true rfl))

