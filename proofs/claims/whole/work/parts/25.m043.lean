/-! Methods as functions, 43: X7_advance, X12_run, X12_state, X1_writeSign, X1_closeWritten -/
theorem dX7_advance_0 : decode cX7_advance 0 = .ok (.aload_n 0, 1) := by decide +kernel
theorem dX7_advance_1 : decode cX7_advance 1 = .ok (.getfield 11, 3) := by decide +kernel
theorem dX7_advance_101 : decode cX7_advance 101 = .ok (.iload 4, 2) := by decide +kernel
theorem dX7_advance_103 : decode cX7_advance 103 = .ok (.bipush 16, 2) := by decide +kernel
theorem dX7_advance_105 : decode cX7_advance 105 = .ok (.if_icmp .ne 19, 3) := by decide +kernel
theorem dX7_advance_108 : decode cX7_advance 108 = .ok (.aload_n 0, 1) := by decide +kernel
theorem dX7_advance_109 : decode cX7_advance 109 = .ok (.getfield 42, 3) := by decide +kernel
theorem dX7_advance_11 : decode cX7_advance 11 = .ok (.iconst 1, 1) := by decide +kernel
theorem dX7_advance_112 : decode cX7_advance 112 = .ok (.bipush 8, 2) := by decide +kernel
theorem dX7_advance_114 : decode cX7_advance 114 = .ok (.if_icmp .lt 10, 3) := by decide +kernel
theorem dX7_advance_117 : decode cX7_advance 117 = .ok (.bipush 7, 2) := by decide +kernel
theorem dX7_advance_119 : decode cX7_advance 119 = .ok (.istore 5, 2) := by decide +kernel
theorem dX7_advance_12 : decode cX7_advance 12 = .ok (.if_icmp .ne 10, 3) := by decide +kernel
theorem dX7_advance_121 : decode cX7_advance 121 = .ok (.goto 49, 3) := by decide +kernel
theorem dX7_advance_124 : decode cX7_advance 124 = .ok (.iload 4, 2) := by decide +kernel
theorem dX7_advance_126 : decode cX7_advance 126 = .ok (.bipush 16, 2) := by decide +kernel
theorem dX7_advance_128 : decode cX7_advance 128 = .ok (.if_icmp .ne 42, 3) := by decide +kernel
theorem dX7_advance_131 : decode cX7_advance 131 = .ok (.aload_n 0, 1) := by decide +kernel
theorem dX7_advance_132 : decode cX7_advance 132 = .ok (.getfield 11, 3) := by decide +kernel
theorem dX7_advance_135 : decode cX7_advance 135 = .ok (.aload_n 0, 1) := by decide +kernel
theorem dX7_advance_136 : decode cX7_advance 136 = .ok (.getfield 42, 3) := by decide +kernel
theorem dX7_advance_139 : decode cX7_advance 139 = .ok (.aaload, 1) := by decide +kernel
theorem dX7_advance_140 : decode cX7_advance 140 = .ok (.aload_n 0, 1) := by decide +kernel
theorem dX7_advance_141 : decode cX7_advance 141 = .ok (.getfield 31, 3) := by decide +kernel
theorem dX7_advance_144 : decode cX7_advance 144 = .ok (.getfield 179, 3) := by decide +kernel
theorem dX7_advance_147 : decode cX7_advance 147 = .ok (.iload_n 3, 1) := by decide +kernel
theorem dX7_advance_148 : decode cX7_advance 148 = .ok (.aaload, 1) := by decide +kernel
theorem dX7_advance_149 : decode cX7_advance 149 = .ok (.bipush 6, 2) := by decide +kernel
theorem dX7_advance_15 : decode cX7_advance 15 = .ok (.aload_n 2, 1) := by decide +kernel
theorem dX7_advance_151 : decode cX7_advance 151 = .ok (.iaload, 1) := by decide +kernel
theorem dX7_advance_152 : decode cX7_advance 152 = .ok (.invokevirtual 64, 3) := by decide +kernel
theorem dX7_advance_155 : decode cX7_advance 155 = .ok (.aload_n 0, 1) := by decide +kernel
theorem dX7_advance_156 : decode cX7_advance 156 = .ok (.aload_n 0, 1) := by decide +kernel
theorem dX7_advance_157 : decode cX7_advance 157 = .ok (.getfield 11, 3) := by decide +kernel
theorem dX7_advance_16 : decode cX7_advance 16 = .ok (.invokestatic 176, 3) := by decide +kernel
theorem dX7_advance_160 : decode cX7_advance 160 = .ok (.aload_n 0, 1) := by decide +kernel
theorem dX7_advance_161 : decode cX7_advance 161 = .ok (.getfield 42, 3) := by decide +kernel
theorem dX7_advance_164 : decode cX7_advance 164 = .ok (.aaload, 1) := by decide +kernel
theorem dX7_advance_165 : decode cX7_advance 165 = .ok (.invokevirtual 71, 3) := by decide +kernel
theorem dX7_advance_168 : decode cX7_advance 168 = .ok (.istore 5, 2) := by decide +kernel
theorem dX7_advance_170 : decode cX7_advance 170 = .ok (.iload 5, 2) := by decide +kernel
theorem dX7_advance_172 : decode cX7_advance 172 = .ok (.ifCond .ne 13, 3) := by decide +kernel
theorem dX7_advance_175 : decode cX7_advance 175 = .ok (.aload_n 0, 1) := by decide +kernel
theorem dX7_advance_176 : decode cX7_advance 176 = .ok (.aload_n 2, 1) := by decide +kernel
theorem dX7_advance_177 : decode cX7_advance 177 = .ok (.iload_n 3, 1) := by decide +kernel
theorem dX7_advance_178 : decode cX7_advance 178 = .ok (.iload 4, 2) := by decide +kernel
theorem dX7_advance_180 : decode cX7_advance 180 = .ok (.invokevirtual 215, 3) := by decide +kernel
theorem dX7_advance_183 : decode cX7_advance 183 = .ok (.istore 5, 2) := by decide +kernel
theorem dX7_advance_185 : decode cX7_advance 185 = .ok (.aload_n 2, 1) := by decide +kernel
theorem dX7_advance_186 : decode cX7_advance 186 = .ok (.dup, 1) := by decide +kernel
theorem dX7_advance_187 : decode cX7_advance 187 = .ok (.getfield 219, 3) := by decide +kernel
theorem dX7_advance_19 : decode cX7_advance 19 = .ok (.goto 4, 3) := by decide +kernel
theorem dX7_advance_190 : decode cX7_advance 190 = .ok (.iconst 1, 1) := by decide +kernel
theorem dX7_advance_191 : decode cX7_advance 191 = .ok (.iadd, 1) := by decide +kernel
theorem dX7_advance_192 : decode cX7_advance 192 = .ok (.putfield 219, 3) := by decide +kernel
theorem dX7_advance_195 : decode cX7_advance 195 = .ok (.iload 5, 2) := by decide +kernel
theorem dX7_advance_197 : decode cX7_advance 197 = .ok (.ifCond .ne 21, 3) := by decide +kernel
theorem dX7_advance_200 : decode cX7_advance 200 = .ok (.aload_n 0, 1) := by decide +kernel
theorem dX7_advance_201 : decode cX7_advance 201 = .ok (.aload_n 2, 1) := by decide +kernel
theorem dX7_advance_202 : decode cX7_advance 202 = .ok (.iload 4, 2) := by decide +kernel
theorem dX7_advance_204 : decode cX7_advance 204 = .ok (.iconst 5, 1) := by decide +kernel
theorem dX7_advance_205 : decode cX7_advance 205 = .ok (.if_icmp .ne 7, 3) := by decide +kernel
theorem dX7_advance_208 : decode cX7_advance 208 = .ok (.iconst 1, 1) := by decide +kernel
theorem dX7_advance_209 : decode cX7_advance 209 = .ok (.goto 4, 3) := by decide +kernel
theorem dX7_advance_212 : decode cX7_advance 212 = .ok (.iconst 0, 1) := by decide +kernel
theorem dX7_advance_213 : decode cX7_advance 213 = .ok (.invokevirtual 221, 3) := by decide +kernel
theorem dX7_advance_216 : decode cX7_advance 216 = .ok (.istore 5, 2) := by decide +kernel
theorem dX7_advance_218 : decode cX7_advance 218 = .ok (.iload 5, 2) := by decide +kernel
theorem dX7_advance_22 : decode cX7_advance 22 = .ok (.iconst (-1), 1) := by decide +kernel
theorem dX7_advance_220 : decode cX7_advance 220 = .ok (.ifCond .eq 10, 3) := by decide +kernel
theorem dX7_advance_223 : decode cX7_advance 223 = .ok (.aload_n 0, 1) := by decide +kernel
theorem dX7_advance_224 : decode cX7_advance 224 = .ok (.aload_n 2, 1) := by decide +kernel
theorem dX7_advance_225 : decode cX7_advance 225 = .ok (.iload 5, 2) := by decide +kernel
theorem dX7_advance_227 : decode cX7_advance 227 = .ok (.invokevirtual 75, 3) := by decide +kernel
theorem dX7_advance_23 : decode cX7_advance 23 = .ok (.istore_n 3, 1) := by decide +kernel
theorem dX7_advance_230 : decode cX7_advance 230 = .ok (.iconst 1, 1) := by decide +kernel
theorem dX7_advance_231 : decode cX7_advance 231 = .ok (.ireturn, 1) := by decide +kernel
theorem dX7_advance_24 : decode cX7_advance 24 = .ok (.iload_n 3, 1) := by decide +kernel
theorem dX7_advance_25 : decode cX7_advance 25 = .ok (.ifCond .ge 5, 3) := by decide +kernel
theorem dX7_advance_28 : decode cX7_advance 28 = .ok (.iconst 0, 1) := by decide +kernel
theorem dX7_advance_29 : decode cX7_advance 29 = .ok (.ireturn, 1) := by decide +kernel
theorem dX7_advance_30 : decode cX7_advance 30 = .ok (.aload_n 0, 1) := by decide +kernel
theorem dX7_advance_31 : decode cX7_advance 31 = .ok (.aload_n 2, 1) := by decide +kernel
theorem dX7_advance_32 : decode cX7_advance 32 = .ok (.invokevirtual 107, 3) := by decide +kernel
theorem dX7_advance_35 : decode cX7_advance 35 = .ok (.aload_n 0, 1) := by decide +kernel
theorem dX7_advance_36 : decode cX7_advance 36 = .ok (.getfield 31, 3) := by decide +kernel
theorem dX7_advance_39 : decode cX7_advance 39 = .ok (.getfield 179, 3) := by decide +kernel
theorem dX7_advance_4 : decode cX7_advance 4 = .ok (.iload_n 1, 1) := by decide +kernel
theorem dX7_advance_42 : decode cX7_advance 42 = .ok (.iload_n 3, 1) := by decide +kernel
theorem dX7_advance_43 : decode cX7_advance 43 = .ok (.aaload, 1) := by decide +kernel
theorem dX7_advance_44 : decode cX7_advance 44 = .ok (.iconst 0, 1) := by decide +kernel
theorem dX7_advance_45 : decode cX7_advance 45 = .ok (.iaload, 1) := by decide +kernel
theorem dX7_advance_46 : decode cX7_advance 46 = .ok (.istore 4, 2) := by decide +kernel
theorem dX7_advance_48 : decode cX7_advance 48 = .ok (.iconst 0, 1) := by decide +kernel
theorem dX7_advance_49 : decode cX7_advance 49 = .ok (.istore 5, 2) := by decide +kernel
theorem dX7_advance_5 : decode cX7_advance 5 = .ok (.aaload, 1) := by decide +kernel
theorem dX7_advance_51 : decode cX7_advance 51 = .ok (.iload 4, 2) := by decide +kernel
theorem dX7_advance_53 : decode cX7_advance 53 = .ok (.invokestatic 183, 3) := by decide +kernel
theorem dX7_advance_56 : decode cX7_advance 56 = .ok (.ifCond .eq 45, 3) := by decide +kernel
theorem dX7_advance_59 : decode cX7_advance 59 = .ok (.aload_n 0, 1) := by decide +kernel
theorem dX7_advance_6 : decode cX7_advance 6 = .ok (.astore_n 2, 1) := by decide +kernel
theorem dX7_advance_60 : decode cX7_advance 60 = .ok (.aload_n 2, 1) := by decide +kernel
theorem dX7_advance_61 : decode cX7_advance 61 = .ok (.iload_n 3, 1) := by decide +kernel
theorem dX7_advance_62 : decode cX7_advance 62 = .ok (.invokevirtual 187, 3) := by decide +kernel
theorem dX7_advance_65 : decode cX7_advance 65 = .ok (.istore 6, 2) := by decide +kernel
theorem dX7_advance_67 : decode cX7_advance 67 = .ok (.iload 6, 2) := by decide +kernel
theorem dX7_advance_69 : decode cX7_advance 69 = .ok (.ifCond .ne 5, 3) := by decide +kernel
theorem dX7_advance_7 : decode cX7_advance 7 = .ok (.aload_n 2, 1) := by decide +kernel
theorem dX7_advance_72 : decode cX7_advance 72 = .ok (.iconst 0, 1) := by decide +kernel
theorem dX7_advance_73 : decode cX7_advance 73 = .ok (.ireturn, 1) := by decide +kernel
theorem dX7_advance_74 : decode cX7_advance 74 = .ok (.iload 6, 2) := by decide +kernel
theorem dX7_advance_76 : decode cX7_advance 76 = .ok (.iconst 2, 1) := by decide +kernel
theorem dX7_advance_77 : decode cX7_advance 77 = .ok (.if_icmp .ne 13, 3) := by decide +kernel
theorem dX7_advance_8 : decode cX7_advance 8 = .ok (.getfield 82, 3) := by decide +kernel
theorem dX7_advance_80 : decode cX7_advance 80 = .ok (.aload_n 0, 1) := by decide +kernel
theorem dX7_advance_81 : decode cX7_advance 81 = .ok (.getfield 23, 3) := by decide +kernel
theorem dX7_advance_84 : decode cX7_advance 84 = .ok (.getfield 209, 3) := by decide +kernel
theorem dX7_advance_87 : decode cX7_advance 87 = .ok (.goto 9, 3) := by decide +kernel
theorem dX7_advance_90 : decode cX7_advance 90 = .ok (.aload_n 0, 1) := by decide +kernel
theorem dX7_advance_91 : decode cX7_advance 91 = .ok (.aload_n 2, 1) := by decide +kernel
theorem dX7_advance_92 : decode cX7_advance 92 = .ok (.iload_n 3, 1) := by decide +kernel
theorem dX7_advance_93 : decode cX7_advance 93 = .ok (.invokevirtual 212, 3) := by decide +kernel
theorem dX7_advance_96 : decode cX7_advance 96 = .ok (.istore 5, 2) := by decide +kernel
theorem dX7_advance_98 : decode cX7_advance 98 = .ok (.goto 87, 3) := by decide +kernel
noncomputable def k_X7_advance_218 (l2 : Nat) (l5 : Int32) (s : t_S) : Option (Int32 × t_S) :=
 if l5 = (0 : Int32) then (some ((1 : Int32), s))
 else ((f_X7_fail l2 l5 s).bind (fun r1 =>
 some ((1 : Int32), r1)))
set_option maxRecDepth 4000 in
set_option maxHeartbeats 1000000 in
theorem B_X7_advance_218 {D : va_G} {cy : Nat → ClassId} {ad : Nat → Nat} {bs : Nat} {X : State → Heap → Prop} (l2 : Nat) (l5 : Int32) (s : t_S) (Q : Int32 × t_S → Prop) (hk : t_hk (k_X7_advance_218 l2 l5 s) Q) : mj_G D cy ad bs X cX7_advance 7 yX7_advance.cls (some .boolean) yX7_advance.name 508 0 0 1065 (t_P (fun v s' => ∃ x, v = some (.int x) ∧ Q ((x, s')))) 218 [(0, .ref 864), (2, .ref l2), (5, .int l5)] [] (t_m s) 1065 0 0 := by
  refine mj_iload dX7_advance_218 2 rfl ?_
  refine mj_if_eq 230 dX7_advance_220 (by decide) (fun z => t_posK hk z (fun hk => ?_)) (fun z => t_negK hk z (fun hk => ?_))
  · refine mj_iconst (v := 1) dX7_advance_230 (by decide) ?_
    exact t_somK hk (fun hf => t_iret dX7_advance_231 rfl (by decide) ⟨_, rfl, hf⟩ (Nat.le_of_ble_eq_true rfl) (Nat.le_of_ble_eq_true rfl))
  · refine mj_aload_n dX7_advance_223 0 rfl ?_
    refine mj_aload_n dX7_advance_224 1 rfl ?_
    refine mj_iload dX7_advance_225 2 rfl ?_
    refine t_bndK hk (fun r1 er1 hk => ?_)
    refine t_callVvE dX7_advance_227 M_X7_fail (C_X7_fail _ _ _ _ er1) ML_X7_75 IM_X7_fail SE_X7_fail qc_864 rfl (As := [.ref l2, .int l5]) rfl rfl (Nat.le_of_ble_eq_true rfl) (Nat.le_of_ble_eq_true rfl) (Nat.le_of_ble_eq_true rfl) (Nat.le_of_ble_eq_true rfl) ?_
    refine mj_iconst (v := 1) dX7_advance_230 (by decide) ?_
    exact t_somK hk (fun hf => t_iret dX7_advance_231 rfl (by decide) ⟨_, rfl, hf⟩ (Nat.le_of_ble_eq_true rfl) (Nat.le_of_ble_eq_true rfl))
noncomputable def k_X7_advance_213 (l2 : Nat) (k0 : Int32) (k1 : Nat) (s : t_S) : Option (Int32 × t_S) :=
 (f_X7_settle k1 k0 s).bind (fun r1 =>
 k_X7_advance_218 l2 r1.1 r1.2)
set_option maxRecDepth 4000 in
set_option maxHeartbeats 1000000 in
theorem B_X7_advance_213 {D : va_G} {cy : Nat → ClassId} {ad : Nat → Nat} {bs : Nat} {X : State → Heap → Prop} (l2 : Nat) (k0 : Int32) (k1 : Nat) (s : t_S) (Q : Int32 × t_S → Prop) (hk : t_hk (k_X7_advance_213 l2 k0 k1 s) Q) : mj_G D cy ad bs X cX7_advance 7 yX7_advance.cls (some .boolean) yX7_advance.name 508 0 0 1065 (t_P (fun v s' => ∃ x, v = some (.int x) ∧ Q ((x, s')))) 213 [(0, .ref 864), (2, .ref l2)] [.int k0, .ref k1, .ref 864] (t_m s) 1065 0 0 := by
  refine t_bndK hk (fun r1 er1 hk => ?_)
  refine t_callViE dX7_advance_213 M_X7_settle (C_X7_settle _ _ _ _ er1) ML_X7_221 IM_X7_settle SE_X7_settle qc_864 rfl (As := [.ref k1, .int k0]) rfl rfl (Nat.le_of_ble_eq_true rfl) (Nat.le_of_ble_eq_true rfl) (Nat.le_of_ble_eq_true rfl) (Nat.le_of_ble_eq_true rfl) ?_
  refine mj_istore (lv2 := [(5, .int r1.1), (0, .ref 864), (2, .ref l2)]) dX7_advance_216 (by decide) rfl ?_
  refine mj_sublv [(0, .ref 864), (2, .ref l2), (5, .int r1.1)] [1, 2, 0] rfl ?_
  exact B_X7_advance_218 _ _ _ _ hk
noncomputable def k_X7_advance_185 (l2 : Nat) (l4 : Int32) (l5 : Int32) (s : t_S) : Option (Int32 × t_S) :=
 if t_isP l2 = true then
  t_let (t_setI s l2 4 ((s.1 l2 4) + (1 : Int32))) (fun s1 =>
 if l5 = (0 : Int32) then (if l4 = (5 : Int32) then (k_X7_advance_213 l2 1 l2 s1)
 else (k_X7_advance_213 l2 0 l2 s1))
 else (k_X7_advance_218 l2 l5 s1))
else none
set_option maxRecDepth 4000 in
set_option maxHeartbeats 1000000 in
theorem B_X7_advance_185 {D : va_G} {cy : Nat → ClassId} {ad : Nat → Nat} {bs : Nat} {X : State → Heap → Prop} (l2 : Nat) (l4 : Int32) (l5 : Int32) (s : t_S) (Q : Int32 × t_S → Prop) (hk : t_hk (k_X7_advance_185 l2 l4 l5 s) Q) : mj_G D cy ad bs X cX7_advance 7 yX7_advance.cls (some .boolean) yX7_advance.name 508 0 0 1065 (t_P (fun v s' => ∃ x, v = some (.int x) ∧ Q ((x, s')))) 185 [(0, .ref 864), (2, .ref l2), (4, .int l4), (5, .int l5)] [] (t_m s) 1065 0 0 := by
  refine mj_aload_n dX7_advance_185 1 rfl ?_
  refine mj_dup dX7_advance_186 rfl ?_
  refine t_chkK hk (fun c0 hk => ?_)
  refine t_getI dX7_advance_187 F_X7_219 (t_pf4 c0) ?_
  refine mj_iconst (v := 1) dX7_advance_190 (by decide) ?_
  refine mj_iadd dX7_advance_191 ?_
  refine t_putIK dX7_advance_192 F_X7_219 (t_pf4 c0) rfl (fun s1 ws1 => t_letE hk ws1 (fun hk => ?_))
  refine mj_iload dX7_advance_195 3 rfl ?_
  refine mj_if_ne 218 dX7_advance_197 (by decide) (fun z => t_negK hk z (fun hk => ?_)) (fun z => t_posK hk z (fun hk => ?_))
  · refine mj_sublv [(0, .ref 864), (2, .ref l2), (5, .int l5)] [0, 1, 3] rfl ?_
    exact B_X7_advance_218 _ _ _ _ hk
  · refine mj_aload_n dX7_advance_200 0 rfl ?_
    refine mj_aload_n dX7_advance_201 1 rfl ?_
    refine mj_iload dX7_advance_202 2 rfl ?_
    refine mj_iconst (v := 5) dX7_advance_204 (by decide) ?_
    refine mj_icmp_ne 212 dX7_advance_205 (by decide) (fun z => t_negK hk z (fun hk => ?_)) (fun z => t_posK hk z (fun hk => ?_))
    · refine mj_iconst (v := 0) dX7_advance_212 (by decide) ?_
      refine mj_sublv [(0, .ref 864), (2, .ref l2)] [0, 1] rfl ?_
      exact B_X7_advance_213 _ _ _ _ _ hk
    · refine mj_iconst (v := 1) dX7_advance_208 (by decide) ?_
      refine mj_goto 213 dX7_advance_209 (by decide) ?_
      refine mj_sublv [(0, .ref 864), (2, .ref l2)] [0, 1] rfl ?_
      exact B_X7_advance_213 _ _ _ _ _ hk
noncomputable def k_X7_advance_96 (l2 : Nat) (l4 : Int32) (k0 : Int32) (s : t_S) : Option (Int32 × t_S) :=
 k_X7_advance_185 l2 l4 k0 s
set_option maxRecDepth 4000 in
set_option maxHeartbeats 1000000 in
theorem B_X7_advance_96 {D : va_G} {cy : Nat → ClassId} {ad : Nat → Nat} {bs : Nat} {X : State → Heap → Prop} (l2 : Nat) (l4 : Int32) (k0 : Int32) (s : t_S) (Q : Int32 × t_S → Prop) (hk : t_hk (k_X7_advance_96 l2 l4 k0 s) Q) : mj_G D cy ad bs X cX7_advance 7 yX7_advance.cls (some .boolean) yX7_advance.name 508 0 0 1065 (t_P (fun v s' => ∃ x, v = some (.int x) ∧ Q ((x, s')))) 96 [(0, .ref 864), (2, .ref l2), (4, .int l4)] [.int k0] (t_m s) 1065 0 0 := by
  refine mj_istore (lv2 := [(5, .int k0), (0, .ref 864), (2, .ref l2), (4, .int l4)]) dX7_advance_96 (by decide) rfl ?_
  refine mj_goto 185 dX7_advance_98 (by decide) ?_
  refine mj_sublv [(0, .ref 864), (2, .ref l2), (4, .int l4), (5, .int k0)] [1, 2, 3, 0] rfl ?_
  exact B_X7_advance_185 _ _ _ _ _ hk
noncomputable def k_X7_advance_170 (l2 : Nat) (l3 : Int32) (l4 : Int32) (l5 : Int32) (s : t_S) : Option (Int32 × t_S) :=
 if l5 = (0 : Int32) then ((f_X7_perform l2 l3 l4 s).bind (fun r1 =>
 k_X7_advance_185 l2 l4 r1.1 r1.2))
 else (k_X7_advance_185 l2 l4 l5 s)
set_option maxRecDepth 4000 in
set_option maxHeartbeats 1000000 in
theorem B_X7_advance_170 {D : va_G} {cy : Nat → ClassId} {ad : Nat → Nat} {bs : Nat} {X : State → Heap → Prop} (l2 : Nat) (l3 : Int32) (l4 : Int32) (l5 : Int32) (s : t_S) (Q : Int32 × t_S → Prop) (hk : t_hk (k_X7_advance_170 l2 l3 l4 l5 s) Q) : mj_G D cy ad bs X cX7_advance 7 yX7_advance.cls (some .boolean) yX7_advance.name 508 0 0 1065 (t_P (fun v s' => ∃ x, v = some (.int x) ∧ Q ((x, s')))) 170 [(0, .ref 864), (2, .ref l2), (3, .int l3), (4, .int l4), (5, .int l5)] [] (t_m s) 1065 0 0 := by
  refine mj_iload dX7_advance_170 4 rfl ?_
  refine mj_if_ne 185 dX7_advance_172 (by decide) (fun z => t_negK hk z (fun hk => ?_)) (fun z => t_posK hk z (fun hk => ?_))
  · refine mj_sublv [(0, .ref 864), (2, .ref l2), (4, .int l4), (5, .int l5)] [0, 1, 3, 4] rfl ?_
    exact B_X7_advance_185 _ _ _ _ _ hk
  · refine mj_aload_n dX7_advance_175 0 rfl ?_
    refine mj_aload_n dX7_advance_176 1 rfl ?_
    refine mj_iload_n dX7_advance_177 2 rfl ?_
    refine mj_iload dX7_advance_178 3 rfl ?_
    refine t_bndK hk (fun r1 er1 hk => ?_)
    refine t_callViE dX7_advance_180 M_X7_perform (C_X7_perform _ _ _ _ _ er1) ML_X7_215 IM_X7_perform SE_X7_perform qc_864 rfl (As := [.ref l2, .int l3, .int l4]) rfl rfl (Nat.le_of_ble_eq_true rfl) (Nat.le_of_ble_eq_true rfl) (Nat.le_of_ble_eq_true rfl) (Nat.le_of_ble_eq_true rfl) ?_
    refine mj_istore (lv2 := [(5, .int r1.1), (0, .ref 864), (2, .ref l2), (3, .int l3), (4, .int l4)]) dX7_advance_183 (by decide) rfl ?_
    refine mj_sublv [(0, .ref 864), (2, .ref l2), (4, .int l4), (5, .int r1.1)] [1, 2, 4, 0] rfl ?_
    exact B_X7_advance_185 _ _ _ _ _ hk
noncomputable def k_X7_advance_124 (l2 : Nat) (l3 : Int32) (l4 : Int32) (l5 : Int32) (s : t_S) : Option (Int32 × t_S) :=
 if l4 = (16 : Int32) then (if t_ix (s.1 864 6) 8 = true then
  if t_ix l3 400 = true then
  if t_isP (866 + 10 * ((s.1 864 6).toNatClampNeg)) = true then
  (f_X4_renew (866 + 10 * ((s.1 864 6).toNatClampNeg)) (s.1 (445 + 1 * (l3.toNatClampNeg)) ((6 : Int32).toNatClampNeg)) s).bind (fun r4 =>
 if t_ix (r4.1 864 6) 8 = true then
  (f_X7_workVars (866 + 10 * ((r4.1 864 6).toNatClampNeg)) r4).bind (fun r6 =>
 k_X7_advance_170 l2 l3 l4 r6.1 r6.2)
else none)
else none
else none
else none)
 else (k_X7_advance_170 l2 l3 l4 l5 s)
set_option maxRecDepth 4000 in
set_option maxHeartbeats 1000000 in
theorem B_X7_advance_124 {D : va_G} {cy : Nat → ClassId} {ad : Nat → Nat} {bs : Nat} {X : State → Heap → Prop} (l2 : Nat) (l3 : Int32) (l4 : Int32) (l5 : Int32) (s : t_S) (Q : Int32 × t_S → Prop) (hk : t_hk (k_X7_advance_124 l2 l3 l4 l5 s) Q) : mj_G D cy ad bs X cX7_advance 7 yX7_advance.cls (some .boolean) yX7_advance.name 508 0 0 1065 (t_P (fun v s' => ∃ x, v = some (.int x) ∧ Q ((x, s')))) 124 [(0, .ref 864), (2, .ref l2), (3, .int l3), (4, .int l4), (5, .int l5)] [] (t_m s) 1065 0 0 := by
  refine mj_iload dX7_advance_124 3 rfl ?_
  refine mj_bipush (v := 16) dX7_advance_126 (by decide) ?_
  refine mj_icmp_ne 170 dX7_advance_128 (by decide) (fun z => t_negK hk z (fun hk => ?_)) (fun z => t_posK hk z (fun hk => ?_))
  · exact B_X7_advance_170 _ _ _ _ _ _ hk
  · refine mj_aload_n dX7_advance_131 0 rfl ?_
    refine t_getR 865 dX7_advance_132 F_X7_11 qr_864_5 ?_
    refine mj_aload_n dX7_advance_135 0 rfl ?_
    refine t_getI dX7_advance_136 F_X7_42 qf_864_6 ?_
    refine t_chkK hk (fun c0 hk => ?_)
    refine t_aaldP dX7_advance_139 qq_865 (t_ixv c0) ?_
    refine mj_aload_n dX7_advance_140 0 rfl ?_
    refine t_getR 428 dX7_advance_141 F_X7_31 qr_864_4 ?_
    refine t_getR 444 dX7_advance_144 F_X7_179 qr_428_17 ?_
    refine mj_iload_n dX7_advance_147 2 rfl ?_
    refine t_chkK hk (fun c1 hk => ?_)
    refine t_aaldI dX7_advance_148 qq_444 (t_ixv c1) ?_
    refine mj_bipush (v := 6) dX7_advance_149 (by decide) ?_
    refine t_iald dX7_advance_151 (t_row445 (t_ixn c1)) (by unfold vp_in; decide) ?_
    refine t_chkK hk (fun c2 hk => ?_)
    refine t_bndK hk (fun r4 er4 hk => ?_)
    refine t_callVvE dX7_advance_152 M_X4_renew (C_X4_renew _ _ _ _ er4) ML_X7_64 IM_X4_renew SE_X4_renew (t_pc c2) rfl (As := [.int (s.1 (445 + 1 * (l3.toNatClampNeg)) ((6 : Int32).toNatClampNeg))]) rfl rfl (Nat.le_of_ble_eq_true rfl) (Nat.le_of_ble_eq_true rfl) (Nat.le_of_ble_eq_true rfl) (Nat.le_of_ble_eq_true rfl) ?_
    refine mj_aload_n dX7_advance_155 0 rfl ?_
    refine mj_aload_n dX7_advance_156 0 rfl ?_
    refine t_getR 865 dX7_advance_157 F_X7_11 qr_864_5 ?_
    refine mj_aload_n dX7_advance_160 0 rfl ?_
    refine t_getI dX7_advance_161 F_X7_42 qf_864_6 ?_
    refine t_chkK hk (fun c4 hk => ?_)
    refine t_aaldP dX7_advance_164 qq_865 (t_ixv c4) ?_
    refine t_bndK hk (fun r6 er6 hk => ?_)
    refine t_callViE dX7_advance_165 M_X7_workVars (C_X7_workVars _ _ _ er6) ML_X7_71 IM_X7_workVars SE_X7_workVars qc_864 rfl (As := [.ref (866 + 10 * ((r4.1 864 6).toNatClampNeg))]) rfl rfl (Nat.le_of_ble_eq_true rfl) (Nat.le_of_ble_eq_true rfl) (Nat.le_of_ble_eq_true rfl) (Nat.le_of_ble_eq_true rfl) ?_
    refine mj_istore (lv2 := [(5, .int r6.1), (0, .ref 864), (2, .ref l2), (3, .int l3), (4, .int l4)]) dX7_advance_168 (by decide) rfl ?_
    refine mj_sublv [(0, .ref 864), (2, .ref l2), (3, .int l3), (4, .int l4), (5, .int r6.1)] [1, 2, 3, 4, 0] rfl ?_
    exact B_X7_advance_170 _ _ _ _ _ _ hk
noncomputable def k_X7_advance_23 (l2 : Nat) (k0 : Int32) (s : t_S) : Option (Int32 × t_S) :=
 if (0 : Int32) ≤ k0 then ((f_X7_see l2 s).bind (fun r1 =>
 if t_ix k0 400 = true then
  if (f_X7_waits (r1.1 (445 + 1 * (k0.toNatClampNeg)) ((0 : Int32).toNatClampNeg)) r1) = (0 : Int32) then (if (r1.1 (445 + 1 * (k0.toNatClampNeg)) ((0 : Int32).toNatClampNeg)) = (16 : Int32) then (if (r1.1 864 6) < (8 : Int32) then (k_X7_advance_124 l2 k0 (r1.1 (445 + 1 * (k0.toNatClampNeg)) ((0 : Int32).toNatClampNeg)) 0 r1)
 else (k_X7_advance_170 l2 k0 (r1.1 (445 + 1 * (k0.toNatClampNeg)) ((0 : Int32).toNatClampNeg)) 7 r1))
 else (k_X7_advance_124 l2 k0 (r1.1 (445 + 1 * (k0.toNatClampNeg)) ((0 : Int32).toNatClampNeg)) 0 r1))
 else ((f_X7_look l2 k0 r1).bind (fun r4 =>
 if r4.1 = (0 : Int32) then (some ((0 : Int32), r4.2))
 else (if r4.1 = (2 : Int32) then (k_X7_advance_96 l2 (r1.1 (445 + 1 * (k0.toNatClampNeg)) ((0 : Int32).toNatClampNeg)) (r4.2.1 334 12) r4.2)
 else ((f_X7_enter l2 k0 r4.2).bind (fun r5 =>
 k_X7_advance_96 l2 (r1.1 (445 + 1 * (k0.toNatClampNeg)) ((0 : Int32).toNatClampNeg)) r5.1 r5.2)))))
else none))
 else (some ((0 : Int32), s))
set_option maxRecDepth 4000 in
set_option maxHeartbeats 1000000 in
theorem B_X7_advance_23 {D : va_G} {cy : Nat → ClassId} {ad : Nat → Nat} {bs : Nat} {X : State → Heap → Prop} (l2 : Nat) (k0 : Int32) (s : t_S) (Q : Int32 × t_S → Prop) (hk : t_hk (k_X7_advance_23 l2 k0 s) Q) : mj_G D cy ad bs X cX7_advance 7 yX7_advance.cls (some .boolean) yX7_advance.name 508 0 0 1065 (t_P (fun v s' => ∃ x, v = some (.int x) ∧ Q ((x, s')))) 23 [(0, .ref 864), (2, .ref l2)] [.int k0] (t_m s) 1065 0 0 := by
  refine mj_istore_n 3 (lv2 := [(3, .int k0), (0, .ref 864), (2, .ref l2)]) dX7_advance_23 rfl (by decide) rfl ?_
  refine mj_iload_n dX7_advance_24 0 rfl ?_
  refine mj_if_ge 30 dX7_advance_25 (by decide) (fun z => t_posK hk z (fun hk => ?_)) (fun z => t_negK hk z (fun hk => ?_))
  · refine mj_aload_n dX7_advance_30 1 rfl ?_
    refine mj_aload_n dX7_advance_31 2 rfl ?_
    refine t_bndK hk (fun r1 er1 hk => ?_)
    refine t_callVvE dX7_advance_32 M_X7_see (C_X7_see _ _ _ er1) ML_X7_107 IM_X7_see SE_X7_see qc_864 rfl (As := [.ref l2]) rfl rfl (Nat.le_of_ble_eq_true rfl) (Nat.le_of_ble_eq_true rfl) (Nat.le_of_ble_eq_true rfl) (Nat.le_of_ble_eq_true rfl) ?_
    refine mj_aload_n dX7_advance_35 1 rfl ?_
    refine t_getR 428 dX7_advance_36 F_X7_31 qr_864_4 ?_
    refine t_getR 444 dX7_advance_39 F_X7_179 qr_428_17 ?_
    refine mj_iload_n dX7_advance_42 0 rfl ?_
    refine t_chkK hk (fun c1 hk => ?_)
    refine t_aaldI dX7_advance_43 qq_444 (t_ixv c1) ?_
    refine mj_iconst (v := 0) dX7_advance_44 (by decide) ?_
    refine t_iald dX7_advance_45 (t_row445 (t_ixn c1)) (by unfold vp_in; decide) ?_
    refine mj_istore (lv2 := [(4, .int (r1.1 (445 + 1 * (k0.toNatClampNeg)) ((0 : Int32).toNatClampNeg))), (3, .int k0), (0, .ref 864), (2, .ref l2)]) dX7_advance_46 (by decide) rfl ?_
    refine mj_iconst (v := 0) dX7_advance_48 (by decide) ?_
    refine mj_istore (lv2 := [(5, .int 0), (4, .int (r1.1 (445 + 1 * (k0.toNatClampNeg)) ((0 : Int32).toNatClampNeg))), (3, .int k0), (0, .ref 864), (2, .ref l2)]) dX7_advance_49 (by decide) rfl ?_
    refine mj_iload dX7_advance_51 1 rfl ?_
    refine t_callSiP dX7_advance_53 M_X7_waits (C_X7_waits _ _) ML_X7_183 SM_X7_waits (As := [.int (r1.1 (445 + 1 * (k0.toNatClampNeg)) ((0 : Int32).toNatClampNeg))]) rfl rfl (Nat.le_of_ble_eq_true rfl) (Nat.le_of_ble_eq_true rfl) (Nat.le_of_ble_eq_true rfl) (Nat.le_of_ble_eq_true rfl) ?_
    refine mj_if_eq 101 dX7_advance_56 (by decide) (fun z => t_posK hk z (fun hk => ?_)) (fun z => t_negK hk z (fun hk => ?_))
    · refine mj_iload dX7_advance_101 1 rfl ?_
      refine mj_bipush (v := 16) dX7_advance_103 (by decide) ?_
      refine mj_icmp_ne 124 dX7_advance_105 (by decide) (fun z => t_negK hk z (fun hk => ?_)) (fun z => t_posK hk z (fun hk => ?_))
      · refine mj_sublv [(0, .ref 864), (2, .ref l2), (3, .int k0), (4, .int (r1.1 (445 + 1 * (k0.toNatClampNeg)) ((0 : Int32).toNatClampNeg))), (5, .int 0)] [3, 4, 2, 1, 0] rfl ?_
        exact B_X7_advance_124 _ _ _ _ _ _ hk
      · refine mj_aload_n dX7_advance_108 3 rfl ?_
        refine t_getI dX7_advance_109 F_X7_42 qf_864_6 ?_
        refine mj_bipush (v := 8) dX7_advance_112 (by decide) ?_
        refine mj_icmp_lt 124 dX7_advance_114 (by decide) (fun z => t_posK hk z (fun hk => ?_)) (fun z => t_negK hk z (fun hk => ?_))
        · refine mj_sublv [(0, .ref 864), (2, .ref l2), (3, .int k0), (4, .int (r1.1 (445 + 1 * (k0.toNatClampNeg)) ((0 : Int32).toNatClampNeg))), (5, .int 0)] [3, 4, 2, 1, 0] rfl ?_
          exact B_X7_advance_124 _ _ _ _ _ _ hk
        · refine mj_bipush (v := 7) dX7_advance_117 (by decide) ?_
          refine mj_istore (lv2 := [(5, .int 7), (4, .int (r1.1 (445 + 1 * (k0.toNatClampNeg)) ((0 : Int32).toNatClampNeg))), (3, .int k0), (0, .ref 864), (2, .ref l2)]) dX7_advance_119 (by decide) rfl ?_
          refine mj_goto 170 dX7_advance_121 (by decide) ?_
          refine mj_sublv [(0, .ref 864), (2, .ref l2), (3, .int k0), (4, .int (r1.1 (445 + 1 * (k0.toNatClampNeg)) ((0 : Int32).toNatClampNeg))), (5, .int 7)] [3, 4, 2, 1, 0] rfl ?_
          exact B_X7_advance_170 _ _ _ _ _ _ hk
    · refine mj_aload_n dX7_advance_59 3 rfl ?_
      refine mj_aload_n dX7_advance_60 4 rfl ?_
      refine mj_iload_n dX7_advance_61 2 rfl ?_
      refine t_bndK hk (fun r4 er4 hk => ?_)
      refine t_callViE dX7_advance_62 M_X7_look (C_X7_look _ _ _ _ er4) ML_X7_187 IM_X7_look SE_X7_look qc_864 rfl (As := [.ref l2, .int k0]) rfl rfl (Nat.le_of_ble_eq_true rfl) (Nat.le_of_ble_eq_true rfl) (Nat.le_of_ble_eq_true rfl) (Nat.le_of_ble_eq_true rfl) ?_
      refine mj_istore (lv2 := [(6, .int r4.1), (5, .int 0), (4, .int (r1.1 (445 + 1 * (k0.toNatClampNeg)) ((0 : Int32).toNatClampNeg))), (3, .int k0), (0, .ref 864), (2, .ref l2)]) dX7_advance_65 (by decide) rfl ?_
      refine mj_iload dX7_advance_67 0 rfl ?_
      refine mj_if_ne 74 dX7_advance_69 (by decide) (fun z => t_negK hk z (fun hk => ?_)) (fun z => t_posK hk z (fun hk => ?_))
      · refine mj_iload dX7_advance_74 0 rfl ?_
        refine mj_iconst (v := 2) dX7_advance_76 (by decide) ?_
        refine mj_icmp_ne 90 dX7_advance_77 (by decide) (fun z => t_negK hk z (fun hk => ?_)) (fun z => t_posK hk z (fun hk => ?_))
        · refine mj_aload_n dX7_advance_90 4 rfl ?_
          refine mj_aload_n dX7_advance_91 5 rfl ?_
          refine mj_iload_n dX7_advance_92 3 rfl ?_
          refine t_bndK hk (fun r5 er5 hk => ?_)
          refine t_callViE dX7_advance_93 M_X7_enter (C_X7_enter _ _ _ _ er5) ML_X7_212 IM_X7_enter SE_X7_enter qc_864 rfl (As := [.ref l2, .int k0]) rfl rfl (Nat.le_of_ble_eq_true rfl) (Nat.le_of_ble_eq_true rfl) (Nat.le_of_ble_eq_true rfl) (Nat.le_of_ble_eq_true rfl) ?_
          refine mj_sublv [(0, .ref 864), (2, .ref l2), (4, .int (r1.1 (445 + 1 * (k0.toNatClampNeg)) ((0 : Int32).toNatClampNeg)))] [4, 5, 2] rfl ?_
          exact B_X7_advance_96 _ _ _ _ _ hk
        · refine mj_aload_n dX7_advance_80 4 rfl ?_
          refine t_getR 334 dX7_advance_81 F_X7_23 qr_864_2 ?_
          refine t_getI dX7_advance_84 F_X7_209 qf_334_12 ?_
          refine mj_goto 96 dX7_advance_87 (by decide) ?_
          refine mj_sublv [(0, .ref 864), (2, .ref l2), (4, .int (r1.1 (445 + 1 * (k0.toNatClampNeg)) ((0 : Int32).toNatClampNeg)))] [4, 5, 2] rfl ?_
          exact B_X7_advance_96 _ _ _ _ _ hk
      · refine mj_iconst (v := 0) dX7_advance_72 (by decide) ?_
        exact t_somK hk (fun hf => t_iret dX7_advance_73 rfl (by decide) ⟨_, rfl, hf⟩ (Nat.le_of_ble_eq_true rfl) (Nat.le_of_ble_eq_true rfl))
  · refine mj_iconst (v := 0) dX7_advance_28 (by decide) ?_
    exact t_somK hk (fun hf => t_iret dX7_advance_29 rfl (by decide) ⟨_, rfl, hf⟩ (Nat.le_of_ble_eq_true rfl) (Nat.le_of_ble_eq_true rfl))
noncomputable def f_X7_advance (x1 : Int32) (s : t_S) : Option (Int32 × t_S) :=
 if t_ix x1 8 = true then
  if t_isP (866 + 10 * (x1.toNatClampNeg)) = true then
  if (s.1 (866 + 10 * (x1.toNatClampNeg)) 2) = (1 : Int32) then ((f_X7_nextOf (866 + 10 * (x1.toNatClampNeg)) s).bind (fun r3 =>
 k_X7_advance_23 (866 + 10 * (x1.toNatClampNeg)) r3 s))
 else (k_X7_advance_23 (866 + 10 * (x1.toNatClampNeg)) (-1) s)
else none
else none
set_option maxRecDepth 4000 in
set_option maxHeartbeats 1000000 in
theorem C_X7_advance (x1 : Int32) (s : t_S) (r : Int32 × t_S) (hr : f_X7_advance x1 s = some r) : t_C yX7_advance cX7_advance 7 (some .boolean) 508 [.ref 864, .int x1] s (fun v s' => v = some (.int r.1) ∧ s' = r.2) := by
  refine t_C.imp (P := fun v s' => ∃ x, v = some (.int x) ∧ (fun q => q = r) ((x, s'))) (t_C.of (by decide +kernel) (Nat.le_of_ble_eq_true rfl) ?_) (fun v s' hp => by obtain ⟨x, rfl, rfl⟩ := hp; exact ⟨rfl, rfl⟩)
  intro D cy ad bs X
  have hk : t_hk (f_X7_advance x1 s) (fun q => q = r) := ⟨r, hr, rfl⟩
  show mj_G D cy ad bs X cX7_advance 7 yX7_advance.cls (some .boolean) yX7_advance.name 508 0 0 1065 (t_P (fun v s' => ∃ x, v = some (.int x) ∧ (fun q => q = r) ((x, s')))) 0 [(0, .ref 864), (1, .int x1)] [] (t_m s) 1065 0 0
  refine mj_aload_n dX7_advance_0 0 rfl ?_
  refine t_getR 865 dX7_advance_1 F_X7_11 qr_864_5 ?_
  refine mj_iload_n dX7_advance_4 1 rfl ?_
  refine t_chkK hk (fun c0 hk => ?_)
  refine t_aaldP dX7_advance_5 qq_865 (t_ixv c0) ?_
  refine mj_astore_n 2 (lv2 := [(2, .ref (866 + 10 * (x1.toNatClampNeg))), (0, .ref 864), (1, .int x1)]) dX7_advance_6 rfl (by decide) rfl ?_
  refine mj_aload_n dX7_advance_7 0 rfl ?_
  refine t_chkK hk (fun c1 hk => ?_)
  refine t_getI dX7_advance_8 F_X7_82 (t_pf2 c1) ?_
  refine mj_iconst (v := 1) dX7_advance_11 (by decide) ?_
  refine mj_icmp_ne 22 dX7_advance_12 (by decide) (fun z => t_negK hk z (fun hk => ?_)) (fun z => t_posK hk z (fun hk => ?_))
  · refine mj_iconst (v := (-1)) dX7_advance_22 (by decide) ?_
    refine mj_sublv [(0, .ref 864), (2, .ref (866 + 10 * (x1.toNatClampNeg)))] [1, 0] rfl ?_
    exact B_X7_advance_23 _ _ _ _ hk
  · refine mj_aload_n dX7_advance_15 0 rfl ?_
    refine t_bndK hk (fun r3 er3 hk => ?_)
    refine t_callSiP dX7_advance_16 M_X7_nextOf (C_X7_nextOf _ _ _ er3) ML_X7_176 SM_X7_nextOf (As := [.ref (866 + 10 * (x1.toNatClampNeg))]) rfl rfl (Nat.le_of_ble_eq_true rfl) (Nat.le_of_ble_eq_true rfl) (Nat.le_of_ble_eq_true rfl) (Nat.le_of_ble_eq_true rfl) ?_
    refine mj_goto 23 dX7_advance_19 (by decide) ?_
    refine mj_sublv [(0, .ref 864), (2, .ref (866 + 10 * (x1.toNatClampNeg)))] [1, 0] rfl ?_
    exact B_X7_advance_23 _ _ _ _ hk

theorem dX12_run_0 : decode cX12_run 0 = .ok (.aload_n 0, 1) := by decide +kernel
theorem dX12_run_1 : decode cX12_run 1 = .ok (.iload_n 1, 1) := by decide +kernel
theorem dX12_run_12 : decode cX12_run 12 = .ok (.iload_n 2, 1) := by decide +kernel
theorem dX12_run_13 : decode cX12_run 13 = .ok (.sipush 10000, 3) := by decide +kernel
theorem dX12_run_16 : decode cX12_run 16 = .ok (.if_icmp .le 5, 3) := by decide +kernel
theorem dX12_run_19 : decode cX12_run 19 = .ok (.iconst (-1), 1) := by decide +kernel
theorem dX12_run_2 : decode cX12_run 2 = .ok (.invokevirtual 271, 3) := by decide +kernel
theorem dX12_run_20 : decode cX12_run 20 = .ok (.ireturn, 1) := by decide +kernel
theorem dX12_run_21 : decode cX12_run 21 = .ok (.iconst 0, 1) := by decide +kernel
theorem dX12_run_22 : decode cX12_run 22 = .ok (.istore_n 3, 1) := by decide +kernel
theorem dX12_run_23 : decode cX12_run 23 = .ok (.iload_n 3, 1) := by decide +kernel
theorem dX12_run_24 : decode cX12_run 24 = .ok (.iload_n 2, 1) := by decide +kernel
theorem dX12_run_25 : decode cX12_run 25 = .ok (.if_icmp .ge 20, 3) := by decide +kernel
theorem dX12_run_28 : decode cX12_run 28 = .ok (.aload_n 0, 1) := by decide +kernel
theorem dX12_run_29 : decode cX12_run 29 = .ok (.getfield 84, 3) := by decide +kernel
theorem dX12_run_32 : decode cX12_run 32 = .ok (.iload_n 1, 1) := by decide +kernel
theorem dX12_run_33 : decode cX12_run 33 = .ok (.invokevirtual 274, 3) := by decide +kernel
theorem dX12_run_36 : decode cX12_run 36 = .ok (.ifCond .eq 9, 3) := by decide +kernel
theorem dX12_run_39 : decode cX12_run 39 = .ok (.iinc 3 1, 3) := by decide +kernel
theorem dX12_run_42 : decode cX12_run 42 = .ok (.goto (-19), 3) := by decide +kernel
theorem dX12_run_45 : decode cX12_run 45 = .ok (.iload_n 3, 1) := by decide +kernel
theorem dX12_run_46 : decode cX12_run 46 = .ok (.ireturn, 1) := by decide +kernel
theorem dX12_run_5 : decode cX12_run 5 = .ok (.ifCond .eq 14, 3) := by decide +kernel
theorem dX12_run_8 : decode cX12_run 8 = .ok (.iload_n 2, 1) := by decide +kernel
theorem dX12_run_9 : decode cX12_run 9 = .ok (.ifCond .lt 10, 3) := by decide +kernel
noncomputable def k_X12_run_23 (l1 : Int32) (l2 : Int32) (l3 : Int32) (s : t_S) : Option ((Int32 × Int32 × Int32 × t_S) ⊕ (Int32 × t_S)) :=
 if l2 ≤ l3 then ((some (l3, s)).map Sum.inr)
 else ((f_X7_advance l1 s).bind (fun r1 =>
 if r1.1 = (0 : Int32) then ((some (l3, r1.2)).map Sum.inr)
 else (some (.inl (l1, l2, (l3 + 1), r1.2)))))
set_option maxRecDepth 4000 in
set_option maxHeartbeats 1000000 in
theorem B_X12_run_23 {D : va_G} {cy : Nat → ClassId} {ad : Nat → Nat} {bs : Nat} {X : State → Heap → Prop} (l1 : Int32) (l2 : Int32) (l3 : Int32) (s : t_S) (Q : (Int32 × Int32 × Int32 × t_S) ⊕ (Int32 × t_S) → Prop) (Hb23 : ∀ (y0 : Int32) (y1 : Int32) (y2 : Int32) (y3 : t_S), Q (.inl (y0, y1, y2, y3)) → mj_G D cy ad bs X cX12_run 4 yX12_run.cls (some .int) yX12_run.name 509 0 0 1065 (t_P (fun v s' => ∃ x, v = some (.int x) ∧ Q (.inr ((x, s'))))) 23 [(0, .ref 0), (1, .int (y0)), (2, .int (y1)), (3, .int (y2))] [] (t_m y3) 1065 0 0) (hk : t_hk (k_X12_run_23 l1 l2 l3 s) Q) : mj_G D cy ad bs X cX12_run 4 yX12_run.cls (some .int) yX12_run.name 509 0 0 1065 (t_P (fun v s' => ∃ x, v = some (.int x) ∧ Q (.inr ((x, s'))))) 23 [(0, .ref 0), (1, .int l1), (2, .int l2), (3, .int l3)] [] (t_m s) 1065 0 0 := by
  refine mj_iload_n dX12_run_23 3 rfl ?_
  refine mj_iload_n dX12_run_24 2 rfl ?_
  refine mj_icmp_ge 45 dX12_run_25 (by decide) (fun z => t_posK hk z (fun hk => ?_)) (fun z => t_negK hk z (fun hk => ?_))
  · refine t_mapK hk (fun hk => ?_)
    refine mj_iload_n dX12_run_45 3 rfl ?_
    exact t_somK hk (fun hf => t_iret dX12_run_46 rfl rfl ⟨_, rfl, hf⟩ (Nat.le_of_ble_eq_true rfl) (Nat.le_of_ble_eq_true rfl))
  · refine mj_aload_n dX12_run_28 0 rfl ?_
    refine t_getR 864 dX12_run_29 F_X12_84 qr_0_8 ?_
    refine mj_iload_n dX12_run_32 1 rfl ?_
    refine t_bndK hk (fun r1 er1 hk => ?_)
    refine t_callViE dX12_run_33 M_X7_advance (C_X7_advance _ _ _ er1) ML_X12_274 IM_X7_advance SE_X7_advance qc_864 rfl (As := [.int l1]) rfl rfl (Nat.le_of_ble_eq_true rfl) (Nat.le_of_ble_eq_true rfl) (Nat.le_of_ble_eq_true rfl) (Nat.le_of_ble_eq_true rfl) ?_
    refine mj_if_eq 45 dX12_run_36 (by decide) (fun z => t_posK hk z (fun hk => ?_)) (fun z => t_negK hk z (fun hk => ?_))
    · refine t_mapK hk (fun hk => ?_)
      refine mj_iload_n dX12_run_45 3 rfl ?_
      exact t_somK hk (fun hf => t_iret dX12_run_46 rfl rfl ⟨_, rfl, hf⟩ (Nat.le_of_ble_eq_true rfl) (Nat.le_of_ble_eq_true rfl))
    · refine mj_iinc (k := 3) (v := (l3 + 1)) (lv2 := [(3, .int (l3 + 1)), (0, .ref 0), (1, .int l1), (2, .int l2)]) dX12_run_39 rfl rfl (by decide) rfl ?_
      refine mj_goto 23 dX12_run_42 (by decide) ?_
      refine mj_sublv [(0, .ref 0), (1, .int l1), (2, .int l2), (3, .int (l3 + 1))] [1, 2, 3, 0] rfl ?_
      exact t_somK hk (fun hf => Hb23 l1 l2 (l3 + 1) r1.2 hf)
noncomputable def b_X12_run_23 (x : Int32 × Int32 × Int32 × t_S) : Option ((Int32 × Int32 × Int32 × t_S) ⊕ (Int32 × t_S)) := k_X12_run_23 x.1 x.2.1 x.2.2.1 x.2.2.2
set_option maxRecDepth 4000 in
set_option maxHeartbeats 1000000 in
theorem LH_X12_run_23 {D : va_G} {cy : Nat → ClassId} {ad : Nat → Nat} {bs : Nat} {X : State → Heap → Prop} : ∀ (n : Nat) (y0 : Int32) (y1 : Int32) (y2 : Int32) (y3 : t_S) (Q : Int32 × t_S → Prop) (hk : t_hk (t_loop (b_X12_run_23) n (y0, y1, y2, y3)) Q), mj_G D cy ad bs X cX12_run 4 yX12_run.cls (some .int) yX12_run.name 509 0 0 1065 (t_P (fun v s' => ∃ x, v = some (.int x) ∧ Q ((x, s')))) 23 [(0, .ref 0), (1, .int (y0)), (2, .int (y1)), (3, .int (y2))] [] (t_m y3) 1065 0 0 := by
  intro n
  induction n with
  | zero => intro y0 y1 y2 y3 Q hk; obtain ⟨r, hr, _⟩ := hk; cases hr
  | succ n ih =>
    intro y0 y1 y2 y3 Q hk
    exact B_X12_run_23 y0 y1 y2 y3 (fun y => t_lq (b_X12_run_23) n Q y) (fun y0' y1' y2' y3' hy => ih y0' y1' y2' y3' Q hy) (t_lp hk)
noncomputable def f_X12_run (x1 : Int32) (x2 : Int32) (s : t_S) : Option (Int32 × t_S) :=
 if (f_X12_isPart x1 s) = (0 : Int32) then (some ((-1 : Int32), s))
 else (if x2 < (0 : Int32) then (some ((-1 : Int32), s))
 else (if x2 ≤ (10000 : Int32) then (t_loop (b_X12_run_23) t_N (x1, x2, 0, s))
 else (some ((-1 : Int32), s))))
set_option maxRecDepth 4000 in
set_option maxHeartbeats 1000000 in
theorem C_X12_run (x1 : Int32) (x2 : Int32) (s : t_S) (r : Int32 × t_S) (hr : f_X12_run x1 x2 s = some r) : t_C yX12_run cX12_run 4 (some .int) 509 [.ref 0, .int x1, .int x2] s (fun v s' => v = some (.int r.1) ∧ s' = r.2) := by
  refine t_C.imp (P := fun v s' => ∃ x, v = some (.int x) ∧ (fun q => q = r) ((x, s'))) (t_C.of (by decide +kernel) (Nat.le_of_ble_eq_true rfl) ?_) (fun v s' hp => by obtain ⟨x, rfl, rfl⟩ := hp; exact ⟨rfl, rfl⟩)
  intro D cy ad bs X
  have hk : t_hk (f_X12_run x1 x2 s) (fun q => q = r) := ⟨r, hr, rfl⟩
  show mj_G D cy ad bs X cX12_run 4 yX12_run.cls (some .int) yX12_run.name 509 0 0 1065 (t_P (fun v s' => ∃ x, v = some (.int x) ∧ (fun q => q = r) ((x, s')))) 0 [(0, .ref 0), (1, .int x1), (2, .int x2)] [] (t_m s) 1065 0 0
  refine mj_aload_n dX12_run_0 0 rfl ?_
  refine mj_iload_n dX12_run_1 1 rfl ?_
  refine t_callViP dX12_run_2 M_X12_isPart (C_X12_isPart _ _) ML_X12_271 IM_X12_isPart SE_X12_isPart qc_0 rfl (As := [.int x1]) rfl rfl (Nat.le_of_ble_eq_true rfl) (Nat.le_of_ble_eq_true rfl) (Nat.le_of_ble_eq_true rfl) (Nat.le_of_ble_eq_true rfl) ?_
  refine mj_if_eq 19 dX12_run_5 (by decide) (fun z => t_posK hk z (fun hk => ?_)) (fun z => t_negK hk z (fun hk => ?_))
  · refine mj_iconst (v := (-1)) dX12_run_19 (by decide) ?_
    exact t_somK hk (fun hf => t_iret dX12_run_20 rfl rfl ⟨_, rfl, hf⟩ (Nat.le_of_ble_eq_true rfl) (Nat.le_of_ble_eq_true rfl))
  · refine mj_iload_n dX12_run_8 2 rfl ?_
    refine mj_if_lt 19 dX12_run_9 (by decide) (fun z => t_posK hk z (fun hk => ?_)) (fun z => t_negK hk z (fun hk => ?_))
    · refine mj_iconst (v := (-1)) dX12_run_19 (by decide) ?_
      exact t_somK hk (fun hf => t_iret dX12_run_20 rfl rfl ⟨_, rfl, hf⟩ (Nat.le_of_ble_eq_true rfl) (Nat.le_of_ble_eq_true rfl))
    · refine mj_iload_n dX12_run_12 2 rfl ?_
      refine mj_sipush (v := 10000) dX12_run_13 (by decide) ?_
      refine mj_icmp_le 21 dX12_run_16 (by decide) (fun z => t_posK hk z (fun hk => ?_)) (fun z => t_negK hk z (fun hk => ?_))
      · refine mj_iconst (v := 0) dX12_run_21 (by decide) ?_
        refine mj_istore_n 3 (lv2 := [(3, .int 0), (0, .ref 0), (1, .int x1), (2, .int x2)]) dX12_run_22 rfl (by decide) rfl ?_
        refine mj_sublv [(0, .ref 0), (1, .int x1), (2, .int x2), (3, .int 0)] [1, 2, 3, 0] rfl ?_
        exact LH_X12_run_23 _ x1 x2 0 s _ hk
      · refine mj_iconst (v := (-1)) dX12_run_19 (by decide) ?_
        exact t_somK hk (fun hf => t_iret dX12_run_20 rfl rfl ⟨_, rfl, hf⟩ (Nat.le_of_ble_eq_true rfl) (Nat.le_of_ble_eq_true rfl))

theorem dX12_state_0 : decode cX12_state 0 = .ok (.aload_n 0, 1) := by decide +kernel
theorem dX12_state_1 : decode cX12_state 1 = .ok (.iload_n 1, 1) := by decide +kernel
theorem dX12_state_10 : decode cX12_state 10 = .ok (.aload_n 0, 1) := by decide +kernel
theorem dX12_state_100 : decode cX12_state 100 = .ok (.getfield 310, 3) := by decide +kernel
theorem dX12_state_103 : decode cX12_state 103 = .ok (.iconst 1, 1) := by decide +kernel
theorem dX12_state_104 : decode cX12_state 104 = .ok (.isub, 1) := by decide +kernel
theorem dX12_state_105 : decode cX12_state 105 = .ok (.iaload, 1) := by decide +kernel
theorem dX12_state_106 : decode cX12_state 106 = .ok (.ifCond .lt 17, 3) := by decide +kernel
theorem dX12_state_109 : decode cX12_state 109 = .ok (.aload_n 3, 1) := by decide +kernel
theorem dX12_state_11 : decode cX12_state 11 = .ok (.getfield 84, 3) := by decide +kernel
theorem dX12_state_110 : decode cX12_state 110 = .ok (.getfield 313, 3) := by decide +kernel
theorem dX12_state_113 : decode cX12_state 113 = .ok (.aload_n 3, 1) := by decide +kernel
theorem dX12_state_114 : decode cX12_state 114 = .ok (.getfield 310, 3) := by decide +kernel
theorem dX12_state_117 : decode cX12_state 117 = .ok (.iconst 1, 1) := by decide +kernel
theorem dX12_state_118 : decode cX12_state 118 = .ok (.isub, 1) := by decide +kernel
theorem dX12_state_119 : decode cX12_state 119 = .ok (.iaload, 1) := by decide +kernel
theorem dX12_state_120 : decode cX12_state 120 = .ok (.goto 5, 3) := by decide +kernel
theorem dX12_state_123 : decode cX12_state 123 = .ok (.bipush (-2), 2) := by decide +kernel
theorem dX12_state_125 : decode cX12_state 125 = .ok (.ireturn, 1) := by decide +kernel
theorem dX12_state_126 : decode cX12_state 126 = .ok (.aload_n 3, 1) := by decide +kernel
theorem dX12_state_127 : decode cX12_state 127 = .ok (.getfield 316, 3) := by decide +kernel
theorem dX12_state_130 : decode cX12_state 130 = .ok (.ireturn, 1) := by decide +kernel
theorem dX12_state_131 : decode cX12_state 131 = .ok (.aload_n 3, 1) := by decide +kernel
theorem dX12_state_132 : decode cX12_state 132 = .ok (.getfield 319, 3) := by decide +kernel
theorem dX12_state_135 : decode cX12_state 135 = .ok (.ireturn, 1) := by decide +kernel
theorem dX12_state_136 : decode cX12_state 136 = .ok (.aload_n 3, 1) := by decide +kernel
theorem dX12_state_137 : decode cX12_state 137 = .ok (.getfield 322, 3) := by decide +kernel
theorem dX12_state_14 : decode cX12_state 14 = .ok (.getfield 292, 3) := by decide +kernel
theorem dX12_state_140 : decode cX12_state 140 = .ok (.ireturn, 1) := by decide +kernel
theorem dX12_state_141 : decode cX12_state 141 = .ok (.iconst (-1), 1) := by decide +kernel
theorem dX12_state_142 : decode cX12_state 142 = .ok (.ireturn, 1) := by decide +kernel
theorem dX12_state_17 : decode cX12_state 17 = .ok (.iload_n 1, 1) := by decide +kernel
theorem dX12_state_18 : decode cX12_state 18 = .ok (.aaload, 1) := by decide +kernel
theorem dX12_state_19 : decode cX12_state 19 = .ok (.astore_n 3, 1) := by decide +kernel
theorem dX12_state_2 : decode cX12_state 2 = .ok (.invokevirtual 271, 3) := by decide +kernel
theorem dX12_state_20 : decode cX12_state 20 = .ok (.iload_n 2, 1) := by decide +kernel
theorem dX12_state_21 : decode cX12_state 21 = .ok (.tableswitch 120 0 7 #[47, 52, 57, 62, 67, 105, 110, 115], 47) := by decide +kernel
theorem dX12_state_5 : decode cX12_state 5 = .ok (.ifCond .ne 5, 3) := by decide +kernel
theorem dX12_state_68 : decode cX12_state 68 = .ok (.aload_n 3, 1) := by decide +kernel
theorem dX12_state_69 : decode cX12_state 69 = .ok (.getfield 300, 3) := by decide +kernel
theorem dX12_state_72 : decode cX12_state 72 = .ok (.ireturn, 1) := by decide +kernel
theorem dX12_state_73 : decode cX12_state 73 = .ok (.aload_n 3, 1) := by decide +kernel
theorem dX12_state_74 : decode cX12_state 74 = .ok (.getfield 305, 3) := by decide +kernel
theorem dX12_state_77 : decode cX12_state 77 = .ok (.ireturn, 1) := by decide +kernel
theorem dX12_state_78 : decode cX12_state 78 = .ok (.aload_n 3, 1) := by decide +kernel
theorem dX12_state_79 : decode cX12_state 79 = .ok (.getfield 308, 3) := by decide +kernel
theorem dX12_state_8 : decode cX12_state 8 = .ok (.iconst (-1), 1) := by decide +kernel
theorem dX12_state_82 : decode cX12_state 82 = .ok (.ireturn, 1) := by decide +kernel
theorem dX12_state_83 : decode cX12_state 83 = .ok (.aload_n 3, 1) := by decide +kernel
theorem dX12_state_84 : decode cX12_state 84 = .ok (.getfield 310, 3) := by decide +kernel
theorem dX12_state_87 : decode cX12_state 87 = .ok (.ireturn, 1) := by decide +kernel
theorem dX12_state_88 : decode cX12_state 88 = .ok (.aload_n 3, 1) := by decide +kernel
theorem dX12_state_89 : decode cX12_state 89 = .ok (.getfield 310, 3) := by decide +kernel
theorem dX12_state_9 : decode cX12_state 9 = .ok (.ireturn, 1) := by decide +kernel
theorem dX12_state_92 : decode cX12_state 92 = .ok (.ifCond .le 31, 3) := by decide +kernel
theorem dX12_state_95 : decode cX12_state 95 = .ok (.aload_n 3, 1) := by decide +kernel
theorem dX12_state_96 : decode cX12_state 96 = .ok (.getfield 313, 3) := by decide +kernel
theorem dX12_state_99 : decode cX12_state 99 = .ok (.aload_n 3, 1) := by decide +kernel
noncomputable def f_X12_state (x1 : Int32) (x2 : Int32) (s : t_S) : Option (Int32) :=
 if (f_X12_isPart x1 s) = (0 : Int32) then (some (-1 : Int32))
 else (if t_ix x1 8 = true then
  if x2.toInt < 0 ∨ 7 < x2.toInt then (some (-1 : Int32))
 else if x2.toInt = 0 then (if t_isP (866 + 10 * (x1.toNatClampNeg)) = true then
  some (s.1 (866 + 10 * (x1.toNatClampNeg)) 2)
else none)
 else if x2.toInt = 1 then (if t_isP (866 + 10 * (x1.toNatClampNeg)) = true then
  some (s.1 (866 + 10 * (x1.toNatClampNeg)) 3)
else none)
 else if x2.toInt = 2 then (if t_isP (866 + 10 * (x1.toNatClampNeg)) = true then
  some (s.1 (866 + 10 * (x1.toNatClampNeg)) 1)
else none)
 else if x2.toInt = 3 then (if t_isP (866 + 10 * (x1.toNatClampNeg)) = true then
  some (s.1 (866 + 10 * (x1.toNatClampNeg)) 6)
else none)
 else if x2.toInt = 4 then (if t_isP (866 + 10 * (x1.toNatClampNeg)) = true then
  if (s.1 (866 + 10 * (x1.toNatClampNeg)) 6) ≤ (0 : Int32) then (some (-2 : Int32))
 else (if t_ix ((s.1 (866 + 10 * (x1.toNatClampNeg)) 6) - (1 : Int32)) 8 = true then
  if (s.1 ((866 + 10 * (x1.toNatClampNeg)) + 2) (((s.1 (866 + 10 * (x1.toNatClampNeg)) 6) - (1 : Int32)).toNatClampNeg)) < (0 : Int32) then (some (-2 : Int32))
 else (some (s.1 ((866 + 10 * (x1.toNatClampNeg)) + 2) (((s.1 (866 + 10 * (x1.toNatClampNeg)) 6) - (1 : Int32)).toNatClampNeg)))
else none)
else none)
 else if x2.toInt = 5 then (if t_isP (866 + 10 * (x1.toNatClampNeg)) = true then
  some (s.1 (866 + 10 * (x1.toNatClampNeg)) 10)
else none)
 else if x2.toInt = 6 then (if t_isP (866 + 10 * (x1.toNatClampNeg)) = true then
  some (s.1 (866 + 10 * (x1.toNatClampNeg)) 4)
else none)
 else (if t_isP (866 + 10 * (x1.toNatClampNeg)) = true then
  some (s.1 (866 + 10 * (x1.toNatClampNeg)) 5)
else none)
else none)
set_option maxRecDepth 4000 in
set_option maxHeartbeats 1000000 in
theorem C_X12_state (x1 : Int32) (x2 : Int32) (s : t_S) (r : Int32) (hr : f_X12_state x1 x2 s = some r) : t_C yX12_state cX12_state 4 (some .int) 1 [.ref 0, .int x1, .int x2] s (fun v s' => v = some (.int r) ∧ s' = s) := by
  refine t_C.imp (P := fun v s' => s' = s ∧ ∃ x, v = some (.int x) ∧ (fun q => q = r) (x)) (t_C.of (by decide +kernel) (Nat.le_of_ble_eq_true rfl) ?_) (fun v s' hp => by obtain ⟨rfl, x, rfl, rfl⟩ := hp; exact ⟨rfl, rfl⟩)
  intro D cy ad bs X
  have hk : t_hk (f_X12_state x1 x2 s) (fun q => q = r) := ⟨r, hr, rfl⟩
  show mj_G D cy ad bs X cX12_state 4 yX12_state.cls (some .int) yX12_state.name 1 0 0 1065 (t_P (fun v s' => s' = s ∧ ∃ x, v = some (.int x) ∧ (fun q => q = r) (x))) 0 [(0, .ref 0), (1, .int x1), (2, .int x2)] [] (t_m s) 1065 0 0
  refine mj_aload_n dX12_state_0 0 rfl ?_
  refine mj_iload_n dX12_state_1 1 rfl ?_
  refine t_callViP dX12_state_2 M_X12_isPart (C_X12_isPart _ _) ML_X12_271 IM_X12_isPart SE_X12_isPart qc_0 rfl (As := [.int x1]) rfl rfl (Nat.le_of_ble_eq_true rfl) (Nat.le_of_ble_eq_true rfl) (Nat.le_of_ble_eq_true rfl) (Nat.le_of_ble_eq_true rfl) ?_
  refine mj_if_ne 10 dX12_state_5 (by decide) (fun z => t_negK hk z (fun hk => ?_)) (fun z => t_posK hk z (fun hk => ?_))
  · refine mj_aload_n dX12_state_10 0 rfl ?_
    refine t_getR 864 dX12_state_11 F_X12_84 qr_0_8 ?_
    refine t_getR 865 dX12_state_14 F_X12_292 qr_864_5 ?_
    refine mj_iload_n dX12_state_17 1 rfl ?_
    refine t_chkK hk (fun c1 hk => ?_)
    refine t_aaldP dX12_state_18 qq_865 (t_ixv c1) ?_
    refine mj_astore_n 3 (lv2 := [(3, .ref (866 + 10 * (x1.toNatClampNeg))), (0, .ref 0), (1, .int x1), (2, .int x2)]) dX12_state_19 rfl (by decide) rfl ?_
    refine mj_iload_n dX12_state_20 3 rfl ?_
    by_cases hout : x2.toInt < 0 ∨ 7 < x2.toInt
    · replace hk := t_pos hk hout
      refine mj_tableOut 141 dX12_state_21 hout (by decide) ?_
      refine mj_iconst (v := (-1)) dX12_state_141 (by decide) ?_
      exact t_somK hk (fun hf => t_iret dX12_state_142 rfl rfl ⟨rfl, _, rfl, hf⟩ (Nat.le_of_ble_eq_true rfl) (Nat.le_of_ble_eq_true rfl))
    · replace hk := t_neg hk hout
      have hh1 : ¬ x2.toInt < 0 := fun z => hout (Or.inl z)
      have hh2 : ¬ (7 : Int) < x2.toInt := fun z => hout (Or.inr z)
      by_cases h0 : x2.toInt = 0
      · replace hk := t_pos hk h0
        refine mj_tableIn 68 dX12_state_21 hh1 hh2 (by rw [h0]; rfl) (by decide) ?_
        refine mj_aload_n dX12_state_68 0 rfl ?_
        refine t_chkK hk (fun c2 hk => ?_)
        refine t_getI dX12_state_69 F_X12_300 (t_pf2 c2) ?_
        exact t_somK hk (fun hf => t_iret dX12_state_72 rfl rfl ⟨rfl, _, rfl, hf⟩ (Nat.le_of_ble_eq_true rfl) (Nat.le_of_ble_eq_true rfl))
      replace hk := t_neg hk h0
      by_cases h1 : x2.toInt = 1
      · replace hk := t_pos hk h1
        refine mj_tableIn 73 dX12_state_21 hh1 hh2 (by rw [h1]; rfl) (by decide) ?_
        refine mj_aload_n dX12_state_73 0 rfl ?_
        refine t_chkK hk (fun c3 hk => ?_)
        refine t_getI dX12_state_74 F_X12_305 (t_pf3 c3) ?_
        exact t_somK hk (fun hf => t_iret dX12_state_77 rfl rfl ⟨rfl, _, rfl, hf⟩ (Nat.le_of_ble_eq_true rfl) (Nat.le_of_ble_eq_true rfl))
      replace hk := t_neg hk h1
      by_cases h2 : x2.toInt = 2
      · replace hk := t_pos hk h2
        refine mj_tableIn 78 dX12_state_21 hh1 hh2 (by rw [h2]; rfl) (by decide) ?_
        refine mj_aload_n dX12_state_78 0 rfl ?_
        refine t_chkK hk (fun c4 hk => ?_)
        refine t_getI dX12_state_79 F_X12_308 (t_pf1 c4) ?_
        exact t_somK hk (fun hf => t_iret dX12_state_82 rfl rfl ⟨rfl, _, rfl, hf⟩ (Nat.le_of_ble_eq_true rfl) (Nat.le_of_ble_eq_true rfl))
      replace hk := t_neg hk h2
      by_cases h3 : x2.toInt = 3
      · replace hk := t_pos hk h3
        refine mj_tableIn 83 dX12_state_21 hh1 hh2 (by rw [h3]; rfl) (by decide) ?_
        refine mj_aload_n dX12_state_83 0 rfl ?_
        refine t_chkK hk (fun c5 hk => ?_)
        refine t_getI dX12_state_84 F_X12_310 (t_pf6 c5) ?_
        exact t_somK hk (fun hf => t_iret dX12_state_87 rfl rfl ⟨rfl, _, rfl, hf⟩ (Nat.le_of_ble_eq_true rfl) (Nat.le_of_ble_eq_true rfl))
      replace hk := t_neg hk h3
      by_cases h4 : x2.toInt = 4
      · replace hk := t_pos hk h4
        refine mj_tableIn 88 dX12_state_21 hh1 hh2 (by rw [h4]; rfl) (by decide) ?_
        refine mj_aload_n dX12_state_88 0 rfl ?_
        refine t_chkK hk (fun c6 hk => ?_)
        refine t_getI dX12_state_89 F_X12_310 (t_pf6 c6) ?_
        refine mj_if_le 123 dX12_state_92 (by decide) (fun z => t_posK hk z (fun hk => ?_)) (fun z => t_negK hk z (fun hk => ?_))
        · refine mj_bipush (v := (-2)) dX12_state_123 (by decide) ?_
          exact t_somK hk (fun hf => t_iret dX12_state_125 rfl rfl ⟨rfl, _, rfl, hf⟩ (Nat.le_of_ble_eq_true rfl) (Nat.le_of_ble_eq_true rfl))
        · refine mj_aload_n dX12_state_95 0 rfl ?_
          refine t_getR ((866 + 10 * (x1.toNatClampNeg)) + 2) dX12_state_96 F_X12_313 (t_pr8 c6) ?_
          refine mj_aload_n dX12_state_99 0 rfl ?_
          refine t_getI dX12_state_100 F_X12_310 (t_pf6 c6) ?_
          refine mj_iconst (v := 1) dX12_state_103 (by decide) ?_
          refine mj_isub dX12_state_104 ?_
          refine t_chkK hk (fun c7 hk => ?_)
          refine t_iald dX12_state_105 (t_pa8 c6) (t_ixv c7) ?_
          refine mj_if_lt 123 dX12_state_106 (by decide) (fun z => t_posK hk z (fun hk => ?_)) (fun z => t_negK hk z (fun hk => ?_))
          · refine mj_bipush (v := (-2)) dX12_state_123 (by decide) ?_
            exact t_somK hk (fun hf => t_iret dX12_state_125 rfl rfl ⟨rfl, _, rfl, hf⟩ (Nat.le_of_ble_eq_true rfl) (Nat.le_of_ble_eq_true rfl))
          · refine mj_aload_n dX12_state_109 0 rfl ?_
            refine t_getR ((866 + 10 * (x1.toNatClampNeg)) + 2) dX12_state_110 F_X12_313 (t_pr8 c6) ?_
            refine mj_aload_n dX12_state_113 0 rfl ?_
            refine t_getI dX12_state_114 F_X12_310 (t_pf6 c6) ?_
            refine mj_iconst (v := 1) dX12_state_117 (by decide) ?_
            refine mj_isub dX12_state_118 ?_
            refine t_iald dX12_state_119 (t_pa8 c6) (t_ixv c7) ?_
            refine mj_goto 125 dX12_state_120 (by decide) ?_
            exact t_somK hk (fun hf => t_iret dX12_state_125 rfl rfl ⟨rfl, _, rfl, hf⟩ (Nat.le_of_ble_eq_true rfl) (Nat.le_of_ble_eq_true rfl))
      replace hk := t_neg hk h4
      by_cases h5 : x2.toInt = 5
      · replace hk := t_pos hk h5
        refine mj_tableIn 126 dX12_state_21 hh1 hh2 (by rw [h5]; rfl) (by decide) ?_
        refine mj_aload_n dX12_state_126 0 rfl ?_
        refine t_chkK hk (fun c8 hk => ?_)
        refine t_getI dX12_state_127 F_X12_316 (t_pf10 c8) ?_
        exact t_somK hk (fun hf => t_iret dX12_state_130 rfl rfl ⟨rfl, _, rfl, hf⟩ (Nat.le_of_ble_eq_true rfl) (Nat.le_of_ble_eq_true rfl))
      replace hk := t_neg hk h5
      by_cases h6 : x2.toInt = 6
      · replace hk := t_pos hk h6
        refine mj_tableIn 131 dX12_state_21 hh1 hh2 (by rw [h6]; rfl) (by decide) ?_
        refine mj_aload_n dX12_state_131 0 rfl ?_
        refine t_chkK hk (fun c9 hk => ?_)
        refine t_getI dX12_state_132 F_X12_319 (t_pf4 c9) ?_
        exact t_somK hk (fun hf => t_iret dX12_state_135 rfl rfl ⟨rfl, _, rfl, hf⟩ (Nat.le_of_ble_eq_true rfl) (Nat.le_of_ble_eq_true rfl))
      replace hk := t_neg hk h6
      have h7 : x2.toInt = 7 := by omega
      refine mj_tableIn 136 dX12_state_21 hh1 hh2 (by rw [h7]; rfl) (by decide) ?_
      refine mj_aload_n dX12_state_136 0 rfl ?_
      refine t_chkK hk (fun c10 hk => ?_)
      refine t_getI dX12_state_137 F_X12_322 (t_pf5 c10) ?_
      exact t_somK hk (fun hf => t_iret dX12_state_140 rfl rfl ⟨rfl, _, rfl, hf⟩ (Nat.le_of_ble_eq_true rfl) (Nat.le_of_ble_eq_true rfl))
  · refine mj_iconst (v := (-1)) dX12_state_8 (by decide) ?_
    exact t_somK hk (fun hf => t_iret dX12_state_9 rfl rfl ⟨rfl, _, rfl, hf⟩ (Nat.le_of_ble_eq_true rfl) (Nat.le_of_ble_eq_true rfl))

theorem dX1_writeSign_0 : decode cX1_writeSign 0 = .ok (.aload_n 0, 1) := by decide +kernel
theorem dX1_writeSign_1 : decode cX1_writeSign 1 = .ok (.getfield 43, 3) := by decide +kernel
theorem dX1_writeSign_10 : decode cX1_writeSign 10 = .ok (.return_, 1) := by decide +kernel
theorem dX1_writeSign_11 : decode cX1_writeSign 11 = .ok (.aload_n 0, 1) := by decide +kernel
theorem dX1_writeSign_12 : decode cX1_writeSign 12 = .ok (.getfield 9, 3) := by decide +kernel
theorem dX1_writeSign_15 : decode cX1_writeSign 15 = .ok (.aload_n 0, 1) := by decide +kernel
theorem dX1_writeSign_16 : decode cX1_writeSign 16 = .ok (.getfield 43, 3) := by decide +kernel
theorem dX1_writeSign_19 : decode cX1_writeSign 19 = .ok (.iload_n 1, 1) := by decide +kernel
theorem dX1_writeSign_20 : decode cX1_writeSign 20 = .ok (.i2b, 1) := by decide +kernel
theorem dX1_writeSign_21 : decode cX1_writeSign 21 = .ok (.bastore, 1) := by decide +kernel
theorem dX1_writeSign_22 : decode cX1_writeSign 22 = .ok (.aload_n 0, 1) := by decide +kernel
theorem dX1_writeSign_23 : decode cX1_writeSign 23 = .ok (.dup, 1) := by decide +kernel
theorem dX1_writeSign_24 : decode cX1_writeSign 24 = .ok (.getfield 43, 3) := by decide +kernel
theorem dX1_writeSign_27 : decode cX1_writeSign 27 = .ok (.iconst 1, 1) := by decide +kernel
theorem dX1_writeSign_28 : decode cX1_writeSign 28 = .ok (.iadd, 1) := by decide +kernel
theorem dX1_writeSign_29 : decode cX1_writeSign 29 = .ok (.putfield 43, 3) := by decide +kernel
theorem dX1_writeSign_32 : decode cX1_writeSign 32 = .ok (.return_, 1) := by decide +kernel
theorem dX1_writeSign_4 : decode cX1_writeSign 4 = .ok (.sipush 4000, 3) := by decide +kernel
theorem dX1_writeSign_7 : decode cX1_writeSign 7 = .ok (.if_icmp .lt 4, 3) := by decide +kernel
noncomputable def f_X1_writeSign (x1 : Int32) (s : t_S) : Option (t_S) :=
 if (s.1 856 3) < (4000 : Int32) then (if t_ix (s.1 856 3) 4000 = true then
  t_let (t_setI s 857 ((s.1 856 3).toNatClampNeg) (x1.toInt8.toInt32.toInt8.toInt32)) (fun s1 =>
 t_let (t_setI s1 856 3 ((s1.1 856 3) + (1 : Int32))) (fun s2 =>
 some (s2)))
else none)
 else (some (s))
set_option maxRecDepth 4000 in
set_option maxHeartbeats 1000000 in
theorem C_X1_writeSign (x1 : Int32) (s : t_S) (r : t_S) (hr : f_X1_writeSign x1 s = some r) : t_C yX1_writeSign cX1_writeSign 2 none 0 [.ref 856, .int x1] s (fun v s' => v = none ∧ s' = r) := by
  refine t_C.imp (P := fun v s' => v = none ∧ (fun q => q = r) (s')) (t_C.of (by decide +kernel) (Nat.le_of_ble_eq_true rfl) ?_) (fun v s' hp => hp)
  intro D cy ad bs X
  have hk : t_hk (f_X1_writeSign x1 s) (fun q => q = r) := ⟨r, hr, rfl⟩
  show mj_G D cy ad bs X cX1_writeSign 2 yX1_writeSign.cls none yX1_writeSign.name 0 0 0 1065 (t_P (fun v s' => v = none ∧ (fun q => q = r) (s'))) 0 [(0, .ref 856), (1, .int x1)] [] (t_m s) 1065 0 0
  refine mj_aload_n dX1_writeSign_0 0 rfl ?_
  refine t_getI dX1_writeSign_1 F_X1_43 qf_856_3 ?_
  refine mj_sipush (v := 4000) dX1_writeSign_4 (by decide) ?_
  refine mj_icmp_lt 11 dX1_writeSign_7 (by decide) (fun z => t_posK hk z (fun hk => ?_)) (fun z => t_negK hk z (fun hk => ?_))
  · refine mj_aload_n dX1_writeSign_11 0 rfl ?_
    refine t_getR 857 dX1_writeSign_12 F_X1_9 qr_856_2 ?_
    refine mj_aload_n dX1_writeSign_15 0 rfl ?_
    refine t_getI dX1_writeSign_16 F_X1_43 qf_856_3 ?_
    refine mj_iload_n dX1_writeSign_19 1 rfl ?_
    refine mj_i2b (v := x1.toInt8.toInt32) dX1_writeSign_20 rfl ?_
    refine t_chkK hk (fun c0 hk => ?_)
    refine t_bastK dX1_writeSign_21 qa_857 (t_ixv c0) (fun s1 ws1 => t_letE hk ws1 (fun hk => ?_))
    refine mj_aload_n dX1_writeSign_22 0 rfl ?_
    refine mj_dup dX1_writeSign_23 rfl ?_
    refine t_getI dX1_writeSign_24 F_X1_43 qf_856_3 ?_
    refine mj_iconst (v := 1) dX1_writeSign_27 (by decide) ?_
    refine mj_iadd dX1_writeSign_28 ?_
    refine t_putIK dX1_writeSign_29 F_X1_43 qf_856_3 rfl (fun s2 ws2 => t_letE hk ws2 (fun hk => ?_))
    exact t_somK hk (fun hf => t_vret dX1_writeSign_32 rfl ⟨rfl, hf⟩ (Nat.le_of_ble_eq_true rfl) (Nat.le_of_ble_eq_true rfl))
  · exact t_somK hk (fun hf => t_vret dX1_writeSign_10 rfl ⟨rfl, hf⟩ (Nat.le_of_ble_eq_true rfl) (Nat.le_of_ble_eq_true rfl))

theorem dX1_closeWritten_0 : decode cX1_closeWritten 0 = .ok (.lload_n 1, 1) := by decide +kernel
theorem dX1_closeWritten_1 : decode cX1_closeWritten 1 = .ok (.invokestatic 54, 3) := by decide +kernel
theorem dX1_closeWritten_100 : decode cX1_closeWritten 100 = .ok (.putfield 47, 3) := by decide +kernel
theorem dX1_closeWritten_103 : decode cX1_closeWritten 103 = .ok (.aload_n 0, 1) := by decide +kernel
theorem dX1_closeWritten_104 : decode cX1_closeWritten 104 = .ok (.getfield 47, 3) := by decide +kernel
theorem dX1_closeWritten_107 : decode cX1_closeWritten 107 = .ok (.ifCond .le 97, 3) := by decide +kernel
theorem dX1_closeWritten_11 : decode cX1_closeWritten 11 = .ok (.iconst 1, 1) := by decide +kernel
theorem dX1_closeWritten_110 : decode cX1_closeWritten 110 = .ok (.aload_n 0, 1) := by decide +kernel
theorem dX1_closeWritten_111 : decode cX1_closeWritten 111 = .ok (.getfield 32, 3) := by decide +kernel
theorem dX1_closeWritten_114 : decode cX1_closeWritten 114 = .ok (.aload_n 0, 1) := by decide +kernel
theorem dX1_closeWritten_115 : decode cX1_closeWritten 115 = .ok (.getfield 47, 3) := by decide +kernel
theorem dX1_closeWritten_118 : decode cX1_closeWritten 118 = .ok (.iconst 1, 1) := by decide +kernel
theorem dX1_closeWritten_119 : decode cX1_closeWritten 119 = .ok (.isub, 1) := by decide +kernel
theorem dX1_closeWritten_12 : decode cX1_closeWritten 12 = .ok (.goto 23, 3) := by decide +kernel
theorem dX1_closeWritten_120 : decode cX1_closeWritten 120 = .ok (.iaload, 1) := by decide +kernel
theorem dX1_closeWritten_121 : decode cX1_closeWritten 121 = .ok (.ifCond .ne 83, 3) := by decide +kernel
theorem dX1_closeWritten_124 : decode cX1_closeWritten 124 = .ok (.aload_n 0, 1) := by decide +kernel
theorem dX1_closeWritten_125 : decode cX1_closeWritten 125 = .ok (.dup, 1) := by decide +kernel
theorem dX1_closeWritten_126 : decode cX1_closeWritten 126 = .ok (.getfield 47, 3) := by decide +kernel
theorem dX1_closeWritten_129 : decode cX1_closeWritten 129 = .ok (.iconst 1, 1) := by decide +kernel
theorem dX1_closeWritten_130 : decode cX1_closeWritten 130 = .ok (.isub, 1) := by decide +kernel
theorem dX1_closeWritten_131 : decode cX1_closeWritten 131 = .ok (.putfield 47, 3) := by decide +kernel
theorem dX1_closeWritten_134 : decode cX1_closeWritten 134 = .ok (.aload_n 0, 1) := by decide +kernel
theorem dX1_closeWritten_135 : decode cX1_closeWritten 135 = .ok (.getfield 25, 3) := by decide +kernel
theorem dX1_closeWritten_138 : decode cX1_closeWritten 138 = .ok (.aload_n 0, 1) := by decide +kernel
theorem dX1_closeWritten_139 : decode cX1_closeWritten 139 = .ok (.getfield 47, 3) := by decide +kernel
theorem dX1_closeWritten_142 : decode cX1_closeWritten 142 = .ok (.iaload, 1) := by decide +kernel
theorem dX1_closeWritten_143 : decode cX1_closeWritten 143 = .ok (.ifCond .eq 16, 3) := by decide +kernel
theorem dX1_closeWritten_146 : decode cX1_closeWritten 146 = .ok (.aload_n 0, 1) := by decide +kernel
theorem dX1_closeWritten_147 : decode cX1_closeWritten 147 = .ok (.aload_n 0, 1) := by decide +kernel
theorem dX1_closeWritten_148 : decode cX1_closeWritten 148 = .ok (.getfield 25, 3) := by decide +kernel
theorem dX1_closeWritten_15 : decode cX1_closeWritten 15 = .ok (.iload_n 3, 1) := by decide +kernel
theorem dX1_closeWritten_151 : decode cX1_closeWritten 151 = .ok (.aload_n 0, 1) := by decide +kernel
theorem dX1_closeWritten_152 : decode cX1_closeWritten 152 = .ok (.getfield 47, 3) := by decide +kernel
theorem dX1_closeWritten_155 : decode cX1_closeWritten 155 = .ok (.iaload, 1) := by decide +kernel
theorem dX1_closeWritten_156 : decode cX1_closeWritten 156 = .ok (.invokevirtual 86, 3) := by decide +kernel
theorem dX1_closeWritten_159 : decode cX1_closeWritten 159 = .ok (.aload_n 0, 1) := by decide +kernel
theorem dX1_closeWritten_16 : decode cX1_closeWritten 16 = .ok (.bipush 6, 2) := by decide +kernel
theorem dX1_closeWritten_160 : decode cX1_closeWritten 160 = .ok (.getfield 47, 3) := by decide +kernel
theorem dX1_closeWritten_163 : decode cX1_closeWritten 163 = .ok (.ifCond .le (-60), 3) := by decide +kernel
theorem dX1_closeWritten_166 : decode cX1_closeWritten 166 = .ok (.aload_n 0, 1) := by decide +kernel
theorem dX1_closeWritten_167 : decode cX1_closeWritten 167 = .ok (.getfield 32, 3) := by decide +kernel
theorem dX1_closeWritten_170 : decode cX1_closeWritten 170 = .ok (.aload_n 0, 1) := by decide +kernel
theorem dX1_closeWritten_171 : decode cX1_closeWritten 171 = .ok (.getfield 47, 3) := by decide +kernel
theorem dX1_closeWritten_174 : decode cX1_closeWritten 174 = .ok (.iconst 1, 1) := by decide +kernel
theorem dX1_closeWritten_175 : decode cX1_closeWritten 175 = .ok (.isub, 1) := by decide +kernel
theorem dX1_closeWritten_176 : decode cX1_closeWritten 176 = .ok (.dup2, 1) := by decide +kernel
theorem dX1_closeWritten_177 : decode cX1_closeWritten 177 = .ok (.iaload, 1) := by decide +kernel
theorem dX1_closeWritten_178 : decode cX1_closeWritten 178 = .ok (.iconst 1, 1) := by decide +kernel
theorem dX1_closeWritten_179 : decode cX1_closeWritten 179 = .ok (.isub, 1) := by decide +kernel
theorem dX1_closeWritten_18 : decode cX1_closeWritten 18 = .ok (.if_icmp .eq 9, 3) := by decide +kernel
theorem dX1_closeWritten_180 : decode cX1_closeWritten 180 = .ok (.iastore, 1) := by decide +kernel
theorem dX1_closeWritten_181 : decode cX1_closeWritten 181 = .ok (.aload_n 0, 1) := by decide +kernel
theorem dX1_closeWritten_182 : decode cX1_closeWritten 182 = .ok (.getfield 32, 3) := by decide +kernel
theorem dX1_closeWritten_185 : decode cX1_closeWritten 185 = .ok (.aload_n 0, 1) := by decide +kernel
theorem dX1_closeWritten_186 : decode cX1_closeWritten 186 = .ok (.getfield 47, 3) := by decide +kernel
theorem dX1_closeWritten_189 : decode cX1_closeWritten 189 = .ok (.iconst 1, 1) := by decide +kernel
theorem dX1_closeWritten_190 : decode cX1_closeWritten 190 = .ok (.isub, 1) := by decide +kernel
theorem dX1_closeWritten_191 : decode cX1_closeWritten 191 = .ok (.iaload, 1) := by decide +kernel
theorem dX1_closeWritten_192 : decode cX1_closeWritten 192 = .ok (.ifCond .le (-89), 3) := by decide +kernel
theorem dX1_closeWritten_195 : decode cX1_closeWritten 195 = .ok (.aload_n 0, 1) := by decide +kernel
theorem dX1_closeWritten_196 : decode cX1_closeWritten 196 = .ok (.bipush 44, 2) := by decide +kernel
theorem dX1_closeWritten_198 : decode cX1_closeWritten 198 = .ok (.invokevirtual 86, 3) := by decide +kernel
theorem dX1_closeWritten_201 : decode cX1_closeWritten 201 = .ok (.goto (-98), 3) := by decide +kernel
theorem dX1_closeWritten_204 : decode cX1_closeWritten 204 = .ok (.return_, 1) := by decide +kernel
theorem dX1_closeWritten_21 : decode cX1_closeWritten 21 = .ok (.iload_n 3, 1) := by decide +kernel
theorem dX1_closeWritten_22 : decode cX1_closeWritten 22 = .ok (.bipush 8, 2) := by decide +kernel
theorem dX1_closeWritten_24 : decode cX1_closeWritten 24 = .ok (.if_icmp .ne 10, 3) := by decide +kernel
theorem dX1_closeWritten_27 : decode cX1_closeWritten 27 = .ok (.lload_n 1, 1) := by decide +kernel
theorem dX1_closeWritten_28 : decode cX1_closeWritten 28 = .ok (.invokestatic 94, 3) := by decide +kernel
theorem dX1_closeWritten_31 : decode cX1_closeWritten 31 = .ok (.goto 4, 3) := by decide +kernel
theorem dX1_closeWritten_34 : decode cX1_closeWritten 34 = .ok (.iconst 0, 1) := by decide +kernel
theorem dX1_closeWritten_35 : decode cX1_closeWritten 35 = .ok (.istore 4, 2) := by decide +kernel
theorem dX1_closeWritten_37 : decode cX1_closeWritten 37 = .ok (.aload_n 0, 1) := by decide +kernel
theorem dX1_closeWritten_38 : decode cX1_closeWritten 38 = .ok (.getfield 47, 3) := by decide +kernel
theorem dX1_closeWritten_4 : decode cX1_closeWritten 4 = .ok (.istore_n 3, 1) := by decide +kernel
theorem dX1_closeWritten_41 : decode cX1_closeWritten 41 = .ok (.aload_n 0, 1) := by decide +kernel
theorem dX1_closeWritten_42 : decode cX1_closeWritten 42 = .ok (.getfield 32, 3) := by decide +kernel
theorem dX1_closeWritten_45 : decode cX1_closeWritten 45 = .ok (.arraylength, 1) := by decide +kernel
theorem dX1_closeWritten_46 : decode cX1_closeWritten 46 = .ok (.if_icmp .lt 4, 3) := by decide +kernel
theorem dX1_closeWritten_49 : decode cX1_closeWritten 49 = .ok (.return_, 1) := by decide +kernel
theorem dX1_closeWritten_5 : decode cX1_closeWritten 5 = .ok (.iload_n 3, 1) := by decide +kernel
theorem dX1_closeWritten_50 : decode cX1_closeWritten 50 = .ok (.aload_n 0, 1) := by decide +kernel
theorem dX1_closeWritten_51 : decode cX1_closeWritten 51 = .ok (.getfield 32, 3) := by decide +kernel
theorem dX1_closeWritten_54 : decode cX1_closeWritten 54 = .ok (.aload_n 0, 1) := by decide +kernel
theorem dX1_closeWritten_55 : decode cX1_closeWritten 55 = .ok (.getfield 47, 3) := by decide +kernel
theorem dX1_closeWritten_58 : decode cX1_closeWritten 58 = .ok (.iload 4, 2) := by decide +kernel
theorem dX1_closeWritten_6 : decode cX1_closeWritten 6 = .ok (.bipush 7, 2) := by decide +kernel
theorem dX1_closeWritten_60 : decode cX1_closeWritten 60 = .ok (.iastore, 1) := by decide +kernel
theorem dX1_closeWritten_61 : decode cX1_closeWritten 61 = .ok (.aload_n 0, 1) := by decide +kernel
theorem dX1_closeWritten_62 : decode cX1_closeWritten 62 = .ok (.getfield 25, 3) := by decide +kernel
theorem dX1_closeWritten_65 : decode cX1_closeWritten 65 = .ok (.aload_n 0, 1) := by decide +kernel
theorem dX1_closeWritten_66 : decode cX1_closeWritten 66 = .ok (.getfield 47, 3) := by decide +kernel
theorem dX1_closeWritten_69 : decode cX1_closeWritten 69 = .ok (.iload_n 3, 1) := by decide +kernel
theorem dX1_closeWritten_70 : decode cX1_closeWritten 70 = .ok (.bipush 6, 2) := by decide +kernel
theorem dX1_closeWritten_72 : decode cX1_closeWritten 72 = .ok (.if_icmp .ne 8, 3) := by decide +kernel
theorem dX1_closeWritten_75 : decode cX1_closeWritten 75 = .ok (.bipush 125, 2) := by decide +kernel
theorem dX1_closeWritten_77 : decode cX1_closeWritten 77 = .ok (.goto 15, 3) := by decide +kernel
theorem dX1_closeWritten_8 : decode cX1_closeWritten 8 = .ok (.if_icmp .ne 7, 3) := by decide +kernel
theorem dX1_closeWritten_80 : decode cX1_closeWritten 80 = .ok (.iload_n 3, 1) := by decide +kernel
theorem dX1_closeWritten_81 : decode cX1_closeWritten 81 = .ok (.bipush 8, 2) := by decide +kernel
theorem dX1_closeWritten_83 : decode cX1_closeWritten 83 = .ok (.if_icmp .ne 8, 3) := by decide +kernel
theorem dX1_closeWritten_86 : decode cX1_closeWritten 86 = .ok (.bipush 93, 2) := by decide +kernel
theorem dX1_closeWritten_88 : decode cX1_closeWritten 88 = .ok (.goto 4, 3) := by decide +kernel
theorem dX1_closeWritten_91 : decode cX1_closeWritten 91 = .ok (.iconst 0, 1) := by decide +kernel
theorem dX1_closeWritten_92 : decode cX1_closeWritten 92 = .ok (.iastore, 1) := by decide +kernel
theorem dX1_closeWritten_93 : decode cX1_closeWritten 93 = .ok (.aload_n 0, 1) := by decide +kernel
theorem dX1_closeWritten_94 : decode cX1_closeWritten 94 = .ok (.dup, 1) := by decide +kernel
theorem dX1_closeWritten_95 : decode cX1_closeWritten 95 = .ok (.getfield 47, 3) := by decide +kernel
theorem dX1_closeWritten_98 : decode cX1_closeWritten 98 = .ok (.iconst 1, 1) := by decide +kernel
theorem dX1_closeWritten_99 : decode cX1_closeWritten 99 = .ok (.iadd, 1) := by decide +kernel
noncomputable def k_X1_closeWritten_159 (s : t_S) : Option ((t_S) ⊕ (t_S)) :=
 if (s.1 856 15) ≤ (0 : Int32) then (some (.inl s))
 else (if t_ix ((s.1 856 15) - (1 : Int32)) 240 = true then
  t_let (t_setI s 863 (((s.1 856 15) - (1 : Int32)).toNatClampNeg) ((s.1 863 (((s.1 856 15) - (1 : Int32)).toNatClampNeg)) - (1 : Int32))) (fun s1 =>
 if t_ix ((s1.1 856 15) - (1 : Int32)) 240 = true then
  if (s1.1 863 (((s1.1 856 15) - (1 : Int32)).toNatClampNeg)) ≤ (0 : Int32) then (some (.inl s1))
 else ((f_X1_writeSign (44 : Int32) s1).bind (fun r3 =>
 some (.inl r3)))
else none)
else none)
set_option maxRecDepth 4000 in
set_option maxHeartbeats 1000000 in
theorem B_X1_closeWritten_159 {D : va_G} {cy : Nat → ClassId} {ad : Nat → Nat} {bs : Nat} {X : State → Heap → Prop} (s : t_S) (Q : (t_S) ⊕ (t_S) → Prop) (Hb103 : ∀ (y0 : t_S), Q (.inl y0) → mj_G D cy ad bs X cX1_closeWritten 5 yX1_closeWritten.cls none yX1_closeWritten.name 1 0 0 1065 (t_P (fun v s' => v = none ∧ Q (.inr (s')))) 103 [(0, .ref 856)] [] (t_m y0) 1065 0 0) (hk : t_hk (k_X1_closeWritten_159 s) Q) : mj_G D cy ad bs X cX1_closeWritten 5 yX1_closeWritten.cls none yX1_closeWritten.name 1 0 0 1065 (t_P (fun v s' => v = none ∧ Q (.inr (s')))) 159 [(0, .ref 856)] [] (t_m s) 1065 0 0 := by
  refine mj_aload_n dX1_closeWritten_159 0 rfl ?_
  refine t_getI dX1_closeWritten_160 F_X1_47 qf_856_15 ?_
  refine mj_if_le 103 dX1_closeWritten_163 (by decide) (fun z => t_posK hk z (fun hk => ?_)) (fun z => t_negK hk z (fun hk => ?_))
  · exact t_somK hk (fun hf => Hb103 s hf)
  · refine mj_aload_n dX1_closeWritten_166 0 rfl ?_
    refine t_getR 863 dX1_closeWritten_167 F_X1_32 qr_856_14 ?_
    refine mj_aload_n dX1_closeWritten_170 0 rfl ?_
    refine t_getI dX1_closeWritten_171 F_X1_47 qf_856_15 ?_
    refine mj_iconst (v := 1) dX1_closeWritten_174 (by decide) ?_
    refine mj_isub dX1_closeWritten_175 ?_
    refine mj_dup2 dX1_closeWritten_176 rfl rfl ?_
    refine t_chkK hk (fun c0 hk => ?_)
    refine t_iald dX1_closeWritten_177 qa_863 (t_ixv c0) ?_
    refine mj_iconst (v := 1) dX1_closeWritten_178 (by decide) ?_
    refine mj_isub dX1_closeWritten_179 ?_
    refine t_iastK dX1_closeWritten_180 qa_863 (t_ixv c0) (fun s1 ws1 => t_letE hk ws1 (fun hk => ?_))
    refine mj_aload_n dX1_closeWritten_181 0 rfl ?_
    refine t_getR 863 dX1_closeWritten_182 F_X1_32 qr_856_14 ?_
    refine mj_aload_n dX1_closeWritten_185 0 rfl ?_
    refine t_getI dX1_closeWritten_186 F_X1_47 qf_856_15 ?_
    refine mj_iconst (v := 1) dX1_closeWritten_189 (by decide) ?_
    refine mj_isub dX1_closeWritten_190 ?_
    refine t_chkK hk (fun c1 hk => ?_)
    refine t_iald dX1_closeWritten_191 qa_863 (t_ixv c1) ?_
    refine mj_if_le 103 dX1_closeWritten_192 (by decide) (fun z => t_posK hk z (fun hk => ?_)) (fun z => t_negK hk z (fun hk => ?_))
    · exact t_somK hk (fun hf => Hb103 s1 hf)
    · refine mj_aload_n dX1_closeWritten_195 0 rfl ?_
      refine mj_bipush (v := 44) dX1_closeWritten_196 (by decide) ?_
      refine t_bndK hk (fun r3 er3 hk => ?_)
      refine t_callVvE dX1_closeWritten_198 M_X1_writeSign (C_X1_writeSign _ _ _ er3) ML_X1_86 IM_X1_writeSign SE_X1_writeSign qc_856 rfl (As := [.int 44]) rfl rfl (Nat.le_of_ble_eq_true rfl) (Nat.le_of_ble_eq_true rfl) (Nat.le_of_ble_eq_true rfl) (Nat.le_of_ble_eq_true rfl) ?_
      refine mj_goto 103 dX1_closeWritten_201 (by decide) ?_
      exact t_somK hk (fun hf => Hb103 r3 hf)
noncomputable def k_X1_closeWritten_103 (s : t_S) : Option ((t_S) ⊕ (t_S)) :=
 if (s.1 856 15) ≤ (0 : Int32) then ((some (s)).map Sum.inr)
 else (if t_ix ((s.1 856 15) - (1 : Int32)) 240 = true then
  if (s.1 863 (((s.1 856 15) - (1 : Int32)).toNatClampNeg)) = (0 : Int32) then (t_let (t_setI s 856 15 ((s.1 856 15) - (1 : Int32))) (fun s1 =>
 if t_ix (s1.1 856 15) 240 = true then
  if (s1.1 861 ((s1.1 856 15).toNatClampNeg)) = (0 : Int32) then (k_X1_closeWritten_159 s1)
 else ((f_X1_writeSign (s1.1 861 ((s1.1 856 15).toNatClampNeg)) s1).bind (fun r3 =>
 k_X1_closeWritten_159 r3))
else none))
 else ((some (s)).map Sum.inr)
else none)
set_option maxRecDepth 4000 in
set_option maxHeartbeats 1000000 in
theorem B_X1_closeWritten_103 {D : va_G} {cy : Nat → ClassId} {ad : Nat → Nat} {bs : Nat} {X : State → Heap → Prop} (s : t_S) (Q : (t_S) ⊕ (t_S) → Prop) (Hb103 : ∀ (y0 : t_S), Q (.inl y0) → mj_G D cy ad bs X cX1_closeWritten 5 yX1_closeWritten.cls none yX1_closeWritten.name 1 0 0 1065 (t_P (fun v s' => v = none ∧ Q (.inr (s')))) 103 [(0, .ref 856)] [] (t_m y0) 1065 0 0) (hk : t_hk (k_X1_closeWritten_103 s) Q) : mj_G D cy ad bs X cX1_closeWritten 5 yX1_closeWritten.cls none yX1_closeWritten.name 1 0 0 1065 (t_P (fun v s' => v = none ∧ Q (.inr (s')))) 103 [(0, .ref 856)] [] (t_m s) 1065 0 0 := by
  refine mj_aload_n dX1_closeWritten_103 0 rfl ?_
  refine t_getI dX1_closeWritten_104 F_X1_47 qf_856_15 ?_
  refine mj_if_le 204 dX1_closeWritten_107 (by decide) (fun z => t_posK hk z (fun hk => ?_)) (fun z => t_negK hk z (fun hk => ?_))
  · refine t_mapK hk (fun hk => ?_)
    exact t_somK hk (fun hf => t_vret dX1_closeWritten_204 rfl ⟨rfl, hf⟩ (Nat.le_of_ble_eq_true rfl) (Nat.le_of_ble_eq_true rfl))
  · refine mj_aload_n dX1_closeWritten_110 0 rfl ?_
    refine t_getR 863 dX1_closeWritten_111 F_X1_32 qr_856_14 ?_
    refine mj_aload_n dX1_closeWritten_114 0 rfl ?_
    refine t_getI dX1_closeWritten_115 F_X1_47 qf_856_15 ?_
    refine mj_iconst (v := 1) dX1_closeWritten_118 (by decide) ?_
    refine mj_isub dX1_closeWritten_119 ?_
    refine t_chkK hk (fun c0 hk => ?_)
    refine t_iald dX1_closeWritten_120 qa_863 (t_ixv c0) ?_
    refine mj_if_ne 204 dX1_closeWritten_121 (by decide) (fun z => t_negK hk z (fun hk => ?_)) (fun z => t_posK hk z (fun hk => ?_))
    · refine t_mapK hk (fun hk => ?_)
      exact t_somK hk (fun hf => t_vret dX1_closeWritten_204 rfl ⟨rfl, hf⟩ (Nat.le_of_ble_eq_true rfl) (Nat.le_of_ble_eq_true rfl))
    · refine mj_aload_n dX1_closeWritten_124 0 rfl ?_
      refine mj_dup dX1_closeWritten_125 rfl ?_
      refine t_getI dX1_closeWritten_126 F_X1_47 qf_856_15 ?_
      refine mj_iconst (v := 1) dX1_closeWritten_129 (by decide) ?_
      refine mj_isub dX1_closeWritten_130 ?_
      refine t_putIK dX1_closeWritten_131 F_X1_47 qf_856_15 rfl (fun s1 ws1 => t_letE hk ws1 (fun hk => ?_))
      refine mj_aload_n dX1_closeWritten_134 0 rfl ?_
      refine t_getR 861 dX1_closeWritten_135 F_X1_25 qr_856_12 ?_
      refine mj_aload_n dX1_closeWritten_138 0 rfl ?_
      refine t_getI dX1_closeWritten_139 F_X1_47 qf_856_15 ?_
      refine t_chkK hk (fun c1 hk => ?_)
      refine t_iald dX1_closeWritten_142 qa_861 (t_ixv c1) ?_
      refine mj_if_eq 159 dX1_closeWritten_143 (by decide) (fun z => t_posK hk z (fun hk => ?_)) (fun z => t_negK hk z (fun hk => ?_))
      · exact B_X1_closeWritten_159 _ _ (fun y0 hx => Hb103 y0 hx) hk
      · refine mj_aload_n dX1_closeWritten_146 0 rfl ?_
        refine mj_aload_n dX1_closeWritten_147 0 rfl ?_
        refine t_getR 861 dX1_closeWritten_148 F_X1_25 qr_856_12 ?_
        refine mj_aload_n dX1_closeWritten_151 0 rfl ?_
        refine t_getI dX1_closeWritten_152 F_X1_47 qf_856_15 ?_
        refine t_iald dX1_closeWritten_155 qa_861 (t_ixv c1) ?_
        refine t_bndK hk (fun r3 er3 hk => ?_)
        refine t_callVvE dX1_closeWritten_156 M_X1_writeSign (C_X1_writeSign _ _ _ er3) ML_X1_86 IM_X1_writeSign SE_X1_writeSign qc_856 rfl (As := [.int (s1.1 861 ((s1.1 856 15).toNatClampNeg))]) rfl rfl (Nat.le_of_ble_eq_true rfl) (Nat.le_of_ble_eq_true rfl) (Nat.le_of_ble_eq_true rfl) (Nat.le_of_ble_eq_true rfl) ?_
        exact B_X1_closeWritten_159 _ _ (fun y0 hx => Hb103 y0 hx) hk
noncomputable def b_X1_closeWritten_103 (x : t_S) : Option ((t_S) ⊕ (t_S)) := k_X1_closeWritten_103 x
set_option maxRecDepth 4000 in
set_option maxHeartbeats 1000000 in
theorem LH_X1_closeWritten_103 {D : va_G} {cy : Nat → ClassId} {ad : Nat → Nat} {bs : Nat} {X : State → Heap → Prop} : ∀ (n : Nat) (y0 : t_S) (Q : t_S → Prop) (hk : t_hk (t_loop (b_X1_closeWritten_103) n y0) Q), mj_G D cy ad bs X cX1_closeWritten 5 yX1_closeWritten.cls none yX1_closeWritten.name 1 0 0 1065 (t_P (fun v s' => v = none ∧ Q (s'))) 103 [(0, .ref 856)] [] (t_m y0) 1065 0 0 := by
  intro n
  induction n with
  | zero => intro y0 Q hk; obtain ⟨r, hr, _⟩ := hk; cases hr
  | succ n ih =>
    intro y0 Q hk
    exact B_X1_closeWritten_103 y0 (fun y => t_lq (b_X1_closeWritten_103) n Q y) (fun y0' hy => ih y0' Q hy) (t_lp hk)
noncomputable def k_X1_closeWritten_92 (k0 : Int32) (k1 : Int32) (s : t_S) : Option (t_S) :=
 if t_ix k1 240 = true then
  t_let (t_setI s 861 (k1.toNatClampNeg) k0) (fun s1 =>
 t_let (t_setI s1 856 15 ((s1.1 856 15) + (1 : Int32))) (fun s2 =>
 t_loop (b_X1_closeWritten_103) t_N s2))
else none
set_option maxRecDepth 4000 in
set_option maxHeartbeats 1000000 in
theorem B_X1_closeWritten_92 {D : va_G} {cy : Nat → ClassId} {ad : Nat → Nat} {bs : Nat} {X : State → Heap → Prop} (k0 : Int32) (k1 : Int32) (s : t_S) (Q : t_S → Prop) (hk : t_hk (k_X1_closeWritten_92 k0 k1 s) Q) : mj_G D cy ad bs X cX1_closeWritten 5 yX1_closeWritten.cls none yX1_closeWritten.name 1 0 0 1065 (t_P (fun v s' => v = none ∧ Q (s'))) 92 [(0, .ref 856)] [.int k0, .int k1, .ref 861] (t_m s) 1065 0 0 := by
  refine t_chkK hk (fun c0 hk => ?_)
  refine t_iastK dX1_closeWritten_92 qa_861 (t_ixv c0) (fun s1 ws1 => t_letE hk ws1 (fun hk => ?_))
  refine mj_aload_n dX1_closeWritten_93 0 rfl ?_
  refine mj_dup dX1_closeWritten_94 rfl ?_
  refine t_getI dX1_closeWritten_95 F_X1_47 qf_856_15 ?_
  refine mj_iconst (v := 1) dX1_closeWritten_98 (by decide) ?_
  refine mj_iadd dX1_closeWritten_99 ?_
  refine t_putIK dX1_closeWritten_100 F_X1_47 qf_856_15 rfl (fun s2 ws2 => t_letE hk ws2 (fun hk => ?_))
  exact LH_X1_closeWritten_103 _ s2 _ hk
noncomputable def k_X1_closeWritten_35 (l3 : Int32) (k0 : Int32) (s : t_S) : Option (t_S) :=
 if (s.1 856 15) < (240 : Int32) then (if t_ix (s.1 856 15) 240 = true then
  t_let (t_setI s 863 ((s.1 856 15).toNatClampNeg) k0) (fun s1 =>
 if l3 = (6 : Int32) then (k_X1_closeWritten_92 125 (s1.1 856 15) s1)
 else (if l3 = (8 : Int32) then (k_X1_closeWritten_92 93 (s1.1 856 15) s1)
 else (k_X1_closeWritten_92 0 (s1.1 856 15) s1)))
else none)
 else (some (s))
set_option maxRecDepth 4000 in
set_option maxHeartbeats 1000000 in
theorem B_X1_closeWritten_35 {D : va_G} {cy : Nat → ClassId} {ad : Nat → Nat} {bs : Nat} {X : State → Heap → Prop} (l3 : Int32) (k0 : Int32) (s : t_S) (Q : t_S → Prop) (hk : t_hk (k_X1_closeWritten_35 l3 k0 s) Q) : mj_G D cy ad bs X cX1_closeWritten 5 yX1_closeWritten.cls none yX1_closeWritten.name 1 0 0 1065 (t_P (fun v s' => v = none ∧ Q (s'))) 35 [(0, .ref 856), (3, .int l3)] [.int k0] (t_m s) 1065 0 0 := by
  refine mj_istore (lv2 := [(4, .int k0), (0, .ref 856), (3, .int l3)]) dX1_closeWritten_35 (by decide) rfl ?_
  refine mj_aload_n dX1_closeWritten_37 1 rfl ?_
  refine t_getI dX1_closeWritten_38 F_X1_47 qf_856_15 ?_
  refine mj_aload_n dX1_closeWritten_41 1 rfl ?_
  refine t_getR 863 dX1_closeWritten_42 F_X1_32 qr_856_14 ?_
  refine t_alen1 (v := 240) dX1_closeWritten_45 qa_863 (by decide) ?_
  refine mj_icmp_lt 50 dX1_closeWritten_46 (by decide) (fun z => t_posK hk z (fun hk => ?_)) (fun z => t_negK hk z (fun hk => ?_))
  · refine mj_aload_n dX1_closeWritten_50 1 rfl ?_
    refine t_getR 863 dX1_closeWritten_51 F_X1_32 qr_856_14 ?_
    refine mj_aload_n dX1_closeWritten_54 1 rfl ?_
    refine t_getI dX1_closeWritten_55 F_X1_47 qf_856_15 ?_
    refine mj_iload dX1_closeWritten_58 0 rfl ?_
    refine t_chkK hk (fun c0 hk => ?_)
    refine t_iastK dX1_closeWritten_60 qa_863 (t_ixv c0) (fun s1 ws1 => t_letE hk ws1 (fun hk => ?_))
    refine mj_aload_n dX1_closeWritten_61 1 rfl ?_
    refine t_getR 861 dX1_closeWritten_62 F_X1_25 qr_856_12 ?_
    refine mj_aload_n dX1_closeWritten_65 1 rfl ?_
    refine t_getI dX1_closeWritten_66 F_X1_47 qf_856_15 ?_
    refine mj_iload_n dX1_closeWritten_69 2 rfl ?_
    refine mj_bipush (v := 6) dX1_closeWritten_70 (by decide) ?_
    refine mj_icmp_ne 80 dX1_closeWritten_72 (by decide) (fun z => t_negK hk z (fun hk => ?_)) (fun z => t_posK hk z (fun hk => ?_))
    · refine mj_iload_n dX1_closeWritten_80 2 rfl ?_
      refine mj_bipush (v := 8) dX1_closeWritten_81 (by decide) ?_
      refine mj_icmp_ne 91 dX1_closeWritten_83 (by decide) (fun z => t_negK hk z (fun hk => ?_)) (fun z => t_posK hk z (fun hk => ?_))
      · refine mj_iconst (v := 0) dX1_closeWritten_91 (by decide) ?_
        refine mj_sublv [(0, .ref 856)] [1] rfl ?_
        exact B_X1_closeWritten_92 _ _ _ _ hk
      · refine mj_bipush (v := 93) dX1_closeWritten_86 (by decide) ?_
        refine mj_goto 92 dX1_closeWritten_88 (by decide) ?_
        refine mj_sublv [(0, .ref 856)] [1] rfl ?_
        exact B_X1_closeWritten_92 _ _ _ _ hk
    · refine mj_bipush (v := 125) dX1_closeWritten_75 (by decide) ?_
      refine mj_goto 92 dX1_closeWritten_77 (by decide) ?_
      refine mj_sublv [(0, .ref 856)] [1] rfl ?_
      exact B_X1_closeWritten_92 _ _ _ _ hk
  · exact t_somK hk (fun hf => t_vret dX1_closeWritten_49 rfl ⟨rfl, hf⟩ (Nat.le_of_ble_eq_true rfl) (Nat.le_of_ble_eq_true rfl))
noncomputable def k_X1_closeWritten_27 (l1 : Int64) (l3 : Int32) (s : t_S) : Option (t_S) :=
 k_X1_closeWritten_35 l3 (f_X8_partsOf l1 s) s
set_option maxRecDepth 4000 in
set_option maxHeartbeats 1000000 in
theorem B_X1_closeWritten_27 {D : va_G} {cy : Nat → ClassId} {ad : Nat → Nat} {bs : Nat} {X : State → Heap → Prop} (l1 : Int64) (l3 : Int32) (s : t_S) (Q : t_S → Prop) (hk : t_hk (k_X1_closeWritten_27 l1 l3 s) Q) : mj_G D cy ad bs X cX1_closeWritten 5 yX1_closeWritten.cls none yX1_closeWritten.name 1 0 0 1065 (t_P (fun v s' => v = none ∧ Q (s'))) 27 [(0, .ref 856), (1, .long l1), (3, .int l3)] [] (t_m s) 1065 0 0 := by
  refine mj_lload_n dX1_closeWritten_27 1 rfl ?_
  refine t_callSiP dX1_closeWritten_28 M_X8_partsOf (C_X8_partsOf _ _) ML_X1_94 SM_X8_partsOf (As := [.long l1]) rfl rfl (Nat.le_of_ble_eq_true rfl) (Nat.le_of_ble_eq_true rfl) (Nat.le_of_ble_eq_true rfl) (Nat.le_of_ble_eq_true rfl) ?_
  refine mj_goto 35 dX1_closeWritten_31 (by decide) ?_
  refine mj_sublv [(0, .ref 856), (3, .int l3)] [0, 2] rfl ?_
  exact B_X1_closeWritten_35 _ _ _ _ hk
noncomputable def f_X1_closeWritten (x1 : Int64) (s : t_S) : Option (t_S) :=
 if (f_X8_kind x1 s) = (7 : Int32) then (k_X1_closeWritten_35 (f_X8_kind x1 s) 1 s)
 else (if (f_X8_kind x1 s) = (6 : Int32) then (k_X1_closeWritten_27 x1 (f_X8_kind x1 s) s)
 else (if (f_X8_kind x1 s) = (8 : Int32) then (k_X1_closeWritten_27 x1 (f_X8_kind x1 s) s)
 else (k_X1_closeWritten_35 (f_X8_kind x1 s) 0 s)))
set_option maxRecDepth 4000 in
set_option maxHeartbeats 1000000 in
theorem C_X1_closeWritten (x1 : Int64) (s : t_S) (r : t_S) (hr : f_X1_closeWritten x1 s = some r) : t_C yX1_closeWritten cX1_closeWritten 5 none 1 [.ref 856, .long x1] s (fun v s' => v = none ∧ s' = r) := by
  refine t_C.imp (P := fun v s' => v = none ∧ (fun q => q = r) (s')) (t_C.of (by decide +kernel) (Nat.le_of_ble_eq_true rfl) ?_) (fun v s' hp => hp)
  intro D cy ad bs X
  have hk : t_hk (f_X1_closeWritten x1 s) (fun q => q = r) := ⟨r, hr, rfl⟩
  show mj_G D cy ad bs X cX1_closeWritten 5 yX1_closeWritten.cls none yX1_closeWritten.name 1 0 0 1065 (t_P (fun v s' => v = none ∧ (fun q => q = r) (s'))) 0 [(0, .ref 856), (1, .long x1)] [] (t_m s) 1065 0 0
  refine mj_lload_n dX1_closeWritten_0 1 rfl ?_
  refine t_callSiP dX1_closeWritten_1 M_X8_kind (C_X8_kind _ _) ML_X1_54 SM_X8_kind (As := [.long x1]) rfl rfl (Nat.le_of_ble_eq_true rfl) (Nat.le_of_ble_eq_true rfl) (Nat.le_of_ble_eq_true rfl) (Nat.le_of_ble_eq_true rfl) ?_
  refine mj_istore_n 3 (lv2 := [(3, .int (f_X8_kind x1 s)), (0, .ref 856), (1, .long x1)]) dX1_closeWritten_4 rfl (by decide) rfl ?_
  refine mj_iload_n dX1_closeWritten_5 0 rfl ?_
  refine mj_bipush (v := 7) dX1_closeWritten_6 (by decide) ?_
  refine mj_icmp_ne 15 dX1_closeWritten_8 (by decide) (fun z => t_negK hk z (fun hk => ?_)) (fun z => t_posK hk z (fun hk => ?_))
  · refine mj_iload_n dX1_closeWritten_15 0 rfl ?_
    refine mj_bipush (v := 6) dX1_closeWritten_16 (by decide) ?_
    refine mj_icmp_eq 27 dX1_closeWritten_18 (by decide) (fun z => t_posK hk z (fun hk => ?_)) (fun z => t_negK hk z (fun hk => ?_))
    · refine mj_sublv [(0, .ref 856), (1, .long x1), (3, .int (f_X8_kind x1 s))] [1, 2, 0] rfl ?_
      exact B_X1_closeWritten_27 _ _ _ _ hk
    · refine mj_iload_n dX1_closeWritten_21 0 rfl ?_
      refine mj_bipush (v := 8) dX1_closeWritten_22 (by decide) ?_
      refine mj_icmp_ne 34 dX1_closeWritten_24 (by decide) (fun z => t_negK hk z (fun hk => ?_)) (fun z => t_posK hk z (fun hk => ?_))
      · refine mj_iconst (v := 0) dX1_closeWritten_34 (by decide) ?_
        refine mj_sublv [(0, .ref 856), (3, .int (f_X8_kind x1 s))] [1, 0] rfl ?_
        exact B_X1_closeWritten_35 _ _ _ _ hk
      · refine mj_sublv [(0, .ref 856), (1, .long x1), (3, .int (f_X8_kind x1 s))] [1, 2, 0] rfl ?_
        exact B_X1_closeWritten_27 _ _ _ _ hk
  · refine mj_iconst (v := 1) dX1_closeWritten_11 (by decide) ?_
    refine mj_goto 35 dX1_closeWritten_12 (by decide) ?_
    refine mj_sublv [(0, .ref 856), (3, .int (f_X8_kind x1 s))] [1, 0] rfl ?_
    exact B_X1_closeWritten_35 _ _ _ _ hk

