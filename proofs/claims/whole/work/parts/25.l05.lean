/-! Methods as functions, 5: X0_binary, X0_clear, X0_emit, X10_markSame, X10_setLiteral, X0_keepSame, X0_makeList, X8_sortFields, X0_makeRecord, X10_wrongOf -/
theorem qa_337 : t_oka 337 2 26000 = true := by decide +kernel
theorem qa_354 : t_oka 354 1 6100 = true := by decide +kernel
theorem qa_357 : t_oka 357 1 6100 = true := by decide +kernel
theorem qa_361 : t_oka 361 2 6100 = true := by decide +kernel
theorem qa_362 : t_oka 362 2 6100 = true := by decide +kernel
theorem qc_353 : t_okc 353 10 = true := by decide +kernel
theorem qf_334_14 : t_okf 334 0 14 0 = true := by decide +kernel
theorem qf_334_2 : t_okf 334 0 2 0 = true := by decide +kernel
theorem qf_334_4 : t_okf 334 0 4 0 = true := by decide +kernel
theorem qq_363 : t_okq 363 5 60 364 1 = true := by decide +kernel
theorem qr_334_20 : t_okr 334 0 20 353 = true := by decide +kernel
theorem qr_334_3 : t_okr 334 0 3 337 = true := by decide +kernel
theorem qr_353_0 : t_okr 353 10 0 354 = true := by decide +kernel
theorem qr_353_10 : t_okr 353 10 10 363 = true := by decide +kernel
theorem qr_353_21 : t_okr 353 10 21 334 = true := by decide +kernel
theorem qr_353_3 : t_okr 353 10 3 357 = true := by decide +kernel
theorem qr_353_7 : t_okr 353 10 7 361 = true := by decide +kernel
theorem qr_353_8 : t_okr 353 10 8 362 = true := by decide +kernel
theorem dX0_binary_0 : decode cX0_binary 0 = .ok (.aload_n 0, 1) := by decide +kernel
theorem dX0_binary_1 : decode cX0_binary 1 = .ok (.getfield 62, 3) := by decide +kernel
theorem dX0_binary_10 : decode cX0_binary 10 = .ok (.putfield 71, 3) := by decide +kernel
theorem dX0_binary_100 : decode cX0_binary 100 = .ok (.isub, 1) := by decide +kernel
theorem dX0_binary_101 : decode cX0_binary 101 = .ok (.iaload, 1) := by decide +kernel
theorem dX0_binary_102 : decode cX0_binary 102 = .ok (.aload_n 0, 1) := by decide +kernel
theorem dX0_binary_103 : decode cX0_binary 103 = .ok (.getfield 21, 3) := by decide +kernel
theorem dX0_binary_106 : decode cX0_binary 106 = .ok (.aload_n 0, 1) := by decide +kernel
theorem dX0_binary_107 : decode cX0_binary 107 = .ok (.getfield 24, 3) := by decide +kernel
theorem dX0_binary_110 : decode cX0_binary 110 = .ok (.aload_n 0, 1) := by decide +kernel
theorem dX0_binary_111 : decode cX0_binary 111 = .ok (.getfield 62, 3) := by decide +kernel
theorem dX0_binary_114 : decode cX0_binary 114 = .ok (.iconst 1, 1) := by decide +kernel
theorem dX0_binary_115 : decode cX0_binary 115 = .ok (.isub, 1) := by decide +kernel
theorem dX0_binary_116 : decode cX0_binary 116 = .ok (.iaload, 1) := by decide +kernel
theorem dX0_binary_117 : decode cX0_binary 117 = .ok (.invokestatic 200, 3) := by decide +kernel
theorem dX0_binary_120 : decode cX0_binary 120 = .ok (.istore 6, 2) := by decide +kernel
theorem dX0_binary_122 : decode cX0_binary 122 = .ok (.aload_n 0, 1) := by decide +kernel
theorem dX0_binary_123 : decode cX0_binary 123 = .ok (.dup, 1) := by decide +kernel
theorem dX0_binary_124 : decode cX0_binary 124 = .ok (.getfield 62, 3) := by decide +kernel
theorem dX0_binary_127 : decode cX0_binary 127 = .ok (.iconst 1, 1) := by decide +kernel
theorem dX0_binary_128 : decode cX0_binary 128 = .ok (.isub, 1) := by decide +kernel
theorem dX0_binary_129 : decode cX0_binary 129 = .ok (.putfield 62, 3) := by decide +kernel
theorem dX0_binary_13 : decode cX0_binary 13 = .ok (.return_, 1) := by decide +kernel
theorem dX0_binary_132 : decode cX0_binary 132 = .ok (.aload_n 0, 1) := by decide +kernel
theorem dX0_binary_133 : decode cX0_binary 133 = .ok (.iload 6, 2) := by decide +kernel
theorem dX0_binary_135 : decode cX0_binary 135 = .ok (.iload_n 1, 1) := by decide +kernel
theorem dX0_binary_136 : decode cX0_binary 136 = .ok (.bipush 26, 2) := by decide +kernel
theorem dX0_binary_138 : decode cX0_binary 138 = .ok (.if_icmp .ne 7, 3) := by decide +kernel
theorem dX0_binary_14 : decode cX0_binary 14 = .ok (.aload_n 0, 1) := by decide +kernel
theorem dX0_binary_141 : decode cX0_binary 141 = .ok (.iconst 1, 1) := by decide +kernel
theorem dX0_binary_142 : decode cX0_binary 142 = .ok (.goto 4, 3) := by decide +kernel
theorem dX0_binary_145 : decode cX0_binary 145 = .ok (.iconst 0, 1) := by decide +kernel
theorem dX0_binary_146 : decode cX0_binary 146 = .ok (.if_icmp .ne 7, 3) := by decide +kernel
theorem dX0_binary_149 : decode cX0_binary 149 = .ok (.iconst 1, 1) := by decide +kernel
theorem dX0_binary_15 : decode cX0_binary 15 = .ok (.getfield 21, 3) := by decide +kernel
theorem dX0_binary_150 : decode cX0_binary 150 = .ok (.goto 4, 3) := by decide +kernel
theorem dX0_binary_153 : decode cX0_binary 153 = .ok (.iconst 0, 1) := by decide +kernel
theorem dX0_binary_154 : decode cX0_binary 154 = .ok (.invokestatic 142, 3) := by decide +kernel
theorem dX0_binary_157 : decode cX0_binary 157 = .ok (.invokevirtual 170, 3) := by decide +kernel
theorem dX0_binary_160 : decode cX0_binary 160 = .ok (.goto 79, 3) := by decide +kernel
theorem dX0_binary_163 : decode cX0_binary 163 = .ok (.lload_n 2, 1) := by decide +kernel
theorem dX0_binary_164 : decode cX0_binary 164 = .ok (.invokestatic 160, 3) := by decide +kernel
theorem dX0_binary_167 : decode cX0_binary 167 = .ok (.ifCond .ne 11, 3) := by decide +kernel
theorem dX0_binary_170 : decode cX0_binary 170 = .ok (.lload 4, 2) := by decide +kernel
theorem dX0_binary_172 : decode cX0_binary 172 = .ok (.invokestatic 160, 3) := by decide +kernel
theorem dX0_binary_175 : decode cX0_binary 175 = .ok (.ifCond .eq 11, 3) := by decide +kernel
theorem dX0_binary_178 : decode cX0_binary 178 = .ok (.aload_n 0, 1) := by decide +kernel
theorem dX0_binary_179 : decode cX0_binary 179 = .ok (.iconst 1, 1) := by decide +kernel
theorem dX0_binary_18 : decode cX0_binary 18 = .ok (.aload_n 0, 1) := by decide +kernel
theorem dX0_binary_180 : decode cX0_binary 180 = .ok (.putfield 71, 3) := by decide +kernel
theorem dX0_binary_183 : decode cX0_binary 183 = .ok (.goto 56, 3) := by decide +kernel
theorem dX0_binary_186 : decode cX0_binary 186 = .ok (.iload_n 1, 1) := by decide +kernel
theorem dX0_binary_187 : decode cX0_binary 187 = .ok (.bipush 22, 2) := by decide +kernel
theorem dX0_binary_189 : decode cX0_binary 189 = .ok (.if_icmp .lt 36, 3) := by decide +kernel
theorem dX0_binary_19 : decode cX0_binary 19 = .ok (.getfield 24, 3) := by decide +kernel
theorem dX0_binary_192 : decode cX0_binary 192 = .ok (.aload_n 0, 1) := by decide +kernel
theorem dX0_binary_193 : decode cX0_binary 193 = .ok (.dup, 1) := by decide +kernel
theorem dX0_binary_194 : decode cX0_binary 194 = .ok (.getfield 62, 3) := by decide +kernel
theorem dX0_binary_197 : decode cX0_binary 197 = .ok (.iconst 1, 1) := by decide +kernel
theorem dX0_binary_198 : decode cX0_binary 198 = .ok (.isub, 1) := by decide +kernel
theorem dX0_binary_199 : decode cX0_binary 199 = .ok (.putfield 62, 3) := by decide +kernel
theorem dX0_binary_202 : decode cX0_binary 202 = .ok (.aload_n 0, 1) := by decide +kernel
theorem dX0_binary_203 : decode cX0_binary 203 = .ok (.iload_n 1, 1) := by decide +kernel
theorem dX0_binary_204 : decode cX0_binary 204 = .ok (.lload_n 2, 1) := by decide +kernel
theorem dX0_binary_205 : decode cX0_binary 205 = .ok (.invokestatic 166, 3) := by decide +kernel
theorem dX0_binary_208 : decode cX0_binary 208 = .ok (.lload 4, 2) := by decide +kernel
theorem dX0_binary_210 : decode cX0_binary 210 = .ok (.invokestatic 166, 3) := by decide +kernel
theorem dX0_binary_213 : decode cX0_binary 213 = .ok (.invokestatic 204, 3) := by decide +kernel
theorem dX0_binary_216 : decode cX0_binary 216 = .ok (.invokestatic 142, 3) := by decide +kernel
theorem dX0_binary_219 : decode cX0_binary 219 = .ok (.invokevirtual 170, 3) := by decide +kernel
theorem dX0_binary_22 : decode cX0_binary 22 = .ok (.aload_n 0, 1) := by decide +kernel
theorem dX0_binary_222 : decode cX0_binary 222 = .ok (.goto 17, 3) := by decide +kernel
theorem dX0_binary_225 : decode cX0_binary 225 = .ok (.aload_n 0, 1) := by decide +kernel
theorem dX0_binary_226 : decode cX0_binary 226 = .ok (.iload_n 1, 1) := by decide +kernel
theorem dX0_binary_227 : decode cX0_binary 227 = .ok (.lload_n 2, 1) := by decide +kernel
theorem dX0_binary_228 : decode cX0_binary 228 = .ok (.invokestatic 166, 3) := by decide +kernel
theorem dX0_binary_23 : decode cX0_binary 23 = .ok (.getfield 62, 3) := by decide +kernel
theorem dX0_binary_231 : decode cX0_binary 231 = .ok (.lload 4, 2) := by decide +kernel
theorem dX0_binary_233 : decode cX0_binary 233 = .ok (.invokestatic 166, 3) := by decide +kernel
theorem dX0_binary_236 : decode cX0_binary 236 = .ok (.invokevirtual 208, 3) := by decide +kernel
theorem dX0_binary_239 : decode cX0_binary 239 = .ok (.return_, 1) := by decide +kernel
theorem dX0_binary_26 : decode cX0_binary 26 = .ok (.iconst 2, 1) := by decide +kernel
theorem dX0_binary_27 : decode cX0_binary 27 = .ok (.isub, 1) := by decide +kernel
theorem dX0_binary_28 : decode cX0_binary 28 = .ok (.iaload, 1) := by decide +kernel
theorem dX0_binary_29 : decode cX0_binary 29 = .ok (.laload, 1) := by decide +kernel
theorem dX0_binary_30 : decode cX0_binary 30 = .ok (.lstore_n 2, 1) := by decide +kernel
theorem dX0_binary_31 : decode cX0_binary 31 = .ok (.aload_n 0, 1) := by decide +kernel
theorem dX0_binary_32 : decode cX0_binary 32 = .ok (.getfield 21, 3) := by decide +kernel
theorem dX0_binary_35 : decode cX0_binary 35 = .ok (.aload_n 0, 1) := by decide +kernel
theorem dX0_binary_36 : decode cX0_binary 36 = .ok (.getfield 24, 3) := by decide +kernel
theorem dX0_binary_39 : decode cX0_binary 39 = .ok (.aload_n 0, 1) := by decide +kernel
theorem dX0_binary_4 : decode cX0_binary 4 = .ok (.iconst 2, 1) := by decide +kernel
theorem dX0_binary_40 : decode cX0_binary 40 = .ok (.getfield 62, 3) := by decide +kernel
theorem dX0_binary_43 : decode cX0_binary 43 = .ok (.iconst 1, 1) := by decide +kernel
theorem dX0_binary_44 : decode cX0_binary 44 = .ok (.isub, 1) := by decide +kernel
theorem dX0_binary_45 : decode cX0_binary 45 = .ok (.iaload, 1) := by decide +kernel
theorem dX0_binary_46 : decode cX0_binary 46 = .ok (.laload, 1) := by decide +kernel
theorem dX0_binary_47 : decode cX0_binary 47 = .ok (.lstore 4, 2) := by decide +kernel
theorem dX0_binary_49 : decode cX0_binary 49 = .ok (.iload_n 1, 1) := by decide +kernel
theorem dX0_binary_5 : decode cX0_binary 5 = .ok (.if_icmp .ge 9, 3) := by decide +kernel
theorem dX0_binary_50 : decode cX0_binary 50 = .ok (.bipush 15, 2) := by decide +kernel
theorem dX0_binary_52 : decode cX0_binary 52 = .ok (.if_icmp .ne 13, 3) := by decide +kernel
theorem dX0_binary_55 : decode cX0_binary 55 = .ok (.aload_n 0, 1) := by decide +kernel
theorem dX0_binary_56 : decode cX0_binary 56 = .ok (.lload_n 2, 1) := by decide +kernel
theorem dX0_binary_57 : decode cX0_binary 57 = .ok (.lload 4, 2) := by decide +kernel
theorem dX0_binary_59 : decode cX0_binary 59 = .ok (.invokevirtual 193, 3) := by decide +kernel
theorem dX0_binary_62 : decode cX0_binary 62 = .ok (.goto 177, 3) := by decide +kernel
theorem dX0_binary_65 : decode cX0_binary 65 = .ok (.iload_n 1, 1) := by decide +kernel
theorem dX0_binary_66 : decode cX0_binary 66 = .ok (.bipush 21, 2) := by decide +kernel
theorem dX0_binary_68 : decode cX0_binary 68 = .ok (.if_icmp .ne 13, 3) := by decide +kernel
theorem dX0_binary_71 : decode cX0_binary 71 = .ok (.aload_n 0, 1) := by decide +kernel
theorem dX0_binary_72 : decode cX0_binary 72 = .ok (.lload_n 2, 1) := by decide +kernel
theorem dX0_binary_73 : decode cX0_binary 73 = .ok (.lload 4, 2) := by decide +kernel
theorem dX0_binary_75 : decode cX0_binary 75 = .ok (.invokevirtual 197, 3) := by decide +kernel
theorem dX0_binary_78 : decode cX0_binary 78 = .ok (.goto 161, 3) := by decide +kernel
theorem dX0_binary_8 : decode cX0_binary 8 = .ok (.aload_n 0, 1) := by decide +kernel
theorem dX0_binary_81 : decode cX0_binary 81 = .ok (.iload_n 1, 1) := by decide +kernel
theorem dX0_binary_82 : decode cX0_binary 82 = .ok (.bipush 26, 2) := by decide +kernel
theorem dX0_binary_84 : decode cX0_binary 84 = .ok (.if_icmp .lt 79, 3) := by decide +kernel
theorem dX0_binary_87 : decode cX0_binary 87 = .ok (.aload_n 0, 1) := by decide +kernel
theorem dX0_binary_88 : decode cX0_binary 88 = .ok (.getfield 21, 3) := by decide +kernel
theorem dX0_binary_9 : decode cX0_binary 9 = .ok (.iconst 1, 1) := by decide +kernel
theorem dX0_binary_91 : decode cX0_binary 91 = .ok (.aload_n 0, 1) := by decide +kernel
theorem dX0_binary_92 : decode cX0_binary 92 = .ok (.getfield 24, 3) := by decide +kernel
theorem dX0_binary_95 : decode cX0_binary 95 = .ok (.aload_n 0, 1) := by decide +kernel
theorem dX0_binary_96 : decode cX0_binary 96 = .ok (.getfield 62, 3) := by decide +kernel
theorem dX0_binary_99 : decode cX0_binary 99 = .ok (.iconst 2, 1) := by decide +kernel
noncomputable def k_X0_binary_178 (s : t_S) : Option (t_S) :=
 t_let (t_setI s 334 12 (1 : Int32)) (fun s1 =>
 some (s1))
set_option maxRecDepth 4000 in
set_option maxHeartbeats 1000000 in
theorem B_X0_binary_178 {D : va_G} {cy : Nat → ClassId} {ad : Nat → Nat} {bs : Nat} {X : State → Heap → Prop} (s : t_S) (Q : t_S → Prop) (hk : t_hk (k_X0_binary_178 s) Q) : mj_G D cy ad bs X cX0_binary 7 yX0_binary.cls none yX0_binary.name 3 0 0 1065 (t_P (fun v s' => v = none ∧ Q (s'))) 178 [(0, .ref 334)] [] (t_m s) 1065 0 0 := by
  refine mj_aload_n dX0_binary_178 0 rfl ?_
  refine mj_iconst (v := 1) dX0_binary_179 (by decide) ?_
  refine t_putIK dX0_binary_180 F_X0_71 qf_334_12 rfl (fun s1 ws1 => t_letE hk ws1 (fun hk => ?_))
  refine mj_goto 239 dX0_binary_183 (by decide) ?_
  exact t_somK hk (fun hf => t_vret dX0_binary_239 rfl ⟨rfl, hf⟩ (Nat.le_of_ble_eq_true rfl) (Nat.le_of_ble_eq_true rfl))
noncomputable def k_X0_binary_154 (k0 : Int32) (s : t_S) : Option (t_S) :=
 (f_X0_replaceTop (f_X0_truth k0 s) s).bind (fun r2 =>
 some (r2))
set_option maxRecDepth 4000 in
set_option maxHeartbeats 1000000 in
theorem B_X0_binary_154 {D : va_G} {cy : Nat → ClassId} {ad : Nat → Nat} {bs : Nat} {X : State → Heap → Prop} (k0 : Int32) (s : t_S) (Q : t_S → Prop) (hk : t_hk (k_X0_binary_154 k0 s) Q) : mj_G D cy ad bs X cX0_binary 7 yX0_binary.cls none yX0_binary.name 3 0 0 1065 (t_P (fun v s' => v = none ∧ Q (s'))) 154 [] [.int k0, .ref 334] (t_m s) 1065 0 0 := by
  refine t_callSlP dX0_binary_154 M_X0_truth (C_X0_truth _ _) ML_X0_142 SM_X0_truth (As := [.int k0]) rfl rfl (Nat.le_of_ble_eq_true rfl) (Nat.le_of_ble_eq_true rfl) (Nat.le_of_ble_eq_true rfl) (Nat.le_of_ble_eq_true rfl) ?_
  refine t_bndK hk (fun r2 er2 hk => ?_)
  refine t_callVvE dX0_binary_157 M_X0_replaceTop (C_X0_replaceTop _ _ _ er2) ML_X0_170 IM_X0_replaceTop SE_X0_replaceTop qc_334 rfl (As := [.long (f_X0_truth k0 s)]) rfl rfl (Nat.le_of_ble_eq_true rfl) (Nat.le_of_ble_eq_true rfl) (Nat.le_of_ble_eq_true rfl) (Nat.le_of_ble_eq_true rfl) ?_
  refine mj_goto 239 dX0_binary_160 (by decide) ?_
  exact t_somK hk (fun hf => t_vret dX0_binary_239 rfl ⟨rfl, hf⟩ (Nat.le_of_ble_eq_true rfl) (Nat.le_of_ble_eq_true rfl))
noncomputable def k_X0_binary_146 (k0 : Int32) (k1 : Int32) (s : t_S) : Option (t_S) :=
 if k1 = k0 then (k_X0_binary_154 1 s)
 else (k_X0_binary_154 0 s)
set_option maxRecDepth 4000 in
set_option maxHeartbeats 1000000 in
theorem B_X0_binary_146 {D : va_G} {cy : Nat → ClassId} {ad : Nat → Nat} {bs : Nat} {X : State → Heap → Prop} (k0 : Int32) (k1 : Int32) (s : t_S) (Q : t_S → Prop) (hk : t_hk (k_X0_binary_146 k0 k1 s) Q) : mj_G D cy ad bs X cX0_binary 7 yX0_binary.cls none yX0_binary.name 3 0 0 1065 (t_P (fun v s' => v = none ∧ Q (s'))) 146 [] [.int k0, .int k1, .ref 334] (t_m s) 1065 0 0 := by
  refine mj_icmp_ne 153 dX0_binary_146 (by decide) (fun z => t_negK hk z (fun hk => ?_)) (fun z => t_posK hk z (fun hk => ?_))
  · refine mj_iconst (v := 0) dX0_binary_153 (by decide) ?_
    exact B_X0_binary_154 _ _ _ hk
  · refine mj_iconst (v := 1) dX0_binary_149 (by decide) ?_
    refine mj_goto 154 dX0_binary_150 (by decide) ?_
    exact B_X0_binary_154 _ _ _ hk
noncomputable def f_X0_binary (x1 : Int32) (s : t_S) : Option (t_S) :=
 if (2 : Int32) ≤ (s.1 334 7) then (if t_ix ((s.1 334 7) - (2 : Int32)) 3201 = true then
  if t_ix (s.1 339 (((s.1 334 7) - (2 : Int32)).toNatClampNeg)) 48000 = true then
  if t_ix ((s.1 334 7) - (1 : Int32)) 3201 = true then
  if t_ix (s.1 339 (((s.1 334 7) - (1 : Int32)).toNatClampNeg)) 48000 = true then
  if x1 = (15 : Int32) then ((f_X0_index (s.2.1 338 ((s.1 339 (((s.1 334 7) - (2 : Int32)).toNatClampNeg)).toNatClampNeg)) (s.2.1 338 ((s.1 339 (((s.1 334 7) - (1 : Int32)).toNatClampNeg)).toNatClampNeg)) s).bind (fun r17 =>
 some (r17)))
 else (if x1 = (21 : Int32) then ((f_X0_join (s.2.1 338 ((s.1 339 (((s.1 334 7) - (2 : Int32)).toNatClampNeg)).toNatClampNeg)) (s.2.1 338 ((s.1 339 (((s.1 334 7) - (1 : Int32)).toNatClampNeg)).toNatClampNeg)) s).bind (fun r16 =>
 some (r16)))
 else (if x1 < (26 : Int32) then (if (f_X8_kind (s.2.1 338 ((s.1 339 (((s.1 334 7) - (2 : Int32)).toNatClampNeg)).toNatClampNeg)) s) = (0 : Int32) then (if (f_X8_kind (s.2.1 338 ((s.1 339 (((s.1 334 7) - (1 : Int32)).toNatClampNeg)).toNatClampNeg)) s) = (0 : Int32) then (if x1 < (22 : Int32) then ((f_X0_reckon x1 (f_X8_told (s.2.1 338 ((s.1 339 (((s.1 334 7) - (2 : Int32)).toNatClampNeg)).toNatClampNeg)) s) (f_X8_told (s.2.1 338 ((s.1 339 (((s.1 334 7) - (1 : Int32)).toNatClampNeg)).toNatClampNeg)) s) s).bind (fun r9 =>
 some (r9)))
 else (t_let (t_setI s 334 7 ((s.1 334 7) - (1 : Int32))) (fun s1 =>
 (f_X0_replaceTop (f_X0_truth (f_X0_isOrdered x1 (f_X8_told (s.2.1 338 ((s.1 339 (((s.1 334 7) - (2 : Int32)).toNatClampNeg)).toNatClampNeg)) s1) (f_X8_told (s.2.1 338 ((s.1 339 (((s.1 334 7) - (1 : Int32)).toNatClampNeg)).toNatClampNeg)) s1) s1) s1) s1).bind (fun r14 =>
 some (r14)))))
 else (k_X0_binary_178 s))
 else (k_X0_binary_178 s))
 else ((f_X8_same 338 (s.1 339 (((s.1 334 7) - (2 : Int32)).toNatClampNeg)) 338 (s.1 339 (((s.1 334 7) - (1 : Int32)).toNatClampNeg)) s).bind (fun r15 =>
 t_let (t_setI s 334 7 ((s.1 334 7) - (1 : Int32))) (fun s2 =>
 if x1 = (26 : Int32) then (k_X0_binary_146 1 r15 s2)
 else (k_X0_binary_146 0 r15 s2))))))
else none
else none
else none
else none)
 else (t_let (t_setI s 334 12 (1 : Int32)) (fun s3 =>
 some (s3)))
set_option maxRecDepth 4000 in
set_option maxHeartbeats 1000000 in
theorem C_X0_binary (x1 : Int32) (s : t_S) (r : t_S) (hr : f_X0_binary x1 s = some r) : t_C yX0_binary cX0_binary 7 none 3 [.ref 334, .int x1] s (fun v s' => v = none ∧ s' = r) := by
  refine t_C.imp (P := fun v s' => v = none ∧ (fun q => q = r) (s')) (t_C.of (by decide +kernel) (Nat.le_of_ble_eq_true rfl) ?_) (fun v s' hp => hp)
  intro D cy ad bs X
  have hk : t_hk (f_X0_binary x1 s) (fun q => q = r) := ⟨r, hr, rfl⟩
  show mj_G D cy ad bs X cX0_binary 7 yX0_binary.cls none yX0_binary.name 3 0 0 1065 (t_P (fun v s' => v = none ∧ (fun q => q = r) (s'))) 0 [(0, .ref 334), (1, .int x1)] [] (t_m s) 1065 0 0
  refine mj_aload_n dX0_binary_0 0 rfl ?_
  refine t_getI dX0_binary_1 F_X0_62 qf_334_7 ?_
  refine mj_iconst (v := 2) dX0_binary_4 (by decide) ?_
  refine mj_icmp_ge 14 dX0_binary_5 (by decide) (fun z => t_posK hk z (fun hk => ?_)) (fun z => t_negK hk z (fun hk => ?_))
  · refine mj_aload_n dX0_binary_14 0 rfl ?_
    refine t_getR 338 dX0_binary_15 F_X0_21 qr_334_5 ?_
    refine mj_aload_n dX0_binary_18 0 rfl ?_
    refine t_getR 339 dX0_binary_19 F_X0_24 qr_334_6 ?_
    refine mj_aload_n dX0_binary_22 0 rfl ?_
    refine t_getI dX0_binary_23 F_X0_62 qf_334_7 ?_
    refine mj_iconst (v := 2) dX0_binary_26 (by decide) ?_
    refine mj_isub dX0_binary_27 ?_
    refine t_chkK hk (fun c0 hk => ?_)
    refine t_iald dX0_binary_28 qa_339 (t_ixv c0) ?_
    refine t_chkK hk (fun c1 hk => ?_)
    refine t_lald dX0_binary_29 qa_338 (t_ixv c1) ?_
    refine mj_lstore_n 2 (lv2 := [(2, .long (s.2.1 338 ((s.1 339 (((s.1 334 7) - (2 : Int32)).toNatClampNeg)).toNatClampNeg))), (0, .ref 334), (1, .int x1)]) dX0_binary_30 rfl (by decide) rfl ?_
    refine mj_aload_n dX0_binary_31 1 rfl ?_
    refine t_getR 338 dX0_binary_32 F_X0_21 qr_334_5 ?_
    refine mj_aload_n dX0_binary_35 1 rfl ?_
    refine t_getR 339 dX0_binary_36 F_X0_24 qr_334_6 ?_
    refine mj_aload_n dX0_binary_39 1 rfl ?_
    refine t_getI dX0_binary_40 F_X0_62 qf_334_7 ?_
    refine mj_iconst (v := 1) dX0_binary_43 (by decide) ?_
    refine mj_isub dX0_binary_44 ?_
    refine t_chkK hk (fun c2 hk => ?_)
    refine t_iald dX0_binary_45 qa_339 (t_ixv c2) ?_
    refine t_chkK hk (fun c3 hk => ?_)
    refine t_lald dX0_binary_46 qa_338 (t_ixv c3) ?_
    refine mj_lstore (lv2 := [(4, .long (s.2.1 338 ((s.1 339 (((s.1 334 7) - (1 : Int32)).toNatClampNeg)).toNatClampNeg))), (2, .long (s.2.1 338 ((s.1 339 (((s.1 334 7) - (2 : Int32)).toNatClampNeg)).toNatClampNeg))), (0, .ref 334), (1, .int x1)]) dX0_binary_47 (by decide) rfl ?_
    refine mj_iload_n dX0_binary_49 3 rfl ?_
    refine mj_bipush (v := 15) dX0_binary_50 (by decide) ?_
    refine mj_icmp_ne 65 dX0_binary_52 (by decide) (fun z => t_negK hk z (fun hk => ?_)) (fun z => t_posK hk z (fun hk => ?_))
    · refine mj_iload_n dX0_binary_65 3 rfl ?_
      refine mj_bipush (v := 21) dX0_binary_66 (by decide) ?_
      refine mj_icmp_ne 81 dX0_binary_68 (by decide) (fun z => t_negK hk z (fun hk => ?_)) (fun z => t_posK hk z (fun hk => ?_))
      · refine mj_iload_n dX0_binary_81 3 rfl ?_
        refine mj_bipush (v := 26) dX0_binary_82 (by decide) ?_
        refine mj_icmp_lt 163 dX0_binary_84 (by decide) (fun z => t_posK hk z (fun hk => ?_)) (fun z => t_negK hk z (fun hk => ?_))
        · refine mj_lload_n dX0_binary_163 1 rfl ?_
          refine t_callSiP dX0_binary_164 M_X8_kind (C_X8_kind _ _) ML_X0_160 SM_X8_kind (As := [.long (s.2.1 338 ((s.1 339 (((s.1 334 7) - (2 : Int32)).toNatClampNeg)).toNatClampNeg))]) rfl rfl (Nat.le_of_ble_eq_true rfl) (Nat.le_of_ble_eq_true rfl) (Nat.le_of_ble_eq_true rfl) (Nat.le_of_ble_eq_true rfl) ?_
          refine mj_if_ne 178 dX0_binary_167 (by decide) (fun z => t_negK hk z (fun hk => ?_)) (fun z => t_posK hk z (fun hk => ?_))
          · refine mj_sublv [(0, .ref 334)] [2] rfl ?_
            exact B_X0_binary_178 _ _ hk
          · refine mj_lload dX0_binary_170 0 rfl ?_
            refine t_callSiP dX0_binary_172 M_X8_kind (C_X8_kind _ _) ML_X0_160 SM_X8_kind (As := [.long (s.2.1 338 ((s.1 339 (((s.1 334 7) - (1 : Int32)).toNatClampNeg)).toNatClampNeg))]) rfl rfl (Nat.le_of_ble_eq_true rfl) (Nat.le_of_ble_eq_true rfl) (Nat.le_of_ble_eq_true rfl) (Nat.le_of_ble_eq_true rfl) ?_
            refine mj_if_eq 186 dX0_binary_175 (by decide) (fun z => t_posK hk z (fun hk => ?_)) (fun z => t_negK hk z (fun hk => ?_))
            · refine mj_iload_n dX0_binary_186 3 rfl ?_
              refine mj_bipush (v := 22) dX0_binary_187 (by decide) ?_
              refine mj_icmp_lt 225 dX0_binary_189 (by decide) (fun z => t_posK hk z (fun hk => ?_)) (fun z => t_negK hk z (fun hk => ?_))
              · refine mj_aload_n dX0_binary_225 2 rfl ?_
                refine mj_iload_n dX0_binary_226 3 rfl ?_
                refine mj_lload_n dX0_binary_227 1 rfl ?_
                refine t_callSlP dX0_binary_228 M_X8_told (C_X8_told _ _) ML_X0_166 SM_X8_told (As := [.long (s.2.1 338 ((s.1 339 (((s.1 334 7) - (2 : Int32)).toNatClampNeg)).toNatClampNeg))]) rfl rfl (Nat.le_of_ble_eq_true rfl) (Nat.le_of_ble_eq_true rfl) (Nat.le_of_ble_eq_true rfl) (Nat.le_of_ble_eq_true rfl) ?_
                refine mj_lload dX0_binary_231 0 rfl ?_
                refine t_callSlP dX0_binary_233 M_X8_told (C_X8_told _ _) ML_X0_166 SM_X8_told (As := [.long (s.2.1 338 ((s.1 339 (((s.1 334 7) - (1 : Int32)).toNatClampNeg)).toNatClampNeg))]) rfl rfl (Nat.le_of_ble_eq_true rfl) (Nat.le_of_ble_eq_true rfl) (Nat.le_of_ble_eq_true rfl) (Nat.le_of_ble_eq_true rfl) ?_
                refine t_bndK hk (fun r9 er9 hk => ?_)
                refine t_callVvE dX0_binary_236 M_X0_reckon (C_X0_reckon _ _ _ _ _ er9) ML_X0_208 IM_X0_reckon SE_X0_reckon qc_334 rfl (As := [.int x1, .long (f_X8_told (s.2.1 338 ((s.1 339 (((s.1 334 7) - (2 : Int32)).toNatClampNeg)).toNatClampNeg)) s), .long (f_X8_told (s.2.1 338 ((s.1 339 (((s.1 334 7) - (1 : Int32)).toNatClampNeg)).toNatClampNeg)) s)]) rfl rfl (Nat.le_of_ble_eq_true rfl) (Nat.le_of_ble_eq_true rfl) (Nat.le_of_ble_eq_true rfl) (Nat.le_of_ble_eq_true rfl) ?_
                exact t_somK hk (fun hf => t_vret dX0_binary_239 rfl ⟨rfl, hf⟩ (Nat.le_of_ble_eq_true rfl) (Nat.le_of_ble_eq_true rfl))
              · refine mj_aload_n dX0_binary_192 2 rfl ?_
                refine mj_dup dX0_binary_193 rfl ?_
                refine t_getI dX0_binary_194 F_X0_62 qf_334_7 ?_
                refine mj_iconst (v := 1) dX0_binary_197 (by decide) ?_
                refine mj_isub dX0_binary_198 ?_
                refine t_putIK dX0_binary_199 F_X0_62 qf_334_7 rfl (fun s1 ws1 => t_letE hk ws1 (fun hk => ?_))
                refine mj_aload_n dX0_binary_202 2 rfl ?_
                refine mj_iload_n dX0_binary_203 3 rfl ?_
                refine mj_lload_n dX0_binary_204 1 rfl ?_
                refine t_callSlP dX0_binary_205 M_X8_told (C_X8_told _ _) ML_X0_166 SM_X8_told (As := [.long (s.2.1 338 ((s.1 339 (((s.1 334 7) - (2 : Int32)).toNatClampNeg)).toNatClampNeg))]) rfl rfl (Nat.le_of_ble_eq_true rfl) (Nat.le_of_ble_eq_true rfl) (Nat.le_of_ble_eq_true rfl) (Nat.le_of_ble_eq_true rfl) ?_
                refine mj_lload dX0_binary_208 0 rfl ?_
                refine t_callSlP dX0_binary_210 M_X8_told (C_X8_told _ _) ML_X0_166 SM_X8_told (As := [.long (s.2.1 338 ((s.1 339 (((s.1 334 7) - (1 : Int32)).toNatClampNeg)).toNatClampNeg))]) rfl rfl (Nat.le_of_ble_eq_true rfl) (Nat.le_of_ble_eq_true rfl) (Nat.le_of_ble_eq_true rfl) (Nat.le_of_ble_eq_true rfl) ?_
                refine t_callSiP dX0_binary_213 M_X0_isOrdered (C_X0_isOrdered _ _ _ _) ML_X0_204 SM_X0_isOrdered (As := [.int x1, .long (f_X8_told (s.2.1 338 ((s.1 339 (((s.1 334 7) - (2 : Int32)).toNatClampNeg)).toNatClampNeg)) s1), .long (f_X8_told (s.2.1 338 ((s.1 339 (((s.1 334 7) - (1 : Int32)).toNatClampNeg)).toNatClampNeg)) s1)]) rfl rfl (Nat.le_of_ble_eq_true rfl) (Nat.le_of_ble_eq_true rfl) (Nat.le_of_ble_eq_true rfl) (Nat.le_of_ble_eq_true rfl) ?_
                refine t_callSlP dX0_binary_216 M_X0_truth (C_X0_truth _ _) ML_X0_142 SM_X0_truth (As := [.int (f_X0_isOrdered x1 (f_X8_told (s.2.1 338 ((s.1 339 (((s.1 334 7) - (2 : Int32)).toNatClampNeg)).toNatClampNeg)) s1) (f_X8_told (s.2.1 338 ((s.1 339 (((s.1 334 7) - (1 : Int32)).toNatClampNeg)).toNatClampNeg)) s1) s1)]) rfl rfl (Nat.le_of_ble_eq_true rfl) (Nat.le_of_ble_eq_true rfl) (Nat.le_of_ble_eq_true rfl) (Nat.le_of_ble_eq_true rfl) ?_
                refine t_bndK hk (fun r14 er14 hk => ?_)
                refine t_callVvE dX0_binary_219 M_X0_replaceTop (C_X0_replaceTop _ _ _ er14) ML_X0_170 IM_X0_replaceTop SE_X0_replaceTop qc_334 rfl (As := [.long (f_X0_truth (f_X0_isOrdered x1 (f_X8_told (s.2.1 338 ((s.1 339 (((s.1 334 7) - (2 : Int32)).toNatClampNeg)).toNatClampNeg)) s1) (f_X8_told (s.2.1 338 ((s.1 339 (((s.1 334 7) - (1 : Int32)).toNatClampNeg)).toNatClampNeg)) s1) s1) s1)]) rfl rfl (Nat.le_of_ble_eq_true rfl) (Nat.le_of_ble_eq_true rfl) (Nat.le_of_ble_eq_true rfl) (Nat.le_of_ble_eq_true rfl) ?_
                refine mj_goto 239 dX0_binary_222 (by decide) ?_
                exact t_somK hk (fun hf => t_vret dX0_binary_239 rfl ⟨rfl, hf⟩ (Nat.le_of_ble_eq_true rfl) (Nat.le_of_ble_eq_true rfl))
            · refine mj_sublv [(0, .ref 334)] [2] rfl ?_
              exact B_X0_binary_178 _ _ hk
        · refine mj_aload_n dX0_binary_87 2 rfl ?_
          refine t_getR 338 dX0_binary_88 F_X0_21 qr_334_5 ?_
          refine mj_aload_n dX0_binary_91 2 rfl ?_
          refine t_getR 339 dX0_binary_92 F_X0_24 qr_334_6 ?_
          refine mj_aload_n dX0_binary_95 2 rfl ?_
          refine t_getI dX0_binary_96 F_X0_62 qf_334_7 ?_
          refine mj_iconst (v := 2) dX0_binary_99 (by decide) ?_
          refine mj_isub dX0_binary_100 ?_
          refine t_iald dX0_binary_101 qa_339 (t_ixv c0) ?_
          refine mj_aload_n dX0_binary_102 2 rfl ?_
          refine t_getR 338 dX0_binary_103 F_X0_21 qr_334_5 ?_
          refine mj_aload_n dX0_binary_106 2 rfl ?_
          refine t_getR 339 dX0_binary_107 F_X0_24 qr_334_6 ?_
          refine mj_aload_n dX0_binary_110 2 rfl ?_
          refine t_getI dX0_binary_111 F_X0_62 qf_334_7 ?_
          refine mj_iconst (v := 1) dX0_binary_114 (by decide) ?_
          refine mj_isub dX0_binary_115 ?_
          refine t_iald dX0_binary_116 qa_339 (t_ixv c2) ?_
          refine t_bndK hk (fun r15 er15 hk => ?_)
          refine t_callSiP dX0_binary_117 M_X8_same (C_X8_same _ _ _ _ _ _ er15) ML_X0_200 SM_X8_same (As := [.ref 338, .int (s.1 339 (((s.1 334 7) - (2 : Int32)).toNatClampNeg)), .ref 338, .int (s.1 339 (((s.1 334 7) - (1 : Int32)).toNatClampNeg))]) rfl rfl (Nat.le_of_ble_eq_true rfl) (Nat.le_of_ble_eq_true rfl) (Nat.le_of_ble_eq_true rfl) (Nat.le_of_ble_eq_true rfl) ?_
          refine mj_istore (lv2 := [(6, .int r15), (4, .long (s.2.1 338 ((s.1 339 (((s.1 334 7) - (1 : Int32)).toNatClampNeg)).toNatClampNeg))), (2, .long (s.2.1 338 ((s.1 339 (((s.1 334 7) - (2 : Int32)).toNatClampNeg)).toNatClampNeg))), (0, .ref 334), (1, .int x1)]) dX0_binary_120 (by decide) rfl ?_
          refine mj_aload_n dX0_binary_122 3 rfl ?_
          refine mj_dup dX0_binary_123 rfl ?_
          refine t_getI dX0_binary_124 F_X0_62 qf_334_7 ?_
          refine mj_iconst (v := 1) dX0_binary_127 (by decide) ?_
          refine mj_isub dX0_binary_128 ?_
          refine t_putIK dX0_binary_129 F_X0_62 qf_334_7 rfl (fun s2 ws2 => t_letE hk ws2 (fun hk => ?_))
          refine mj_aload_n dX0_binary_132 3 rfl ?_
          refine mj_iload dX0_binary_133 0 rfl ?_
          refine mj_iload_n dX0_binary_135 4 rfl ?_
          refine mj_bipush (v := 26) dX0_binary_136 (by decide) ?_
          refine mj_icmp_ne 145 dX0_binary_138 (by decide) (fun z => t_negK hk z (fun hk => ?_)) (fun z => t_posK hk z (fun hk => ?_))
          · refine mj_iconst (v := 0) dX0_binary_145 (by decide) ?_
            refine mj_sublv [] [] rfl ?_
            exact B_X0_binary_146 _ _ _ _ hk
          · refine mj_iconst (v := 1) dX0_binary_141 (by decide) ?_
            refine mj_goto 146 dX0_binary_142 (by decide) ?_
            refine mj_sublv [] [] rfl ?_
            exact B_X0_binary_146 _ _ _ _ hk
      · refine mj_aload_n dX0_binary_71 2 rfl ?_
        refine mj_lload_n dX0_binary_72 1 rfl ?_
        refine mj_lload dX0_binary_73 0 rfl ?_
        refine t_bndK hk (fun r16 er16 hk => ?_)
        refine t_callVvE dX0_binary_75 M_X0_join (C_X0_join _ _ _ _ er16) ML_X0_197 IM_X0_join SE_X0_join qc_334 rfl (As := [.long (s.2.1 338 ((s.1 339 (((s.1 334 7) - (2 : Int32)).toNatClampNeg)).toNatClampNeg)), .long (s.2.1 338 ((s.1 339 (((s.1 334 7) - (1 : Int32)).toNatClampNeg)).toNatClampNeg))]) rfl rfl (Nat.le_of_ble_eq_true rfl) (Nat.le_of_ble_eq_true rfl) (Nat.le_of_ble_eq_true rfl) (Nat.le_of_ble_eq_true rfl) ?_
        refine mj_goto 239 dX0_binary_78 (by decide) ?_
        exact t_somK hk (fun hf => t_vret dX0_binary_239 rfl ⟨rfl, hf⟩ (Nat.le_of_ble_eq_true rfl) (Nat.le_of_ble_eq_true rfl))
    · refine mj_aload_n dX0_binary_55 2 rfl ?_
      refine mj_lload_n dX0_binary_56 1 rfl ?_
      refine mj_lload dX0_binary_57 0 rfl ?_
      refine t_bndK hk (fun r17 er17 hk => ?_)
      refine t_callVvE dX0_binary_59 M_X0_index (C_X0_index _ _ _ _ er17) ML_X0_193 IM_X0_index SE_X0_index qc_334 rfl (As := [.long (s.2.1 338 ((s.1 339 (((s.1 334 7) - (2 : Int32)).toNatClampNeg)).toNatClampNeg)), .long (s.2.1 338 ((s.1 339 (((s.1 334 7) - (1 : Int32)).toNatClampNeg)).toNatClampNeg))]) rfl rfl (Nat.le_of_ble_eq_true rfl) (Nat.le_of_ble_eq_true rfl) (Nat.le_of_ble_eq_true rfl) (Nat.le_of_ble_eq_true rfl) ?_
      refine mj_goto 239 dX0_binary_62 (by decide) ?_
      exact t_somK hk (fun hf => t_vret dX0_binary_239 rfl ⟨rfl, hf⟩ (Nat.le_of_ble_eq_true rfl) (Nat.le_of_ble_eq_true rfl))
  · refine mj_aload_n dX0_binary_8 0 rfl ?_
    refine mj_iconst (v := 1) dX0_binary_9 (by decide) ?_
    refine t_putIK dX0_binary_10 F_X0_71 qf_334_12 rfl (fun s3 ws3 => t_letE hk ws3 (fun hk => ?_))
    exact t_somK hk (fun hf => t_vret dX0_binary_13 rfl ⟨rfl, hf⟩ (Nat.le_of_ble_eq_true rfl) (Nat.le_of_ble_eq_true rfl))

theorem dX0_clear_0 : decode cX0_clear 0 = .ok (.aload_n 0, 1) := by decide +kernel
theorem dX0_clear_1 : decode cX0_clear 1 = .ok (.iconst 0, 1) := by decide +kernel
theorem dX0_clear_10 : decode cX0_clear 10 = .ok (.iconst 0, 1) := by decide +kernel
theorem dX0_clear_11 : decode cX0_clear 11 = .ok (.iastore, 1) := by decide +kernel
theorem dX0_clear_12 : decode cX0_clear 12 = .ok (.return_, 1) := by decide +kernel
theorem dX0_clear_2 : decode cX0_clear 2 = .ok (.putfield 62, 3) := by decide +kernel
theorem dX0_clear_5 : decode cX0_clear 5 = .ok (.aload_n 0, 1) := by decide +kernel
theorem dX0_clear_6 : decode cX0_clear 6 = .ok (.getfield 24, 3) := by decide +kernel
theorem dX0_clear_9 : decode cX0_clear 9 = .ok (.iconst 0, 1) := by decide +kernel
noncomputable def f_X0_clear (s : t_S) : Option (t_S) :=
 t_let (t_setI s 334 7 (0 : Int32)) (fun s1 =>
 t_let (t_setI s1 339 ((0 : Int32).toNatClampNeg) (0 : Int32)) (fun s2 =>
 some (s2)))
set_option maxRecDepth 4000 in
set_option maxHeartbeats 1000000 in
theorem C_X0_clear (s : t_S) (r : t_S) (hr : f_X0_clear s = some r) : t_C yX0_clear cX0_clear 1 none 0 [.ref 334] s (fun v s' => v = none ∧ s' = r) := by
  refine t_C.imp (P := fun v s' => v = none ∧ (fun q => q = r) (s')) (t_C.of (by decide +kernel) (Nat.le_of_ble_eq_true rfl) ?_) (fun v s' hp => hp)
  intro D cy ad bs X
  have hk : t_hk (f_X0_clear s) (fun q => q = r) := ⟨r, hr, rfl⟩
  show mj_G D cy ad bs X cX0_clear 1 yX0_clear.cls none yX0_clear.name 0 0 0 1065 (t_P (fun v s' => v = none ∧ (fun q => q = r) (s'))) 0 [(0, .ref 334)] [] (t_m s) 1065 0 0
  refine mj_aload_n dX0_clear_0 0 rfl ?_
  refine mj_iconst (v := 0) dX0_clear_1 (by decide) ?_
  refine t_putIK dX0_clear_2 F_X0_62 qf_334_7 rfl (fun s1 ws1 => t_letE hk ws1 (fun hk => ?_))
  refine mj_aload_n dX0_clear_5 0 rfl ?_
  refine t_getR 339 dX0_clear_6 F_X0_24 qr_334_6 ?_
  refine mj_iconst (v := 0) dX0_clear_9 (by decide) ?_
  refine mj_iconst (v := 0) dX0_clear_10 (by decide) ?_
  refine t_iastK dX0_clear_11 qa_339 (by unfold vp_in; decide) (fun s2 ws2 => t_letE hk ws2 (fun hk => ?_))
  exact t_somK hk (fun hf => t_vret dX0_clear_12 rfl ⟨rfl, hf⟩ (Nat.le_of_ble_eq_true rfl) (Nat.le_of_ble_eq_true rfl))

theorem dX0_emit_0 : decode cX0_emit 0 = .ok (.aload_n 0, 1) := by decide +kernel
theorem dX0_emit_1 : decode cX0_emit 1 = .ok (.getfield 51, 3) := by decide +kernel
theorem dX0_emit_10 : decode cX0_emit 10 = .ok (.sipush 15999, 3) := by decide +kernel
theorem dX0_emit_13 : decode cX0_emit 13 = .ok (.ireturn, 1) := by decide +kernel
theorem dX0_emit_14 : decode cX0_emit 14 = .ok (.aload_n 0, 1) := by decide +kernel
theorem dX0_emit_15 : decode cX0_emit 15 = .ok (.getfield 9, 3) := by decide +kernel
theorem dX0_emit_18 : decode cX0_emit 18 = .ok (.aload_n 0, 1) := by decide +kernel
theorem dX0_emit_19 : decode cX0_emit 19 = .ok (.getfield 51, 3) := by decide +kernel
theorem dX0_emit_22 : decode cX0_emit 22 = .ok (.iload_n 1, 1) := by decide +kernel
theorem dX0_emit_23 : decode cX0_emit 23 = .ok (.iastore, 1) := by decide +kernel
theorem dX0_emit_24 : decode cX0_emit 24 = .ok (.aload_n 0, 1) := by decide +kernel
theorem dX0_emit_25 : decode cX0_emit 25 = .ok (.getfield 13, 3) := by decide +kernel
theorem dX0_emit_28 : decode cX0_emit 28 = .ok (.aload_n 0, 1) := by decide +kernel
theorem dX0_emit_29 : decode cX0_emit 29 = .ok (.getfield 51, 3) := by decide +kernel
theorem dX0_emit_32 : decode cX0_emit 32 = .ok (.iload_n 2, 1) := by decide +kernel
theorem dX0_emit_33 : decode cX0_emit 33 = .ok (.iastore, 1) := by decide +kernel
theorem dX0_emit_34 : decode cX0_emit 34 = .ok (.aload_n 0, 1) := by decide +kernel
theorem dX0_emit_35 : decode cX0_emit 35 = .ok (.dup, 1) := by decide +kernel
theorem dX0_emit_36 : decode cX0_emit 36 = .ok (.getfield 51, 3) := by decide +kernel
theorem dX0_emit_39 : decode cX0_emit 39 = .ok (.iconst 1, 1) := by decide +kernel
theorem dX0_emit_4 : decode cX0_emit 4 = .ok (.sipush 16000, 3) := by decide +kernel
theorem dX0_emit_40 : decode cX0_emit 40 = .ok (.iadd, 1) := by decide +kernel
theorem dX0_emit_41 : decode cX0_emit 41 = .ok (.putfield 51, 3) := by decide +kernel
theorem dX0_emit_44 : decode cX0_emit 44 = .ok (.aload_n 0, 1) := by decide +kernel
theorem dX0_emit_45 : decode cX0_emit 45 = .ok (.getfield 51, 3) := by decide +kernel
theorem dX0_emit_48 : decode cX0_emit 48 = .ok (.iconst 1, 1) := by decide +kernel
theorem dX0_emit_49 : decode cX0_emit 49 = .ok (.isub, 1) := by decide +kernel
theorem dX0_emit_50 : decode cX0_emit 50 = .ok (.ireturn, 1) := by decide +kernel
theorem dX0_emit_7 : decode cX0_emit 7 = .ok (.if_icmp .lt 7, 3) := by decide +kernel
noncomputable def f_X0_emit (x1 : Int32) (x2 : Int32) (s : t_S) : Option (Int32 × t_S) :=
 if (s.1 334 2) < (16000 : Int32) then (if t_ix (s.1 334 2) 16000 = true then
  t_let (t_setI s 335 ((s.1 334 2).toNatClampNeg) x1) (fun s1 =>
 if t_ix (s1.1 334 2) 16000 = true then
  t_let (t_setI s1 336 ((s1.1 334 2).toNatClampNeg) x2) (fun s2 =>
 t_let (t_setI s2 334 2 ((s2.1 334 2) + (1 : Int32))) (fun s3 =>
 some (((s3.1 334 2) - (1 : Int32)), s3)))
else none)
else none)
 else (some ((15999 : Int32), s))
set_option maxRecDepth 4000 in
set_option maxHeartbeats 1000000 in
theorem C_X0_emit (x1 : Int32) (x2 : Int32) (s : t_S) (r : Int32 × t_S) (hr : f_X0_emit x1 x2 s = some r) : t_C yX0_emit cX0_emit 3 (some .int) 0 [.ref 334, .int x1, .int x2] s (fun v s' => v = some (.int r.1) ∧ s' = r.2) := by
  refine t_C.imp (P := fun v s' => ∃ x, v = some (.int x) ∧ (fun q => q = r) ((x, s'))) (t_C.of (by decide +kernel) (Nat.le_of_ble_eq_true rfl) ?_) (fun v s' hp => by obtain ⟨x, rfl, rfl⟩ := hp; exact ⟨rfl, rfl⟩)
  intro D cy ad bs X
  have hk : t_hk (f_X0_emit x1 x2 s) (fun q => q = r) := ⟨r, hr, rfl⟩
  show mj_G D cy ad bs X cX0_emit 3 yX0_emit.cls (some .int) yX0_emit.name 0 0 0 1065 (t_P (fun v s' => ∃ x, v = some (.int x) ∧ (fun q => q = r) ((x, s')))) 0 [(0, .ref 334), (1, .int x1), (2, .int x2)] [] (t_m s) 1065 0 0
  refine mj_aload_n dX0_emit_0 0 rfl ?_
  refine t_getI dX0_emit_1 F_X0_51 qf_334_2 ?_
  refine mj_sipush (v := 16000) dX0_emit_4 (by decide) ?_
  refine mj_icmp_lt 14 dX0_emit_7 (by decide) (fun z => t_posK hk z (fun hk => ?_)) (fun z => t_negK hk z (fun hk => ?_))
  · refine mj_aload_n dX0_emit_14 0 rfl ?_
    refine t_getR 335 dX0_emit_15 F_X0_9 qr_334_0 ?_
    refine mj_aload_n dX0_emit_18 0 rfl ?_
    refine t_getI dX0_emit_19 F_X0_51 qf_334_2 ?_
    refine mj_iload_n dX0_emit_22 1 rfl ?_
    refine t_chkK hk (fun c0 hk => ?_)
    refine t_iastK dX0_emit_23 qa_335 (t_ixv c0) (fun s1 ws1 => t_letE hk ws1 (fun hk => ?_))
    refine mj_aload_n dX0_emit_24 0 rfl ?_
    refine t_getR 336 dX0_emit_25 F_X0_13 qr_334_1 ?_
    refine mj_aload_n dX0_emit_28 0 rfl ?_
    refine t_getI dX0_emit_29 F_X0_51 qf_334_2 ?_
    refine mj_iload_n dX0_emit_32 2 rfl ?_
    refine t_chkK hk (fun c1 hk => ?_)
    refine t_iastK dX0_emit_33 qa_336 (t_ixv c1) (fun s2 ws2 => t_letE hk ws2 (fun hk => ?_))
    refine mj_aload_n dX0_emit_34 0 rfl ?_
    refine mj_dup dX0_emit_35 rfl ?_
    refine t_getI dX0_emit_36 F_X0_51 qf_334_2 ?_
    refine mj_iconst (v := 1) dX0_emit_39 (by decide) ?_
    refine mj_iadd dX0_emit_40 ?_
    refine t_putIK dX0_emit_41 F_X0_51 qf_334_2 rfl (fun s3 ws3 => t_letE hk ws3 (fun hk => ?_))
    refine mj_aload_n dX0_emit_44 0 rfl ?_
    refine t_getI dX0_emit_45 F_X0_51 qf_334_2 ?_
    refine mj_iconst (v := 1) dX0_emit_48 (by decide) ?_
    refine mj_isub dX0_emit_49 ?_
    exact t_somK hk (fun hf => t_iret dX0_emit_50 rfl rfl ⟨_, rfl, hf⟩ (Nat.le_of_ble_eq_true rfl) (Nat.le_of_ble_eq_true rfl))
  · refine mj_sipush (v := 15999) dX0_emit_10 (by decide) ?_
    exact t_somK hk (fun hf => t_iret dX0_emit_13 rfl rfl ⟨_, rfl, hf⟩ (Nat.le_of_ble_eq_true rfl) (Nat.le_of_ble_eq_true rfl))

theorem dX10_markSame_0 : decode cX10_markSame 0 = .ok (.aload_n 2, 1) := by decide +kernel
theorem dX10_markSame_1 : decode cX10_markSame 1 = .ok (.iload 4, 2) := by decide +kernel
theorem dX10_markSame_10 : decode cX10_markSame 10 = .ok (.getfield 34, 3) := by decide +kernel
theorem dX10_markSame_100 : decode cX10_markSame 100 = .ok (.lor, 1) := by decide +kernel
theorem dX10_markSame_101 : decode cX10_markSame 101 = .ok (.lastore, 1) := by decide +kernel
theorem dX10_markSame_102 : decode cX10_markSame 102 = .ok (.iinc 6 1, 3) := by decide +kernel
theorem dX10_markSame_105 : decode cX10_markSame 105 = .ok (.goto (-65), 3) := by decide +kernel
theorem dX10_markSame_108 : decode cX10_markSame 108 = .ok (.return_, 1) := by decide +kernel
theorem dX10_markSame_13 : decode cX10_markSame 13 = .ok (.iload_n 1, 1) := by decide +kernel
theorem dX10_markSame_14 : decode cX10_markSame 14 = .ok (.aload_n 2, 1) := by decide +kernel
theorem dX10_markSame_15 : decode cX10_markSame 15 = .ok (.iload_n 3, 1) := by decide +kernel
theorem dX10_markSame_16 : decode cX10_markSame 16 = .ok (.laload, 1) := by decide +kernel
theorem dX10_markSame_17 : decode cX10_markSame 17 = .ok (.invokestatic 122, 3) := by decide +kernel
theorem dX10_markSame_20 : decode cX10_markSame 20 = .ok (.iconst 4, 1) := by decide +kernel
theorem dX10_markSame_21 : decode cX10_markSame 21 = .ok (.if_icmp .ne 7, 3) := by decide +kernel
theorem dX10_markSame_24 : decode cX10_markSame 24 = .ok (.lconst 1, 1) := by decide +kernel
theorem dX10_markSame_25 : decode cX10_markSame 25 = .ok (.goto 4, 3) := by decide +kernel
theorem dX10_markSame_28 : decode cX10_markSame 28 = .ok (.lconst 0, 1) := by decide +kernel
theorem dX10_markSame_29 : decode cX10_markSame 29 = .ok (.lastore, 1) := by decide +kernel
theorem dX10_markSame_3 : decode cX10_markSame 3 = .ok (.laload, 1) := by decide +kernel
theorem dX10_markSame_30 : decode cX10_markSame 30 = .ok (.aload_n 0, 1) := by decide +kernel
theorem dX10_markSame_31 : decode cX10_markSame 31 = .ok (.getfield 38, 3) := by decide +kernel
theorem dX10_markSame_34 : decode cX10_markSame 34 = .ok (.iload_n 1, 1) := by decide +kernel
theorem dX10_markSame_35 : decode cX10_markSame 35 = .ok (.lconst 0, 1) := by decide +kernel
theorem dX10_markSame_36 : decode cX10_markSame 36 = .ok (.lastore, 1) := by decide +kernel
theorem dX10_markSame_37 : decode cX10_markSame 37 = .ok (.iconst 0, 1) := by decide +kernel
theorem dX10_markSame_38 : decode cX10_markSame 38 = .ok (.istore 6, 2) := by decide +kernel
theorem dX10_markSame_4 : decode cX10_markSame 4 = .ok (.invokestatic 125, 3) := by decide +kernel
theorem dX10_markSame_40 : decode cX10_markSame 40 = .ok (.iload 6, 2) := by decide +kernel
theorem dX10_markSame_42 : decode cX10_markSame 42 = .ok (.iload 5, 2) := by decide +kernel
theorem dX10_markSame_44 : decode cX10_markSame 44 = .ok (.if_icmp .ge 64, 3) := by decide +kernel
theorem dX10_markSame_47 : decode cX10_markSame 47 = .ok (.aload_n 2, 1) := by decide +kernel
theorem dX10_markSame_48 : decode cX10_markSame 48 = .ok (.iload_n 3, 1) := by decide +kernel
theorem dX10_markSame_49 : decode cX10_markSame 49 = .ok (.aload_n 2, 1) := by decide +kernel
theorem dX10_markSame_50 : decode cX10_markSame 50 = .ok (.iload 4, 2) := by decide +kernel
theorem dX10_markSame_52 : decode cX10_markSame 52 = .ok (.iload 6, 2) := by decide +kernel
theorem dX10_markSame_54 : decode cX10_markSame 54 = .ok (.iadd, 1) := by decide +kernel
theorem dX10_markSame_55 : decode cX10_markSame 55 = .ok (.invokestatic 128, 3) := by decide +kernel
theorem dX10_markSame_58 : decode cX10_markSame 58 = .ok (.ifCond .eq 44, 3) := by decide +kernel
theorem dX10_markSame_61 : decode cX10_markSame 61 = .ok (.iload 6, 2) := by decide +kernel
theorem dX10_markSame_63 : decode cX10_markSame 63 = .ok (.bipush 63, 2) := by decide +kernel
theorem dX10_markSame_65 : decode cX10_markSame 65 = .ok (.if_icmp .ge 21, 3) := by decide +kernel
theorem dX10_markSame_68 : decode cX10_markSame 68 = .ok (.aload_n 0, 1) := by decide +kernel
theorem dX10_markSame_69 : decode cX10_markSame 69 = .ok (.getfield 34, 3) := by decide +kernel
theorem dX10_markSame_7 : decode cX10_markSame 7 = .ok (.istore 5, 2) := by decide +kernel
theorem dX10_markSame_72 : decode cX10_markSame 72 = .ok (.iload_n 1, 1) := by decide +kernel
theorem dX10_markSame_73 : decode cX10_markSame 73 = .ok (.dup2, 1) := by decide +kernel
theorem dX10_markSame_74 : decode cX10_markSame 74 = .ok (.laload, 1) := by decide +kernel
theorem dX10_markSame_75 : decode cX10_markSame 75 = .ok (.lconst 1, 1) := by decide +kernel
theorem dX10_markSame_76 : decode cX10_markSame 76 = .ok (.iload 6, 2) := by decide +kernel
theorem dX10_markSame_78 : decode cX10_markSame 78 = .ok (.iconst 1, 1) := by decide +kernel
theorem dX10_markSame_79 : decode cX10_markSame 79 = .ok (.iadd, 1) := by decide +kernel
theorem dX10_markSame_80 : decode cX10_markSame 80 = .ok (.lshl, 1) := by decide +kernel
theorem dX10_markSame_81 : decode cX10_markSame 81 = .ok (.lor, 1) := by decide +kernel
theorem dX10_markSame_82 : decode cX10_markSame 82 = .ok (.lastore, 1) := by decide +kernel
theorem dX10_markSame_83 : decode cX10_markSame 83 = .ok (.goto 19, 3) := by decide +kernel
theorem dX10_markSame_86 : decode cX10_markSame 86 = .ok (.aload_n 0, 1) := by decide +kernel
theorem dX10_markSame_87 : decode cX10_markSame 87 = .ok (.getfield 38, 3) := by decide +kernel
theorem dX10_markSame_9 : decode cX10_markSame 9 = .ok (.aload_n 0, 1) := by decide +kernel
theorem dX10_markSame_90 : decode cX10_markSame 90 = .ok (.iload_n 1, 1) := by decide +kernel
theorem dX10_markSame_91 : decode cX10_markSame 91 = .ok (.dup2, 1) := by decide +kernel
theorem dX10_markSame_92 : decode cX10_markSame 92 = .ok (.laload, 1) := by decide +kernel
theorem dX10_markSame_93 : decode cX10_markSame 93 = .ok (.lconst 1, 1) := by decide +kernel
theorem dX10_markSame_94 : decode cX10_markSame 94 = .ok (.iload 6, 2) := by decide +kernel
theorem dX10_markSame_96 : decode cX10_markSame 96 = .ok (.bipush 63, 2) := by decide +kernel
theorem dX10_markSame_98 : decode cX10_markSame 98 = .ok (.isub, 1) := by decide +kernel
theorem dX10_markSame_99 : decode cX10_markSame 99 = .ok (.lshl, 1) := by decide +kernel
noncomputable def k_X10_markSame_102 (l1 : Int32) (l2 : Nat) (l3 : Int32) (l4 : Int32) (l5 : Int32) (l6 : Int32) (s : t_S) : Option ((Int32 × Nat × Int32 × Int32 × Int32 × Int32 × t_S) ⊕ (t_S)) :=
 some (.inl (l1, l2, l3, l4, l5, (l6 + 1), s))
set_option maxRecDepth 4000 in
set_option maxHeartbeats 1000000 in
theorem B_X10_markSame_102 {D : va_G} {cy : Nat → ClassId} {ad : Nat → Nat} {bs : Nat} {X : State → Heap → Prop} (l1 : Int32) (l2 : Nat) (l3 : Int32) (l4 : Int32) (l5 : Int32) (l6 : Int32) (s : t_S) (Q : (Int32 × Nat × Int32 × Int32 × Int32 × Int32 × t_S) ⊕ (t_S) → Prop) (Hb40 : ∀ (y0 : Int32) (y1 : Nat) (y2 : Int32) (y3 : Int32) (y4 : Int32) (y5 : Int32) (y6 : t_S), Q (.inl (y0, y1, y2, y3, y4, y5, y6)) → mj_G D cy ad bs X cX10_markSame 7 yX10_markSame.cls none yX10_markSame.name 1 0 0 1065 (t_P (fun v s' => v = none ∧ Q (.inr (s')))) 40 [(0, .ref 353), (1, .int (y0)), (2, .ref (y1)), (3, .int (y2)), (4, .int (y3)), (5, .int (y4)), (6, .int (y5))] [] (t_m y6) 1065 0 0) (hk : t_hk (k_X10_markSame_102 l1 l2 l3 l4 l5 l6 s) Q) : mj_G D cy ad bs X cX10_markSame 7 yX10_markSame.cls none yX10_markSame.name 1 0 0 1065 (t_P (fun v s' => v = none ∧ Q (.inr (s')))) 102 [(0, .ref 353), (1, .int l1), (2, .ref l2), (3, .int l3), (4, .int l4), (5, .int l5), (6, .int l6)] [] (t_m s) 1065 0 0 := by
  refine mj_iinc (k := 6) (v := (l6 + 1)) (lv2 := [(6, .int (l6 + 1)), (0, .ref 353), (1, .int l1), (2, .ref l2), (3, .int l3), (4, .int l4), (5, .int l5)]) dX10_markSame_102 rfl rfl (by decide) rfl ?_
  refine mj_goto 40 dX10_markSame_105 (by decide) ?_
  refine mj_sublv [(0, .ref 353), (1, .int l1), (2, .ref l2), (3, .int l3), (4, .int l4), (5, .int l5), (6, .int (l6 + 1))] [1, 2, 3, 4, 5, 6, 0] rfl ?_
  exact t_somK hk (fun hf => Hb40 l1 l2 l3 l4 l5 (l6 + 1) s hf)
noncomputable def k_X10_markSame_40 (l1 : Int32) (l2 : Nat) (l3 : Int32) (l4 : Int32) (l5 : Int32) (l6 : Int32) (s : t_S) : Option ((Int32 × Nat × Int32 × Int32 × Int32 × Int32 × t_S) ⊕ (t_S)) :=
 if l5 ≤ l6 then ((some (s)).map Sum.inr)
 else ((f_X8_same l2 l3 l2 (l4 + l6) s).bind (fun r1 =>
 if r1 = (0 : Int32) then (k_X10_markSame_102 l1 l2 l3 l4 l5 l6 s)
 else (if (63 : Int32) ≤ l6 then (if t_ix l1 6100 = true then
  t_let (t_setJ s 362 (l1.toNatClampNeg) ((s.2.1 362 (l1.toNatClampNeg)) ||| ((1 : Int64) <<< ((l6 - (63 : Int32)).toInt64 &&& 63)))) (fun s1 =>
 k_X10_markSame_102 l1 l2 l3 l4 l5 l6 s1)
else none)
 else (if t_ix l1 6100 = true then
  t_let (t_setJ s 361 (l1.toNatClampNeg) ((s.2.1 361 (l1.toNatClampNeg)) ||| ((1 : Int64) <<< ((l6 + (1 : Int32)).toInt64 &&& 63)))) (fun s2 =>
 k_X10_markSame_102 l1 l2 l3 l4 l5 l6 s2)
else none))))
set_option maxRecDepth 4000 in
set_option maxHeartbeats 1000000 in
theorem B_X10_markSame_40 {D : va_G} {cy : Nat → ClassId} {ad : Nat → Nat} {bs : Nat} {X : State → Heap → Prop} (l1 : Int32) (l2 : Nat) (l3 : Int32) (l4 : Int32) (l5 : Int32) (l6 : Int32) (s : t_S) (Q : (Int32 × Nat × Int32 × Int32 × Int32 × Int32 × t_S) ⊕ (t_S) → Prop) (Hb40 : ∀ (y0 : Int32) (y1 : Nat) (y2 : Int32) (y3 : Int32) (y4 : Int32) (y5 : Int32) (y6 : t_S), Q (.inl (y0, y1, y2, y3, y4, y5, y6)) → mj_G D cy ad bs X cX10_markSame 7 yX10_markSame.cls none yX10_markSame.name 1 0 0 1065 (t_P (fun v s' => v = none ∧ Q (.inr (s')))) 40 [(0, .ref 353), (1, .int (y0)), (2, .ref (y1)), (3, .int (y2)), (4, .int (y3)), (5, .int (y4)), (6, .int (y5))] [] (t_m y6) 1065 0 0) (hk : t_hk (k_X10_markSame_40 l1 l2 l3 l4 l5 l6 s) Q) : mj_G D cy ad bs X cX10_markSame 7 yX10_markSame.cls none yX10_markSame.name 1 0 0 1065 (t_P (fun v s' => v = none ∧ Q (.inr (s')))) 40 [(0, .ref 353), (1, .int l1), (2, .ref l2), (3, .int l3), (4, .int l4), (5, .int l5), (6, .int l6)] [] (t_m s) 1065 0 0 := by
  refine mj_iload dX10_markSame_40 6 rfl ?_
  refine mj_iload dX10_markSame_42 5 rfl ?_
  refine mj_icmp_ge 108 dX10_markSame_44 (by decide) (fun z => t_posK hk z (fun hk => ?_)) (fun z => t_negK hk z (fun hk => ?_))
  · refine t_mapK hk (fun hk => ?_)
    exact t_somK hk (fun hf => t_vret dX10_markSame_108 rfl ⟨rfl, hf⟩ (Nat.le_of_ble_eq_true rfl) (Nat.le_of_ble_eq_true rfl))
  · refine mj_aload_n dX10_markSame_47 2 rfl ?_
    refine mj_iload_n dX10_markSame_48 3 rfl ?_
    refine mj_aload_n dX10_markSame_49 2 rfl ?_
    refine mj_iload dX10_markSame_50 4 rfl ?_
    refine mj_iload dX10_markSame_52 6 rfl ?_
    refine mj_iadd dX10_markSame_54 ?_
    refine t_bndK hk (fun r1 er1 hk => ?_)
    refine t_callSiP dX10_markSame_55 M_X8_same (C_X8_same _ _ _ _ _ _ er1) ML_X10_128 SM_X8_same (As := [.ref l2, .int l3, .ref l2, .int (l4 + l6)]) rfl rfl (Nat.le_of_ble_eq_true rfl) (Nat.le_of_ble_eq_true rfl) (Nat.le_of_ble_eq_true rfl) (Nat.le_of_ble_eq_true rfl) ?_
    refine mj_if_eq 102 dX10_markSame_58 (by decide) (fun z => t_posK hk z (fun hk => ?_)) (fun z => t_negK hk z (fun hk => ?_))
    · exact B_X10_markSame_102 _ _ _ _ _ _ _ _ (fun y0 y1 y2 y3 y4 y5 y6 hx => Hb40 y0 y1 y2 y3 y4 y5 y6 hx) hk
    · refine mj_iload dX10_markSame_61 6 rfl ?_
      refine mj_bipush (v := 63) dX10_markSame_63 (by decide) ?_
      refine mj_icmp_ge 86 dX10_markSame_65 (by decide) (fun z => t_posK hk z (fun hk => ?_)) (fun z => t_negK hk z (fun hk => ?_))
      · refine mj_aload_n dX10_markSame_86 0 rfl ?_
        refine t_getR 362 dX10_markSame_87 F_X10_38 qr_353_8 ?_
        refine mj_iload_n dX10_markSame_90 1 rfl ?_
        refine mj_dup2 dX10_markSame_91 rfl rfl ?_
        refine t_chkK hk (fun c1 hk => ?_)
        refine t_lald dX10_markSame_92 qa_362 (t_ixv c1) ?_
        refine mj_lconst (v := 1) dX10_markSame_93 (by decide) ?_
        refine mj_iload dX10_markSame_94 6 rfl ?_
        refine mj_bipush (v := 63) dX10_markSame_96 (by decide) ?_
        refine mj_isub dX10_markSame_98 ?_
        refine mj_lshl dX10_markSame_99 rfl ?_
        refine mj_lor dX10_markSame_100 ?_
        refine t_lastK dX10_markSame_101 qa_362 (t_ixv c1) (fun s1 ws1 => t_letE hk ws1 (fun hk => ?_))
        exact B_X10_markSame_102 _ _ _ _ _ _ _ _ (fun y0 y1 y2 y3 y4 y5 y6 hx => Hb40 y0 y1 y2 y3 y4 y5 y6 hx) hk
      · refine mj_aload_n dX10_markSame_68 0 rfl ?_
        refine t_getR 361 dX10_markSame_69 F_X10_34 qr_353_7 ?_
        refine mj_iload_n dX10_markSame_72 1 rfl ?_
        refine mj_dup2 dX10_markSame_73 rfl rfl ?_
        refine t_chkK hk (fun c2 hk => ?_)
        refine t_lald dX10_markSame_74 qa_361 (t_ixv c2) ?_
        refine mj_lconst (v := 1) dX10_markSame_75 (by decide) ?_
        refine mj_iload dX10_markSame_76 6 rfl ?_
        refine mj_iconst (v := 1) dX10_markSame_78 (by decide) ?_
        refine mj_iadd dX10_markSame_79 ?_
        refine mj_lshl dX10_markSame_80 rfl ?_
        refine mj_lor dX10_markSame_81 ?_
        refine t_lastK dX10_markSame_82 qa_361 (t_ixv c2) (fun s2 ws2 => t_letE hk ws2 (fun hk => ?_))
        refine mj_goto 102 dX10_markSame_83 (by decide) ?_
        exact B_X10_markSame_102 _ _ _ _ _ _ _ _ (fun y0 y1 y2 y3 y4 y5 y6 hx => Hb40 y0 y1 y2 y3 y4 y5 y6 hx) hk
noncomputable def b_X10_markSame_40 (x : Int32 × Nat × Int32 × Int32 × Int32 × Int32 × t_S) : Option ((Int32 × Nat × Int32 × Int32 × Int32 × Int32 × t_S) ⊕ (t_S)) := k_X10_markSame_40 x.1 x.2.1 x.2.2.1 x.2.2.2.1 x.2.2.2.2.1 x.2.2.2.2.2.1 x.2.2.2.2.2.2
set_option maxRecDepth 4000 in
set_option maxHeartbeats 1000000 in
theorem LH_X10_markSame_40 {D : va_G} {cy : Nat → ClassId} {ad : Nat → Nat} {bs : Nat} {X : State → Heap → Prop} : ∀ (n : Nat) (y0 : Int32) (y1 : Nat) (y2 : Int32) (y3 : Int32) (y4 : Int32) (y5 : Int32) (y6 : t_S) (Q : t_S → Prop) (hk : t_hk (t_loop (b_X10_markSame_40) n (y0, y1, y2, y3, y4, y5, y6)) Q), mj_G D cy ad bs X cX10_markSame 7 yX10_markSame.cls none yX10_markSame.name 1 0 0 1065 (t_P (fun v s' => v = none ∧ Q (s'))) 40 [(0, .ref 353), (1, .int (y0)), (2, .ref (y1)), (3, .int (y2)), (4, .int (y3)), (5, .int (y4)), (6, .int (y5))] [] (t_m y6) 1065 0 0 := by
  intro n
  induction n with
  | zero => intro y0 y1 y2 y3 y4 y5 y6 Q hk; obtain ⟨r, hr, _⟩ := hk; cases hr
  | succ n ih =>
    intro y0 y1 y2 y3 y4 y5 y6 Q hk
    exact B_X10_markSame_40 y0 y1 y2 y3 y4 y5 y6 (fun y => t_lq (b_X10_markSame_40) n Q y) (fun y0' y1' y2' y3' y4' y5' y6' hy => ih y0' y1' y2' y3' y4' y5' y6' Q hy) (t_lp hk)
noncomputable def k_X10_markSame_29 (l1 : Int32) (l2 : Nat) (l3 : Int32) (l4 : Int32) (l5 : Int32) (k0 : Int64) (k1 : Int32) (s : t_S) : Option (t_S) :=
 if t_ix k1 6100 = true then
  t_let (t_setJ s 361 (k1.toNatClampNeg) k0) (fun s1 =>
 if t_ix l1 6100 = true then
  t_let (t_setJ s1 362 (l1.toNatClampNeg) (0 : Int64)) (fun s2 =>
 t_loop (b_X10_markSame_40) t_N (l1, l2, l3, l4, l5, 0, s2))
else none)
else none
set_option maxRecDepth 4000 in
set_option maxHeartbeats 1000000 in
theorem B_X10_markSame_29 {D : va_G} {cy : Nat → ClassId} {ad : Nat → Nat} {bs : Nat} {X : State → Heap → Prop} (l1 : Int32) (l2 : Nat) (l3 : Int32) (l4 : Int32) (l5 : Int32) (k0 : Int64) (k1 : Int32) (s : t_S) (Q : t_S → Prop) (hk : t_hk (k_X10_markSame_29 l1 l2 l3 l4 l5 k0 k1 s) Q) : mj_G D cy ad bs X cX10_markSame 7 yX10_markSame.cls none yX10_markSame.name 1 0 0 1065 (t_P (fun v s' => v = none ∧ Q (s'))) 29 [(0, .ref 353), (1, .int l1), (2, .ref l2), (3, .int l3), (4, .int l4), (5, .int l5)] [.long k0, .int k1, .ref 361] (t_m s) 1065 0 0 := by
  refine t_chkK hk (fun c0 hk => ?_)
  refine t_lastK dX10_markSame_29 qa_361 (t_ixv c0) (fun s1 ws1 => t_letE hk ws1 (fun hk => ?_))
  refine mj_aload_n dX10_markSame_30 0 rfl ?_
  refine t_getR 362 dX10_markSame_31 F_X10_38 qr_353_8 ?_
  refine mj_iload_n dX10_markSame_34 1 rfl ?_
  refine mj_lconst (v := 0) dX10_markSame_35 (by decide) ?_
  refine t_chkK hk (fun c1 hk => ?_)
  refine t_lastK dX10_markSame_36 qa_362 (t_ixv c1) (fun s2 ws2 => t_letE hk ws2 (fun hk => ?_))
  refine mj_iconst (v := 0) dX10_markSame_37 (by decide) ?_
  refine mj_istore (lv2 := [(6, .int 0), (0, .ref 353), (1, .int l1), (2, .ref l2), (3, .int l3), (4, .int l4), (5, .int l5)]) dX10_markSame_38 (by decide) rfl ?_
  refine mj_sublv [(0, .ref 353), (1, .int l1), (2, .ref l2), (3, .int l3), (4, .int l4), (5, .int l5), (6, .int 0)] [1, 2, 3, 4, 5, 6, 0] rfl ?_
  exact LH_X10_markSame_40 _ l1 l2 l3 l4 l5 0 s2 _ hk
noncomputable def f_X10_markSame (x1 : Int32) (x2 : Nat) (x3 : Int32) (x4 : Int32) (s : t_S) : Option (t_S) :=
 if t_oka x2 2 (t_ln x2) = true then
  if t_ix x4 (t_ln x2) = true then
  if t_ix x3 (t_ln x2) = true then
  if (f_X8_kind (s.2.1 x2 (x3.toNatClampNeg)) s) = (4 : Int32) then (k_X10_markSame_29 x1 x2 x3 x4 (f_X8_size (s.2.1 x2 (x4.toNatClampNeg)) s) 1 x1 s)
 else (k_X10_markSame_29 x1 x2 x3 x4 (f_X8_size (s.2.1 x2 (x4.toNatClampNeg)) s) 0 x1 s)
else none
else none
else none
set_option maxRecDepth 4000 in
set_option maxHeartbeats 1000000 in
theorem C_X10_markSame (x1 : Int32) (x2 : Nat) (x3 : Int32) (x4 : Int32) (s : t_S) (r : t_S) (hr : f_X10_markSame x1 x2 x3 x4 s = some r) : t_C yX10_markSame cX10_markSame 7 none 1 [.ref 353, .int x1, .ref x2, .int x3, .int x4] s (fun v s' => v = none ∧ s' = r) := by
  refine t_C.imp (P := fun v s' => v = none ∧ (fun q => q = r) (s')) (t_C.of (by decide +kernel) (Nat.le_of_ble_eq_true rfl) ?_) (fun v s' hp => hp)
  intro D cy ad bs X
  have hk : t_hk (f_X10_markSame x1 x2 x3 x4 s) (fun q => q = r) := ⟨r, hr, rfl⟩
  show mj_G D cy ad bs X cX10_markSame 7 yX10_markSame.cls none yX10_markSame.name 1 0 0 1065 (t_P (fun v s' => v = none ∧ (fun q => q = r) (s'))) 0 [(0, .ref 353), (1, .int x1), (2, .ref x2), (3, .int x3), (4, .int x4)] [] (t_m s) 1065 0 0
  refine mj_aload_n dX10_markSame_0 2 rfl ?_
  refine mj_iload dX10_markSame_1 4 rfl ?_
  refine t_chkK hk (fun c0 hk => ?_)
  refine t_chkK hk (fun c1 hk => ?_)
  refine t_lald dX10_markSame_3 c0 (t_ixv c1) ?_
  refine t_callSiP dX10_markSame_4 M_X8_size (C_X8_size _ _) ML_X10_125 SM_X8_size (As := [.long (s.2.1 x2 (x4.toNatClampNeg))]) rfl rfl (Nat.le_of_ble_eq_true rfl) (Nat.le_of_ble_eq_true rfl) (Nat.le_of_ble_eq_true rfl) (Nat.le_of_ble_eq_true rfl) ?_
  refine mj_istore (lv2 := [(5, .int (f_X8_size (s.2.1 x2 (x4.toNatClampNeg)) s)), (0, .ref 353), (1, .int x1), (2, .ref x2), (3, .int x3), (4, .int x4)]) dX10_markSame_7 (by decide) rfl ?_
  refine mj_aload_n dX10_markSame_9 1 rfl ?_
  refine t_getR 361 dX10_markSame_10 F_X10_34 qr_353_7 ?_
  refine mj_iload_n dX10_markSame_13 2 rfl ?_
  refine mj_aload_n dX10_markSame_14 3 rfl ?_
  refine mj_iload_n dX10_markSame_15 4 rfl ?_
  refine t_chkK hk (fun c3 hk => ?_)
  refine t_lald dX10_markSame_16 c0 (t_ixv c3) ?_
  refine t_callSiP dX10_markSame_17 M_X8_kind (C_X8_kind _ _) ML_X10_122 SM_X8_kind (As := [.long (s.2.1 x2 (x3.toNatClampNeg))]) rfl rfl (Nat.le_of_ble_eq_true rfl) (Nat.le_of_ble_eq_true rfl) (Nat.le_of_ble_eq_true rfl) (Nat.le_of_ble_eq_true rfl) ?_
  refine mj_iconst (v := 4) dX10_markSame_20 (by decide) ?_
  refine mj_icmp_ne 28 dX10_markSame_21 (by decide) (fun z => t_negK hk z (fun hk => ?_)) (fun z => t_posK hk z (fun hk => ?_))
  · refine mj_lconst (v := 0) dX10_markSame_28 (by decide) ?_
    refine mj_sublv [(0, .ref 353), (1, .int x1), (2, .ref x2), (3, .int x3), (4, .int x4), (5, .int (f_X8_size (s.2.1 x2 (x4.toNatClampNeg)) s))] [1, 2, 3, 4, 5, 0] rfl ?_
    exact B_X10_markSame_29 _ _ _ _ _ _ _ _ _ hk
  · refine mj_lconst (v := 1) dX10_markSame_24 (by decide) ?_
    refine mj_goto 29 dX10_markSame_25 (by decide) ?_
    refine mj_sublv [(0, .ref 353), (1, .int x1), (2, .ref x2), (3, .int x3), (4, .int x4), (5, .int (f_X8_size (s.2.1 x2 (x4.toNatClampNeg)) s))] [1, 2, 3, 4, 5, 0] rfl ?_
    exact B_X10_markSame_29 _ _ _ _ _ _ _ _ _ hk

theorem dX10_setLiteral_0 : decode cX10_setLiteral 0 = .ok (.aload_n 0, 1) := by decide +kernel
theorem dX10_setLiteral_1 : decode cX10_setLiteral 1 = .ok (.getfield 11, 3) := by decide +kernel
theorem dX10_setLiteral_12 : decode cX10_setLiteral 12 = .ok (.iload_n 2, 1) := by decide +kernel
theorem dX10_setLiteral_13 : decode cX10_setLiteral 13 = .ok (.laload, 1) := by decide +kernel
theorem dX10_setLiteral_14 : decode cX10_setLiteral 14 = .ok (.invokestatic 122, 3) := by decide +kernel
theorem dX10_setLiteral_17 : decode cX10_setLiteral 17 = .ok (.iconst 4, 1) := by decide +kernel
theorem dX10_setLiteral_18 : decode cX10_setLiteral 18 = .ok (.if_icmp .ne 7, 3) := by decide +kernel
theorem dX10_setLiteral_21 : decode cX10_setLiteral 21 = .ok (.iconst 5, 1) := by decide +kernel
theorem dX10_setLiteral_22 : decode cX10_setLiteral 22 = .ok (.goto 4, 3) := by decide +kernel
theorem dX10_setLiteral_25 : decode cX10_setLiteral 25 = .ok (.iconst 4, 1) := by decide +kernel
theorem dX10_setLiteral_26 : decode cX10_setLiteral 26 = .ok (.iastore, 1) := by decide +kernel
theorem dX10_setLiteral_27 : decode cX10_setLiteral 27 = .ok (.aload_n 0, 1) := by decide +kernel
theorem dX10_setLiteral_28 : decode cX10_setLiteral 28 = .ok (.getfield 21, 3) := by decide +kernel
theorem dX10_setLiteral_31 : decode cX10_setLiteral 31 = .ok (.iload_n 1, 1) := by decide +kernel
theorem dX10_setLiteral_32 : decode cX10_setLiteral 32 = .ok (.iload_n 2, 1) := by decide +kernel
theorem dX10_setLiteral_33 : decode cX10_setLiteral 33 = .ok (.iastore, 1) := by decide +kernel
theorem dX10_setLiteral_34 : decode cX10_setLiteral 34 = .ok (.return_, 1) := by decide +kernel
theorem dX10_setLiteral_4 : decode cX10_setLiteral 4 = .ok (.iload_n 1, 1) := by decide +kernel
theorem dX10_setLiteral_5 : decode cX10_setLiteral 5 = .ok (.aload_n 0, 1) := by decide +kernel
theorem dX10_setLiteral_6 : decode cX10_setLiteral 6 = .ok (.getfield 58, 3) := by decide +kernel
theorem dX10_setLiteral_9 : decode cX10_setLiteral 9 = .ok (.getfield 62, 3) := by decide +kernel
noncomputable def k_X10_setLiteral_26 (l1 : Int32) (l2 : Int32) (k0 : Int32) (k1 : Int32) (s : t_S) : Option (t_S) :=
 if t_ix k1 6100 = true then
  t_let (t_setI s 354 (k1.toNatClampNeg) k0) (fun s1 =>
 if t_ix l1 6100 = true then
  t_let (t_setI s1 357 (l1.toNatClampNeg) l2) (fun s2 =>
 some (s2))
else none)
else none
set_option maxRecDepth 4000 in
set_option maxHeartbeats 1000000 in
theorem B_X10_setLiteral_26 {D : va_G} {cy : Nat → ClassId} {ad : Nat → Nat} {bs : Nat} {X : State → Heap → Prop} (l1 : Int32) (l2 : Int32) (k0 : Int32) (k1 : Int32) (s : t_S) (Q : t_S → Prop) (hk : t_hk (k_X10_setLiteral_26 l1 l2 k0 k1 s) Q) : mj_G D cy ad bs X cX10_setLiteral 3 yX10_setLiteral.cls none yX10_setLiteral.name 1 0 0 1065 (t_P (fun v s' => v = none ∧ Q (s'))) 26 [(0, .ref 353), (1, .int l1), (2, .int l2)] [.int k0, .int k1, .ref 354] (t_m s) 1065 0 0 := by
  refine t_chkK hk (fun c0 hk => ?_)
  refine t_iastK dX10_setLiteral_26 qa_354 (t_ixv c0) (fun s1 ws1 => t_letE hk ws1 (fun hk => ?_))
  refine mj_aload_n dX10_setLiteral_27 0 rfl ?_
  refine t_getR 357 dX10_setLiteral_28 F_X10_21 qr_353_3 ?_
  refine mj_iload_n dX10_setLiteral_31 1 rfl ?_
  refine mj_iload_n dX10_setLiteral_32 2 rfl ?_
  refine t_chkK hk (fun c1 hk => ?_)
  refine t_iastK dX10_setLiteral_33 qa_357 (t_ixv c1) (fun s2 ws2 => t_letE hk ws2 (fun hk => ?_))
  exact t_somK hk (fun hf => t_vret dX10_setLiteral_34 rfl ⟨rfl, hf⟩ (Nat.le_of_ble_eq_true rfl) (Nat.le_of_ble_eq_true rfl))
noncomputable def f_X10_setLiteral (x1 : Int32) (x2 : Int32) (s : t_S) : Option (t_S) :=
 if t_ix x2 26000 = true then
  if (f_X8_kind (s.2.1 337 (x2.toNatClampNeg)) s) = (4 : Int32) then (k_X10_setLiteral_26 x1 x2 5 x1 s)
 else (k_X10_setLiteral_26 x1 x2 4 x1 s)
else none
set_option maxRecDepth 4000 in
set_option maxHeartbeats 1000000 in
theorem C_X10_setLiteral (x1 : Int32) (x2 : Int32) (s : t_S) (r : t_S) (hr : f_X10_setLiteral x1 x2 s = some r) : t_C yX10_setLiteral cX10_setLiteral 3 none 1 [.ref 353, .int x1, .int x2] s (fun v s' => v = none ∧ s' = r) := by
  refine t_C.imp (P := fun v s' => v = none ∧ (fun q => q = r) (s')) (t_C.of (by decide +kernel) (Nat.le_of_ble_eq_true rfl) ?_) (fun v s' hp => hp)
  intro D cy ad bs X
  have hk : t_hk (f_X10_setLiteral x1 x2 s) (fun q => q = r) := ⟨r, hr, rfl⟩
  show mj_G D cy ad bs X cX10_setLiteral 3 yX10_setLiteral.cls none yX10_setLiteral.name 1 0 0 1065 (t_P (fun v s' => v = none ∧ (fun q => q = r) (s'))) 0 [(0, .ref 353), (1, .int x1), (2, .int x2)] [] (t_m s) 1065 0 0
  refine mj_aload_n dX10_setLiteral_0 0 rfl ?_
  refine t_getR 354 dX10_setLiteral_1 F_X10_11 qr_353_0 ?_
  refine mj_iload_n dX10_setLiteral_4 1 rfl ?_
  refine mj_aload_n dX10_setLiteral_5 0 rfl ?_
  refine t_getR 334 dX10_setLiteral_6 F_X10_58 qr_353_21 ?_
  refine t_getR 337 dX10_setLiteral_9 F_X10_62 qr_334_3 ?_
  refine mj_iload_n dX10_setLiteral_12 2 rfl ?_
  refine t_chkK hk (fun c0 hk => ?_)
  refine t_lald dX10_setLiteral_13 qa_337 (t_ixv c0) ?_
  refine t_callSiP dX10_setLiteral_14 M_X8_kind (C_X8_kind _ _) ML_X10_122 SM_X8_kind (As := [.long (s.2.1 337 (x2.toNatClampNeg))]) rfl rfl (Nat.le_of_ble_eq_true rfl) (Nat.le_of_ble_eq_true rfl) (Nat.le_of_ble_eq_true rfl) (Nat.le_of_ble_eq_true rfl) ?_
  refine mj_iconst (v := 4) dX10_setLiteral_17 (by decide) ?_
  refine mj_icmp_ne 25 dX10_setLiteral_18 (by decide) (fun z => t_negK hk z (fun hk => ?_)) (fun z => t_posK hk z (fun hk => ?_))
  · refine mj_iconst (v := 4) dX10_setLiteral_25 (by decide) ?_
    exact B_X10_setLiteral_26 _ _ _ _ _ _ hk
  · refine mj_iconst (v := 5) dX10_setLiteral_21 (by decide) ?_
    refine mj_goto 26 dX10_setLiteral_22 (by decide) ?_
    exact B_X10_setLiteral_26 _ _ _ _ _ _ hk

theorem dX0_keepSame_0 : decode cX0_keepSame 0 = .ok (.aload_n 0, 1) := by decide +kernel
theorem dX0_keepSame_1 : decode cX0_keepSame 1 = .ok (.getfield 24, 3) := by decide +kernel
theorem dX0_keepSame_10 : decode cX0_keepSame 10 = .ok (.iaload, 1) := by decide +kernel
theorem dX0_keepSame_100 : decode cX0_keepSame 100 = .ok (.aload_n 0, 1) := by decide +kernel
theorem dX0_keepSame_101 : decode cX0_keepSame 101 = .ok (.getfield 55, 3) := by decide +kernel
theorem dX0_keepSame_104 : decode cX0_keepSame 104 = .ok (.invokevirtual 267, 3) := by decide +kernel
theorem dX0_keepSame_107 : decode cX0_keepSame 107 = .ok (.aload_n 0, 1) := by decide +kernel
theorem dX0_keepSame_108 : decode cX0_keepSame 108 = .ok (.dup, 1) := by decide +kernel
theorem dX0_keepSame_109 : decode cX0_keepSame 109 = .ok (.getfield 55, 3) := by decide +kernel
theorem dX0_keepSame_11 : decode cX0_keepSame 11 = .ok (.istore_n 2, 1) := by decide +kernel
theorem dX0_keepSame_112 : decode cX0_keepSame 112 = .ok (.iload_n 3, 1) := by decide +kernel
theorem dX0_keepSame_113 : decode cX0_keepSame 113 = .ok (.iadd, 1) := by decide +kernel
theorem dX0_keepSame_114 : decode cX0_keepSame 114 = .ok (.putfield 55, 3) := by decide +kernel
theorem dX0_keepSame_117 : decode cX0_keepSame 117 = .ok (.aload_n 0, 1) := by decide +kernel
theorem dX0_keepSame_118 : decode cX0_keepSame 118 = .ok (.dup, 1) := by decide +kernel
theorem dX0_keepSame_119 : decode cX0_keepSame 119 = .ok (.getfield 62, 3) := by decide +kernel
theorem dX0_keepSame_12 : decode cX0_keepSame 12 = .ok (.aload_n 0, 1) := by decide +kernel
theorem dX0_keepSame_122 : decode cX0_keepSame 122 = .ok (.iconst 1, 1) := by decide +kernel
theorem dX0_keepSame_123 : decode cX0_keepSame 123 = .ok (.isub, 1) := by decide +kernel
theorem dX0_keepSame_124 : decode cX0_keepSame 124 = .ok (.putfield 62, 3) := by decide +kernel
theorem dX0_keepSame_127 : decode cX0_keepSame 127 = .ok (.return_, 1) := by decide +kernel
theorem dX0_keepSame_13 : decode cX0_keepSame 13 = .ok (.getfield 24, 3) := by decide +kernel
theorem dX0_keepSame_16 : decode cX0_keepSame 16 = .ok (.aload_n 0, 1) := by decide +kernel
theorem dX0_keepSame_17 : decode cX0_keepSame 17 = .ok (.getfield 62, 3) := by decide +kernel
theorem dX0_keepSame_20 : decode cX0_keepSame 20 = .ok (.iaload, 1) := by decide +kernel
theorem dX0_keepSame_21 : decode cX0_keepSame 21 = .ok (.iload_n 2, 1) := by decide +kernel
theorem dX0_keepSame_22 : decode cX0_keepSame 22 = .ok (.isub, 1) := by decide +kernel
theorem dX0_keepSame_23 : decode cX0_keepSame 23 = .ok (.istore_n 3, 1) := by decide +kernel
theorem dX0_keepSame_24 : decode cX0_keepSame 24 = .ok (.aload_n 0, 1) := by decide +kernel
theorem dX0_keepSame_25 : decode cX0_keepSame 25 = .ok (.getfield 246, 3) := by decide +kernel
theorem dX0_keepSame_28 : decode cX0_keepSame 28 = .ok (.ifCond .ne 38, 3) := by decide +kernel
theorem dX0_keepSame_31 : decode cX0_keepSame 31 = .ok (.aload_n 0, 1) := by decide +kernel
theorem dX0_keepSame_32 : decode cX0_keepSame 32 = .ok (.getfield 62, 3) := by decide +kernel
theorem dX0_keepSame_35 : decode cX0_keepSame 35 = .ok (.iconst 1, 1) := by decide +kernel
theorem dX0_keepSame_36 : decode cX0_keepSame 36 = .ok (.if_icmp .le 81, 3) := by decide +kernel
theorem dX0_keepSame_39 : decode cX0_keepSame 39 = .ok (.aload_n 0, 1) := by decide +kernel
theorem dX0_keepSame_4 : decode cX0_keepSame 4 = .ok (.aload_n 0, 1) := by decide +kernel
theorem dX0_keepSame_40 : decode cX0_keepSame 40 = .ok (.getfield 250, 3) := by decide +kernel
theorem dX0_keepSame_43 : decode cX0_keepSame 43 = .ok (.iload_n 1, 1) := by decide +kernel
theorem dX0_keepSame_44 : decode cX0_keepSame 44 = .ok (.aload_n 0, 1) := by decide +kernel
theorem dX0_keepSame_45 : decode cX0_keepSame 45 = .ok (.getfield 21, 3) := by decide +kernel
theorem dX0_keepSame_48 : decode cX0_keepSame 48 = .ok (.iload_n 2, 1) := by decide +kernel
theorem dX0_keepSame_49 : decode cX0_keepSame 49 = .ok (.aload_n 0, 1) := by decide +kernel
theorem dX0_keepSame_5 : decode cX0_keepSame 5 = .ok (.getfield 62, 3) := by decide +kernel
theorem dX0_keepSame_50 : decode cX0_keepSame 50 = .ok (.getfield 24, 3) := by decide +kernel
theorem dX0_keepSame_53 : decode cX0_keepSame 53 = .ok (.aload_n 0, 1) := by decide +kernel
theorem dX0_keepSame_54 : decode cX0_keepSame 54 = .ok (.getfield 62, 3) := by decide +kernel
theorem dX0_keepSame_57 : decode cX0_keepSame 57 = .ok (.iconst 2, 1) := by decide +kernel
theorem dX0_keepSame_58 : decode cX0_keepSame 58 = .ok (.isub, 1) := by decide +kernel
theorem dX0_keepSame_59 : decode cX0_keepSame 59 = .ok (.iaload, 1) := by decide +kernel
theorem dX0_keepSame_60 : decode cX0_keepSame 60 = .ok (.invokevirtual 263, 3) := by decide +kernel
theorem dX0_keepSame_63 : decode cX0_keepSame 63 = .ok (.goto 54, 3) := by decide +kernel
theorem dX0_keepSame_66 : decode cX0_keepSame 66 = .ok (.aload_n 0, 1) := by decide +kernel
theorem dX0_keepSame_67 : decode cX0_keepSame 67 = .ok (.getfield 55, 3) := by decide +kernel
theorem dX0_keepSame_70 : decode cX0_keepSame 70 = .ok (.iload_n 3, 1) := by decide +kernel
theorem dX0_keepSame_71 : decode cX0_keepSame 71 = .ok (.iadd, 1) := by decide +kernel
theorem dX0_keepSame_72 : decode cX0_keepSame 72 = .ok (.sipush 26000, 3) := by decide +kernel
theorem dX0_keepSame_75 : decode cX0_keepSame 75 = .ok (.if_icmp .gt 42, 3) := by decide +kernel
theorem dX0_keepSame_78 : decode cX0_keepSame 78 = .ok (.aload_n 0, 1) := by decide +kernel
theorem dX0_keepSame_79 : decode cX0_keepSame 79 = .ok (.getfield 21, 3) := by decide +kernel
theorem dX0_keepSame_8 : decode cX0_keepSame 8 = .ok (.iconst 1, 1) := by decide +kernel
theorem dX0_keepSame_82 : decode cX0_keepSame 82 = .ok (.iload_n 2, 1) := by decide +kernel
theorem dX0_keepSame_83 : decode cX0_keepSame 83 = .ok (.aload_n 0, 1) := by decide +kernel
theorem dX0_keepSame_84 : decode cX0_keepSame 84 = .ok (.getfield 16, 3) := by decide +kernel
theorem dX0_keepSame_87 : decode cX0_keepSame 87 = .ok (.aload_n 0, 1) := by decide +kernel
theorem dX0_keepSame_88 : decode cX0_keepSame 88 = .ok (.getfield 55, 3) := by decide +kernel
theorem dX0_keepSame_9 : decode cX0_keepSame 9 = .ok (.isub, 1) := by decide +kernel
theorem dX0_keepSame_91 : decode cX0_keepSame 91 = .ok (.iload_n 3, 1) := by decide +kernel
theorem dX0_keepSame_92 : decode cX0_keepSame 92 = .ok (.invokestatic 154, 3) := by decide +kernel
theorem dX0_keepSame_95 : decode cX0_keepSame 95 = .ok (.aload_n 0, 1) := by decide +kernel
theorem dX0_keepSame_96 : decode cX0_keepSame 96 = .ok (.getfield 250, 3) := by decide +kernel
theorem dX0_keepSame_99 : decode cX0_keepSame 99 = .ok (.iload_n 1, 1) := by decide +kernel
noncomputable def k_X0_keepSame_117 (s : t_S) : Option (t_S) :=
 t_let (t_setI s 334 7 ((s.1 334 7) - (1 : Int32))) (fun s1 =>
 some (s1))
set_option maxRecDepth 4000 in
set_option maxHeartbeats 1000000 in
theorem B_X0_keepSame_117 {D : va_G} {cy : Nat → ClassId} {ad : Nat → Nat} {bs : Nat} {X : State → Heap → Prop} (s : t_S) (Q : t_S → Prop) (hk : t_hk (k_X0_keepSame_117 s) Q) : mj_G D cy ad bs X cX0_keepSame 4 yX0_keepSame.cls none yX0_keepSame.name 2 0 0 1065 (t_P (fun v s' => v = none ∧ Q (s'))) 117 [(0, .ref 334)] [] (t_m s) 1065 0 0 := by
  refine mj_aload_n dX0_keepSame_117 0 rfl ?_
  refine mj_dup dX0_keepSame_118 rfl ?_
  refine t_getI dX0_keepSame_119 F_X0_62 qf_334_7 ?_
  refine mj_iconst (v := 1) dX0_keepSame_122 (by decide) ?_
  refine mj_isub dX0_keepSame_123 ?_
  refine t_putIK dX0_keepSame_124 F_X0_62 qf_334_7 rfl (fun s1 ws1 => t_letE hk ws1 (fun hk => ?_))
  exact t_somK hk (fun hf => t_vret dX0_keepSame_127 rfl ⟨rfl, hf⟩ (Nat.le_of_ble_eq_true rfl) (Nat.le_of_ble_eq_true rfl))
noncomputable def f_X0_keepSame (x1 : Int32) (s : t_S) : Option (t_S) :=
 if t_ix ((s.1 334 7) - (1 : Int32)) 3201 = true then
  if t_ix (s.1 334 7) 3201 = true then
  if (s.1 334 14) = (0 : Int32) then (if (s.1 334 7) ≤ (1 : Int32) then (k_X0_keepSame_117 s)
 else (if t_ix ((s.1 334 7) - (2 : Int32)) 3201 = true then
  (f_X10_markSame x1 338 (s.1 339 (((s.1 334 7) - (1 : Int32)).toNatClampNeg)) (s.1 339 (((s.1 334 7) - (2 : Int32)).toNatClampNeg)) s).bind (fun r6 =>
 k_X0_keepSame_117 r6)
else none))
 else (if (26000 : Int32) < ((s.1 334 4) + ((s.1 339 ((s.1 334 7).toNatClampNeg)) - (s.1 339 (((s.1 334 7) - (1 : Int32)).toNatClampNeg)))) then (k_X0_keepSame_117 s)
 else (if t_cpok (s.1 339 (((s.1 334 7) - (1 : Int32)).toNatClampNeg)) (s.1 334 4) ((s.1 339 ((s.1 334 7).toNatClampNeg)) - (s.1 339 (((s.1 334 7) - (1 : Int32)).toNatClampNeg))) 48000 26000 = true then
  t_let (t_cpJ s 338 337 (s.1 339 (((s.1 334 7) - (1 : Int32)).toNatClampNeg)) (s.1 334 4) ((s.1 339 ((s.1 334 7).toNatClampNeg)) - (s.1 339 (((s.1 334 7) - (1 : Int32)).toNatClampNeg)))) (fun s1 =>
 (f_X10_setLiteral x1 (s1.1 334 4) s1).bind (fun r4 =>
 t_let (t_setI r4 334 4 ((r4.1 334 4) + ((s.1 339 ((s.1 334 7).toNatClampNeg)) - (s.1 339 (((s.1 334 7) - (1 : Int32)).toNatClampNeg))))) (fun s2 =>
 k_X0_keepSame_117 s2)))
else none))
else none
else none
set_option maxRecDepth 4000 in
set_option maxHeartbeats 1000000 in
theorem C_X0_keepSame (x1 : Int32) (s : t_S) (r : t_S) (hr : f_X0_keepSame x1 s = some r) : t_C yX0_keepSame cX0_keepSame 4 none 2 [.ref 334, .int x1] s (fun v s' => v = none ∧ s' = r) := by
  refine t_C.imp (P := fun v s' => v = none ∧ (fun q => q = r) (s')) (t_C.of (by decide +kernel) (Nat.le_of_ble_eq_true rfl) ?_) (fun v s' hp => hp)
  intro D cy ad bs X
  have hk : t_hk (f_X0_keepSame x1 s) (fun q => q = r) := ⟨r, hr, rfl⟩
  show mj_G D cy ad bs X cX0_keepSame 4 yX0_keepSame.cls none yX0_keepSame.name 2 0 0 1065 (t_P (fun v s' => v = none ∧ (fun q => q = r) (s'))) 0 [(0, .ref 334), (1, .int x1)] [] (t_m s) 1065 0 0
  refine mj_aload_n dX0_keepSame_0 0 rfl ?_
  refine t_getR 339 dX0_keepSame_1 F_X0_24 qr_334_6 ?_
  refine mj_aload_n dX0_keepSame_4 0 rfl ?_
  refine t_getI dX0_keepSame_5 F_X0_62 qf_334_7 ?_
  refine mj_iconst (v := 1) dX0_keepSame_8 (by decide) ?_
  refine mj_isub dX0_keepSame_9 ?_
  refine t_chkK hk (fun c0 hk => ?_)
  refine t_iald dX0_keepSame_10 qa_339 (t_ixv c0) ?_
  refine mj_istore_n 2 (lv2 := [(2, .int (s.1 339 (((s.1 334 7) - (1 : Int32)).toNatClampNeg))), (0, .ref 334), (1, .int x1)]) dX0_keepSame_11 rfl (by decide) rfl ?_
  refine mj_aload_n dX0_keepSame_12 1 rfl ?_
  refine t_getR 339 dX0_keepSame_13 F_X0_24 qr_334_6 ?_
  refine mj_aload_n dX0_keepSame_16 1 rfl ?_
  refine t_getI dX0_keepSame_17 F_X0_62 qf_334_7 ?_
  refine t_chkK hk (fun c1 hk => ?_)
  refine t_iald dX0_keepSame_20 qa_339 (t_ixv c1) ?_
  refine mj_iload_n dX0_keepSame_21 0 rfl ?_
  refine mj_isub dX0_keepSame_22 ?_
  refine mj_istore_n 3 (lv2 := [(3, .int ((s.1 339 ((s.1 334 7).toNatClampNeg)) - (s.1 339 (((s.1 334 7) - (1 : Int32)).toNatClampNeg)))), (2, .int (s.1 339 (((s.1 334 7) - (1 : Int32)).toNatClampNeg))), (0, .ref 334), (1, .int x1)]) dX0_keepSame_23 rfl (by decide) rfl ?_
  refine mj_aload_n dX0_keepSame_24 2 rfl ?_
  refine t_getI dX0_keepSame_25 F_X0_246 qf_334_14 ?_
  refine mj_if_ne 66 dX0_keepSame_28 (by decide) (fun z => t_negK hk z (fun hk => ?_)) (fun z => t_posK hk z (fun hk => ?_))
  · refine mj_aload_n dX0_keepSame_66 2 rfl ?_
    refine t_getI dX0_keepSame_67 F_X0_55 qf_334_4 ?_
    refine mj_iload_n dX0_keepSame_70 0 rfl ?_
    refine mj_iadd dX0_keepSame_71 ?_
    refine mj_sipush (v := 26000) dX0_keepSame_72 (by decide) ?_
    refine mj_icmp_gt 117 dX0_keepSame_75 (by decide) (fun z => t_posK hk z (fun hk => ?_)) (fun z => t_negK hk z (fun hk => ?_))
    · refine mj_sublv [(0, .ref 334)] [2] rfl ?_
      exact B_X0_keepSame_117 _ _ hk
    · refine mj_aload_n dX0_keepSame_78 2 rfl ?_
      refine t_getR 338 dX0_keepSame_79 F_X0_21 qr_334_5 ?_
      refine mj_iload_n dX0_keepSame_82 1 rfl ?_
      refine mj_aload_n dX0_keepSame_83 2 rfl ?_
      refine t_getR 337 dX0_keepSame_84 F_X0_16 qr_334_3 ?_
      refine mj_aload_n dX0_keepSame_87 2 rfl ?_
      refine t_getI dX0_keepSame_88 F_X0_55 qf_334_4 ?_
      refine mj_iload_n dX0_keepSame_91 0 rfl ?_
      refine t_chkK hk (fun c2 hk => ?_)
      refine t_copyK dX0_keepSame_92 MA_X0_154 qa_338 qa_337 c2 (Nat.le_of_ble_eq_true rfl) (Nat.le_of_ble_eq_true rfl) (fun s1 ws1 => t_letE hk ws1 (fun hk => ?_))
      refine mj_aload_n dX0_keepSame_95 2 rfl ?_
      refine t_getR 353 dX0_keepSame_96 F_X0_250 qr_334_20 ?_
      refine mj_iload_n dX0_keepSame_99 3 rfl ?_
      refine mj_aload_n dX0_keepSame_100 2 rfl ?_
      refine t_getI dX0_keepSame_101 F_X0_55 qf_334_4 ?_
      refine t_bndK hk (fun r4 er4 hk => ?_)
      refine t_callVvE dX0_keepSame_104 M_X10_setLiteral (C_X10_setLiteral _ _ _ _ er4) ML_X0_267 IM_X10_setLiteral SE_X10_setLiteral qc_353 rfl (As := [.int x1, .int (s1.1 334 4)]) rfl rfl (Nat.le_of_ble_eq_true rfl) (Nat.le_of_ble_eq_true rfl) (Nat.le_of_ble_eq_true rfl) (Nat.le_of_ble_eq_true rfl) ?_
      refine mj_aload_n dX0_keepSame_107 2 rfl ?_
      refine mj_dup dX0_keepSame_108 rfl ?_
      refine t_getI dX0_keepSame_109 F_X0_55 qf_334_4 ?_
      refine mj_iload_n dX0_keepSame_112 0 rfl ?_
      refine mj_iadd dX0_keepSame_113 ?_
      refine t_putIK dX0_keepSame_114 F_X0_55 qf_334_4 rfl (fun s2 ws2 => t_letE hk ws2 (fun hk => ?_))
      refine mj_sublv [(0, .ref 334)] [2] rfl ?_
      exact B_X0_keepSame_117 _ _ hk
  · refine mj_aload_n dX0_keepSame_31 2 rfl ?_
    refine t_getI dX0_keepSame_32 F_X0_62 qf_334_7 ?_
    refine mj_iconst (v := 1) dX0_keepSame_35 (by decide) ?_
    refine mj_icmp_le 117 dX0_keepSame_36 (by decide) (fun z => t_posK hk z (fun hk => ?_)) (fun z => t_negK hk z (fun hk => ?_))
    · refine mj_sublv [(0, .ref 334)] [2] rfl ?_
      exact B_X0_keepSame_117 _ _ hk
    · refine mj_aload_n dX0_keepSame_39 2 rfl ?_
      refine t_getR 353 dX0_keepSame_40 F_X0_250 qr_334_20 ?_
      refine mj_iload_n dX0_keepSame_43 3 rfl ?_
      refine mj_aload_n dX0_keepSame_44 2 rfl ?_
      refine t_getR 338 dX0_keepSame_45 F_X0_21 qr_334_5 ?_
      refine mj_iload_n dX0_keepSame_48 1 rfl ?_
      refine mj_aload_n dX0_keepSame_49 2 rfl ?_
      refine t_getR 339 dX0_keepSame_50 F_X0_24 qr_334_6 ?_
      refine mj_aload_n dX0_keepSame_53 2 rfl ?_
      refine t_getI dX0_keepSame_54 F_X0_62 qf_334_7 ?_
      refine mj_iconst (v := 2) dX0_keepSame_57 (by decide) ?_
      refine mj_isub dX0_keepSame_58 ?_
      refine t_chkK hk (fun c4 hk => ?_)
      refine t_iald dX0_keepSame_59 qa_339 (t_ixv c4) ?_
      refine t_bndK hk (fun r6 er6 hk => ?_)
      refine t_callVvE dX0_keepSame_60 M_X10_markSame (C_X10_markSame _ _ _ _ _ _ er6) ML_X0_263 IM_X10_markSame SE_X10_markSame qc_353 rfl (As := [.int x1, .ref 338, .int (s.1 339 (((s.1 334 7) - (1 : Int32)).toNatClampNeg)), .int (s.1 339 (((s.1 334 7) - (2 : Int32)).toNatClampNeg))]) rfl rfl (Nat.le_of_ble_eq_true rfl) (Nat.le_of_ble_eq_true rfl) (Nat.le_of_ble_eq_true rfl) (Nat.le_of_ble_eq_true rfl) ?_
      refine mj_goto 117 dX0_keepSame_63 (by decide) ?_
      refine mj_sublv [(0, .ref 334)] [2] rfl ?_
      exact B_X0_keepSame_117 _ _ hk

theorem dX0_makeList_0 : decode cX0_makeList 0 = .ok (.iload_n 1, 1) := by decide +kernel
theorem dX0_makeList_1 : decode cX0_makeList 1 = .ok (.ifCond .lt 19, 3) := by decide +kernel
theorem dX0_makeList_101 : decode cX0_makeList 101 = .ok (.iload_n 3, 1) := by decide +kernel
theorem dX0_makeList_102 : decode cX0_makeList 102 = .ok (.bipush 120, 2) := by decide +kernel
theorem dX0_makeList_104 : decode cX0_makeList 104 = .ok (.if_icmp .le 8, 3) := by decide +kernel
theorem dX0_makeList_107 : decode cX0_makeList 107 = .ok (.aload_n 0, 1) := by decide +kernel
theorem dX0_makeList_108 : decode cX0_makeList 108 = .ok (.iconst 3, 1) := by decide +kernel
theorem dX0_makeList_109 : decode cX0_makeList 109 = .ok (.putfield 71, 3) := by decide +kernel
theorem dX0_makeList_112 : decode cX0_makeList 112 = .ok (.aload_n 0, 1) := by decide +kernel
theorem dX0_makeList_113 : decode cX0_makeList 113 = .ok (.getfield 71, 3) := by decide +kernel
theorem dX0_makeList_116 : decode cX0_makeList 116 = .ok (.ifCond .eq 4, 3) := by decide +kernel
theorem dX0_makeList_119 : decode cX0_makeList 119 = .ok (.return_, 1) := by decide +kernel
theorem dX0_makeList_12 : decode cX0_makeList 12 = .ok (.aload_n 0, 1) := by decide +kernel
theorem dX0_makeList_120 : decode cX0_makeList 120 = .ok (.aload_n 0, 1) := by decide +kernel
theorem dX0_makeList_121 : decode cX0_makeList 121 = .ok (.getfield 21, 3) := by decide +kernel
theorem dX0_makeList_124 : decode cX0_makeList 124 = .ok (.iload_n 2, 1) := by decide +kernel
theorem dX0_makeList_125 : decode cX0_makeList 125 = .ok (.aload_n 0, 1) := by decide +kernel
theorem dX0_makeList_126 : decode cX0_makeList 126 = .ok (.getfield 21, 3) := by decide +kernel
theorem dX0_makeList_129 : decode cX0_makeList 129 = .ok (.iload_n 2, 1) := by decide +kernel
theorem dX0_makeList_13 : decode cX0_makeList 13 = .ok (.iconst 1, 1) := by decide +kernel
theorem dX0_makeList_130 : decode cX0_makeList 130 = .ok (.iconst 1, 1) := by decide +kernel
theorem dX0_makeList_131 : decode cX0_makeList 131 = .ok (.iadd, 1) := by decide +kernel
theorem dX0_makeList_132 : decode cX0_makeList 132 = .ok (.iload_n 3, 1) := by decide +kernel
theorem dX0_makeList_133 : decode cX0_makeList 133 = .ok (.iconst 1, 1) := by decide +kernel
theorem dX0_makeList_134 : decode cX0_makeList 134 = .ok (.isub, 1) := by decide +kernel
theorem dX0_makeList_135 : decode cX0_makeList 135 = .ok (.invokestatic 154, 3) := by decide +kernel
theorem dX0_makeList_138 : decode cX0_makeList 138 = .ok (.aload_n 0, 1) := by decide +kernel
theorem dX0_makeList_139 : decode cX0_makeList 139 = .ok (.getfield 21, 3) := by decide +kernel
theorem dX0_makeList_14 : decode cX0_makeList 14 = .ok (.invokevirtual 146, 3) := by decide +kernel
theorem dX0_makeList_142 : decode cX0_makeList 142 = .ok (.iload_n 2, 1) := by decide +kernel
theorem dX0_makeList_143 : decode cX0_makeList 143 = .ok (.bipush 8, 2) := by decide +kernel
theorem dX0_makeList_145 : decode cX0_makeList 145 = .ok (.iload_n 3, 1) := by decide +kernel
theorem dX0_makeList_146 : decode cX0_makeList 146 = .ok (.iload_n 1, 1) := by decide +kernel
theorem dX0_makeList_147 : decode cX0_makeList 147 = .ok (.i2l, 1) := by decide +kernel
theorem dX0_makeList_148 : decode cX0_makeList 148 = .ok (.invokestatic 189, 3) := by decide +kernel
theorem dX0_makeList_151 : decode cX0_makeList 151 = .ok (.lastore, 1) := by decide +kernel
theorem dX0_makeList_152 : decode cX0_makeList 152 = .ok (.aload_n 0, 1) := by decide +kernel
theorem dX0_makeList_153 : decode cX0_makeList 153 = .ok (.dup, 1) := by decide +kernel
theorem dX0_makeList_154 : decode cX0_makeList 154 = .ok (.getfield 62, 3) := by decide +kernel
theorem dX0_makeList_157 : decode cX0_makeList 157 = .ok (.iload_n 1, 1) := by decide +kernel
theorem dX0_makeList_158 : decode cX0_makeList 158 = .ok (.isub, 1) := by decide +kernel
theorem dX0_makeList_159 : decode cX0_makeList 159 = .ok (.putfield 62, 3) := by decide +kernel
theorem dX0_makeList_162 : decode cX0_makeList 162 = .ok (.aload_n 0, 1) := by decide +kernel
theorem dX0_makeList_163 : decode cX0_makeList 163 = .ok (.getfield 24, 3) := by decide +kernel
theorem dX0_makeList_166 : decode cX0_makeList 166 = .ok (.aload_n 0, 1) := by decide +kernel
theorem dX0_makeList_167 : decode cX0_makeList 167 = .ok (.getfield 62, 3) := by decide +kernel
theorem dX0_makeList_17 : decode cX0_makeList 17 = .ok (.ifCond .ne 4, 3) := by decide +kernel
theorem dX0_makeList_170 : decode cX0_makeList 170 = .ok (.iconst 1, 1) := by decide +kernel
theorem dX0_makeList_171 : decode cX0_makeList 171 = .ok (.iadd, 1) := by decide +kernel
theorem dX0_makeList_172 : decode cX0_makeList 172 = .ok (.iload_n 2, 1) := by decide +kernel
theorem dX0_makeList_173 : decode cX0_makeList 173 = .ok (.iload_n 3, 1) := by decide +kernel
theorem dX0_makeList_174 : decode cX0_makeList 174 = .ok (.iadd, 1) := by decide +kernel
theorem dX0_makeList_175 : decode cX0_makeList 175 = .ok (.iastore, 1) := by decide +kernel
theorem dX0_makeList_176 : decode cX0_makeList 176 = .ok (.aload_n 0, 1) := by decide +kernel
theorem dX0_makeList_177 : decode cX0_makeList 177 = .ok (.dup, 1) := by decide +kernel
theorem dX0_makeList_178 : decode cX0_makeList 178 = .ok (.getfield 62, 3) := by decide +kernel
theorem dX0_makeList_181 : decode cX0_makeList 181 = .ok (.iconst 1, 1) := by decide +kernel
theorem dX0_makeList_182 : decode cX0_makeList 182 = .ok (.iadd, 1) := by decide +kernel
theorem dX0_makeList_183 : decode cX0_makeList 183 = .ok (.putfield 62, 3) := by decide +kernel
theorem dX0_makeList_186 : decode cX0_makeList 186 = .ok (.return_, 1) := by decide +kernel
theorem dX0_makeList_20 : decode cX0_makeList 20 = .ok (.return_, 1) := by decide +kernel
theorem dX0_makeList_21 : decode cX0_makeList 21 = .ok (.aload_n 0, 1) := by decide +kernel
theorem dX0_makeList_22 : decode cX0_makeList 22 = .ok (.getfield 24, 3) := by decide +kernel
theorem dX0_makeList_25 : decode cX0_makeList 25 = .ok (.aload_n 0, 1) := by decide +kernel
theorem dX0_makeList_26 : decode cX0_makeList 26 = .ok (.getfield 62, 3) := by decide +kernel
theorem dX0_makeList_29 : decode cX0_makeList 29 = .ok (.iload_n 1, 1) := by decide +kernel
theorem dX0_makeList_30 : decode cX0_makeList 30 = .ok (.isub, 1) := by decide +kernel
theorem dX0_makeList_31 : decode cX0_makeList 31 = .ok (.iaload, 1) := by decide +kernel
theorem dX0_makeList_32 : decode cX0_makeList 32 = .ok (.istore_n 2, 1) := by decide +kernel
theorem dX0_makeList_33 : decode cX0_makeList 33 = .ok (.aload_n 0, 1) := by decide +kernel
theorem dX0_makeList_34 : decode cX0_makeList 34 = .ok (.getfield 24, 3) := by decide +kernel
theorem dX0_makeList_37 : decode cX0_makeList 37 = .ok (.aload_n 0, 1) := by decide +kernel
theorem dX0_makeList_38 : decode cX0_makeList 38 = .ok (.getfield 62, 3) := by decide +kernel
theorem dX0_makeList_4 : decode cX0_makeList 4 = .ok (.iload_n 1, 1) := by decide +kernel
theorem dX0_makeList_41 : decode cX0_makeList 41 = .ok (.iaload, 1) := by decide +kernel
theorem dX0_makeList_42 : decode cX0_makeList 42 = .ok (.iload_n 2, 1) := by decide +kernel
theorem dX0_makeList_43 : decode cX0_makeList 43 = .ok (.isub, 1) := by decide +kernel
theorem dX0_makeList_44 : decode cX0_makeList 44 = .ok (.iconst 1, 1) := by decide +kernel
theorem dX0_makeList_45 : decode cX0_makeList 45 = .ok (.iadd, 1) := by decide +kernel
theorem dX0_makeList_46 : decode cX0_makeList 46 = .ok (.istore_n 3, 1) := by decide +kernel
theorem dX0_makeList_47 : decode cX0_makeList 47 = .ok (.aload_n 0, 1) := by decide +kernel
theorem dX0_makeList_48 : decode cX0_makeList 48 = .ok (.getfield 62, 3) := by decide +kernel
theorem dX0_makeList_5 : decode cX0_makeList 5 = .ok (.aload_n 0, 1) := by decide +kernel
theorem dX0_makeList_51 : decode cX0_makeList 51 = .ok (.iload_n 1, 1) := by decide +kernel
theorem dX0_makeList_52 : decode cX0_makeList 52 = .ok (.isub, 1) := by decide +kernel
theorem dX0_makeList_53 : decode cX0_makeList 53 = .ok (.istore 4, 2) := by decide +kernel
theorem dX0_makeList_55 : decode cX0_makeList 55 = .ok (.iload 4, 2) := by decide +kernel
theorem dX0_makeList_57 : decode cX0_makeList 57 = .ok (.aload_n 0, 1) := by decide +kernel
theorem dX0_makeList_58 : decode cX0_makeList 58 = .ok (.getfield 62, 3) := by decide +kernel
theorem dX0_makeList_6 : decode cX0_makeList 6 = .ok (.getfield 62, 3) := by decide +kernel
theorem dX0_makeList_61 : decode cX0_makeList 61 = .ok (.if_icmp .ge 33, 3) := by decide +kernel
theorem dX0_makeList_64 : decode cX0_makeList 64 = .ok (.aload_n 0, 1) := by decide +kernel
theorem dX0_makeList_65 : decode cX0_makeList 65 = .ok (.getfield 21, 3) := by decide +kernel
theorem dX0_makeList_68 : decode cX0_makeList 68 = .ok (.aload_n 0, 1) := by decide +kernel
theorem dX0_makeList_69 : decode cX0_makeList 69 = .ok (.getfield 24, 3) := by decide +kernel
theorem dX0_makeList_72 : decode cX0_makeList 72 = .ok (.iload 4, 2) := by decide +kernel
theorem dX0_makeList_74 : decode cX0_makeList 74 = .ok (.iaload, 1) := by decide +kernel
theorem dX0_makeList_75 : decode cX0_makeList 75 = .ok (.laload, 1) := by decide +kernel
theorem dX0_makeList_76 : decode cX0_makeList 76 = .ok (.invokestatic 160, 3) := by decide +kernel
theorem dX0_makeList_79 : decode cX0_makeList 79 = .ok (.iconst 4, 1) := by decide +kernel
theorem dX0_makeList_80 : decode cX0_makeList 80 = .ok (.if_icmp .ne 8, 3) := by decide +kernel
theorem dX0_makeList_83 : decode cX0_makeList 83 = .ok (.aload_n 0, 1) := by decide +kernel
theorem dX0_makeList_84 : decode cX0_makeList 84 = .ok (.iconst 1, 1) := by decide +kernel
theorem dX0_makeList_85 : decode cX0_makeList 85 = .ok (.putfield 71, 3) := by decide +kernel
theorem dX0_makeList_88 : decode cX0_makeList 88 = .ok (.iinc 4 1, 3) := by decide +kernel
theorem dX0_makeList_9 : decode cX0_makeList 9 = .ok (.if_icmp .gt 11, 3) := by decide +kernel
theorem dX0_makeList_91 : decode cX0_makeList 91 = .ok (.goto (-36), 3) := by decide +kernel
theorem dX0_makeList_94 : decode cX0_makeList 94 = .ok (.aload_n 0, 1) := by decide +kernel
theorem dX0_makeList_95 : decode cX0_makeList 95 = .ok (.getfield 71, 3) := by decide +kernel
theorem dX0_makeList_98 : decode cX0_makeList 98 = .ok (.ifCond .ne 14, 3) := by decide +kernel
noncomputable def k_X0_makeList_112 (l1 : Int32) (l2 : Int32) (l3 : Int32) (s : t_S) : Option (t_S) :=
 if (s.1 334 12) = (0 : Int32) then (if t_cpok l2 (l2 + (1 : Int32)) (l3 - (1 : Int32)) 48000 48000 = true then
  t_let (t_cpJ s 338 338 l2 (l2 + (1 : Int32)) (l3 - (1 : Int32))) (fun s1 =>
 if t_ix l2 48000 = true then
  t_let (t_setJ s1 338 (l2.toNatClampNeg) (f_X8_cell (8 : Int32) l3 l1.toInt64 s1)) (fun s2 =>
 t_let (t_setI s2 334 7 ((s2.1 334 7) - l1)) (fun s3 =>
 if t_ix ((s3.1 334 7) + (1 : Int32)) 3201 = true then
  t_let (t_setI s3 339 (((s3.1 334 7) + (1 : Int32)).toNatClampNeg) (l2 + l3)) (fun s4 =>
 t_let (t_setI s4 334 7 ((s4.1 334 7) + (1 : Int32))) (fun s5 =>
 some (s5)))
else none))
else none)
else none)
 else (some (s))
set_option maxRecDepth 4000 in
set_option maxHeartbeats 1000000 in
theorem B_X0_makeList_112 {D : va_G} {cy : Nat → ClassId} {ad : Nat → Nat} {bs : Nat} {X : State → Heap → Prop} (l1 : Int32) (l2 : Int32) (l3 : Int32) (s : t_S) (Q : t_S → Prop) (hk : t_hk (k_X0_makeList_112 l1 l2 l3 s) Q) : mj_G D cy ad bs X cX0_makeList 5 yX0_makeList.cls none yX0_makeList.name 1 0 0 1065 (t_P (fun v s' => v = none ∧ Q (s'))) 112 [(0, .ref 334), (1, .int l1), (2, .int l2), (3, .int l3)] [] (t_m s) 1065 0 0 := by
  refine mj_aload_n dX0_makeList_112 0 rfl ?_
  refine t_getI dX0_makeList_113 F_X0_71 qf_334_12 ?_
  refine mj_if_eq 120 dX0_makeList_116 (by decide) (fun z => t_posK hk z (fun hk => ?_)) (fun z => t_negK hk z (fun hk => ?_))
  · refine mj_aload_n dX0_makeList_120 0 rfl ?_
    refine t_getR 338 dX0_makeList_121 F_X0_21 qr_334_5 ?_
    refine mj_iload_n dX0_makeList_124 2 rfl ?_
    refine mj_aload_n dX0_makeList_125 0 rfl ?_
    refine t_getR 338 dX0_makeList_126 F_X0_21 qr_334_5 ?_
    refine mj_iload_n dX0_makeList_129 2 rfl ?_
    refine mj_iconst (v := 1) dX0_makeList_130 (by decide) ?_
    refine mj_iadd dX0_makeList_131 ?_
    refine mj_iload_n dX0_makeList_132 3 rfl ?_
    refine mj_iconst (v := 1) dX0_makeList_133 (by decide) ?_
    refine mj_isub dX0_makeList_134 ?_
    refine t_chkK hk (fun c0 hk => ?_)
    refine t_copyK dX0_makeList_135 MA_X0_154 qa_338 qa_338 c0 (Nat.le_of_ble_eq_true rfl) (Nat.le_of_ble_eq_true rfl) (fun s1 ws1 => t_letE hk ws1 (fun hk => ?_))
    refine mj_aload_n dX0_makeList_138 0 rfl ?_
    refine t_getR 338 dX0_makeList_139 F_X0_21 qr_334_5 ?_
    refine mj_iload_n dX0_makeList_142 2 rfl ?_
    refine mj_bipush (v := 8) dX0_makeList_143 (by decide) ?_
    refine mj_iload_n dX0_makeList_145 3 rfl ?_
    refine mj_iload_n dX0_makeList_146 1 rfl ?_
    refine mj_i2l (v := l1.toInt64) dX0_makeList_147 rfl ?_
    refine t_callSlP dX0_makeList_148 M_X8_cell (C_X8_cell _ _ _ _) ML_X0_189 SM_X8_cell (As := [.int 8, .int l3, .long l1.toInt64]) rfl rfl (Nat.le_of_ble_eq_true rfl) (Nat.le_of_ble_eq_true rfl) (Nat.le_of_ble_eq_true rfl) (Nat.le_of_ble_eq_true rfl) ?_
    refine t_chkK hk (fun c2 hk => ?_)
    refine t_lastK dX0_makeList_151 qa_338 (t_ixv c2) (fun s2 ws2 => t_letE hk ws2 (fun hk => ?_))
    refine mj_aload_n dX0_makeList_152 0 rfl ?_
    refine mj_dup dX0_makeList_153 rfl ?_
    refine t_getI dX0_makeList_154 F_X0_62 qf_334_7 ?_
    refine mj_iload_n dX0_makeList_157 1 rfl ?_
    refine mj_isub dX0_makeList_158 ?_
    refine t_putIK dX0_makeList_159 F_X0_62 qf_334_7 rfl (fun s3 ws3 => t_letE hk ws3 (fun hk => ?_))
    refine mj_aload_n dX0_makeList_162 0 rfl ?_
    refine t_getR 339 dX0_makeList_163 F_X0_24 qr_334_6 ?_
    refine mj_aload_n dX0_makeList_166 0 rfl ?_
    refine t_getI dX0_makeList_167 F_X0_62 qf_334_7 ?_
    refine mj_iconst (v := 1) dX0_makeList_170 (by decide) ?_
    refine mj_iadd dX0_makeList_171 ?_
    refine mj_iload_n dX0_makeList_172 2 rfl ?_
    refine mj_iload_n dX0_makeList_173 3 rfl ?_
    refine mj_iadd dX0_makeList_174 ?_
    refine t_chkK hk (fun c3 hk => ?_)
    refine t_iastK dX0_makeList_175 qa_339 (t_ixv c3) (fun s4 ws4 => t_letE hk ws4 (fun hk => ?_))
    refine mj_aload_n dX0_makeList_176 0 rfl ?_
    refine mj_dup dX0_makeList_177 rfl ?_
    refine t_getI dX0_makeList_178 F_X0_62 qf_334_7 ?_
    refine mj_iconst (v := 1) dX0_makeList_181 (by decide) ?_
    refine mj_iadd dX0_makeList_182 ?_
    refine t_putIK dX0_makeList_183 F_X0_62 qf_334_7 rfl (fun s5 ws5 => t_letE hk ws5 (fun hk => ?_))
    exact t_somK hk (fun hf => t_vret dX0_makeList_186 rfl ⟨rfl, hf⟩ (Nat.le_of_ble_eq_true rfl) (Nat.le_of_ble_eq_true rfl))
  · exact t_somK hk (fun hf => t_vret dX0_makeList_119 rfl ⟨rfl, hf⟩ (Nat.le_of_ble_eq_true rfl) (Nat.le_of_ble_eq_true rfl))
noncomputable def k_X0_makeList_88 (l1 : Int32) (l2 : Int32) (l3 : Int32) (l4 : Int32) (s : t_S) : Option ((Int32 × Int32 × Int32 × Int32 × t_S) ⊕ (t_S)) :=
 some (.inl (l1, l2, l3, (l4 + 1), s))
set_option maxRecDepth 4000 in
set_option maxHeartbeats 1000000 in
theorem B_X0_makeList_88 {D : va_G} {cy : Nat → ClassId} {ad : Nat → Nat} {bs : Nat} {X : State → Heap → Prop} (l1 : Int32) (l2 : Int32) (l3 : Int32) (l4 : Int32) (s : t_S) (Q : (Int32 × Int32 × Int32 × Int32 × t_S) ⊕ (t_S) → Prop) (Hb55 : ∀ (y0 : Int32) (y1 : Int32) (y2 : Int32) (y3 : Int32) (y4 : t_S), Q (.inl (y0, y1, y2, y3, y4)) → mj_G D cy ad bs X cX0_makeList 5 yX0_makeList.cls none yX0_makeList.name 1 0 0 1065 (t_P (fun v s' => v = none ∧ Q (.inr (s')))) 55 [(0, .ref 334), (1, .int (y0)), (2, .int (y1)), (3, .int (y2)), (4, .int (y3))] [] (t_m y4) 1065 0 0) (hk : t_hk (k_X0_makeList_88 l1 l2 l3 l4 s) Q) : mj_G D cy ad bs X cX0_makeList 5 yX0_makeList.cls none yX0_makeList.name 1 0 0 1065 (t_P (fun v s' => v = none ∧ Q (.inr (s')))) 88 [(0, .ref 334), (1, .int l1), (2, .int l2), (3, .int l3), (4, .int l4)] [] (t_m s) 1065 0 0 := by
  refine mj_iinc (k := 4) (v := (l4 + 1)) (lv2 := [(4, .int (l4 + 1)), (0, .ref 334), (1, .int l1), (2, .int l2), (3, .int l3)]) dX0_makeList_88 rfl rfl (by decide) rfl ?_
  refine mj_goto 55 dX0_makeList_91 (by decide) ?_
  refine mj_sublv [(0, .ref 334), (1, .int l1), (2, .int l2), (3, .int l3), (4, .int (l4 + 1))] [1, 2, 3, 4, 0] rfl ?_
  exact t_somK hk (fun hf => Hb55 l1 l2 l3 (l4 + 1) s hf)
noncomputable def k_X0_makeList_55 (l1 : Int32) (l2 : Int32) (l3 : Int32) (l4 : Int32) (s : t_S) : Option ((Int32 × Int32 × Int32 × Int32 × t_S) ⊕ (t_S)) :=
 if (s.1 334 7) ≤ l4 then ((if (s.1 334 12) = (0 : Int32) then (if l3 ≤ (120 : Int32) then (k_X0_makeList_112 l1 l2 l3 s)
 else (t_let (t_setI s 334 12 (3 : Int32)) (fun s1 =>
 k_X0_makeList_112 l1 l2 l3 s1)))
 else (k_X0_makeList_112 l1 l2 l3 s)).map Sum.inr)
 else (if t_ix l4 3201 = true then
  if t_ix (s.1 339 (l4.toNatClampNeg)) 48000 = true then
  if (f_X8_kind (s.2.1 338 ((s.1 339 (l4.toNatClampNeg)).toNatClampNeg)) s) = (4 : Int32) then (t_let (t_setI s 334 12 (1 : Int32)) (fun s2 =>
 k_X0_makeList_88 l1 l2 l3 l4 s2))
 else (k_X0_makeList_88 l1 l2 l3 l4 s)
else none
else none)
set_option maxRecDepth 4000 in
set_option maxHeartbeats 1000000 in
theorem B_X0_makeList_55 {D : va_G} {cy : Nat → ClassId} {ad : Nat → Nat} {bs : Nat} {X : State → Heap → Prop} (l1 : Int32) (l2 : Int32) (l3 : Int32) (l4 : Int32) (s : t_S) (Q : (Int32 × Int32 × Int32 × Int32 × t_S) ⊕ (t_S) → Prop) (Hb55 : ∀ (y0 : Int32) (y1 : Int32) (y2 : Int32) (y3 : Int32) (y4 : t_S), Q (.inl (y0, y1, y2, y3, y4)) → mj_G D cy ad bs X cX0_makeList 5 yX0_makeList.cls none yX0_makeList.name 1 0 0 1065 (t_P (fun v s' => v = none ∧ Q (.inr (s')))) 55 [(0, .ref 334), (1, .int (y0)), (2, .int (y1)), (3, .int (y2)), (4, .int (y3))] [] (t_m y4) 1065 0 0) (hk : t_hk (k_X0_makeList_55 l1 l2 l3 l4 s) Q) : mj_G D cy ad bs X cX0_makeList 5 yX0_makeList.cls none yX0_makeList.name 1 0 0 1065 (t_P (fun v s' => v = none ∧ Q (.inr (s')))) 55 [(0, .ref 334), (1, .int l1), (2, .int l2), (3, .int l3), (4, .int l4)] [] (t_m s) 1065 0 0 := by
  refine mj_iload dX0_makeList_55 4 rfl ?_
  refine mj_aload_n dX0_makeList_57 0 rfl ?_
  refine t_getI dX0_makeList_58 F_X0_62 qf_334_7 ?_
  refine mj_icmp_ge 94 dX0_makeList_61 (by decide) (fun z => t_posK hk z (fun hk => ?_)) (fun z => t_negK hk z (fun hk => ?_))
  · refine t_mapK hk (fun hk => ?_)
    refine mj_aload_n dX0_makeList_94 0 rfl ?_
    refine t_getI dX0_makeList_95 F_X0_71 qf_334_12 ?_
    refine mj_if_ne 112 dX0_makeList_98 (by decide) (fun z => t_negK hk z (fun hk => ?_)) (fun z => t_posK hk z (fun hk => ?_))
    · refine mj_sublv [(0, .ref 334), (1, .int l1), (2, .int l2), (3, .int l3)] [0, 1, 2, 3] rfl ?_
      exact B_X0_makeList_112 _ _ _ _ _ hk
    · refine mj_iload_n dX0_makeList_101 3 rfl ?_
      refine mj_bipush (v := 120) dX0_makeList_102 (by decide) ?_
      refine mj_icmp_le 112 dX0_makeList_104 (by decide) (fun z => t_posK hk z (fun hk => ?_)) (fun z => t_negK hk z (fun hk => ?_))
      · refine mj_sublv [(0, .ref 334), (1, .int l1), (2, .int l2), (3, .int l3)] [0, 1, 2, 3] rfl ?_
        exact B_X0_makeList_112 _ _ _ _ _ hk
      · refine mj_aload_n dX0_makeList_107 0 rfl ?_
        refine mj_iconst (v := 3) dX0_makeList_108 (by decide) ?_
        refine t_putIK dX0_makeList_109 F_X0_71 qf_334_12 rfl (fun s1 ws1 => t_letE hk ws1 (fun hk => ?_))
        refine mj_sublv [(0, .ref 334), (1, .int l1), (2, .int l2), (3, .int l3)] [0, 1, 2, 3] rfl ?_
        exact B_X0_makeList_112 _ _ _ _ _ hk
  · refine mj_aload_n dX0_makeList_64 0 rfl ?_
    refine t_getR 338 dX0_makeList_65 F_X0_21 qr_334_5 ?_
    refine mj_aload_n dX0_makeList_68 0 rfl ?_
    refine t_getR 339 dX0_makeList_69 F_X0_24 qr_334_6 ?_
    refine mj_iload dX0_makeList_72 4 rfl ?_
    refine t_chkK hk (fun c0 hk => ?_)
    refine t_iald dX0_makeList_74 qa_339 (t_ixv c0) ?_
    refine t_chkK hk (fun c1 hk => ?_)
    refine t_lald dX0_makeList_75 qa_338 (t_ixv c1) ?_
    refine t_callSiP dX0_makeList_76 M_X8_kind (C_X8_kind _ _) ML_X0_160 SM_X8_kind (As := [.long (s.2.1 338 ((s.1 339 (l4.toNatClampNeg)).toNatClampNeg))]) rfl rfl (Nat.le_of_ble_eq_true rfl) (Nat.le_of_ble_eq_true rfl) (Nat.le_of_ble_eq_true rfl) (Nat.le_of_ble_eq_true rfl) ?_
    refine mj_iconst (v := 4) dX0_makeList_79 (by decide) ?_
    refine mj_icmp_ne 88 dX0_makeList_80 (by decide) (fun z => t_negK hk z (fun hk => ?_)) (fun z => t_posK hk z (fun hk => ?_))
    · exact B_X0_makeList_88 _ _ _ _ _ _ (fun y0 y1 y2 y3 y4 hx => Hb55 y0 y1 y2 y3 y4 hx) hk
    · refine mj_aload_n dX0_makeList_83 0 rfl ?_
      refine mj_iconst (v := 1) dX0_makeList_84 (by decide) ?_
      refine t_putIK dX0_makeList_85 F_X0_71 qf_334_12 rfl (fun s2 ws2 => t_letE hk ws2 (fun hk => ?_))
      exact B_X0_makeList_88 _ _ _ _ _ _ (fun y0 y1 y2 y3 y4 hx => Hb55 y0 y1 y2 y3 y4 hx) hk
noncomputable def b_X0_makeList_55 (x : Int32 × Int32 × Int32 × Int32 × t_S) : Option ((Int32 × Int32 × Int32 × Int32 × t_S) ⊕ (t_S)) := k_X0_makeList_55 x.1 x.2.1 x.2.2.1 x.2.2.2.1 x.2.2.2.2
set_option maxRecDepth 4000 in
set_option maxHeartbeats 1000000 in
theorem LH_X0_makeList_55 {D : va_G} {cy : Nat → ClassId} {ad : Nat → Nat} {bs : Nat} {X : State → Heap → Prop} : ∀ (n : Nat) (y0 : Int32) (y1 : Int32) (y2 : Int32) (y3 : Int32) (y4 : t_S) (Q : t_S → Prop) (hk : t_hk (t_loop (b_X0_makeList_55) n (y0, y1, y2, y3, y4)) Q), mj_G D cy ad bs X cX0_makeList 5 yX0_makeList.cls none yX0_makeList.name 1 0 0 1065 (t_P (fun v s' => v = none ∧ Q (s'))) 55 [(0, .ref 334), (1, .int (y0)), (2, .int (y1)), (3, .int (y2)), (4, .int (y3))] [] (t_m y4) 1065 0 0 := by
  intro n
  induction n with
  | zero => intro y0 y1 y2 y3 y4 Q hk; obtain ⟨r, hr, _⟩ := hk; cases hr
  | succ n ih =>
    intro y0 y1 y2 y3 y4 Q hk
    exact B_X0_makeList_55 y0 y1 y2 y3 y4 (fun y => t_lq (b_X0_makeList_55) n Q y) (fun y0' y1' y2' y3' y4' hy => ih y0' y1' y2' y3' y4' Q hy) (t_lp hk)
noncomputable def f_X0_makeList (x1 : Int32) (s : t_S) : Option (t_S) :=
 if x1 < (0 : Int32) then (some (s))
 else (if (s.1 334 7) < x1 then (some (s))
 else ((f_X0_hasRoom (1 : Int32) s).bind (fun r1 =>
 if r1.1 = (0 : Int32) then (some (r1.2))
 else (if t_ix ((r1.2.1 334 7) - x1) 3201 = true then
  if t_ix (r1.2.1 334 7) 3201 = true then
  t_loop (b_X0_makeList_55) t_N (x1, (r1.2.1 339 (((r1.2.1 334 7) - x1).toNatClampNeg)), (((r1.2.1 339 ((r1.2.1 334 7).toNatClampNeg)) - (r1.2.1 339 (((r1.2.1 334 7) - x1).toNatClampNeg))) + (1 : Int32)), ((r1.2.1 334 7) - x1), r1.2)
else none
else none))))
set_option maxRecDepth 4000 in
set_option maxHeartbeats 1000000 in
theorem C_X0_makeList (x1 : Int32) (s : t_S) (r : t_S) (hr : f_X0_makeList x1 s = some r) : t_C yX0_makeList cX0_makeList 5 none 1 [.ref 334, .int x1] s (fun v s' => v = none ∧ s' = r) := by
  refine t_C.imp (P := fun v s' => v = none ∧ (fun q => q = r) (s')) (t_C.of (by decide +kernel) (Nat.le_of_ble_eq_true rfl) ?_) (fun v s' hp => hp)
  intro D cy ad bs X
  have hk : t_hk (f_X0_makeList x1 s) (fun q => q = r) := ⟨r, hr, rfl⟩
  show mj_G D cy ad bs X cX0_makeList 5 yX0_makeList.cls none yX0_makeList.name 1 0 0 1065 (t_P (fun v s' => v = none ∧ (fun q => q = r) (s'))) 0 [(0, .ref 334), (1, .int x1)] [] (t_m s) 1065 0 0
  refine mj_iload_n dX0_makeList_0 1 rfl ?_
  refine mj_if_lt 20 dX0_makeList_1 (by decide) (fun z => t_posK hk z (fun hk => ?_)) (fun z => t_negK hk z (fun hk => ?_))
  · exact t_somK hk (fun hf => t_vret dX0_makeList_20 rfl ⟨rfl, hf⟩ (Nat.le_of_ble_eq_true rfl) (Nat.le_of_ble_eq_true rfl))
  · refine mj_iload_n dX0_makeList_4 1 rfl ?_
    refine mj_aload_n dX0_makeList_5 0 rfl ?_
    refine t_getI dX0_makeList_6 F_X0_62 qf_334_7 ?_
    refine mj_icmp_gt 20 dX0_makeList_9 (by decide) (fun z => t_posK hk z (fun hk => ?_)) (fun z => t_negK hk z (fun hk => ?_))
    · exact t_somK hk (fun hf => t_vret dX0_makeList_20 rfl ⟨rfl, hf⟩ (Nat.le_of_ble_eq_true rfl) (Nat.le_of_ble_eq_true rfl))
    · refine mj_aload_n dX0_makeList_12 0 rfl ?_
      refine mj_iconst (v := 1) dX0_makeList_13 (by decide) ?_
      refine t_bndK hk (fun r1 er1 hk => ?_)
      refine t_callViE dX0_makeList_14 M_X0_hasRoom (C_X0_hasRoom _ _ _ er1) ML_X0_146 IM_X0_hasRoom SE_X0_hasRoom qc_334 rfl (As := [.int 1]) rfl rfl (Nat.le_of_ble_eq_true rfl) (Nat.le_of_ble_eq_true rfl) (Nat.le_of_ble_eq_true rfl) (Nat.le_of_ble_eq_true rfl) ?_
      refine mj_if_ne 21 dX0_makeList_17 (by decide) (fun z => t_negK hk z (fun hk => ?_)) (fun z => t_posK hk z (fun hk => ?_))
      · refine mj_aload_n dX0_makeList_21 0 rfl ?_
        refine t_getR 339 dX0_makeList_22 F_X0_24 qr_334_6 ?_
        refine mj_aload_n dX0_makeList_25 0 rfl ?_
        refine t_getI dX0_makeList_26 F_X0_62 qf_334_7 ?_
        refine mj_iload_n dX0_makeList_29 1 rfl ?_
        refine mj_isub dX0_makeList_30 ?_
        refine t_chkK hk (fun c1 hk => ?_)
        refine t_iald dX0_makeList_31 qa_339 (t_ixv c1) ?_
        refine mj_istore_n 2 (lv2 := [(2, .int (r1.2.1 339 (((r1.2.1 334 7) - x1).toNatClampNeg))), (0, .ref 334), (1, .int x1)]) dX0_makeList_32 rfl (by decide) rfl ?_
        refine mj_aload_n dX0_makeList_33 1 rfl ?_
        refine t_getR 339 dX0_makeList_34 F_X0_24 qr_334_6 ?_
        refine mj_aload_n dX0_makeList_37 1 rfl ?_
        refine t_getI dX0_makeList_38 F_X0_62 qf_334_7 ?_
        refine t_chkK hk (fun c2 hk => ?_)
        refine t_iald dX0_makeList_41 qa_339 (t_ixv c2) ?_
        refine mj_iload_n dX0_makeList_42 0 rfl ?_
        refine mj_isub dX0_makeList_43 ?_
        refine mj_iconst (v := 1) dX0_makeList_44 (by decide) ?_
        refine mj_iadd dX0_makeList_45 ?_
        refine mj_istore_n 3 (lv2 := [(3, .int (((r1.2.1 339 ((r1.2.1 334 7).toNatClampNeg)) - (r1.2.1 339 (((r1.2.1 334 7) - x1).toNatClampNeg))) + (1 : Int32))), (2, .int (r1.2.1 339 (((r1.2.1 334 7) - x1).toNatClampNeg))), (0, .ref 334), (1, .int x1)]) dX0_makeList_46 rfl (by decide) rfl ?_
        refine mj_aload_n dX0_makeList_47 2 rfl ?_
        refine t_getI dX0_makeList_48 F_X0_62 qf_334_7 ?_
        refine mj_iload_n dX0_makeList_51 3 rfl ?_
        refine mj_isub dX0_makeList_52 ?_
        refine mj_istore (lv2 := [(4, .int ((r1.2.1 334 7) - x1)), (3, .int (((r1.2.1 339 ((r1.2.1 334 7).toNatClampNeg)) - (r1.2.1 339 (((r1.2.1 334 7) - x1).toNatClampNeg))) + (1 : Int32))), (2, .int (r1.2.1 339 (((r1.2.1 334 7) - x1).toNatClampNeg))), (0, .ref 334), (1, .int x1)]) dX0_makeList_53 (by decide) rfl ?_
        refine mj_sublv [(0, .ref 334), (1, .int x1), (2, .int (r1.2.1 339 (((r1.2.1 334 7) - x1).toNatClampNeg))), (3, .int (((r1.2.1 339 ((r1.2.1 334 7).toNatClampNeg)) - (r1.2.1 339 (((r1.2.1 334 7) - x1).toNatClampNeg))) + (1 : Int32))), (4, .int ((r1.2.1 334 7) - x1))] [3, 4, 2, 1, 0] rfl ?_
        exact LH_X0_makeList_55 _ x1 (r1.2.1 339 (((r1.2.1 334 7) - x1).toNatClampNeg)) (((r1.2.1 339 ((r1.2.1 334 7).toNatClampNeg)) - (r1.2.1 339 (((r1.2.1 334 7) - x1).toNatClampNeg))) + (1 : Int32)) ((r1.2.1 334 7) - x1) r1.2 _ hk
      · exact t_somK hk (fun hf => t_vret dX0_makeList_20 rfl ⟨rfl, hf⟩ (Nat.le_of_ble_eq_true rfl) (Nat.le_of_ble_eq_true rfl))

theorem dX8_sortFields_0 : decode cX8_sortFields 0 = .ok (.aload_n 0, 1) := by decide +kernel
theorem dX8_sortFields_1 : decode cX8_sortFields 1 = .ok (.iload_n 1, 1) := by decide +kernel
theorem dX8_sortFields_102 : decode cX8_sortFields 102 = .ok (.goto (-68), 3) := by decide +kernel
theorem dX8_sortFields_105 : decode cX8_sortFields 105 = .ok (.iload 7, 2) := by decide +kernel
theorem dX8_sortFields_107 : decode cX8_sortFields 107 = .ok (.ifCond .ge 4, 3) := by decide +kernel
theorem dX8_sortFields_11 : decode cX8_sortFields 11 = .ok (.iconst (-1), 1) := by decide +kernel
theorem dX8_sortFields_110 : decode cX8_sortFields 110 = .ok (.return_, 1) := by decide +kernel
theorem dX8_sortFields_111 : decode cX8_sortFields 111 = .ok (.iconst 1, 1) := by decide +kernel
theorem dX8_sortFields_112 : decode cX8_sortFields 112 = .ok (.aload_n 0, 1) := by decide +kernel
theorem dX8_sortFields_113 : decode cX8_sortFields 113 = .ok (.iload 7, 2) := by decide +kernel
theorem dX8_sortFields_115 : decode cX8_sortFields 115 = .ok (.iconst 1, 1) := by decide +kernel
theorem dX8_sortFields_116 : decode cX8_sortFields 116 = .ok (.iadd, 1) := by decide +kernel
theorem dX8_sortFields_117 : decode cX8_sortFields 117 = .ok (.laload, 1) := by decide +kernel
theorem dX8_sortFields_118 : decode cX8_sortFields 118 = .ok (.l2i, 1) := by decide +kernel
theorem dX8_sortFields_119 : decode cX8_sortFields 119 = .ok (.iconst 4, 1) := by decide +kernel
theorem dX8_sortFields_12 : decode cX8_sortFields 12 = .ok (.istore 5, 2) := by decide +kernel
theorem dX8_sortFields_120 : decode cX8_sortFields 120 = .ok (.ishr, 1) := by decide +kernel
theorem dX8_sortFields_121 : decode cX8_sortFields 121 = .ok (.sipush 255, 3) := by decide +kernel
theorem dX8_sortFields_124 : decode cX8_sortFields 124 = .ok (.iand, 1) := by decide +kernel
theorem dX8_sortFields_125 : decode cX8_sortFields 125 = .ok (.iadd, 1) := by decide +kernel
theorem dX8_sortFields_126 : decode cX8_sortFields 126 = .ok (.istore 9, 2) := by decide +kernel
theorem dX8_sortFields_128 : decode cX8_sortFields 128 = .ok (.iload 4, 2) := by decide +kernel
theorem dX8_sortFields_130 : decode cX8_sortFields 130 = .ok (.iload 9, 2) := by decide +kernel
theorem dX8_sortFields_132 : decode cX8_sortFields 132 = .ok (.iadd, 1) := by decide +kernel
theorem dX8_sortFields_133 : decode cX8_sortFields 133 = .ok (.aload_n 2, 1) := by decide +kernel
theorem dX8_sortFields_134 : decode cX8_sortFields 134 = .ok (.arraylength, 1) := by decide +kernel
theorem dX8_sortFields_135 : decode cX8_sortFields 135 = .ok (.if_icmp .le 4, 3) := by decide +kernel
theorem dX8_sortFields_138 : decode cX8_sortFields 138 = .ok (.return_, 1) := by decide +kernel
theorem dX8_sortFields_139 : decode cX8_sortFields 139 = .ok (.aload_n 0, 1) := by decide +kernel
theorem dX8_sortFields_14 : decode cX8_sortFields 14 = .ok (.iconst 0, 1) := by decide +kernel
theorem dX8_sortFields_140 : decode cX8_sortFields 140 = .ok (.iload 7, 2) := by decide +kernel
theorem dX8_sortFields_142 : decode cX8_sortFields 142 = .ok (.aload_n 2, 1) := by decide +kernel
theorem dX8_sortFields_143 : decode cX8_sortFields 143 = .ok (.iload 4, 2) := by decide +kernel
theorem dX8_sortFields_145 : decode cX8_sortFields 145 = .ok (.iload 9, 2) := by decide +kernel
theorem dX8_sortFields_147 : decode cX8_sortFields 147 = .ok (.invokestatic 57, 3) := by decide +kernel
theorem dX8_sortFields_15 : decode cX8_sortFields 15 = .ok (.istore 6, 2) := by decide +kernel
theorem dX8_sortFields_150 : decode cX8_sortFields 150 = .ok (.iload 4, 2) := by decide +kernel
theorem dX8_sortFields_152 : decode cX8_sortFields 152 = .ok (.iload 9, 2) := by decide +kernel
theorem dX8_sortFields_154 : decode cX8_sortFields 154 = .ok (.iadd, 1) := by decide +kernel
theorem dX8_sortFields_155 : decode cX8_sortFields 155 = .ok (.istore 4, 2) := by decide +kernel
theorem dX8_sortFields_157 : decode cX8_sortFields 157 = .ok (.aload_n 0, 1) := by decide +kernel
theorem dX8_sortFields_158 : decode cX8_sortFields 158 = .ok (.iload 7, 2) := by decide +kernel
theorem dX8_sortFields_160 : decode cX8_sortFields 160 = .ok (.laload, 1) := by decide +kernel
theorem dX8_sortFields_161 : decode cX8_sortFields 161 = .ok (.bipush 12, 2) := by decide +kernel
theorem dX8_sortFields_163 : decode cX8_sortFields 163 = .ok (.lshr, 1) := by decide +kernel
theorem dX8_sortFields_164 : decode cX8_sortFields 164 = .ok (.l2i, 1) := by decide +kernel
theorem dX8_sortFields_165 : decode cX8_sortFields 165 = .ok (.istore 5, 2) := by decide +kernel
theorem dX8_sortFields_167 : decode cX8_sortFields 167 = .ok (.iinc 6 1, 3) := by decide +kernel
theorem dX8_sortFields_17 : decode cX8_sortFields 17 = .ok (.iload 6, 2) := by decide +kernel
theorem dX8_sortFields_170 : decode cX8_sortFields 170 = .ok (.goto (-153), 3) := by decide +kernel
theorem dX8_sortFields_173 : decode cX8_sortFields 173 = .ok (.aload_n 2, 1) := by decide +kernel
theorem dX8_sortFields_174 : decode cX8_sortFields 174 = .ok (.iconst 0, 1) := by decide +kernel
theorem dX8_sortFields_175 : decode cX8_sortFields 175 = .ok (.aload_n 0, 1) := by decide +kernel
theorem dX8_sortFields_176 : decode cX8_sortFields 176 = .ok (.iload_n 1, 1) := by decide +kernel
theorem dX8_sortFields_177 : decode cX8_sortFields 177 = .ok (.iconst 1, 1) := by decide +kernel
theorem dX8_sortFields_178 : decode cX8_sortFields 178 = .ok (.iadd, 1) := by decide +kernel
theorem dX8_sortFields_179 : decode cX8_sortFields 179 = .ok (.iload 4, 2) := by decide +kernel
theorem dX8_sortFields_181 : decode cX8_sortFields 181 = .ok (.invokestatic 57, 3) := by decide +kernel
theorem dX8_sortFields_184 : decode cX8_sortFields 184 = .ok (.return_, 1) := by decide +kernel
theorem dX8_sortFields_19 : decode cX8_sortFields 19 = .ok (.iload_n 3, 1) := by decide +kernel
theorem dX8_sortFields_2 : decode cX8_sortFields 2 = .ok (.laload, 1) := by decide +kernel
theorem dX8_sortFields_20 : decode cX8_sortFields 20 = .ok (.if_icmp .ge 153, 3) := by decide +kernel
theorem dX8_sortFields_23 : decode cX8_sortFields 23 = .ok (.iconst (-1), 1) := by decide +kernel
theorem dX8_sortFields_24 : decode cX8_sortFields 24 = .ok (.istore 7, 2) := by decide +kernel
theorem dX8_sortFields_26 : decode cX8_sortFields 26 = .ok (.iload_n 1, 1) := by decide +kernel
theorem dX8_sortFields_27 : decode cX8_sortFields 27 = .ok (.iconst 1, 1) := by decide +kernel
theorem dX8_sortFields_28 : decode cX8_sortFields 28 = .ok (.iadd, 1) := by decide +kernel
theorem dX8_sortFields_29 : decode cX8_sortFields 29 = .ok (.istore 8, 2) := by decide +kernel
theorem dX8_sortFields_3 : decode cX8_sortFields 3 = .ok (.bipush 12, 2) := by decide +kernel
theorem dX8_sortFields_31 : decode cX8_sortFields 31 = .ok (.iconst 0, 1) := by decide +kernel
theorem dX8_sortFields_32 : decode cX8_sortFields 32 = .ok (.istore 9, 2) := by decide +kernel
theorem dX8_sortFields_34 : decode cX8_sortFields 34 = .ok (.iload 9, 2) := by decide +kernel
theorem dX8_sortFields_36 : decode cX8_sortFields 36 = .ok (.iload_n 3, 1) := by decide +kernel
theorem dX8_sortFields_37 : decode cX8_sortFields 37 = .ok (.if_icmp .ge 68, 3) := by decide +kernel
theorem dX8_sortFields_40 : decode cX8_sortFields 40 = .ok (.aload_n 0, 1) := by decide +kernel
theorem dX8_sortFields_41 : decode cX8_sortFields 41 = .ok (.iload 8, 2) := by decide +kernel
theorem dX8_sortFields_43 : decode cX8_sortFields 43 = .ok (.laload, 1) := by decide +kernel
theorem dX8_sortFields_44 : decode cX8_sortFields 44 = .ok (.bipush 12, 2) := by decide +kernel
theorem dX8_sortFields_46 : decode cX8_sortFields 46 = .ok (.lshr, 1) := by decide +kernel
theorem dX8_sortFields_47 : decode cX8_sortFields 47 = .ok (.l2i, 1) := by decide +kernel
theorem dX8_sortFields_48 : decode cX8_sortFields 48 = .ok (.istore 10, 2) := by decide +kernel
theorem dX8_sortFields_5 : decode cX8_sortFields 5 = .ok (.lshr, 1) := by decide +kernel
theorem dX8_sortFields_50 : decode cX8_sortFields 50 = .ok (.iload 10, 2) := by decide +kernel
theorem dX8_sortFields_52 : decode cX8_sortFields 52 = .ok (.iload 5, 2) := by decide +kernel
theorem dX8_sortFields_54 : decode cX8_sortFields 54 = .ok (.if_icmp .le 25, 3) := by decide +kernel
theorem dX8_sortFields_57 : decode cX8_sortFields 57 = .ok (.iload 7, 2) := by decide +kernel
theorem dX8_sortFields_59 : decode cX8_sortFields 59 = .ok (.ifCond .lt 16, 3) := by decide +kernel
theorem dX8_sortFields_6 : decode cX8_sortFields 6 = .ok (.l2i, 1) := by decide +kernel
theorem dX8_sortFields_62 : decode cX8_sortFields 62 = .ok (.iload 10, 2) := by decide +kernel
theorem dX8_sortFields_64 : decode cX8_sortFields 64 = .ok (.aload_n 0, 1) := by decide +kernel
theorem dX8_sortFields_65 : decode cX8_sortFields 65 = .ok (.iload 7, 2) := by decide +kernel
theorem dX8_sortFields_67 : decode cX8_sortFields 67 = .ok (.laload, 1) := by decide +kernel
theorem dX8_sortFields_68 : decode cX8_sortFields 68 = .ok (.bipush 12, 2) := by decide +kernel
theorem dX8_sortFields_7 : decode cX8_sortFields 7 = .ok (.istore_n 3, 1) := by decide +kernel
theorem dX8_sortFields_70 : decode cX8_sortFields 70 = .ok (.lshr, 1) := by decide +kernel
theorem dX8_sortFields_71 : decode cX8_sortFields 71 = .ok (.l2i, 1) := by decide +kernel
theorem dX8_sortFields_72 : decode cX8_sortFields 72 = .ok (.if_icmp .ge 7, 3) := by decide +kernel
theorem dX8_sortFields_75 : decode cX8_sortFields 75 = .ok (.iload 8, 2) := by decide +kernel
theorem dX8_sortFields_77 : decode cX8_sortFields 77 = .ok (.istore 7, 2) := by decide +kernel
theorem dX8_sortFields_79 : decode cX8_sortFields 79 = .ok (.iload 8, 2) := by decide +kernel
theorem dX8_sortFields_8 : decode cX8_sortFields 8 = .ok (.iconst 0, 1) := by decide +kernel
theorem dX8_sortFields_81 : decode cX8_sortFields 81 = .ok (.iconst 1, 1) := by decide +kernel
theorem dX8_sortFields_82 : decode cX8_sortFields 82 = .ok (.aload_n 0, 1) := by decide +kernel
theorem dX8_sortFields_83 : decode cX8_sortFields 83 = .ok (.iload 8, 2) := by decide +kernel
theorem dX8_sortFields_85 : decode cX8_sortFields 85 = .ok (.iconst 1, 1) := by decide +kernel
theorem dX8_sortFields_86 : decode cX8_sortFields 86 = .ok (.iadd, 1) := by decide +kernel
theorem dX8_sortFields_87 : decode cX8_sortFields 87 = .ok (.laload, 1) := by decide +kernel
theorem dX8_sortFields_88 : decode cX8_sortFields 88 = .ok (.l2i, 1) := by decide +kernel
theorem dX8_sortFields_89 : decode cX8_sortFields 89 = .ok (.iconst 4, 1) := by decide +kernel
theorem dX8_sortFields_9 : decode cX8_sortFields 9 = .ok (.istore 4, 2) := by decide +kernel
theorem dX8_sortFields_90 : decode cX8_sortFields 90 = .ok (.ishr, 1) := by decide +kernel
theorem dX8_sortFields_91 : decode cX8_sortFields 91 = .ok (.sipush 255, 3) := by decide +kernel
theorem dX8_sortFields_94 : decode cX8_sortFields 94 = .ok (.iand, 1) := by decide +kernel
theorem dX8_sortFields_95 : decode cX8_sortFields 95 = .ok (.iadd, 1) := by decide +kernel
theorem dX8_sortFields_96 : decode cX8_sortFields 96 = .ok (.iadd, 1) := by decide +kernel
theorem dX8_sortFields_97 : decode cX8_sortFields 97 = .ok (.istore 8, 2) := by decide +kernel
theorem dX8_sortFields_99 : decode cX8_sortFields 99 = .ok (.iinc 9 1, 3) := by decide +kernel
noncomputable def k_X8_sortFields_79 (l0 : Nat) (l1 : Int32) (l2 : Nat) (l3 : Int32) (l4 : Int32) (l5 : Int32) (l6 : Int32) (l7 : Int32) (l8 : Int32) (l9 : Int32) (s : t_S) : Option ((Nat × Int32 × Nat × Int32 × Int32 × Int32 × Int32 × Int32 × Int32 × Int32 × t_S) ⊕ ((Nat × Int32 × Nat × Int32 × Int32 × Int32 × Int32 × t_S) ⊕ (t_S))) :=
 if t_oka l0 2 (t_ln l0) = true then
  if t_ix (l8 + (1 : Int32)) (t_ln l0) = true then
  some (.inl (l0, l1, l2, l3, l4, l5, l6, l7, (l8 + ((1 : Int32) + ((((s.2.1 l0 ((l8 + (1 : Int32)).toNatClampNeg)).toInt32) >>> ((4 : Int32) &&& 31)) &&& (255 : Int32)))), (l9 + 1), s))
else none
else none
set_option maxRecDepth 4000 in
set_option maxHeartbeats 1000000 in
theorem B_X8_sortFields_79 {D : va_G} {cy : Nat → ClassId} {ad : Nat → Nat} {bs : Nat} {X : State → Heap → Prop} (l0 : Nat) (l1 : Int32) (l2 : Nat) (l3 : Int32) (l4 : Int32) (l5 : Int32) (l6 : Int32) (l7 : Int32) (l8 : Int32) (l9 : Int32) (s : t_S) (Q : (Nat × Int32 × Nat × Int32 × Int32 × Int32 × Int32 × Int32 × Int32 × Int32 × t_S) ⊕ ((Nat × Int32 × Nat × Int32 × Int32 × Int32 × Int32 × t_S) ⊕ (t_S)) → Prop) (Hb17 : ∀ (y0 : Nat) (y1 : Int32) (y2 : Nat) (y3 : Int32) (y4 : Int32) (y5 : Int32) (y6 : Int32) (y7 : t_S), Q (.inr (.inl (y0, y1, y2, y3, y4, y5, y6, y7))) → mj_G D cy ad bs X cX8_sortFields 11 yX8_sortFields.cls none yX8_sortFields.name 1 0 0 1065 (t_P (fun v s' => v = none ∧ Q (.inr (.inr (s'))))) 17 [(0, .ref (y0)), (1, .int (y1)), (2, .ref (y2)), (3, .int (y3)), (4, .int (y4)), (5, .int (y5)), (6, .int (y6))] [] (t_m y7) 1065 0 0) (Hb34 : ∀ (y0 : Nat) (y1 : Int32) (y2 : Nat) (y3 : Int32) (y4 : Int32) (y5 : Int32) (y6 : Int32) (y7 : Int32) (y8 : Int32) (y9 : Int32) (y10 : t_S), Q (.inl (y0, y1, y2, y3, y4, y5, y6, y7, y8, y9, y10)) → mj_G D cy ad bs X cX8_sortFields 11 yX8_sortFields.cls none yX8_sortFields.name 1 0 0 1065 (t_P (fun v s' => v = none ∧ Q (.inr (.inr (s'))))) 34 [(0, .ref (y0)), (1, .int (y1)), (2, .ref (y2)), (3, .int (y3)), (4, .int (y4)), (5, .int (y5)), (6, .int (y6)), (7, .int (y7)), (8, .int (y8)), (9, .int (y9))] [] (t_m y10) 1065 0 0) (hk : t_hk (k_X8_sortFields_79 l0 l1 l2 l3 l4 l5 l6 l7 l8 l9 s) Q) : mj_G D cy ad bs X cX8_sortFields 11 yX8_sortFields.cls none yX8_sortFields.name 1 0 0 1065 (t_P (fun v s' => v = none ∧ Q (.inr (.inr (s'))))) 79 [(0, .ref l0), (1, .int l1), (2, .ref l2), (3, .int l3), (4, .int l4), (5, .int l5), (6, .int l6), (7, .int l7), (8, .int l8), (9, .int l9)] [] (t_m s) 1065 0 0 := by
  refine mj_iload dX8_sortFields_79 8 rfl ?_
  refine mj_iconst (v := 1) dX8_sortFields_81 (by decide) ?_
  refine mj_aload_n dX8_sortFields_82 0 rfl ?_
  refine mj_iload dX8_sortFields_83 8 rfl ?_
  refine mj_iconst (v := 1) dX8_sortFields_85 (by decide) ?_
  refine mj_iadd dX8_sortFields_86 ?_
  refine t_chkK hk (fun c0 hk => ?_)
  refine t_chkK hk (fun c1 hk => ?_)
  refine t_lald dX8_sortFields_87 c0 (t_ixv c1) ?_
  refine mj_l2i (v := (s.2.1 l0 ((l8 + (1 : Int32)).toNatClampNeg)).toInt32) dX8_sortFields_88 rfl ?_
  refine mj_iconst (v := 4) dX8_sortFields_89 (by decide) ?_
  refine mj_ishr dX8_sortFields_90 ?_
  refine mj_sipush (v := 255) dX8_sortFields_91 (by decide) ?_
  refine mj_iand dX8_sortFields_94 ?_
  refine mj_iadd dX8_sortFields_95 ?_
  refine mj_iadd dX8_sortFields_96 ?_
  refine mj_istore (lv2 := [(8, .int (l8 + ((1 : Int32) + ((((s.2.1 l0 ((l8 + (1 : Int32)).toNatClampNeg)).toInt32) >>> ((4 : Int32) &&& 31)) &&& (255 : Int32))))), (0, .ref l0), (1, .int l1), (2, .ref l2), (3, .int l3), (4, .int l4), (5, .int l5), (6, .int l6), (7, .int l7), (9, .int l9)]) dX8_sortFields_97 (by decide) rfl ?_
  refine mj_iinc (k := 9) (v := (l9 + 1)) (lv2 := [(9, .int (l9 + 1)), (8, .int (l8 + ((1 : Int32) + ((((s.2.1 l0 ((l8 + (1 : Int32)).toNatClampNeg)).toInt32) >>> ((4 : Int32) &&& 31)) &&& (255 : Int32))))), (0, .ref l0), (1, .int l1), (2, .ref l2), (3, .int l3), (4, .int l4), (5, .int l5), (6, .int l6), (7, .int l7)]) dX8_sortFields_99 rfl rfl (by decide) rfl ?_
  refine mj_goto 34 dX8_sortFields_102 (by decide) ?_
  refine mj_sublv [(0, .ref l0), (1, .int l1), (2, .ref l2), (3, .int l3), (4, .int l4), (5, .int l5), (6, .int l6), (7, .int l7), (8, .int (l8 + ((1 : Int32) + ((((s.2.1 l0 ((l8 + (1 : Int32)).toNatClampNeg)).toInt32) >>> ((4 : Int32) &&& 31)) &&& (255 : Int32))))), (9, .int (l9 + 1))] [2, 3, 4, 5, 6, 7, 8, 9, 1, 0] rfl ?_
  exact t_somK hk (fun hf => Hb34 l0 l1 l2 l3 l4 l5 l6 l7 (l8 + ((1 : Int32) + ((((s.2.1 l0 ((l8 + (1 : Int32)).toNatClampNeg)).toInt32) >>> ((4 : Int32) &&& 31)) &&& (255 : Int32)))) (l9 + 1) s hf)
noncomputable def k_X8_sortFields_75 (l0 : Nat) (l1 : Int32) (l2 : Nat) (l3 : Int32) (l4 : Int32) (l5 : Int32) (l6 : Int32) (l8 : Int32) (l9 : Int32) (s : t_S) : Option ((Nat × Int32 × Nat × Int32 × Int32 × Int32 × Int32 × Int32 × Int32 × Int32 × t_S) ⊕ ((Nat × Int32 × Nat × Int32 × Int32 × Int32 × Int32 × t_S) ⊕ (t_S))) :=
 k_X8_sortFields_79 l0 l1 l2 l3 l4 l5 l6 l8 l8 l9 s
set_option maxRecDepth 4000 in
set_option maxHeartbeats 1000000 in
theorem B_X8_sortFields_75 {D : va_G} {cy : Nat → ClassId} {ad : Nat → Nat} {bs : Nat} {X : State → Heap → Prop} (l0 : Nat) (l1 : Int32) (l2 : Nat) (l3 : Int32) (l4 : Int32) (l5 : Int32) (l6 : Int32) (l8 : Int32) (l9 : Int32) (s : t_S) (Q : (Nat × Int32 × Nat × Int32 × Int32 × Int32 × Int32 × Int32 × Int32 × Int32 × t_S) ⊕ ((Nat × Int32 × Nat × Int32 × Int32 × Int32 × Int32 × t_S) ⊕ (t_S)) → Prop) (Hb17 : ∀ (y0 : Nat) (y1 : Int32) (y2 : Nat) (y3 : Int32) (y4 : Int32) (y5 : Int32) (y6 : Int32) (y7 : t_S), Q (.inr (.inl (y0, y1, y2, y3, y4, y5, y6, y7))) → mj_G D cy ad bs X cX8_sortFields 11 yX8_sortFields.cls none yX8_sortFields.name 1 0 0 1065 (t_P (fun v s' => v = none ∧ Q (.inr (.inr (s'))))) 17 [(0, .ref (y0)), (1, .int (y1)), (2, .ref (y2)), (3, .int (y3)), (4, .int (y4)), (5, .int (y5)), (6, .int (y6))] [] (t_m y7) 1065 0 0) (Hb34 : ∀ (y0 : Nat) (y1 : Int32) (y2 : Nat) (y3 : Int32) (y4 : Int32) (y5 : Int32) (y6 : Int32) (y7 : Int32) (y8 : Int32) (y9 : Int32) (y10 : t_S), Q (.inl (y0, y1, y2, y3, y4, y5, y6, y7, y8, y9, y10)) → mj_G D cy ad bs X cX8_sortFields 11 yX8_sortFields.cls none yX8_sortFields.name 1 0 0 1065 (t_P (fun v s' => v = none ∧ Q (.inr (.inr (s'))))) 34 [(0, .ref (y0)), (1, .int (y1)), (2, .ref (y2)), (3, .int (y3)), (4, .int (y4)), (5, .int (y5)), (6, .int (y6)), (7, .int (y7)), (8, .int (y8)), (9, .int (y9))] [] (t_m y10) 1065 0 0) (hk : t_hk (k_X8_sortFields_75 l0 l1 l2 l3 l4 l5 l6 l8 l9 s) Q) : mj_G D cy ad bs X cX8_sortFields 11 yX8_sortFields.cls none yX8_sortFields.name 1 0 0 1065 (t_P (fun v s' => v = none ∧ Q (.inr (.inr (s'))))) 75 [(0, .ref l0), (1, .int l1), (2, .ref l2), (3, .int l3), (4, .int l4), (5, .int l5), (6, .int l6), (8, .int l8), (9, .int l9)] [] (t_m s) 1065 0 0 := by
  refine mj_iload dX8_sortFields_75 7 rfl ?_
  refine mj_istore (lv2 := [(7, .int l8), (0, .ref l0), (1, .int l1), (2, .ref l2), (3, .int l3), (4, .int l4), (5, .int l5), (6, .int l6), (8, .int l8), (9, .int l9)]) dX8_sortFields_77 (by decide) rfl ?_
  refine mj_sublv [(0, .ref l0), (1, .int l1), (2, .ref l2), (3, .int l3), (4, .int l4), (5, .int l5), (6, .int l6), (7, .int l8), (8, .int l8), (9, .int l9)] [1, 2, 3, 4, 5, 6, 7, 0, 8, 9] rfl ?_
  exact B_X8_sortFields_79 _ _ _ _ _ _ _ _ _ _ _ _ (fun y0 y1 y2 y3 y4 y5 y6 y7 hx => Hb17 y0 y1 y2 y3 y4 y5 y6 y7 hx) (fun y0 y1 y2 y3 y4 y5 y6 y7 y8 y9 y10 hx => Hb34 y0 y1 y2 y3 y4 y5 y6 y7 y8 y9 y10 hx) hk
noncomputable def k_X8_sortFields_34 (l0 : Nat) (l1 : Int32) (l2 : Nat) (l3 : Int32) (l4 : Int32) (l5 : Int32) (l6 : Int32) (l7 : Int32) (l8 : Int32) (l9 : Int32) (s : t_S) : Option ((Nat × Int32 × Nat × Int32 × Int32 × Int32 × Int32 × Int32 × Int32 × Int32 × t_S) ⊕ ((Nat × Int32 × Nat × Int32 × Int32 × Int32 × Int32 × t_S) ⊕ (t_S))) :=
 if l3 ≤ l9 then ((if (0 : Int32) ≤ l7 then (if t_oka l0 2 (t_ln l0) = true then
  if t_ix (l7 + (1 : Int32)) (t_ln l0) = true then
  if t_oka l2 2 (t_ln l2) = true then
  if (l4 + ((1 : Int32) + ((((s.2.1 l0 ((l7 + (1 : Int32)).toNatClampNeg)).toInt32) >>> ((4 : Int32) &&& 31)) &&& (255 : Int32)))) ≤ (Int32.ofNat (t_ln l2)) then (if t_cpok l7 l4 ((1 : Int32) + ((((s.2.1 l0 ((l7 + (1 : Int32)).toNatClampNeg)).toInt32) >>> ((4 : Int32) &&& 31)) &&& (255 : Int32))) (t_ln l0) (t_ln l2) = true then
  t_let (t_cpJ s l0 l2 l7 l4 ((1 : Int32) + ((((s.2.1 l0 ((l7 + (1 : Int32)).toNatClampNeg)).toInt32) >>> ((4 : Int32) &&& 31)) &&& (255 : Int32)))) (fun s1 =>
 if t_ix l7 (t_ln l0) = true then
  some (.inl (l0, l1, l2, l3, (l4 + ((1 : Int32) + ((((s.2.1 l0 ((l7 + (1 : Int32)).toNatClampNeg)).toInt32) >>> ((4 : Int32) &&& 31)) &&& (255 : Int32)))), (((s1.2.1 l0 (l7.toNatClampNeg)) >>> ((12 : Int32).toInt64 &&& 63)).toInt32), (l6 + 1), s1))
else none)
else none)
 else ((some (s)).map Sum.inr)
else none
else none
else none)
 else ((some (s)).map Sum.inr)).map Sum.inr)
 else (if t_oka l0 2 (t_ln l0) = true then
  if t_ix l8 (t_ln l0) = true then
  if (((s.2.1 l0 (l8.toNatClampNeg)) >>> ((12 : Int32).toInt64 &&& 63)).toInt32) ≤ l5 then (k_X8_sortFields_79 l0 l1 l2 l3 l4 l5 l6 l7 l8 l9 s)
 else (if l7 < (0 : Int32) then (k_X8_sortFields_75 l0 l1 l2 l3 l4 l5 l6 l8 l9 s)
 else (if t_ix l7 (t_ln l0) = true then
  if (((s.2.1 l0 (l7.toNatClampNeg)) >>> ((12 : Int32).toInt64 &&& 63)).toInt32) ≤ (((s.2.1 l0 (l8.toNatClampNeg)) >>> ((12 : Int32).toInt64 &&& 63)).toInt32) then (k_X8_sortFields_79 l0 l1 l2 l3 l4 l5 l6 l7 l8 l9 s)
 else (k_X8_sortFields_75 l0 l1 l2 l3 l4 l5 l6 l8 l9 s)
else none))
else none
else none)
set_option maxRecDepth 4000 in
set_option maxHeartbeats 1000000 in
theorem B_X8_sortFields_34 {D : va_G} {cy : Nat → ClassId} {ad : Nat → Nat} {bs : Nat} {X : State → Heap → Prop} (l0 : Nat) (l1 : Int32) (l2 : Nat) (l3 : Int32) (l4 : Int32) (l5 : Int32) (l6 : Int32) (l7 : Int32) (l8 : Int32) (l9 : Int32) (s : t_S) (Q : (Nat × Int32 × Nat × Int32 × Int32 × Int32 × Int32 × Int32 × Int32 × Int32 × t_S) ⊕ ((Nat × Int32 × Nat × Int32 × Int32 × Int32 × Int32 × t_S) ⊕ (t_S)) → Prop) (Hb17 : ∀ (y0 : Nat) (y1 : Int32) (y2 : Nat) (y3 : Int32) (y4 : Int32) (y5 : Int32) (y6 : Int32) (y7 : t_S), Q (.inr (.inl (y0, y1, y2, y3, y4, y5, y6, y7))) → mj_G D cy ad bs X cX8_sortFields 11 yX8_sortFields.cls none yX8_sortFields.name 1 0 0 1065 (t_P (fun v s' => v = none ∧ Q (.inr (.inr (s'))))) 17 [(0, .ref (y0)), (1, .int (y1)), (2, .ref (y2)), (3, .int (y3)), (4, .int (y4)), (5, .int (y5)), (6, .int (y6))] [] (t_m y7) 1065 0 0) (Hb34 : ∀ (y0 : Nat) (y1 : Int32) (y2 : Nat) (y3 : Int32) (y4 : Int32) (y5 : Int32) (y6 : Int32) (y7 : Int32) (y8 : Int32) (y9 : Int32) (y10 : t_S), Q (.inl (y0, y1, y2, y3, y4, y5, y6, y7, y8, y9, y10)) → mj_G D cy ad bs X cX8_sortFields 11 yX8_sortFields.cls none yX8_sortFields.name 1 0 0 1065 (t_P (fun v s' => v = none ∧ Q (.inr (.inr (s'))))) 34 [(0, .ref (y0)), (1, .int (y1)), (2, .ref (y2)), (3, .int (y3)), (4, .int (y4)), (5, .int (y5)), (6, .int (y6)), (7, .int (y7)), (8, .int (y8)), (9, .int (y9))] [] (t_m y10) 1065 0 0) (hk : t_hk (k_X8_sortFields_34 l0 l1 l2 l3 l4 l5 l6 l7 l8 l9 s) Q) : mj_G D cy ad bs X cX8_sortFields 11 yX8_sortFields.cls none yX8_sortFields.name 1 0 0 1065 (t_P (fun v s' => v = none ∧ Q (.inr (.inr (s'))))) 34 [(0, .ref l0), (1, .int l1), (2, .ref l2), (3, .int l3), (4, .int l4), (5, .int l5), (6, .int l6), (7, .int l7), (8, .int l8), (9, .int l9)] [] (t_m s) 1065 0 0 := by
  refine mj_iload dX8_sortFields_34 9 rfl ?_
  refine mj_iload_n dX8_sortFields_36 3 rfl ?_
  refine mj_icmp_ge 105 dX8_sortFields_37 (by decide) (fun z => t_posK hk z (fun hk => ?_)) (fun z => t_negK hk z (fun hk => ?_))
  · refine t_mapK hk (fun hk => ?_)
    refine mj_iload dX8_sortFields_105 7 rfl ?_
    refine mj_if_ge 111 dX8_sortFields_107 (by decide) (fun z => t_posK hk z (fun hk => ?_)) (fun z => t_negK hk z (fun hk => ?_))
    · refine mj_iconst (v := 1) dX8_sortFields_111 (by decide) ?_
      refine mj_aload_n dX8_sortFields_112 0 rfl ?_
      refine mj_iload dX8_sortFields_113 7 rfl ?_
      refine mj_iconst (v := 1) dX8_sortFields_115 (by decide) ?_
      refine mj_iadd dX8_sortFields_116 ?_
      refine t_chkK hk (fun c0 hk => ?_)
      refine t_chkK hk (fun c1 hk => ?_)
      refine t_lald dX8_sortFields_117 c0 (t_ixv c1) ?_
      refine mj_l2i (v := (s.2.1 l0 ((l7 + (1 : Int32)).toNatClampNeg)).toInt32) dX8_sortFields_118 rfl ?_
      refine mj_iconst (v := 4) dX8_sortFields_119 (by decide) ?_
      refine mj_ishr dX8_sortFields_120 ?_
      refine mj_sipush (v := 255) dX8_sortFields_121 (by decide) ?_
      refine mj_iand dX8_sortFields_124 ?_
      refine mj_iadd dX8_sortFields_125 ?_
      refine mj_istore (lv2 := [(9, .int ((1 : Int32) + ((((s.2.1 l0 ((l7 + (1 : Int32)).toNatClampNeg)).toInt32) >>> ((4 : Int32) &&& 31)) &&& (255 : Int32)))), (0, .ref l0), (1, .int l1), (2, .ref l2), (3, .int l3), (4, .int l4), (5, .int l5), (6, .int l6), (7, .int l7), (8, .int l8)]) dX8_sortFields_126 (by decide) rfl ?_
      refine mj_iload dX8_sortFields_128 5 rfl ?_
      refine mj_iload dX8_sortFields_130 0 rfl ?_
      refine mj_iadd dX8_sortFields_132 ?_
      refine mj_aload_n dX8_sortFields_133 3 rfl ?_
      refine t_chkK hk (fun c2 hk => ?_)
      refine t_alen2 (v := (Int32.ofNat (t_ln l2))) dX8_sortFields_134 c2 rfl ?_
      refine mj_icmp_le 139 dX8_sortFields_135 (by decide) (fun z => t_posK hk z (fun hk => ?_)) (fun z => t_negK hk z (fun hk => ?_))
      · refine mj_aload_n dX8_sortFields_139 1 rfl ?_
        refine mj_iload dX8_sortFields_140 8 rfl ?_
        refine mj_aload_n dX8_sortFields_142 3 rfl ?_
        refine mj_iload dX8_sortFields_143 5 rfl ?_
        refine mj_iload dX8_sortFields_145 0 rfl ?_
        refine t_chkK hk (fun c3 hk => ?_)
        refine t_copyK dX8_sortFields_147 MA_X8_57 c0 c2 c3 (Nat.le_of_ble_eq_true rfl) (Nat.le_of_ble_eq_true rfl) (fun s1 ws1 => t_letE hk ws1 (fun hk => ?_))
        refine mj_iload dX8_sortFields_150 5 rfl ?_
        refine mj_iload dX8_sortFields_152 0 rfl ?_
        refine mj_iadd dX8_sortFields_154 ?_
        refine mj_istore (lv2 := [(4, .int (l4 + ((1 : Int32) + ((((s.2.1 l0 ((l7 + (1 : Int32)).toNatClampNeg)).toInt32) >>> ((4 : Int32) &&& 31)) &&& (255 : Int32))))), (9, .int ((1 : Int32) + ((((s.2.1 l0 ((l7 + (1 : Int32)).toNatClampNeg)).toInt32) >>> ((4 : Int32) &&& 31)) &&& (255 : Int32)))), (0, .ref l0), (1, .int l1), (2, .ref l2), (3, .int l3), (5, .int l5), (6, .int l6), (7, .int l7), (8, .int l8)]) dX8_sortFields_155 (by decide) rfl ?_
        refine mj_aload_n dX8_sortFields_157 2 rfl ?_
        refine mj_iload dX8_sortFields_158 8 rfl ?_
        refine t_chkK hk (fun c4 hk => ?_)
        refine t_lald dX8_sortFields_160 c0 (t_ixv c4) ?_
        refine mj_bipush (v := 12) dX8_sortFields_161 (by decide) ?_
        refine mj_lshr dX8_sortFields_163 rfl ?_
        refine mj_l2i (v := ((s1.2.1 l0 (l7.toNatClampNeg)) >>> ((12 : Int32).toInt64 &&& 63)).toInt32) dX8_sortFields_164 rfl ?_
        refine mj_istore (lv2 := [(5, .int (((s1.2.1 l0 (l7.toNatClampNeg)) >>> ((12 : Int32).toInt64 &&& 63)).toInt32)), (4, .int (l4 + ((1 : Int32) + ((((s.2.1 l0 ((l7 + (1 : Int32)).toNatClampNeg)).toInt32) >>> ((4 : Int32) &&& 31)) &&& (255 : Int32))))), (9, .int ((1 : Int32) + ((((s.2.1 l0 ((l7 + (1 : Int32)).toNatClampNeg)).toInt32) >>> ((4 : Int32) &&& 31)) &&& (255 : Int32)))), (0, .ref l0), (1, .int l1), (2, .ref l2), (3, .int l3), (6, .int l6), (7, .int l7), (8, .int l8)]) dX8_sortFields_165 (by decide) rfl ?_
        refine mj_iinc (k := 7) (v := (l6 + 1)) (lv2 := [(6, .int (l6 + 1)), (5, .int (((s1.2.1 l0 (l7.toNatClampNeg)) >>> ((12 : Int32).toInt64 &&& 63)).toInt32)), (4, .int (l4 + ((1 : Int32) + ((((s.2.1 l0 ((l7 + (1 : Int32)).toNatClampNeg)).toInt32) >>> ((4 : Int32) &&& 31)) &&& (255 : Int32))))), (9, .int ((1 : Int32) + ((((s.2.1 l0 ((l7 + (1 : Int32)).toNatClampNeg)).toInt32) >>> ((4 : Int32) &&& 31)) &&& (255 : Int32)))), (0, .ref l0), (1, .int l1), (2, .ref l2), (3, .int l3), (7, .int l7), (8, .int l8)]) dX8_sortFields_167 rfl rfl (by decide) rfl ?_
        refine mj_goto 17 dX8_sortFields_170 (by decide) ?_
        refine mj_sublv [(0, .ref l0), (1, .int l1), (2, .ref l2), (3, .int l3), (4, .int (l4 + ((1 : Int32) + ((((s.2.1 l0 ((l7 + (1 : Int32)).toNatClampNeg)).toInt32) >>> ((4 : Int32) &&& 31)) &&& (255 : Int32))))), (5, .int (((s1.2.1 l0 (l7.toNatClampNeg)) >>> ((12 : Int32).toInt64 &&& 63)).toInt32)), (6, .int (l6 + 1))] [4, 5, 6, 7, 2, 1, 0] rfl ?_
        exact t_somK hk (fun hf => Hb17 l0 l1 l2 l3 (l4 + ((1 : Int32) + ((((s.2.1 l0 ((l7 + (1 : Int32)).toNatClampNeg)).toInt32) >>> ((4 : Int32) &&& 31)) &&& (255 : Int32)))) (((s1.2.1 l0 (l7.toNatClampNeg)) >>> ((12 : Int32).toInt64 &&& 63)).toInt32) (l6 + 1) s1 hf)
      · refine t_mapK hk (fun hk => ?_)
        exact t_somK hk (fun hf => t_vret dX8_sortFields_138 rfl ⟨rfl, hf⟩ (Nat.le_of_ble_eq_true rfl) (Nat.le_of_ble_eq_true rfl))
    · refine t_mapK hk (fun hk => ?_)
      exact t_somK hk (fun hf => t_vret dX8_sortFields_110 rfl ⟨rfl, hf⟩ (Nat.le_of_ble_eq_true rfl) (Nat.le_of_ble_eq_true rfl))
  · refine mj_aload_n dX8_sortFields_40 0 rfl ?_
    refine mj_iload dX8_sortFields_41 8 rfl ?_
    refine t_chkK hk (fun c5 hk => ?_)
    refine t_chkK hk (fun c6 hk => ?_)
    refine t_lald dX8_sortFields_43 c5 (t_ixv c6) ?_
    refine mj_bipush (v := 12) dX8_sortFields_44 (by decide) ?_
    refine mj_lshr dX8_sortFields_46 rfl ?_
    refine mj_l2i (v := ((s.2.1 l0 (l8.toNatClampNeg)) >>> ((12 : Int32).toInt64 &&& 63)).toInt32) dX8_sortFields_47 rfl ?_
    refine mj_istore (lv2 := [(10, .int (((s.2.1 l0 (l8.toNatClampNeg)) >>> ((12 : Int32).toInt64 &&& 63)).toInt32)), (0, .ref l0), (1, .int l1), (2, .ref l2), (3, .int l3), (4, .int l4), (5, .int l5), (6, .int l6), (7, .int l7), (8, .int l8), (9, .int l9)]) dX8_sortFields_48 (by decide) rfl ?_
    refine mj_iload dX8_sortFields_50 0 rfl ?_
    refine mj_iload dX8_sortFields_52 6 rfl ?_
    refine mj_icmp_le 79 dX8_sortFields_54 (by decide) (fun z => t_posK hk z (fun hk => ?_)) (fun z => t_negK hk z (fun hk => ?_))
    · refine mj_sublv [(0, .ref l0), (1, .int l1), (2, .ref l2), (3, .int l3), (4, .int l4), (5, .int l5), (6, .int l6), (7, .int l7), (8, .int l8), (9, .int l9)] [1, 2, 3, 4, 5, 6, 7, 8, 9, 10] rfl ?_
      exact B_X8_sortFields_79 _ _ _ _ _ _ _ _ _ _ _ _ (fun y0 y1 y2 y3 y4 y5 y6 y7 hx => Hb17 y0 y1 y2 y3 y4 y5 y6 y7 hx) (fun y0 y1 y2 y3 y4 y5 y6 y7 y8 y9 y10 hx => Hb34 y0 y1 y2 y3 y4 y5 y6 y7 y8 y9 y10 hx) hk
    · refine mj_iload dX8_sortFields_57 8 rfl ?_
      refine mj_if_lt 75 dX8_sortFields_59 (by decide) (fun z => t_posK hk z (fun hk => ?_)) (fun z => t_negK hk z (fun hk => ?_))
      · refine mj_sublv [(0, .ref l0), (1, .int l1), (2, .ref l2), (3, .int l3), (4, .int l4), (5, .int l5), (6, .int l6), (8, .int l8), (9, .int l9)] [1, 2, 3, 4, 5, 6, 7, 9, 10] rfl ?_
        exact B_X8_sortFields_75 _ _ _ _ _ _ _ _ _ _ _ (fun y0 y1 y2 y3 y4 y5 y6 y7 hx => Hb17 y0 y1 y2 y3 y4 y5 y6 y7 hx) (fun y0 y1 y2 y3 y4 y5 y6 y7 y8 y9 y10 hx => Hb34 y0 y1 y2 y3 y4 y5 y6 y7 y8 y9 y10 hx) hk
      · refine mj_iload dX8_sortFields_62 0 rfl ?_
        refine mj_aload_n dX8_sortFields_64 1 rfl ?_
        refine mj_iload dX8_sortFields_65 8 rfl ?_
        refine t_chkK hk (fun c7 hk => ?_)
        refine t_lald dX8_sortFields_67 c5 (t_ixv c7) ?_
        refine mj_bipush (v := 12) dX8_sortFields_68 (by decide) ?_
        refine mj_lshr dX8_sortFields_70 rfl ?_
        refine mj_l2i (v := ((s.2.1 l0 (l7.toNatClampNeg)) >>> ((12 : Int32).toInt64 &&& 63)).toInt32) dX8_sortFields_71 rfl ?_
        refine mj_icmp_ge 79 dX8_sortFields_72 (by decide) (fun z => t_posK hk z (fun hk => ?_)) (fun z => t_negK hk z (fun hk => ?_))
        · refine mj_sublv [(0, .ref l0), (1, .int l1), (2, .ref l2), (3, .int l3), (4, .int l4), (5, .int l5), (6, .int l6), (7, .int l7), (8, .int l8), (9, .int l9)] [1, 2, 3, 4, 5, 6, 7, 8, 9, 10] rfl ?_
          exact B_X8_sortFields_79 _ _ _ _ _ _ _ _ _ _ _ _ (fun y0 y1 y2 y3 y4 y5 y6 y7 hx => Hb17 y0 y1 y2 y3 y4 y5 y6 y7 hx) (fun y0 y1 y2 y3 y4 y5 y6 y7 y8 y9 y10 hx => Hb34 y0 y1 y2 y3 y4 y5 y6 y7 y8 y9 y10 hx) hk
        · refine mj_sublv [(0, .ref l0), (1, .int l1), (2, .ref l2), (3, .int l3), (4, .int l4), (5, .int l5), (6, .int l6), (8, .int l8), (9, .int l9)] [1, 2, 3, 4, 5, 6, 7, 9, 10] rfl ?_
          exact B_X8_sortFields_75 _ _ _ _ _ _ _ _ _ _ _ (fun y0 y1 y2 y3 y4 y5 y6 y7 hx => Hb17 y0 y1 y2 y3 y4 y5 y6 y7 hx) (fun y0 y1 y2 y3 y4 y5 y6 y7 y8 y9 y10 hx => Hb34 y0 y1 y2 y3 y4 y5 y6 y7 y8 y9 y10 hx) hk
noncomputable def b_X8_sortFields_34 (x : Nat × Int32 × Nat × Int32 × Int32 × Int32 × Int32 × Int32 × Int32 × Int32 × t_S) : Option ((Nat × Int32 × Nat × Int32 × Int32 × Int32 × Int32 × Int32 × Int32 × Int32 × t_S) ⊕ ((Nat × Int32 × Nat × Int32 × Int32 × Int32 × Int32 × t_S) ⊕ (t_S))) := k_X8_sortFields_34 x.1 x.2.1 x.2.2.1 x.2.2.2.1 x.2.2.2.2.1 x.2.2.2.2.2.1 x.2.2.2.2.2.2.1 x.2.2.2.2.2.2.2.1 x.2.2.2.2.2.2.2.2.1 x.2.2.2.2.2.2.2.2.2.1 x.2.2.2.2.2.2.2.2.2.2
set_option maxRecDepth 4000 in
set_option maxHeartbeats 1000000 in
theorem LH_X8_sortFields_34 {D : va_G} {cy : Nat → ClassId} {ad : Nat → Nat} {bs : Nat} {X : State → Heap → Prop} : ∀ (n : Nat) (y0 : Nat) (y1 : Int32) (y2 : Nat) (y3 : Int32) (y4 : Int32) (y5 : Int32) (y6 : Int32) (y7 : Int32) (y8 : Int32) (y9 : Int32) (y10 : t_S) (Q : (Nat × Int32 × Nat × Int32 × Int32 × Int32 × Int32 × t_S) ⊕ (t_S) → Prop) (Hb17 : ∀ (y0 : Nat) (y1 : Int32) (y2 : Nat) (y3 : Int32) (y4 : Int32) (y5 : Int32) (y6 : Int32) (y7 : t_S), Q (.inl (y0, y1, y2, y3, y4, y5, y6, y7)) → mj_G D cy ad bs X cX8_sortFields 11 yX8_sortFields.cls none yX8_sortFields.name 1 0 0 1065 (t_P (fun v s' => v = none ∧ Q (.inr (s')))) 17 [(0, .ref (y0)), (1, .int (y1)), (2, .ref (y2)), (3, .int (y3)), (4, .int (y4)), (5, .int (y5)), (6, .int (y6))] [] (t_m y7) 1065 0 0) (hk : t_hk (t_loop (b_X8_sortFields_34) n (y0, y1, y2, y3, y4, y5, y6, y7, y8, y9, y10)) Q), mj_G D cy ad bs X cX8_sortFields 11 yX8_sortFields.cls none yX8_sortFields.name 1 0 0 1065 (t_P (fun v s' => v = none ∧ Q (.inr (s')))) 34 [(0, .ref (y0)), (1, .int (y1)), (2, .ref (y2)), (3, .int (y3)), (4, .int (y4)), (5, .int (y5)), (6, .int (y6)), (7, .int (y7)), (8, .int (y8)), (9, .int (y9))] [] (t_m y10) 1065 0 0 := by
  intro n
  induction n with
  | zero => intro y0 y1 y2 y3 y4 y5 y6 y7 y8 y9 y10 Q Hb17 hk; obtain ⟨r, hr, _⟩ := hk; cases hr
  | succ n ih =>
    intro y0 y1 y2 y3 y4 y5 y6 y7 y8 y9 y10 Q Hb17 hk
    exact B_X8_sortFields_34 y0 y1 y2 y3 y4 y5 y6 y7 y8 y9 y10 (fun y => t_lq (b_X8_sortFields_34) n Q y) (fun y0' y1' y2' y3' y4' y5' y6' y7' hy => Hb17 y0' y1' y2' y3' y4' y5' y6' y7' hy) (fun y0' y1' y2' y3' y4' y5' y6' y7' y8' y9' y10' hy => ih y0' y1' y2' y3' y4' y5' y6' y7' y8' y9' y10' Q Hb17 hy) (t_lp hk)
noncomputable def k_X8_sortFields_17 (l0 : Nat) (l1 : Int32) (l2 : Nat) (l3 : Int32) (l4 : Int32) (l5 : Int32) (l6 : Int32) (s : t_S) : Option ((Nat × Int32 × Nat × Int32 × Int32 × Int32 × Int32 × t_S) ⊕ (t_S)) :=
 if l3 ≤ l6 then ((if t_oka l2 2 (t_ln l2) = true then
  if t_oka l0 2 (t_ln l0) = true then
  if t_cpok (0 : Int32) (l1 + (1 : Int32)) l4 (t_ln l2) (t_ln l0) = true then
  t_let (t_cpJ s l2 l0 (0 : Int32) (l1 + (1 : Int32)) l4) (fun s1 =>
 some (s1))
else none
else none
else none).map Sum.inr)
 else (t_loop (b_X8_sortFields_34) t_N (l0, l1, l2, l3, l4, l5, l6, (-1), (l1 + (1 : Int32)), 0, s))
set_option maxRecDepth 4000 in
set_option maxHeartbeats 1000000 in
theorem B_X8_sortFields_17 {D : va_G} {cy : Nat → ClassId} {ad : Nat → Nat} {bs : Nat} {X : State → Heap → Prop} (l0 : Nat) (l1 : Int32) (l2 : Nat) (l3 : Int32) (l4 : Int32) (l5 : Int32) (l6 : Int32) (s : t_S) (Q : (Nat × Int32 × Nat × Int32 × Int32 × Int32 × Int32 × t_S) ⊕ (t_S) → Prop) (Hb17 : ∀ (y0 : Nat) (y1 : Int32) (y2 : Nat) (y3 : Int32) (y4 : Int32) (y5 : Int32) (y6 : Int32) (y7 : t_S), Q (.inl (y0, y1, y2, y3, y4, y5, y6, y7)) → mj_G D cy ad bs X cX8_sortFields 11 yX8_sortFields.cls none yX8_sortFields.name 1 0 0 1065 (t_P (fun v s' => v = none ∧ Q (.inr (s')))) 17 [(0, .ref (y0)), (1, .int (y1)), (2, .ref (y2)), (3, .int (y3)), (4, .int (y4)), (5, .int (y5)), (6, .int (y6))] [] (t_m y7) 1065 0 0) (hk : t_hk (k_X8_sortFields_17 l0 l1 l2 l3 l4 l5 l6 s) Q) : mj_G D cy ad bs X cX8_sortFields 11 yX8_sortFields.cls none yX8_sortFields.name 1 0 0 1065 (t_P (fun v s' => v = none ∧ Q (.inr (s')))) 17 [(0, .ref l0), (1, .int l1), (2, .ref l2), (3, .int l3), (4, .int l4), (5, .int l5), (6, .int l6)] [] (t_m s) 1065 0 0 := by
  refine mj_iload dX8_sortFields_17 6 rfl ?_
  refine mj_iload_n dX8_sortFields_19 3 rfl ?_
  refine mj_icmp_ge 173 dX8_sortFields_20 (by decide) (fun z => t_posK hk z (fun hk => ?_)) (fun z => t_negK hk z (fun hk => ?_))
  · refine t_mapK hk (fun hk => ?_)
    refine mj_aload_n dX8_sortFields_173 2 rfl ?_
    refine mj_iconst (v := 0) dX8_sortFields_174 (by decide) ?_
    refine mj_aload_n dX8_sortFields_175 0 rfl ?_
    refine mj_iload_n dX8_sortFields_176 1 rfl ?_
    refine mj_iconst (v := 1) dX8_sortFields_177 (by decide) ?_
    refine mj_iadd dX8_sortFields_178 ?_
    refine mj_iload dX8_sortFields_179 4 rfl ?_
    refine t_chkK hk (fun c0 hk => ?_)
    refine t_chkK hk (fun c1 hk => ?_)
    refine t_chkK hk (fun c2 hk => ?_)
    refine t_copyK dX8_sortFields_181 MA_X8_57 c0 c1 c2 (Nat.le_of_ble_eq_true rfl) (Nat.le_of_ble_eq_true rfl) (fun s1 ws1 => t_letE hk ws1 (fun hk => ?_))
    exact t_somK hk (fun hf => t_vret dX8_sortFields_184 rfl ⟨rfl, hf⟩ (Nat.le_of_ble_eq_true rfl) (Nat.le_of_ble_eq_true rfl))
  · refine mj_iconst (v := (-1)) dX8_sortFields_23 (by decide) ?_
    refine mj_istore (lv2 := [(7, .int (-1)), (0, .ref l0), (1, .int l1), (2, .ref l2), (3, .int l3), (4, .int l4), (5, .int l5), (6, .int l6)]) dX8_sortFields_24 (by decide) rfl ?_
    refine mj_iload_n dX8_sortFields_26 2 rfl ?_
    refine mj_iconst (v := 1) dX8_sortFields_27 (by decide) ?_
    refine mj_iadd dX8_sortFields_28 ?_
    refine mj_istore (lv2 := [(8, .int (l1 + (1 : Int32))), (7, .int (-1)), (0, .ref l0), (1, .int l1), (2, .ref l2), (3, .int l3), (4, .int l4), (5, .int l5), (6, .int l6)]) dX8_sortFields_29 (by decide) rfl ?_
    refine mj_iconst (v := 0) dX8_sortFields_31 (by decide) ?_
    refine mj_istore (lv2 := [(9, .int 0), (8, .int (l1 + (1 : Int32))), (7, .int (-1)), (0, .ref l0), (1, .int l1), (2, .ref l2), (3, .int l3), (4, .int l4), (5, .int l5), (6, .int l6)]) dX8_sortFields_32 (by decide) rfl ?_
    refine mj_sublv [(0, .ref l0), (1, .int l1), (2, .ref l2), (3, .int l3), (4, .int l4), (5, .int l5), (6, .int l6), (7, .int (-1)), (8, .int (l1 + (1 : Int32))), (9, .int 0)] [3, 4, 5, 6, 7, 8, 9, 2, 1, 0] rfl ?_
    exact LH_X8_sortFields_34 _ l0 l1 l2 l3 l4 l5 l6 (-1) (l1 + (1 : Int32)) 0 s _ (fun y0 y1 y2 y3 y4 y5 y6 y7 hx => Hb17 y0 y1 y2 y3 y4 y5 y6 y7 hx) hk
noncomputable def b_X8_sortFields_17 (x : Nat × Int32 × Nat × Int32 × Int32 × Int32 × Int32 × t_S) : Option ((Nat × Int32 × Nat × Int32 × Int32 × Int32 × Int32 × t_S) ⊕ (t_S)) := k_X8_sortFields_17 x.1 x.2.1 x.2.2.1 x.2.2.2.1 x.2.2.2.2.1 x.2.2.2.2.2.1 x.2.2.2.2.2.2.1 x.2.2.2.2.2.2.2
set_option maxRecDepth 4000 in
set_option maxHeartbeats 1000000 in
theorem LH_X8_sortFields_17 {D : va_G} {cy : Nat → ClassId} {ad : Nat → Nat} {bs : Nat} {X : State → Heap → Prop} : ∀ (n : Nat) (y0 : Nat) (y1 : Int32) (y2 : Nat) (y3 : Int32) (y4 : Int32) (y5 : Int32) (y6 : Int32) (y7 : t_S) (Q : t_S → Prop) (hk : t_hk (t_loop (b_X8_sortFields_17) n (y0, y1, y2, y3, y4, y5, y6, y7)) Q), mj_G D cy ad bs X cX8_sortFields 11 yX8_sortFields.cls none yX8_sortFields.name 1 0 0 1065 (t_P (fun v s' => v = none ∧ Q (s'))) 17 [(0, .ref (y0)), (1, .int (y1)), (2, .ref (y2)), (3, .int (y3)), (4, .int (y4)), (5, .int (y5)), (6, .int (y6))] [] (t_m y7) 1065 0 0 := by
  intro n
  induction n with
  | zero => intro y0 y1 y2 y3 y4 y5 y6 y7 Q hk; obtain ⟨r, hr, _⟩ := hk; cases hr
  | succ n ih =>
    intro y0 y1 y2 y3 y4 y5 y6 y7 Q hk
    exact B_X8_sortFields_17 y0 y1 y2 y3 y4 y5 y6 y7 (fun y => t_lq (b_X8_sortFields_17) n Q y) (fun y0' y1' y2' y3' y4' y5' y6' y7' hy => ih y0' y1' y2' y3' y4' y5' y6' y7' Q hy) (t_lp hk)
noncomputable def f_X8_sortFields (x1 : Nat) (x2 : Int32) (x3 : Nat) (s : t_S) : Option (t_S) :=
 if t_oka x1 2 (t_ln x1) = true then
  if t_ix x2 (t_ln x1) = true then
  t_loop (b_X8_sortFields_17) t_N (x1, x2, x3, (((s.2.1 x1 (x2.toNatClampNeg)) >>> ((12 : Int32).toInt64 &&& 63)).toInt32), 0, (-1), 0, s)
else none
else none
set_option maxRecDepth 4000 in
set_option maxHeartbeats 1000000 in
theorem C_X8_sortFields (x1 : Nat) (x2 : Int32) (x3 : Nat) (s : t_S) (r : t_S) (hr : f_X8_sortFields x1 x2 x3 s = some r) : t_C yX8_sortFields cX8_sortFields 11 none 1 [.ref x1, .int x2, .ref x3] s (fun v s' => v = none ∧ s' = r) := by
  refine t_C.imp (P := fun v s' => v = none ∧ (fun q => q = r) (s')) (t_C.of (by decide +kernel) (Nat.le_of_ble_eq_true rfl) ?_) (fun v s' hp => hp)
  intro D cy ad bs X
  have hk : t_hk (f_X8_sortFields x1 x2 x3 s) (fun q => q = r) := ⟨r, hr, rfl⟩
  show mj_G D cy ad bs X cX8_sortFields 11 yX8_sortFields.cls none yX8_sortFields.name 1 0 0 1065 (t_P (fun v s' => v = none ∧ (fun q => q = r) (s'))) 0 [(0, .ref x1), (1, .int x2), (2, .ref x3)] [] (t_m s) 1065 0 0
  refine mj_aload_n dX8_sortFields_0 0 rfl ?_
  refine mj_iload_n dX8_sortFields_1 1 rfl ?_
  refine t_chkK hk (fun c0 hk => ?_)
  refine t_chkK hk (fun c1 hk => ?_)
  refine t_lald dX8_sortFields_2 c0 (t_ixv c1) ?_
  refine mj_bipush (v := 12) dX8_sortFields_3 (by decide) ?_
  refine mj_lshr dX8_sortFields_5 rfl ?_
  refine mj_l2i (v := ((s.2.1 x1 (x2.toNatClampNeg)) >>> ((12 : Int32).toInt64 &&& 63)).toInt32) dX8_sortFields_6 rfl ?_
  refine mj_istore_n 3 (lv2 := [(3, .int (((s.2.1 x1 (x2.toNatClampNeg)) >>> ((12 : Int32).toInt64 &&& 63)).toInt32)), (0, .ref x1), (1, .int x2), (2, .ref x3)]) dX8_sortFields_7 rfl (by decide) rfl ?_
  refine mj_iconst (v := 0) dX8_sortFields_8 (by decide) ?_
  refine mj_istore (lv2 := [(4, .int 0), (3, .int (((s.2.1 x1 (x2.toNatClampNeg)) >>> ((12 : Int32).toInt64 &&& 63)).toInt32)), (0, .ref x1), (1, .int x2), (2, .ref x3)]) dX8_sortFields_9 (by decide) rfl ?_
  refine mj_iconst (v := (-1)) dX8_sortFields_11 (by decide) ?_
  refine mj_istore (lv2 := [(5, .int (-1)), (4, .int 0), (3, .int (((s.2.1 x1 (x2.toNatClampNeg)) >>> ((12 : Int32).toInt64 &&& 63)).toInt32)), (0, .ref x1), (1, .int x2), (2, .ref x3)]) dX8_sortFields_12 (by decide) rfl ?_
  refine mj_iconst (v := 0) dX8_sortFields_14 (by decide) ?_
  refine mj_istore (lv2 := [(6, .int 0), (5, .int (-1)), (4, .int 0), (3, .int (((s.2.1 x1 (x2.toNatClampNeg)) >>> ((12 : Int32).toInt64 &&& 63)).toInt32)), (0, .ref x1), (1, .int x2), (2, .ref x3)]) dX8_sortFields_15 (by decide) rfl ?_
  refine mj_sublv [(0, .ref x1), (1, .int x2), (2, .ref x3), (3, .int (((s.2.1 x1 (x2.toNatClampNeg)) >>> ((12 : Int32).toInt64 &&& 63)).toInt32)), (4, .int 0), (5, .int (-1)), (6, .int 0)] [4, 5, 6, 3, 2, 1, 0] rfl ?_
  exact LH_X8_sortFields_17 _ x1 x2 x3 (((s.2.1 x1 (x2.toNatClampNeg)) >>> ((12 : Int32).toInt64 &&& 63)).toInt32) 0 (-1) 0 s _ hk

theorem dX0_makeRecord_0 : decode cX0_makeRecord 0 = .ok (.iload_n 1, 1) := by decide +kernel
theorem dX0_makeRecord_1 : decode cX0_makeRecord 1 = .ok (.ifCond .lt 19, 3) := by decide +kernel
theorem dX0_makeRecord_100 : decode cX0_makeRecord 100 = .ok (.bipush 120, 2) := by decide +kernel
theorem dX0_makeRecord_102 : decode cX0_makeRecord 102 = .ok (.if_icmp .le 9, 3) := by decide +kernel
theorem dX0_makeRecord_105 : decode cX0_makeRecord 105 = .ok (.aload_n 0, 1) := by decide +kernel
theorem dX0_makeRecord_106 : decode cX0_makeRecord 106 = .ok (.iconst 3, 1) := by decide +kernel
theorem dX0_makeRecord_107 : decode cX0_makeRecord 107 = .ok (.putfield 71, 3) := by decide +kernel
theorem dX0_makeRecord_110 : decode cX0_makeRecord 110 = .ok (.return_, 1) := by decide +kernel
theorem dX0_makeRecord_111 : decode cX0_makeRecord 111 = .ok (.iconst 1, 1) := by decide +kernel
theorem dX0_makeRecord_112 : decode cX0_makeRecord 112 = .ok (.istore 6, 2) := by decide +kernel
theorem dX0_makeRecord_114 : decode cX0_makeRecord 114 = .ok (.aload_n 0, 1) := by decide +kernel
theorem dX0_makeRecord_115 : decode cX0_makeRecord 115 = .ok (.getfield 29, 3) := by decide +kernel
theorem dX0_makeRecord_118 : decode cX0_makeRecord 118 = .ok (.iconst 0, 1) := by decide +kernel
theorem dX0_makeRecord_119 : decode cX0_makeRecord 119 = .ok (.bipush 6, 2) := by decide +kernel
theorem dX0_makeRecord_12 : decode cX0_makeRecord 12 = .ok (.aload_n 0, 1) := by decide +kernel
theorem dX0_makeRecord_121 : decode cX0_makeRecord 121 = .ok (.iload 5, 2) := by decide +kernel
theorem dX0_makeRecord_123 : decode cX0_makeRecord 123 = .ok (.iload 4, 2) := by decide +kernel
theorem dX0_makeRecord_125 : decode cX0_makeRecord 125 = .ok (.i2l, 1) := by decide +kernel
theorem dX0_makeRecord_126 : decode cX0_makeRecord 126 = .ok (.invokestatic 189, 3) := by decide +kernel
theorem dX0_makeRecord_129 : decode cX0_makeRecord 129 = .ok (.lastore, 1) := by decide +kernel
theorem dX0_makeRecord_13 : decode cX0_makeRecord 13 = .ok (.iconst 1, 1) := by decide +kernel
theorem dX0_makeRecord_130 : decode cX0_makeRecord 130 = .ok (.iload_n 3, 1) := by decide +kernel
theorem dX0_makeRecord_131 : decode cX0_makeRecord 131 = .ok (.istore 7, 2) := by decide +kernel
theorem dX0_makeRecord_133 : decode cX0_makeRecord 133 = .ok (.iload 7, 2) := by decide +kernel
theorem dX0_makeRecord_135 : decode cX0_makeRecord 135 = .ok (.aload_n 0, 1) := by decide +kernel
theorem dX0_makeRecord_136 : decode cX0_makeRecord 136 = .ok (.getfield 62, 3) := by decide +kernel
theorem dX0_makeRecord_139 : decode cX0_makeRecord 139 = .ok (.if_icmp .ge 115, 3) := by decide +kernel
theorem dX0_makeRecord_14 : decode cX0_makeRecord 14 = .ok (.invokevirtual 146, 3) := by decide +kernel
theorem dX0_makeRecord_142 : decode cX0_makeRecord 142 = .ok (.aload_n 0, 1) := by decide +kernel
theorem dX0_makeRecord_143 : decode cX0_makeRecord 143 = .ok (.getfield 21, 3) := by decide +kernel
theorem dX0_makeRecord_146 : decode cX0_makeRecord 146 = .ok (.aload_n 0, 1) := by decide +kernel
theorem dX0_makeRecord_147 : decode cX0_makeRecord 147 = .ok (.getfield 24, 3) := by decide +kernel
theorem dX0_makeRecord_150 : decode cX0_makeRecord 150 = .ok (.iload 7, 2) := by decide +kernel
theorem dX0_makeRecord_152 : decode cX0_makeRecord 152 = .ok (.iaload, 1) := by decide +kernel
theorem dX0_makeRecord_153 : decode cX0_makeRecord 153 = .ok (.laload, 1) := by decide +kernel
theorem dX0_makeRecord_154 : decode cX0_makeRecord 154 = .ok (.invokestatic 160, 3) := by decide +kernel
theorem dX0_makeRecord_157 : decode cX0_makeRecord 157 = .ok (.iconst 4, 1) := by decide +kernel
theorem dX0_makeRecord_158 : decode cX0_makeRecord 158 = .ok (.if_icmp .eq 90, 3) := by decide +kernel
theorem dX0_makeRecord_161 : decode cX0_makeRecord 161 = .ok (.aload_n 0, 1) := by decide +kernel
theorem dX0_makeRecord_162 : decode cX0_makeRecord 162 = .ok (.getfield 29, 3) := by decide +kernel
theorem dX0_makeRecord_165 : decode cX0_makeRecord 165 = .ok (.iload 6, 2) := by decide +kernel
theorem dX0_makeRecord_167 : decode cX0_makeRecord 167 = .ok (.bipush 9, 2) := by decide +kernel
theorem dX0_makeRecord_169 : decode cX0_makeRecord 169 = .ok (.aload_n 0, 1) := by decide +kernel
theorem dX0_makeRecord_17 : decode cX0_makeRecord 17 = .ok (.ifCond .ne 4, 3) := by decide +kernel
theorem dX0_makeRecord_170 : decode cX0_makeRecord 170 = .ok (.getfield 13, 3) := by decide +kernel
theorem dX0_makeRecord_173 : decode cX0_makeRecord 173 = .ok (.iload_n 2, 1) := by decide +kernel
theorem dX0_makeRecord_174 : decode cX0_makeRecord 174 = .ok (.iload 7, 2) := by decide +kernel
theorem dX0_makeRecord_176 : decode cX0_makeRecord 176 = .ok (.iadd, 1) := by decide +kernel
theorem dX0_makeRecord_177 : decode cX0_makeRecord 177 = .ok (.iload_n 3, 1) := by decide +kernel
theorem dX0_makeRecord_178 : decode cX0_makeRecord 178 = .ok (.isub, 1) := by decide +kernel
theorem dX0_makeRecord_179 : decode cX0_makeRecord 179 = .ok (.iaload, 1) := by decide +kernel
theorem dX0_makeRecord_180 : decode cX0_makeRecord 180 = .ok (.i2l, 1) := by decide +kernel
theorem dX0_makeRecord_181 : decode cX0_makeRecord 181 = .ok (.invokestatic 106, 3) := by decide +kernel
theorem dX0_makeRecord_184 : decode cX0_makeRecord 184 = .ok (.lastore, 1) := by decide +kernel
theorem dX0_makeRecord_185 : decode cX0_makeRecord 185 = .ok (.aload_n 0, 1) := by decide +kernel
theorem dX0_makeRecord_186 : decode cX0_makeRecord 186 = .ok (.getfield 21, 3) := by decide +kernel
theorem dX0_makeRecord_189 : decode cX0_makeRecord 189 = .ok (.aload_n 0, 1) := by decide +kernel
theorem dX0_makeRecord_190 : decode cX0_makeRecord 190 = .ok (.getfield 24, 3) := by decide +kernel
theorem dX0_makeRecord_193 : decode cX0_makeRecord 193 = .ok (.iload 7, 2) := by decide +kernel
theorem dX0_makeRecord_195 : decode cX0_makeRecord 195 = .ok (.iaload, 1) := by decide +kernel
theorem dX0_makeRecord_196 : decode cX0_makeRecord 196 = .ok (.aload_n 0, 1) := by decide +kernel
theorem dX0_makeRecord_197 : decode cX0_makeRecord 197 = .ok (.getfield 29, 3) := by decide +kernel
theorem dX0_makeRecord_20 : decode cX0_makeRecord 20 = .ok (.return_, 1) := by decide +kernel
theorem dX0_makeRecord_200 : decode cX0_makeRecord 200 = .ok (.iload 6, 2) := by decide +kernel
theorem dX0_makeRecord_202 : decode cX0_makeRecord 202 = .ok (.iconst 1, 1) := by decide +kernel
theorem dX0_makeRecord_203 : decode cX0_makeRecord 203 = .ok (.iadd, 1) := by decide +kernel
theorem dX0_makeRecord_204 : decode cX0_makeRecord 204 = .ok (.aload_n 0, 1) := by decide +kernel
theorem dX0_makeRecord_205 : decode cX0_makeRecord 205 = .ok (.getfield 24, 3) := by decide +kernel
theorem dX0_makeRecord_208 : decode cX0_makeRecord 208 = .ok (.iload 7, 2) := by decide +kernel
theorem dX0_makeRecord_21 : decode cX0_makeRecord 21 = .ok (.aload_n 0, 1) := by decide +kernel
theorem dX0_makeRecord_210 : decode cX0_makeRecord 210 = .ok (.iconst 1, 1) := by decide +kernel
theorem dX0_makeRecord_211 : decode cX0_makeRecord 211 = .ok (.iadd, 1) := by decide +kernel
theorem dX0_makeRecord_212 : decode cX0_makeRecord 212 = .ok (.iaload, 1) := by decide +kernel
theorem dX0_makeRecord_213 : decode cX0_makeRecord 213 = .ok (.aload_n 0, 1) := by decide +kernel
theorem dX0_makeRecord_214 : decode cX0_makeRecord 214 = .ok (.getfield 24, 3) := by decide +kernel
theorem dX0_makeRecord_217 : decode cX0_makeRecord 217 = .ok (.iload 7, 2) := by decide +kernel
theorem dX0_makeRecord_219 : decode cX0_makeRecord 219 = .ok (.iaload, 1) := by decide +kernel
theorem dX0_makeRecord_22 : decode cX0_makeRecord 22 = .ok (.getfield 62, 3) := by decide +kernel
theorem dX0_makeRecord_220 : decode cX0_makeRecord 220 = .ok (.isub, 1) := by decide +kernel
theorem dX0_makeRecord_221 : decode cX0_makeRecord 221 = .ok (.invokestatic 154, 3) := by decide +kernel
theorem dX0_makeRecord_224 : decode cX0_makeRecord 224 = .ok (.iload 6, 2) := by decide +kernel
theorem dX0_makeRecord_226 : decode cX0_makeRecord 226 = .ok (.iconst 1, 1) := by decide +kernel
theorem dX0_makeRecord_227 : decode cX0_makeRecord 227 = .ok (.aload_n 0, 1) := by decide +kernel
theorem dX0_makeRecord_228 : decode cX0_makeRecord 228 = .ok (.getfield 24, 3) := by decide +kernel
theorem dX0_makeRecord_231 : decode cX0_makeRecord 231 = .ok (.iload 7, 2) := by decide +kernel
theorem dX0_makeRecord_233 : decode cX0_makeRecord 233 = .ok (.iconst 1, 1) := by decide +kernel
theorem dX0_makeRecord_234 : decode cX0_makeRecord 234 = .ok (.iadd, 1) := by decide +kernel
theorem dX0_makeRecord_235 : decode cX0_makeRecord 235 = .ok (.iaload, 1) := by decide +kernel
theorem dX0_makeRecord_236 : decode cX0_makeRecord 236 = .ok (.iadd, 1) := by decide +kernel
theorem dX0_makeRecord_237 : decode cX0_makeRecord 237 = .ok (.aload_n 0, 1) := by decide +kernel
theorem dX0_makeRecord_238 : decode cX0_makeRecord 238 = .ok (.getfield 24, 3) := by decide +kernel
theorem dX0_makeRecord_241 : decode cX0_makeRecord 241 = .ok (.iload 7, 2) := by decide +kernel
theorem dX0_makeRecord_243 : decode cX0_makeRecord 243 = .ok (.iaload, 1) := by decide +kernel
theorem dX0_makeRecord_244 : decode cX0_makeRecord 244 = .ok (.isub, 1) := by decide +kernel
theorem dX0_makeRecord_245 : decode cX0_makeRecord 245 = .ok (.iadd, 1) := by decide +kernel
theorem dX0_makeRecord_246 : decode cX0_makeRecord 246 = .ok (.istore 6, 2) := by decide +kernel
theorem dX0_makeRecord_248 : decode cX0_makeRecord 248 = .ok (.iinc 7 1, 3) := by decide +kernel
theorem dX0_makeRecord_25 : decode cX0_makeRecord 25 = .ok (.iload_n 1, 1) := by decide +kernel
theorem dX0_makeRecord_251 : decode cX0_makeRecord 251 = .ok (.goto (-118), 3) := by decide +kernel
theorem dX0_makeRecord_254 : decode cX0_makeRecord 254 = .ok (.aload_n 0, 1) := by decide +kernel
theorem dX0_makeRecord_255 : decode cX0_makeRecord 255 = .ok (.getfield 29, 3) := by decide +kernel
theorem dX0_makeRecord_258 : decode cX0_makeRecord 258 = .ok (.iconst 0, 1) := by decide +kernel
theorem dX0_makeRecord_259 : decode cX0_makeRecord 259 = .ok (.aload_n 0, 1) := by decide +kernel
theorem dX0_makeRecord_26 : decode cX0_makeRecord 26 = .ok (.isub, 1) := by decide +kernel
theorem dX0_makeRecord_260 : decode cX0_makeRecord 260 = .ok (.getfield 32, 3) := by decide +kernel
theorem dX0_makeRecord_263 : decode cX0_makeRecord 263 = .ok (.invokestatic 259, 3) := by decide +kernel
theorem dX0_makeRecord_266 : decode cX0_makeRecord 266 = .ok (.aload_n 0, 1) := by decide +kernel
theorem dX0_makeRecord_267 : decode cX0_makeRecord 267 = .ok (.getfield 29, 3) := by decide +kernel
theorem dX0_makeRecord_27 : decode cX0_makeRecord 27 = .ok (.istore_n 3, 1) := by decide +kernel
theorem dX0_makeRecord_270 : decode cX0_makeRecord 270 = .ok (.iconst 0, 1) := by decide +kernel
theorem dX0_makeRecord_271 : decode cX0_makeRecord 271 = .ok (.aload_n 0, 1) := by decide +kernel
theorem dX0_makeRecord_272 : decode cX0_makeRecord 272 = .ok (.getfield 21, 3) := by decide +kernel
theorem dX0_makeRecord_275 : decode cX0_makeRecord 275 = .ok (.aload_n 0, 1) := by decide +kernel
theorem dX0_makeRecord_276 : decode cX0_makeRecord 276 = .ok (.getfield 24, 3) := by decide +kernel
theorem dX0_makeRecord_279 : decode cX0_makeRecord 279 = .ok (.iload_n 3, 1) := by decide +kernel
theorem dX0_makeRecord_28 : decode cX0_makeRecord 28 = .ok (.iconst 0, 1) := by decide +kernel
theorem dX0_makeRecord_280 : decode cX0_makeRecord 280 = .ok (.iaload, 1) := by decide +kernel
theorem dX0_makeRecord_281 : decode cX0_makeRecord 281 = .ok (.iload 5, 2) := by decide +kernel
theorem dX0_makeRecord_283 : decode cX0_makeRecord 283 = .ok (.invokestatic 154, 3) := by decide +kernel
theorem dX0_makeRecord_286 : decode cX0_makeRecord 286 = .ok (.aload_n 0, 1) := by decide +kernel
theorem dX0_makeRecord_287 : decode cX0_makeRecord 287 = .ok (.getfield 24, 3) := by decide +kernel
theorem dX0_makeRecord_29 : decode cX0_makeRecord 29 = .ok (.istore 4, 2) := by decide +kernel
theorem dX0_makeRecord_290 : decode cX0_makeRecord 290 = .ok (.iload_n 3, 1) := by decide +kernel
theorem dX0_makeRecord_291 : decode cX0_makeRecord 291 = .ok (.iconst 1, 1) := by decide +kernel
theorem dX0_makeRecord_292 : decode cX0_makeRecord 292 = .ok (.iadd, 1) := by decide +kernel
theorem dX0_makeRecord_293 : decode cX0_makeRecord 293 = .ok (.aload_n 0, 1) := by decide +kernel
theorem dX0_makeRecord_294 : decode cX0_makeRecord 294 = .ok (.getfield 24, 3) := by decide +kernel
theorem dX0_makeRecord_297 : decode cX0_makeRecord 297 = .ok (.iload_n 3, 1) := by decide +kernel
theorem dX0_makeRecord_298 : decode cX0_makeRecord 298 = .ok (.iaload, 1) := by decide +kernel
theorem dX0_makeRecord_299 : decode cX0_makeRecord 299 = .ok (.iload 5, 2) := by decide +kernel
theorem dX0_makeRecord_301 : decode cX0_makeRecord 301 = .ok (.iadd, 1) := by decide +kernel
theorem dX0_makeRecord_302 : decode cX0_makeRecord 302 = .ok (.iastore, 1) := by decide +kernel
theorem dX0_makeRecord_303 : decode cX0_makeRecord 303 = .ok (.aload_n 0, 1) := by decide +kernel
theorem dX0_makeRecord_304 : decode cX0_makeRecord 304 = .ok (.iload_n 3, 1) := by decide +kernel
theorem dX0_makeRecord_305 : decode cX0_makeRecord 305 = .ok (.iconst 1, 1) := by decide +kernel
theorem dX0_makeRecord_306 : decode cX0_makeRecord 306 = .ok (.iadd, 1) := by decide +kernel
theorem dX0_makeRecord_307 : decode cX0_makeRecord 307 = .ok (.putfield 62, 3) := by decide +kernel
theorem dX0_makeRecord_31 : decode cX0_makeRecord 31 = .ok (.iconst 1, 1) := by decide +kernel
theorem dX0_makeRecord_310 : decode cX0_makeRecord 310 = .ok (.return_, 1) := by decide +kernel
theorem dX0_makeRecord_32 : decode cX0_makeRecord 32 = .ok (.istore 5, 2) := by decide +kernel
theorem dX0_makeRecord_34 : decode cX0_makeRecord 34 = .ok (.iload_n 3, 1) := by decide +kernel
theorem dX0_makeRecord_35 : decode cX0_makeRecord 35 = .ok (.istore 6, 2) := by decide +kernel
theorem dX0_makeRecord_37 : decode cX0_makeRecord 37 = .ok (.iload 6, 2) := by decide +kernel
theorem dX0_makeRecord_39 : decode cX0_makeRecord 39 = .ok (.aload_n 0, 1) := by decide +kernel
theorem dX0_makeRecord_4 : decode cX0_makeRecord 4 = .ok (.iload_n 1, 1) := by decide +kernel
theorem dX0_makeRecord_40 : decode cX0_makeRecord 40 = .ok (.getfield 62, 3) := by decide +kernel
theorem dX0_makeRecord_43 : decode cX0_makeRecord 43 = .ok (.if_icmp .ge 55, 3) := by decide +kernel
theorem dX0_makeRecord_46 : decode cX0_makeRecord 46 = .ok (.aload_n 0, 1) := by decide +kernel
theorem dX0_makeRecord_47 : decode cX0_makeRecord 47 = .ok (.getfield 21, 3) := by decide +kernel
theorem dX0_makeRecord_5 : decode cX0_makeRecord 5 = .ok (.aload_n 0, 1) := by decide +kernel
theorem dX0_makeRecord_50 : decode cX0_makeRecord 50 = .ok (.aload_n 0, 1) := by decide +kernel
theorem dX0_makeRecord_51 : decode cX0_makeRecord 51 = .ok (.getfield 24, 3) := by decide +kernel
theorem dX0_makeRecord_54 : decode cX0_makeRecord 54 = .ok (.iload 6, 2) := by decide +kernel
theorem dX0_makeRecord_56 : decode cX0_makeRecord 56 = .ok (.iaload, 1) := by decide +kernel
theorem dX0_makeRecord_57 : decode cX0_makeRecord 57 = .ok (.laload, 1) := by decide +kernel
theorem dX0_makeRecord_58 : decode cX0_makeRecord 58 = .ok (.invokestatic 160, 3) := by decide +kernel
theorem dX0_makeRecord_6 : decode cX0_makeRecord 6 = .ok (.getfield 62, 3) := by decide +kernel
theorem dX0_makeRecord_61 : decode cX0_makeRecord 61 = .ok (.iconst 4, 1) := by decide +kernel
theorem dX0_makeRecord_62 : decode cX0_makeRecord 62 = .ok (.if_icmp .eq 30, 3) := by decide +kernel
theorem dX0_makeRecord_65 : decode cX0_makeRecord 65 = .ok (.iinc 4 1, 3) := by decide +kernel
theorem dX0_makeRecord_68 : decode cX0_makeRecord 68 = .ok (.iload 5, 2) := by decide +kernel
theorem dX0_makeRecord_70 : decode cX0_makeRecord 70 = .ok (.iconst 1, 1) := by decide +kernel
theorem dX0_makeRecord_71 : decode cX0_makeRecord 71 = .ok (.aload_n 0, 1) := by decide +kernel
theorem dX0_makeRecord_72 : decode cX0_makeRecord 72 = .ok (.getfield 24, 3) := by decide +kernel
theorem dX0_makeRecord_75 : decode cX0_makeRecord 75 = .ok (.iload 6, 2) := by decide +kernel
theorem dX0_makeRecord_77 : decode cX0_makeRecord 77 = .ok (.iconst 1, 1) := by decide +kernel
theorem dX0_makeRecord_78 : decode cX0_makeRecord 78 = .ok (.iadd, 1) := by decide +kernel
theorem dX0_makeRecord_79 : decode cX0_makeRecord 79 = .ok (.iaload, 1) := by decide +kernel
theorem dX0_makeRecord_80 : decode cX0_makeRecord 80 = .ok (.iadd, 1) := by decide +kernel
theorem dX0_makeRecord_81 : decode cX0_makeRecord 81 = .ok (.aload_n 0, 1) := by decide +kernel
theorem dX0_makeRecord_82 : decode cX0_makeRecord 82 = .ok (.getfield 24, 3) := by decide +kernel
theorem dX0_makeRecord_85 : decode cX0_makeRecord 85 = .ok (.iload 6, 2) := by decide +kernel
theorem dX0_makeRecord_87 : decode cX0_makeRecord 87 = .ok (.iaload, 1) := by decide +kernel
theorem dX0_makeRecord_88 : decode cX0_makeRecord 88 = .ok (.isub, 1) := by decide +kernel
theorem dX0_makeRecord_89 : decode cX0_makeRecord 89 = .ok (.iadd, 1) := by decide +kernel
theorem dX0_makeRecord_9 : decode cX0_makeRecord 9 = .ok (.if_icmp .gt 11, 3) := by decide +kernel
theorem dX0_makeRecord_90 : decode cX0_makeRecord 90 = .ok (.istore 5, 2) := by decide +kernel
theorem dX0_makeRecord_92 : decode cX0_makeRecord 92 = .ok (.iinc 6 1, 3) := by decide +kernel
theorem dX0_makeRecord_95 : decode cX0_makeRecord 95 = .ok (.goto (-58), 3) := by decide +kernel
theorem dX0_makeRecord_98 : decode cX0_makeRecord 98 = .ok (.iload 5, 2) := by decide +kernel
noncomputable def k_X0_makeRecord_92 (l2 : Int32) (l3 : Int32) (l4 : Int32) (l5 : Int32) (l6 : Int32) (s : t_S) : Option ((Int32 × Int32 × Int32 × Int32 × Int32 × t_S) ⊕ (t_S)) :=
 some (.inl (l2, l3, l4, l5, (l6 + 1), s))
set_option maxRecDepth 4000 in
set_option maxHeartbeats 1000000 in
theorem B_X0_makeRecord_92 {D : va_G} {cy : Nat → ClassId} {ad : Nat → Nat} {bs : Nat} {X : State → Heap → Prop} (l2 : Int32) (l3 : Int32) (l4 : Int32) (l5 : Int32) (l6 : Int32) (s : t_S) (Q : (Int32 × Int32 × Int32 × Int32 × Int32 × t_S) ⊕ (t_S) → Prop) (Hb37 : ∀ (y0 : Int32) (y1 : Int32) (y2 : Int32) (y3 : Int32) (y4 : Int32) (y5 : t_S), Q (.inl (y0, y1, y2, y3, y4, y5)) → mj_G D cy ad bs X cX0_makeRecord 8 yX0_makeRecord.cls none yX0_makeRecord.name 2 0 0 1065 (t_P (fun v s' => v = none ∧ Q (.inr (s')))) 37 [(0, .ref 334), (2, .int (y0)), (3, .int (y1)), (4, .int (y2)), (5, .int (y3)), (6, .int (y4))] [] (t_m y5) 1065 0 0) (hk : t_hk (k_X0_makeRecord_92 l2 l3 l4 l5 l6 s) Q) : mj_G D cy ad bs X cX0_makeRecord 8 yX0_makeRecord.cls none yX0_makeRecord.name 2 0 0 1065 (t_P (fun v s' => v = none ∧ Q (.inr (s')))) 92 [(0, .ref 334), (2, .int l2), (3, .int l3), (4, .int l4), (5, .int l5), (6, .int l6)] [] (t_m s) 1065 0 0 := by
  refine mj_iinc (k := 5) (v := (l6 + 1)) (lv2 := [(6, .int (l6 + 1)), (0, .ref 334), (2, .int l2), (3, .int l3), (4, .int l4), (5, .int l5)]) dX0_makeRecord_92 rfl rfl (by decide) rfl ?_
  refine mj_goto 37 dX0_makeRecord_95 (by decide) ?_
  refine mj_sublv [(0, .ref 334), (2, .int l2), (3, .int l3), (4, .int l4), (5, .int l5), (6, .int (l6 + 1))] [1, 2, 3, 4, 5, 0] rfl ?_
  exact t_somK hk (fun hf => Hb37 l2 l3 l4 l5 (l6 + 1) s hf)
noncomputable def k_X0_makeRecord_248 (l2 : Int32) (l3 : Int32) (l5 : Int32) (l6 : Int32) (l7 : Int32) (s : t_S) : Option ((Int32 × Int32 × Int32 × Int32 × Int32 × t_S) ⊕ (t_S)) :=
 some (.inl (l2, l3, l5, l6, (l7 + 1), s))
set_option maxRecDepth 4000 in
set_option maxHeartbeats 1000000 in
theorem B_X0_makeRecord_248 {D : va_G} {cy : Nat → ClassId} {ad : Nat → Nat} {bs : Nat} {X : State → Heap → Prop} (l2 : Int32) (l3 : Int32) (l5 : Int32) (l6 : Int32) (l7 : Int32) (s : t_S) (Q : (Int32 × Int32 × Int32 × Int32 × Int32 × t_S) ⊕ (t_S) → Prop) (Hb133 : ∀ (y0 : Int32) (y1 : Int32) (y2 : Int32) (y3 : Int32) (y4 : Int32) (y5 : t_S), Q (.inl (y0, y1, y2, y3, y4, y5)) → mj_G D cy ad bs X cX0_makeRecord 8 yX0_makeRecord.cls none yX0_makeRecord.name 2 0 0 1065 (t_P (fun v s' => v = none ∧ Q (.inr (s')))) 133 [(0, .ref 334), (2, .int (y0)), (3, .int (y1)), (5, .int (y2)), (6, .int (y3)), (7, .int (y4))] [] (t_m y5) 1065 0 0) (hk : t_hk (k_X0_makeRecord_248 l2 l3 l5 l6 l7 s) Q) : mj_G D cy ad bs X cX0_makeRecord 8 yX0_makeRecord.cls none yX0_makeRecord.name 2 0 0 1065 (t_P (fun v s' => v = none ∧ Q (.inr (s')))) 248 [(0, .ref 334), (2, .int l2), (3, .int l3), (5, .int l5), (6, .int l6), (7, .int l7)] [] (t_m s) 1065 0 0 := by
  refine mj_iinc (k := 5) (v := (l7 + 1)) (lv2 := [(7, .int (l7 + 1)), (0, .ref 334), (2, .int l2), (3, .int l3), (5, .int l5), (6, .int l6)]) dX0_makeRecord_248 rfl rfl (by decide) rfl ?_
  refine mj_goto 133 dX0_makeRecord_251 (by decide) ?_
  refine mj_sublv [(0, .ref 334), (2, .int l2), (3, .int l3), (5, .int l5), (6, .int l6), (7, .int (l7 + 1))] [1, 2, 3, 4, 5, 0] rfl ?_
  exact t_somK hk (fun hf => Hb133 l2 l3 l5 l6 (l7 + 1) s hf)
noncomputable def k_X0_makeRecord_133 (l2 : Int32) (l3 : Int32) (l5 : Int32) (l6 : Int32) (l7 : Int32) (s : t_S) : Option ((Int32 × Int32 × Int32 × Int32 × Int32 × t_S) ⊕ (t_S)) :=
 if (s.1 334 7) ≤ l7 then (((f_X8_sortFields 340 (0 : Int32) 341 s).bind (fun r1 =>
 if t_ix l3 3201 = true then
  if t_cpok (0 : Int32) (r1.1 339 (l3.toNatClampNeg)) l5 240 48000 = true then
  t_let (t_cpJ r1 340 338 (0 : Int32) (r1.1 339 (l3.toNatClampNeg)) l5) (fun s1 =>
 if t_ix (l3 + (1 : Int32)) 3201 = true then
  t_let (t_setI s1 339 ((l3 + (1 : Int32)).toNatClampNeg) ((s1.1 339 (l3.toNatClampNeg)) + l5)) (fun s2 =>
 t_let (t_setI s2 334 7 (l3 + (1 : Int32))) (fun s3 =>
 some (s3)))
else none)
else none
else none)).map Sum.inr)
 else (if t_ix l7 3201 = true then
  if t_ix (s.1 339 (l7.toNatClampNeg)) 48000 = true then
  if (f_X8_kind (s.2.1 338 ((s.1 339 (l7.toNatClampNeg)).toNatClampNeg)) s) = (4 : Int32) then (k_X0_makeRecord_248 l2 l3 l5 l6 l7 s)
 else (if t_ix ((l2 + l7) - l3) 16000 = true then
  if t_ix l6 240 = true then
  t_let (t_setJ s 340 (l6.toNatClampNeg) (f_X8_plainCell (9 : Int32) ((s.1 336 (((l2 + l7) - l3).toNatClampNeg)).toInt64) s)) (fun s4 =>
 if t_ix (l7 + (1 : Int32)) 3201 = true then
  if t_cpok (s4.1 339 (l7.toNatClampNeg)) (l6 + (1 : Int32)) ((s4.1 339 ((l7 + (1 : Int32)).toNatClampNeg)) - (s4.1 339 (l7.toNatClampNeg))) 48000 240 = true then
  t_let (t_cpJ s4 338 340 (s4.1 339 (l7.toNatClampNeg)) (l6 + (1 : Int32)) ((s4.1 339 ((l7 + (1 : Int32)).toNatClampNeg)) - (s4.1 339 (l7.toNatClampNeg)))) (fun s5 =>
 k_X0_makeRecord_248 l2 l3 l5 (l6 + (((1 : Int32) + (s5.1 339 ((l7 + (1 : Int32)).toNatClampNeg))) - (s5.1 339 (l7.toNatClampNeg)))) l7 s5)
else none
else none)
else none
else none)
else none
else none)
set_option maxRecDepth 4000 in
set_option maxHeartbeats 1000000 in
theorem B_X0_makeRecord_133 {D : va_G} {cy : Nat → ClassId} {ad : Nat → Nat} {bs : Nat} {X : State → Heap → Prop} (l2 : Int32) (l3 : Int32) (l5 : Int32) (l6 : Int32) (l7 : Int32) (s : t_S) (Q : (Int32 × Int32 × Int32 × Int32 × Int32 × t_S) ⊕ (t_S) → Prop) (Hb133 : ∀ (y0 : Int32) (y1 : Int32) (y2 : Int32) (y3 : Int32) (y4 : Int32) (y5 : t_S), Q (.inl (y0, y1, y2, y3, y4, y5)) → mj_G D cy ad bs X cX0_makeRecord 8 yX0_makeRecord.cls none yX0_makeRecord.name 2 0 0 1065 (t_P (fun v s' => v = none ∧ Q (.inr (s')))) 133 [(0, .ref 334), (2, .int (y0)), (3, .int (y1)), (5, .int (y2)), (6, .int (y3)), (7, .int (y4))] [] (t_m y5) 1065 0 0) (hk : t_hk (k_X0_makeRecord_133 l2 l3 l5 l6 l7 s) Q) : mj_G D cy ad bs X cX0_makeRecord 8 yX0_makeRecord.cls none yX0_makeRecord.name 2 0 0 1065 (t_P (fun v s' => v = none ∧ Q (.inr (s')))) 133 [(0, .ref 334), (2, .int l2), (3, .int l3), (5, .int l5), (6, .int l6), (7, .int l7)] [] (t_m s) 1065 0 0 := by
  refine mj_iload dX0_makeRecord_133 5 rfl ?_
  refine mj_aload_n dX0_makeRecord_135 0 rfl ?_
  refine t_getI dX0_makeRecord_136 F_X0_62 qf_334_7 ?_
  refine mj_icmp_ge 254 dX0_makeRecord_139 (by decide) (fun z => t_posK hk z (fun hk => ?_)) (fun z => t_negK hk z (fun hk => ?_))
  · refine t_mapK hk (fun hk => ?_)
    refine mj_aload_n dX0_makeRecord_254 0 rfl ?_
    refine t_getR 340 dX0_makeRecord_255 F_X0_29 qr_334_8 ?_
    refine mj_iconst (v := 0) dX0_makeRecord_258 (by decide) ?_
    refine mj_aload_n dX0_makeRecord_259 0 rfl ?_
    refine t_getR 341 dX0_makeRecord_260 F_X0_32 qr_334_9 ?_
    refine t_bndK hk (fun r1 er1 hk => ?_)
    refine t_callSvE dX0_makeRecord_263 M_X8_sortFields (C_X8_sortFields _ _ _ _ _ er1) ML_X0_259 SM_X8_sortFields (As := [.ref 340, .int 0, .ref 341]) rfl rfl (Nat.le_of_ble_eq_true rfl) (Nat.le_of_ble_eq_true rfl) (Nat.le_of_ble_eq_true rfl) (Nat.le_of_ble_eq_true rfl) ?_
    refine mj_aload_n dX0_makeRecord_266 0 rfl ?_
    refine t_getR 340 dX0_makeRecord_267 F_X0_29 qr_334_8 ?_
    refine mj_iconst (v := 0) dX0_makeRecord_270 (by decide) ?_
    refine mj_aload_n dX0_makeRecord_271 0 rfl ?_
    refine t_getR 338 dX0_makeRecord_272 F_X0_21 qr_334_5 ?_
    refine mj_aload_n dX0_makeRecord_275 0 rfl ?_
    refine t_getR 339 dX0_makeRecord_276 F_X0_24 qr_334_6 ?_
    refine mj_iload_n dX0_makeRecord_279 2 rfl ?_
    refine t_chkK hk (fun c1 hk => ?_)
    refine t_iald dX0_makeRecord_280 qa_339 (t_ixv c1) ?_
    refine mj_iload dX0_makeRecord_281 3 rfl ?_
    refine t_chkK hk (fun c2 hk => ?_)
    refine t_copyK dX0_makeRecord_283 MA_X0_154 qa_340 qa_338 c2 (Nat.le_of_ble_eq_true rfl) (Nat.le_of_ble_eq_true rfl) (fun s1 ws1 => t_letE hk ws1 (fun hk => ?_))
    refine mj_aload_n dX0_makeRecord_286 0 rfl ?_
    refine t_getR 339 dX0_makeRecord_287 F_X0_24 qr_334_6 ?_
    refine mj_iload_n dX0_makeRecord_290 2 rfl ?_
    refine mj_iconst (v := 1) dX0_makeRecord_291 (by decide) ?_
    refine mj_iadd dX0_makeRecord_292 ?_
    refine mj_aload_n dX0_makeRecord_293 0 rfl ?_
    refine t_getR 339 dX0_makeRecord_294 F_X0_24 qr_334_6 ?_
    refine mj_iload_n dX0_makeRecord_297 2 rfl ?_
    refine t_iald dX0_makeRecord_298 qa_339 (t_ixv c1) ?_
    refine mj_iload dX0_makeRecord_299 3 rfl ?_
    refine mj_iadd dX0_makeRecord_301 ?_
    refine t_chkK hk (fun c3 hk => ?_)
    refine t_iastK dX0_makeRecord_302 qa_339 (t_ixv c3) (fun s2 ws2 => t_letE hk ws2 (fun hk => ?_))
    refine mj_aload_n dX0_makeRecord_303 0 rfl ?_
    refine mj_iload_n dX0_makeRecord_304 2 rfl ?_
    refine mj_iconst (v := 1) dX0_makeRecord_305 (by decide) ?_
    refine mj_iadd dX0_makeRecord_306 ?_
    refine t_putIK dX0_makeRecord_307 F_X0_62 qf_334_7 rfl (fun s3 ws3 => t_letE hk ws3 (fun hk => ?_))
    exact t_somK hk (fun hf => t_vret dX0_makeRecord_310 rfl ⟨rfl, hf⟩ (Nat.le_of_ble_eq_true rfl) (Nat.le_of_ble_eq_true rfl))
  · refine mj_aload_n dX0_makeRecord_142 0 rfl ?_
    refine t_getR 338 dX0_makeRecord_143 F_X0_21 qr_334_5 ?_
    refine mj_aload_n dX0_makeRecord_146 0 rfl ?_
    refine t_getR 339 dX0_makeRecord_147 F_X0_24 qr_334_6 ?_
    refine mj_iload dX0_makeRecord_150 5 rfl ?_
    refine t_chkK hk (fun c4 hk => ?_)
    refine t_iald dX0_makeRecord_152 qa_339 (t_ixv c4) ?_
    refine t_chkK hk (fun c5 hk => ?_)
    refine t_lald dX0_makeRecord_153 qa_338 (t_ixv c5) ?_
    refine t_callSiP dX0_makeRecord_154 M_X8_kind (C_X8_kind _ _) ML_X0_160 SM_X8_kind (As := [.long (s.2.1 338 ((s.1 339 (l7.toNatClampNeg)).toNatClampNeg))]) rfl rfl (Nat.le_of_ble_eq_true rfl) (Nat.le_of_ble_eq_true rfl) (Nat.le_of_ble_eq_true rfl) (Nat.le_of_ble_eq_true rfl) ?_
    refine mj_iconst (v := 4) dX0_makeRecord_157 (by decide) ?_
    refine mj_icmp_eq 248 dX0_makeRecord_158 (by decide) (fun z => t_posK hk z (fun hk => ?_)) (fun z => t_negK hk z (fun hk => ?_))
    · exact B_X0_makeRecord_248 _ _ _ _ _ _ _ (fun y0 y1 y2 y3 y4 y5 hx => Hb133 y0 y1 y2 y3 y4 y5 hx) hk
    · refine mj_aload_n dX0_makeRecord_161 0 rfl ?_
      refine t_getR 340 dX0_makeRecord_162 F_X0_29 qr_334_8 ?_
      refine mj_iload dX0_makeRecord_165 4 rfl ?_
      refine mj_bipush (v := 9) dX0_makeRecord_167 (by decide) ?_
      refine mj_aload_n dX0_makeRecord_169 0 rfl ?_
      refine t_getR 336 dX0_makeRecord_170 F_X0_13 qr_334_1 ?_
      refine mj_iload_n dX0_makeRecord_173 1 rfl ?_
      refine mj_iload dX0_makeRecord_174 5 rfl ?_
      refine mj_iadd dX0_makeRecord_176 ?_
      refine mj_iload_n dX0_makeRecord_177 2 rfl ?_
      refine mj_isub dX0_makeRecord_178 ?_
      refine t_chkK hk (fun c7 hk => ?_)
      refine t_iald dX0_makeRecord_179 qa_336 (t_ixv c7) ?_
      refine mj_i2l (v := (s.1 336 (((l2 + l7) - l3).toNatClampNeg)).toInt64) dX0_makeRecord_180 rfl ?_
      refine t_callSlP dX0_makeRecord_181 M_X8_plainCell (C_X8_plainCell _ _ _) ML_X0_106 SM_X8_plainCell (As := [.int 9, .long ((s.1 336 (((l2 + l7) - l3).toNatClampNeg)).toInt64)]) rfl rfl (Nat.le_of_ble_eq_true rfl) (Nat.le_of_ble_eq_true rfl) (Nat.le_of_ble_eq_true rfl) (Nat.le_of_ble_eq_true rfl) ?_
      refine t_chkK hk (fun c9 hk => ?_)
      refine t_lastK dX0_makeRecord_184 qa_340 (t_ixv c9) (fun s4 ws4 => t_letE hk ws4 (fun hk => ?_))
      refine mj_aload_n dX0_makeRecord_185 0 rfl ?_
      refine t_getR 338 dX0_makeRecord_186 F_X0_21 qr_334_5 ?_
      refine mj_aload_n dX0_makeRecord_189 0 rfl ?_
      refine t_getR 339 dX0_makeRecord_190 F_X0_24 qr_334_6 ?_
      refine mj_iload dX0_makeRecord_193 5 rfl ?_
      refine t_iald dX0_makeRecord_195 qa_339 (t_ixv c4) ?_
      refine mj_aload_n dX0_makeRecord_196 0 rfl ?_
      refine t_getR 340 dX0_makeRecord_197 F_X0_29 qr_334_8 ?_
      refine mj_iload dX0_makeRecord_200 4 rfl ?_
      refine mj_iconst (v := 1) dX0_makeRecord_202 (by decide) ?_
      refine mj_iadd dX0_makeRecord_203 ?_
      refine mj_aload_n dX0_makeRecord_204 0 rfl ?_
      refine t_getR 339 dX0_makeRecord_205 F_X0_24 qr_334_6 ?_
      refine mj_iload dX0_makeRecord_208 5 rfl ?_
      refine mj_iconst (v := 1) dX0_makeRecord_210 (by decide) ?_
      refine mj_iadd dX0_makeRecord_211 ?_
      refine t_chkK hk (fun c10 hk => ?_)
      refine t_iald dX0_makeRecord_212 qa_339 (t_ixv c10) ?_
      refine mj_aload_n dX0_makeRecord_213 0 rfl ?_
      refine t_getR 339 dX0_makeRecord_214 F_X0_24 qr_334_6 ?_
      refine mj_iload dX0_makeRecord_217 5 rfl ?_
      refine t_iald dX0_makeRecord_219 qa_339 (t_ixv c4) ?_
      refine mj_isub dX0_makeRecord_220 ?_
      refine t_chkK hk (fun c11 hk => ?_)
      refine t_copyK dX0_makeRecord_221 MA_X0_154 qa_338 qa_340 c11 (Nat.le_of_ble_eq_true rfl) (Nat.le_of_ble_eq_true rfl) (fun s5 ws5 => t_letE hk ws5 (fun hk => ?_))
      refine mj_iload dX0_makeRecord_224 4 rfl ?_
      refine mj_iconst (v := 1) dX0_makeRecord_226 (by decide) ?_
      refine mj_aload_n dX0_makeRecord_227 0 rfl ?_
      refine t_getR 339 dX0_makeRecord_228 F_X0_24 qr_334_6 ?_
      refine mj_iload dX0_makeRecord_231 5 rfl ?_
      refine mj_iconst (v := 1) dX0_makeRecord_233 (by decide) ?_
      refine mj_iadd dX0_makeRecord_234 ?_
      refine t_iald dX0_makeRecord_235 qa_339 (t_ixv c10) ?_
      refine mj_iadd dX0_makeRecord_236 ?_
      refine mj_aload_n dX0_makeRecord_237 0 rfl ?_
      refine t_getR 339 dX0_makeRecord_238 F_X0_24 qr_334_6 ?_
      refine mj_iload dX0_makeRecord_241 5 rfl ?_
      refine t_iald dX0_makeRecord_243 qa_339 (t_ixv c4) ?_
      refine mj_isub dX0_makeRecord_244 ?_
      refine mj_iadd dX0_makeRecord_245 ?_
      refine mj_istore (lv2 := [(6, .int (l6 + (((1 : Int32) + (s5.1 339 ((l7 + (1 : Int32)).toNatClampNeg))) - (s5.1 339 (l7.toNatClampNeg))))), (0, .ref 334), (2, .int l2), (3, .int l3), (5, .int l5), (7, .int l7)]) dX0_makeRecord_246 (by decide) rfl ?_
      refine mj_sublv [(0, .ref 334), (2, .int l2), (3, .int l3), (5, .int l5), (6, .int (l6 + (((1 : Int32) + (s5.1 339 ((l7 + (1 : Int32)).toNatClampNeg))) - (s5.1 339 (l7.toNatClampNeg))))), (7, .int l7)] [1, 2, 3, 4, 0, 5] rfl ?_
      exact B_X0_makeRecord_248 _ _ _ _ _ _ _ (fun y0 y1 y2 y3 y4 y5 hx => Hb133 y0 y1 y2 y3 y4 y5 hx) hk
noncomputable def b_X0_makeRecord_133 (x : Int32 × Int32 × Int32 × Int32 × Int32 × t_S) : Option ((Int32 × Int32 × Int32 × Int32 × Int32 × t_S) ⊕ (t_S)) := k_X0_makeRecord_133 x.1 x.2.1 x.2.2.1 x.2.2.2.1 x.2.2.2.2.1 x.2.2.2.2.2
set_option maxRecDepth 4000 in
set_option maxHeartbeats 1000000 in
theorem LH_X0_makeRecord_133 {D : va_G} {cy : Nat → ClassId} {ad : Nat → Nat} {bs : Nat} {X : State → Heap → Prop} : ∀ (n : Nat) (y0 : Int32) (y1 : Int32) (y2 : Int32) (y3 : Int32) (y4 : Int32) (y5 : t_S) (Q : t_S → Prop) (hk : t_hk (t_loop (b_X0_makeRecord_133) n (y0, y1, y2, y3, y4, y5)) Q), mj_G D cy ad bs X cX0_makeRecord 8 yX0_makeRecord.cls none yX0_makeRecord.name 2 0 0 1065 (t_P (fun v s' => v = none ∧ Q (s'))) 133 [(0, .ref 334), (2, .int (y0)), (3, .int (y1)), (5, .int (y2)), (6, .int (y3)), (7, .int (y4))] [] (t_m y5) 1065 0 0 := by
  intro n
  induction n with
  | zero => intro y0 y1 y2 y3 y4 y5 Q hk; obtain ⟨r, hr, _⟩ := hk; cases hr
  | succ n ih =>
    intro y0 y1 y2 y3 y4 y5 Q hk
    exact B_X0_makeRecord_133 y0 y1 y2 y3 y4 y5 (fun y => t_lq (b_X0_makeRecord_133) n Q y) (fun y0' y1' y2' y3' y4' y5' hy => ih y0' y1' y2' y3' y4' y5' Q hy) (t_lp hk)
noncomputable def k_X0_makeRecord_37 (l2 : Int32) (l3 : Int32) (l4 : Int32) (l5 : Int32) (l6 : Int32) (s : t_S) : Option ((Int32 × Int32 × Int32 × Int32 × Int32 × t_S) ⊕ (t_S)) :=
 if (s.1 334 7) ≤ l6 then ((if l5 ≤ (120 : Int32) then (t_let (t_setJ s 340 ((0 : Int32).toNatClampNeg) (f_X8_cell (6 : Int32) l5 l4.toInt64 s)) (fun s1 =>
 t_loop (b_X0_makeRecord_133) t_N (l2, l3, l5, 1, l3, s1)))
 else (t_let (t_setI s 334 12 (3 : Int32)) (fun s2 =>
 some (s2)))).map Sum.inr)
 else (if t_ix l6 3201 = true then
  if t_ix (s.1 339 (l6.toNatClampNeg)) 48000 = true then
  if (f_X8_kind (s.2.1 338 ((s.1 339 (l6.toNatClampNeg)).toNatClampNeg)) s) = (4 : Int32) then (k_X0_makeRecord_92 l2 l3 l4 l5 l6 s)
 else (if t_ix (l6 + (1 : Int32)) 3201 = true then
  k_X0_makeRecord_92 l2 l3 (l4 + 1) (l5 + (((1 : Int32) + (s.1 339 ((l6 + (1 : Int32)).toNatClampNeg))) - (s.1 339 (l6.toNatClampNeg)))) l6 s
else none)
else none
else none)
set_option maxRecDepth 4000 in
set_option maxHeartbeats 1000000 in
theorem B_X0_makeRecord_37 {D : va_G} {cy : Nat → ClassId} {ad : Nat → Nat} {bs : Nat} {X : State → Heap → Prop} (l2 : Int32) (l3 : Int32) (l4 : Int32) (l5 : Int32) (l6 : Int32) (s : t_S) (Q : (Int32 × Int32 × Int32 × Int32 × Int32 × t_S) ⊕ (t_S) → Prop) (Hb37 : ∀ (y0 : Int32) (y1 : Int32) (y2 : Int32) (y3 : Int32) (y4 : Int32) (y5 : t_S), Q (.inl (y0, y1, y2, y3, y4, y5)) → mj_G D cy ad bs X cX0_makeRecord 8 yX0_makeRecord.cls none yX0_makeRecord.name 2 0 0 1065 (t_P (fun v s' => v = none ∧ Q (.inr (s')))) 37 [(0, .ref 334), (2, .int (y0)), (3, .int (y1)), (4, .int (y2)), (5, .int (y3)), (6, .int (y4))] [] (t_m y5) 1065 0 0) (hk : t_hk (k_X0_makeRecord_37 l2 l3 l4 l5 l6 s) Q) : mj_G D cy ad bs X cX0_makeRecord 8 yX0_makeRecord.cls none yX0_makeRecord.name 2 0 0 1065 (t_P (fun v s' => v = none ∧ Q (.inr (s')))) 37 [(0, .ref 334), (2, .int l2), (3, .int l3), (4, .int l4), (5, .int l5), (6, .int l6)] [] (t_m s) 1065 0 0 := by
  refine mj_iload dX0_makeRecord_37 5 rfl ?_
  refine mj_aload_n dX0_makeRecord_39 0 rfl ?_
  refine t_getI dX0_makeRecord_40 F_X0_62 qf_334_7 ?_
  refine mj_icmp_ge 98 dX0_makeRecord_43 (by decide) (fun z => t_posK hk z (fun hk => ?_)) (fun z => t_negK hk z (fun hk => ?_))
  · refine t_mapK hk (fun hk => ?_)
    refine mj_iload dX0_makeRecord_98 4 rfl ?_
    refine mj_bipush (v := 120) dX0_makeRecord_100 (by decide) ?_
    refine mj_icmp_le 111 dX0_makeRecord_102 (by decide) (fun z => t_posK hk z (fun hk => ?_)) (fun z => t_negK hk z (fun hk => ?_))
    · refine mj_iconst (v := 1) dX0_makeRecord_111 (by decide) ?_
      refine mj_istore (lv2 := [(6, .int 1), (0, .ref 334), (2, .int l2), (3, .int l3), (4, .int l4), (5, .int l5)]) dX0_makeRecord_112 (by decide) rfl ?_
      refine mj_aload_n dX0_makeRecord_114 1 rfl ?_
      refine t_getR 340 dX0_makeRecord_115 F_X0_29 qr_334_8 ?_
      refine mj_iconst (v := 0) dX0_makeRecord_118 (by decide) ?_
      refine mj_bipush (v := 6) dX0_makeRecord_119 (by decide) ?_
      refine mj_iload dX0_makeRecord_121 5 rfl ?_
      refine mj_iload dX0_makeRecord_123 4 rfl ?_
      refine mj_i2l (v := l4.toInt64) dX0_makeRecord_125 rfl ?_
      refine t_callSlP dX0_makeRecord_126 M_X8_cell (C_X8_cell _ _ _ _) ML_X0_189 SM_X8_cell (As := [.int 6, .int l5, .long l4.toInt64]) rfl rfl (Nat.le_of_ble_eq_true rfl) (Nat.le_of_ble_eq_true rfl) (Nat.le_of_ble_eq_true rfl) (Nat.le_of_ble_eq_true rfl) ?_
      refine t_lastK dX0_makeRecord_129 qa_340 (by unfold vp_in; decide) (fun s1 ws1 => t_letE hk ws1 (fun hk => ?_))
      refine mj_iload_n dX0_makeRecord_130 3 rfl ?_
      refine mj_istore (lv2 := [(7, .int l3), (6, .int 1), (0, .ref 334), (2, .int l2), (3, .int l3), (4, .int l4), (5, .int l5)]) dX0_makeRecord_131 (by decide) rfl ?_
      refine mj_sublv [(0, .ref 334), (2, .int l2), (3, .int l3), (5, .int l5), (6, .int 1), (7, .int l3)] [2, 3, 4, 6, 1, 0] rfl ?_
      exact LH_X0_makeRecord_133 _ l2 l3 l5 1 l3 s1 _ hk
    · refine mj_aload_n dX0_makeRecord_105 0 rfl ?_
      refine mj_iconst (v := 3) dX0_makeRecord_106 (by decide) ?_
      refine t_putIK dX0_makeRecord_107 F_X0_71 qf_334_12 rfl (fun s2 ws2 => t_letE hk ws2 (fun hk => ?_))
      exact t_somK hk (fun hf => t_vret dX0_makeRecord_110 rfl ⟨rfl, hf⟩ (Nat.le_of_ble_eq_true rfl) (Nat.le_of_ble_eq_true rfl))
  · refine mj_aload_n dX0_makeRecord_46 0 rfl ?_
    refine t_getR 338 dX0_makeRecord_47 F_X0_21 qr_334_5 ?_
    refine mj_aload_n dX0_makeRecord_50 0 rfl ?_
    refine t_getR 339 dX0_makeRecord_51 F_X0_24 qr_334_6 ?_
    refine mj_iload dX0_makeRecord_54 5 rfl ?_
    refine t_chkK hk (fun c1 hk => ?_)
    refine t_iald dX0_makeRecord_56 qa_339 (t_ixv c1) ?_
    refine t_chkK hk (fun c2 hk => ?_)
    refine t_lald dX0_makeRecord_57 qa_338 (t_ixv c2) ?_
    refine t_callSiP dX0_makeRecord_58 M_X8_kind (C_X8_kind _ _) ML_X0_160 SM_X8_kind (As := [.long (s.2.1 338 ((s.1 339 (l6.toNatClampNeg)).toNatClampNeg))]) rfl rfl (Nat.le_of_ble_eq_true rfl) (Nat.le_of_ble_eq_true rfl) (Nat.le_of_ble_eq_true rfl) (Nat.le_of_ble_eq_true rfl) ?_
    refine mj_iconst (v := 4) dX0_makeRecord_61 (by decide) ?_
    refine mj_icmp_eq 92 dX0_makeRecord_62 (by decide) (fun z => t_posK hk z (fun hk => ?_)) (fun z => t_negK hk z (fun hk => ?_))
    · exact B_X0_makeRecord_92 _ _ _ _ _ _ _ (fun y0 y1 y2 y3 y4 y5 hx => Hb37 y0 y1 y2 y3 y4 y5 hx) hk
    · refine mj_iinc (k := 3) (v := (l4 + 1)) (lv2 := [(4, .int (l4 + 1)), (0, .ref 334), (2, .int l2), (3, .int l3), (5, .int l5), (6, .int l6)]) dX0_makeRecord_65 rfl rfl (by decide) rfl ?_
      refine mj_iload dX0_makeRecord_68 4 rfl ?_
      refine mj_iconst (v := 1) dX0_makeRecord_70 (by decide) ?_
      refine mj_aload_n dX0_makeRecord_71 1 rfl ?_
      refine t_getR 339 dX0_makeRecord_72 F_X0_24 qr_334_6 ?_
      refine mj_iload dX0_makeRecord_75 5 rfl ?_
      refine mj_iconst (v := 1) dX0_makeRecord_77 (by decide) ?_
      refine mj_iadd dX0_makeRecord_78 ?_
      refine t_chkK hk (fun c4 hk => ?_)
      refine t_iald dX0_makeRecord_79 qa_339 (t_ixv c4) ?_
      refine mj_iadd dX0_makeRecord_80 ?_
      refine mj_aload_n dX0_makeRecord_81 1 rfl ?_
      refine t_getR 339 dX0_makeRecord_82 F_X0_24 qr_334_6 ?_
      refine mj_iload dX0_makeRecord_85 5 rfl ?_
      refine t_iald dX0_makeRecord_87 qa_339 (t_ixv c1) ?_
      refine mj_isub dX0_makeRecord_88 ?_
      refine mj_iadd dX0_makeRecord_89 ?_
      refine mj_istore (lv2 := [(5, .int (l5 + (((1 : Int32) + (s.1 339 ((l6 + (1 : Int32)).toNatClampNeg))) - (s.1 339 (l6.toNatClampNeg))))), (4, .int (l4 + 1)), (0, .ref 334), (2, .int l2), (3, .int l3), (6, .int l6)]) dX0_makeRecord_90 (by decide) rfl ?_
      refine mj_sublv [(0, .ref 334), (2, .int l2), (3, .int l3), (4, .int (l4 + 1)), (5, .int (l5 + (((1 : Int32) + (s.1 339 ((l6 + (1 : Int32)).toNatClampNeg))) - (s.1 339 (l6.toNatClampNeg))))), (6, .int l6)] [2, 3, 4, 1, 0, 5] rfl ?_
      exact B_X0_makeRecord_92 _ _ _ _ _ _ _ (fun y0 y1 y2 y3 y4 y5 hx => Hb37 y0 y1 y2 y3 y4 y5 hx) hk
noncomputable def b_X0_makeRecord_37 (x : Int32 × Int32 × Int32 × Int32 × Int32 × t_S) : Option ((Int32 × Int32 × Int32 × Int32 × Int32 × t_S) ⊕ (t_S)) := k_X0_makeRecord_37 x.1 x.2.1 x.2.2.1 x.2.2.2.1 x.2.2.2.2.1 x.2.2.2.2.2
set_option maxRecDepth 4000 in
set_option maxHeartbeats 1000000 in
theorem LH_X0_makeRecord_37 {D : va_G} {cy : Nat → ClassId} {ad : Nat → Nat} {bs : Nat} {X : State → Heap → Prop} : ∀ (n : Nat) (y0 : Int32) (y1 : Int32) (y2 : Int32) (y3 : Int32) (y4 : Int32) (y5 : t_S) (Q : t_S → Prop) (hk : t_hk (t_loop (b_X0_makeRecord_37) n (y0, y1, y2, y3, y4, y5)) Q), mj_G D cy ad bs X cX0_makeRecord 8 yX0_makeRecord.cls none yX0_makeRecord.name 2 0 0 1065 (t_P (fun v s' => v = none ∧ Q (s'))) 37 [(0, .ref 334), (2, .int (y0)), (3, .int (y1)), (4, .int (y2)), (5, .int (y3)), (6, .int (y4))] [] (t_m y5) 1065 0 0 := by
  intro n
  induction n with
  | zero => intro y0 y1 y2 y3 y4 y5 Q hk; obtain ⟨r, hr, _⟩ := hk; cases hr
  | succ n ih =>
    intro y0 y1 y2 y3 y4 y5 Q hk
    exact B_X0_makeRecord_37 y0 y1 y2 y3 y4 y5 (fun y => t_lq (b_X0_makeRecord_37) n Q y) (fun y0' y1' y2' y3' y4' y5' hy => ih y0' y1' y2' y3' y4' y5' Q hy) (t_lp hk)
noncomputable def f_X0_makeRecord (x1 : Int32) (x2 : Int32) (s : t_S) : Option (t_S) :=
 if x1 < (0 : Int32) then (some (s))
 else (if (s.1 334 7) < x1 then (some (s))
 else ((f_X0_hasRoom (1 : Int32) s).bind (fun r1 =>
 if r1.1 = (0 : Int32) then (some (r1.2))
 else (t_loop (b_X0_makeRecord_37) t_N (x2, ((r1.2.1 334 7) - x1), 0, 1, ((r1.2.1 334 7) - x1), r1.2)))))
set_option maxRecDepth 4000 in
set_option maxHeartbeats 1000000 in
theorem C_X0_makeRecord (x1 : Int32) (x2 : Int32) (s : t_S) (r : t_S) (hr : f_X0_makeRecord x1 x2 s = some r) : t_C yX0_makeRecord cX0_makeRecord 8 none 2 [.ref 334, .int x1, .int x2] s (fun v s' => v = none ∧ s' = r) := by
  refine t_C.imp (P := fun v s' => v = none ∧ (fun q => q = r) (s')) (t_C.of (by decide +kernel) (Nat.le_of_ble_eq_true rfl) ?_) (fun v s' hp => hp)
  intro D cy ad bs X
  have hk : t_hk (f_X0_makeRecord x1 x2 s) (fun q => q = r) := ⟨r, hr, rfl⟩
  show mj_G D cy ad bs X cX0_makeRecord 8 yX0_makeRecord.cls none yX0_makeRecord.name 2 0 0 1065 (t_P (fun v s' => v = none ∧ (fun q => q = r) (s'))) 0 [(0, .ref 334), (1, .int x1), (2, .int x2)] [] (t_m s) 1065 0 0
  refine mj_iload_n dX0_makeRecord_0 1 rfl ?_
  refine mj_if_lt 20 dX0_makeRecord_1 (by decide) (fun z => t_posK hk z (fun hk => ?_)) (fun z => t_negK hk z (fun hk => ?_))
  · exact t_somK hk (fun hf => t_vret dX0_makeRecord_20 rfl ⟨rfl, hf⟩ (Nat.le_of_ble_eq_true rfl) (Nat.le_of_ble_eq_true rfl))
  · refine mj_iload_n dX0_makeRecord_4 1 rfl ?_
    refine mj_aload_n dX0_makeRecord_5 0 rfl ?_
    refine t_getI dX0_makeRecord_6 F_X0_62 qf_334_7 ?_
    refine mj_icmp_gt 20 dX0_makeRecord_9 (by decide) (fun z => t_posK hk z (fun hk => ?_)) (fun z => t_negK hk z (fun hk => ?_))
    · exact t_somK hk (fun hf => t_vret dX0_makeRecord_20 rfl ⟨rfl, hf⟩ (Nat.le_of_ble_eq_true rfl) (Nat.le_of_ble_eq_true rfl))
    · refine mj_aload_n dX0_makeRecord_12 0 rfl ?_
      refine mj_iconst (v := 1) dX0_makeRecord_13 (by decide) ?_
      refine t_bndK hk (fun r1 er1 hk => ?_)
      refine t_callViE dX0_makeRecord_14 M_X0_hasRoom (C_X0_hasRoom _ _ _ er1) ML_X0_146 IM_X0_hasRoom SE_X0_hasRoom qc_334 rfl (As := [.int 1]) rfl rfl (Nat.le_of_ble_eq_true rfl) (Nat.le_of_ble_eq_true rfl) (Nat.le_of_ble_eq_true rfl) (Nat.le_of_ble_eq_true rfl) ?_
      refine mj_if_ne 21 dX0_makeRecord_17 (by decide) (fun z => t_negK hk z (fun hk => ?_)) (fun z => t_posK hk z (fun hk => ?_))
      · refine mj_aload_n dX0_makeRecord_21 0 rfl ?_
        refine t_getI dX0_makeRecord_22 F_X0_62 qf_334_7 ?_
        refine mj_iload_n dX0_makeRecord_25 1 rfl ?_
        refine mj_isub dX0_makeRecord_26 ?_
        refine mj_istore_n 3 (lv2 := [(3, .int ((r1.2.1 334 7) - x1)), (0, .ref 334), (1, .int x1), (2, .int x2)]) dX0_makeRecord_27 rfl (by decide) rfl ?_
        refine mj_iconst (v := 0) dX0_makeRecord_28 (by decide) ?_
        refine mj_istore (lv2 := [(4, .int 0), (3, .int ((r1.2.1 334 7) - x1)), (0, .ref 334), (1, .int x1), (2, .int x2)]) dX0_makeRecord_29 (by decide) rfl ?_
        refine mj_iconst (v := 1) dX0_makeRecord_31 (by decide) ?_
        refine mj_istore (lv2 := [(5, .int 1), (4, .int 0), (3, .int ((r1.2.1 334 7) - x1)), (0, .ref 334), (1, .int x1), (2, .int x2)]) dX0_makeRecord_32 (by decide) rfl ?_
        refine mj_iload_n dX0_makeRecord_34 2 rfl ?_
        refine mj_istore (lv2 := [(6, .int ((r1.2.1 334 7) - x1)), (5, .int 1), (4, .int 0), (3, .int ((r1.2.1 334 7) - x1)), (0, .ref 334), (1, .int x1), (2, .int x2)]) dX0_makeRecord_35 (by decide) rfl ?_
        refine mj_sublv [(0, .ref 334), (2, .int x2), (3, .int ((r1.2.1 334 7) - x1)), (4, .int 0), (5, .int 1), (6, .int ((r1.2.1 334 7) - x1))] [4, 6, 3, 2, 1, 0] rfl ?_
        exact LH_X0_makeRecord_37 _ x2 ((r1.2.1 334 7) - x1) 0 1 ((r1.2.1 334 7) - x1) r1.2 _ hk
      · exact t_somK hk (fun hf => t_vret dX0_makeRecord_20 rfl ⟨rfl, hf⟩ (Nat.le_of_ble_eq_true rfl) (Nat.le_of_ble_eq_true rfl))

theorem dX10_wrongOf_0 : decode cX10_wrongOf 0 = .ok (.aload_n 0, 1) := by decide +kernel
theorem dX10_wrongOf_1 : decode cX10_wrongOf 1 = .ok (.getfield 11, 3) := by decide +kernel
theorem dX10_wrongOf_11 : decode cX10_wrongOf 11 = .ok (.aload_n 0, 1) := by decide +kernel
theorem dX10_wrongOf_12 : decode cX10_wrongOf 12 = .ok (.getfield 43, 3) := by decide +kernel
theorem dX10_wrongOf_15 : decode cX10_wrongOf 15 = .ok (.aload_n 0, 1) := by decide +kernel
theorem dX10_wrongOf_16 : decode cX10_wrongOf 16 = .ok (.getfield 21, 3) := by decide +kernel
theorem dX10_wrongOf_19 : decode cX10_wrongOf 19 = .ok (.iload_n 1, 1) := by decide +kernel
theorem dX10_wrongOf_20 : decode cX10_wrongOf 20 = .ok (.iaload, 1) := by decide +kernel
theorem dX10_wrongOf_21 : decode cX10_wrongOf 21 = .ok (.aaload, 1) := by decide +kernel
theorem dX10_wrongOf_22 : decode cX10_wrongOf 22 = .ok (.iconst 5, 1) := by decide +kernel
theorem dX10_wrongOf_23 : decode cX10_wrongOf 23 = .ok (.iaload, 1) := by decide +kernel
theorem dX10_wrongOf_24 : decode cX10_wrongOf 24 = .ok (.goto 4, 3) := by decide +kernel
theorem dX10_wrongOf_27 : decode cX10_wrongOf 27 = .ok (.iconst 0, 1) := by decide +kernel
theorem dX10_wrongOf_28 : decode cX10_wrongOf 28 = .ok (.ireturn, 1) := by decide +kernel
theorem dX10_wrongOf_4 : decode cX10_wrongOf 4 = .ok (.iload_n 1, 1) := by decide +kernel
theorem dX10_wrongOf_5 : decode cX10_wrongOf 5 = .ok (.iaload, 1) := by decide +kernel
theorem dX10_wrongOf_6 : decode cX10_wrongOf 6 = .ok (.bipush 7, 2) := by decide +kernel
theorem dX10_wrongOf_8 : decode cX10_wrongOf 8 = .ok (.if_icmp .ne 19, 3) := by decide +kernel
noncomputable def f_X10_wrongOf (x1 : Int32) (s : t_S) : Option (Int32) :=
 if t_ix x1 6100 = true then
  if (s.1 354 (x1.toNatClampNeg)) = (7 : Int32) then (if t_ix (s.1 357 (x1.toNatClampNeg)) 60 = true then
  some (s.1 (364 + 1 * ((s.1 357 (x1.toNatClampNeg)).toNatClampNeg)) ((5 : Int32).toNatClampNeg))
else none)
 else (some (0 : Int32))
else none
set_option maxRecDepth 4000 in
set_option maxHeartbeats 1000000 in
theorem C_X10_wrongOf (x1 : Int32) (s : t_S) (r : Int32) (hr : f_X10_wrongOf x1 s = some r) : t_C yX10_wrongOf cX10_wrongOf 2 (some .int) 0 [.ref 353, .int x1] s (fun v s' => v = some (.int r) ∧ s' = s) := by
  refine t_C.imp (P := fun v s' => s' = s ∧ ∃ x, v = some (.int x) ∧ (fun q => q = r) (x)) (t_C.of (by decide +kernel) (Nat.le_of_ble_eq_true rfl) ?_) (fun v s' hp => by obtain ⟨rfl, x, rfl, rfl⟩ := hp; exact ⟨rfl, rfl⟩)
  intro D cy ad bs X
  have hk : t_hk (f_X10_wrongOf x1 s) (fun q => q = r) := ⟨r, hr, rfl⟩
  show mj_G D cy ad bs X cX10_wrongOf 2 yX10_wrongOf.cls (some .int) yX10_wrongOf.name 0 0 0 1065 (t_P (fun v s' => s' = s ∧ ∃ x, v = some (.int x) ∧ (fun q => q = r) (x))) 0 [(0, .ref 353), (1, .int x1)] [] (t_m s) 1065 0 0
  refine mj_aload_n dX10_wrongOf_0 0 rfl ?_
  refine t_getR 354 dX10_wrongOf_1 F_X10_11 qr_353_0 ?_
  refine mj_iload_n dX10_wrongOf_4 1 rfl ?_
  refine t_chkK hk (fun c0 hk => ?_)
  refine t_iald dX10_wrongOf_5 qa_354 (t_ixv c0) ?_
  refine mj_bipush (v := 7) dX10_wrongOf_6 (by decide) ?_
  refine mj_icmp_ne 27 dX10_wrongOf_8 (by decide) (fun z => t_negK hk z (fun hk => ?_)) (fun z => t_posK hk z (fun hk => ?_))
  · refine mj_iconst (v := 0) dX10_wrongOf_27 (by decide) ?_
    exact t_somK hk (fun hf => t_iret dX10_wrongOf_28 rfl rfl ⟨rfl, _, rfl, hf⟩ (Nat.le_of_ble_eq_true rfl) (Nat.le_of_ble_eq_true rfl))
  · refine mj_aload_n dX10_wrongOf_11 0 rfl ?_
    refine t_getR 363 dX10_wrongOf_12 F_X10_43 qr_353_10 ?_
    refine mj_aload_n dX10_wrongOf_15 0 rfl ?_
    refine t_getR 357 dX10_wrongOf_16 F_X10_21 qr_353_3 ?_
    refine mj_iload_n dX10_wrongOf_19 1 rfl ?_
    refine t_iald dX10_wrongOf_20 qa_357 (t_ixv c0) ?_
    refine t_chkK hk (fun c1 hk => ?_)
    refine t_aaldI dX10_wrongOf_21 qq_363 (t_ixv c1) ?_
    refine mj_iconst (v := 5) dX10_wrongOf_22 (by decide) ?_
    refine t_iald dX10_wrongOf_23 (t_row364 (t_ixn c1)) (by unfold vp_in; decide) ?_
    refine mj_goto 28 dX10_wrongOf_24 (by decide) ?_
    exact t_somK hk (fun hf => t_iret dX10_wrongOf_28 rfl rfl ⟨rfl, _, rfl, hf⟩ (Nat.le_of_ble_eq_true rfl) (Nat.le_of_ble_eq_true rfl))

