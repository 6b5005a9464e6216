/-! Methods as functions, 46: X13_about, X13_add, X13_addFar, X13_fail, X13_name, X13_freeName, X13_isOwn -/
theorem qa_1007 : t_oka 1007 2 8600 = true := by decide +kernel
theorem qa_951 : t_oka 951 1 12000 = true := by decide +kernel
theorem qa_952 : t_oka 952 1 8200 = true := by decide +kernel
theorem qa_953 : t_oka 953 1 8200 = true := by decide +kernel
theorem qa_954 : t_oka 954 1 24300 = true := by decide +kernel
theorem qa_970 : t_oka 970 1 8 = true := by decide +kernel
theorem qa_971 : t_oka 971 1 48 = true := by decide +kernel
theorem qa_972 : t_oka 972 1 8 = true := by decide +kernel
theorem qa_973 : t_oka 973 1 32 = true := by decide +kernel
theorem qa_974 : t_oka 974 1 8 = true := by decide +kernel
theorem qa_975 : t_oka 975 1 64 = true := by decide +kernel
theorem qa_979 : t_oka 979 1 8 = true := by decide +kernel
theorem qa_982 : t_oka 982 1 40 = true := by decide +kernel
theorem qa_984 : t_oka 984 1 320 = true := by decide +kernel
theorem qa_986 : t_oka 986 1 40 = true := by decide +kernel
theorem qf_950_10 : t_okf 950 13 10 0 = true := by decide +kernel
theorem qf_950_14 : t_okf 950 13 14 0 = true := by decide +kernel
theorem qf_950_15 : t_okf 950 13 15 0 = true := by decide +kernel
theorem qf_950_16 : t_okf 950 13 16 0 = true := by decide +kernel
theorem qf_950_176 : t_okf 950 13 176 0 = true := by decide +kernel
theorem qf_950_2 : t_okf 950 13 2 0 = true := by decide +kernel
theorem qf_950_3 : t_okf 950 13 3 0 = true := by decide +kernel
theorem qf_950_5 : t_okf 950 13 5 0 = true := by decide +kernel
theorem qf_950_55 : t_okf 950 13 55 0 = true := by decide +kernel
theorem qf_950_6 : t_okf 950 13 6 0 = true := by decide +kernel
theorem qf_950_7 : t_okf 950 13 7 0 = true := by decide +kernel
theorem qr_950_0 : t_okr 950 13 0 951 = true := by decide +kernel
theorem qr_950_11 : t_okr 950 13 11 952 = true := by decide +kernel
theorem qr_950_12 : t_okr 950 13 12 953 = true := by decide +kernel
theorem qr_950_13 : t_okr 950 13 13 954 = true := by decide +kernel
theorem qr_950_45 : t_okr 950 13 45 970 = true := by decide +kernel
theorem qr_950_46 : t_okr 950 13 46 971 = true := by decide +kernel
theorem qr_950_47 : t_okr 950 13 47 972 = true := by decide +kernel
theorem qr_950_48 : t_okr 950 13 48 973 = true := by decide +kernel
theorem qr_950_49 : t_okr 950 13 49 974 = true := by decide +kernel
theorem qr_950_50 : t_okr 950 13 50 975 = true := by decide +kernel
theorem qr_950_54 : t_okr 950 13 54 979 = true := by decide +kernel
theorem qr_950_58 : t_okr 950 13 58 982 = true := by decide +kernel
theorem qr_950_60 : t_okr 950 13 60 984 = true := by decide +kernel
theorem qr_950_62 : t_okr 950 13 62 986 = true := by decide +kernel
theorem qr_950_99 : t_okr 950 13 99 1007 = true := by decide +kernel
theorem dX13_about_0 : decode cX13_about 0 = .ok (.aload_n 0, 1) := by decide +kernel
theorem dX13_about_1 : decode cX13_about 1 = .ok (.iload_n 1, 1) := by decide +kernel
theorem dX13_about_10 : decode cX13_about 10 = .ok (.sipush 260, 3) := by decide +kernel
theorem dX13_about_100 : decode cX13_about 100 = .ok (.l2i, 1) := by decide +kernel
theorem dX13_about_101 : decode cX13_about 101 = .ok (.goto 4, 3) := by decide +kernel
theorem dX13_about_104 : decode cX13_about 104 = .ok (.iconst 0, 1) := by decide +kernel
theorem dX13_about_105 : decode cX13_about 105 = .ok (.ireturn, 1) := by decide +kernel
theorem dX13_about_106 : decode cX13_about 106 = .ok (.iload 4, 2) := by decide +kernel
theorem dX13_about_108 : decode cX13_about 108 = .ok (.ifCond .eq 15, 3) := by decide +kernel
theorem dX13_about_111 : decode cX13_about 111 = .ok (.iload 4, 2) := by decide +kernel
theorem dX13_about_113 : decode cX13_about 113 = .ok (.iconst 1, 1) := by decide +kernel
theorem dX13_about_114 : decode cX13_about 114 = .ok (.if_icmp .eq 9, 3) := by decide +kernel
theorem dX13_about_117 : decode cX13_about 117 = .ok (.iload 4, 2) := by decide +kernel
theorem dX13_about_119 : decode cX13_about 119 = .ok (.iconst 5, 1) := by decide +kernel
theorem dX13_about_120 : decode cX13_about 120 = .ok (.if_icmp .ne 7, 3) := by decide +kernel
theorem dX13_about_123 : decode cX13_about 123 = .ok (.iconst 1, 1) := by decide +kernel
theorem dX13_about_124 : decode cX13_about 124 = .ok (.goto 4, 3) := by decide +kernel
theorem dX13_about_127 : decode cX13_about 127 = .ok (.iconst 0, 1) := by decide +kernel
theorem dX13_about_128 : decode cX13_about 128 = .ok (.istore 5, 2) := by decide +kernel
theorem dX13_about_13 : decode cX13_about 13 = .ok (.iconst 0, 1) := by decide +kernel
theorem dX13_about_130 : decode cX13_about 130 = .ok (.iload 5, 2) := by decide +kernel
theorem dX13_about_132 : decode cX13_about 132 = .ok (.ifCond .ne 7, 3) := by decide +kernel
theorem dX13_about_135 : decode cX13_about 135 = .ok (.iconst 0, 1) := by decide +kernel
theorem dX13_about_136 : decode cX13_about 136 = .ok (.goto 54, 3) := by decide +kernel
theorem dX13_about_139 : decode cX13_about 139 = .ok (.aload_n 0, 1) := by decide +kernel
theorem dX13_about_14 : decode cX13_about 14 = .ok (.iload_n 1, 1) := by decide +kernel
theorem dX13_about_140 : decode cX13_about 140 = .ok (.getfield 182, 3) := by decide +kernel
theorem dX13_about_143 : decode cX13_about 143 = .ok (.iload_n 3, 1) := by decide +kernel
theorem dX13_about_144 : decode cX13_about 144 = .ok (.iconst 1, 1) := by decide +kernel
theorem dX13_about_145 : decode cX13_about 145 = .ok (.iadd, 1) := by decide +kernel
theorem dX13_about_146 : decode cX13_about 146 = .ok (.laload, 1) := by decide +kernel
theorem dX13_about_147 : decode cX13_about 147 = .ok (.ldc2_w 1005, 3) := by decide +kernel
theorem dX13_about_15 : decode cX13_about 15 = .ok (.iadd, 1) := by decide +kernel
theorem dX13_about_150 : decode cX13_about 150 = .ok (.lcmp, 1) := by decide +kernel
theorem dX13_about_151 : decode cX13_about 151 = .ok (.ifCond .le 9, 3) := by decide +kernel
theorem dX13_about_154 : decode cX13_about 154 = .ok (.ldc2_w 1005, 3) := by decide +kernel
theorem dX13_about_157 : decode cX13_about 157 = .ok (.goto 32, 3) := by decide +kernel
theorem dX13_about_16 : decode cX13_about 16 = .ok (.imul, 1) := by decide +kernel
theorem dX13_about_160 : decode cX13_about 160 = .ok (.aload_n 0, 1) := by decide +kernel
theorem dX13_about_161 : decode cX13_about 161 = .ok (.getfield 182, 3) := by decide +kernel
theorem dX13_about_164 : decode cX13_about 164 = .ok (.iload_n 3, 1) := by decide +kernel
theorem dX13_about_165 : decode cX13_about 165 = .ok (.iconst 1, 1) := by decide +kernel
theorem dX13_about_166 : decode cX13_about 166 = .ok (.iadd, 1) := by decide +kernel
theorem dX13_about_167 : decode cX13_about 167 = .ok (.laload, 1) := by decide +kernel
theorem dX13_about_168 : decode cX13_about 168 = .ok (.ldc2_w 1007, 3) := by decide +kernel
theorem dX13_about_17 : decode cX13_about 17 = .ok (.istore_n 3, 1) := by decide +kernel
theorem dX13_about_171 : decode cX13_about 171 = .ok (.lcmp, 1) := by decide +kernel
theorem dX13_about_172 : decode cX13_about 172 = .ok (.ifCond .ge 9, 3) := by decide +kernel
theorem dX13_about_175 : decode cX13_about 175 = .ok (.ldc2_w 1007, 3) := by decide +kernel
theorem dX13_about_178 : decode cX13_about 178 = .ok (.goto 11, 3) := by decide +kernel
theorem dX13_about_18 : decode cX13_about 18 = .ok (.aload_n 0, 1) := by decide +kernel
theorem dX13_about_181 : decode cX13_about 181 = .ok (.aload_n 0, 1) := by decide +kernel
theorem dX13_about_182 : decode cX13_about 182 = .ok (.getfield 182, 3) := by decide +kernel
theorem dX13_about_185 : decode cX13_about 185 = .ok (.iload_n 3, 1) := by decide +kernel
theorem dX13_about_186 : decode cX13_about 186 = .ok (.iconst 1, 1) := by decide +kernel
theorem dX13_about_187 : decode cX13_about 187 = .ok (.iadd, 1) := by decide +kernel
theorem dX13_about_188 : decode cX13_about 188 = .ok (.laload, 1) := by decide +kernel
theorem dX13_about_189 : decode cX13_about 189 = .ok (.l2i, 1) := by decide +kernel
theorem dX13_about_19 : decode cX13_about 19 = .ok (.getfield 182, 3) := by decide +kernel
theorem dX13_about_190 : decode cX13_about 190 = .ok (.ireturn, 1) := by decide +kernel
theorem dX13_about_191 : decode cX13_about 191 = .ok (.iconst (-1), 1) := by decide +kernel
theorem dX13_about_192 : decode cX13_about 192 = .ok (.ireturn, 1) := by decide +kernel
theorem dX13_about_2 : decode cX13_about 2 = .ok (.invokevirtual 1002, 3) := by decide +kernel
theorem dX13_about_22 : decode cX13_about 22 = .ok (.iload_n 3, 1) := by decide +kernel
theorem dX13_about_23 : decode cX13_about 23 = .ok (.laload, 1) := by decide +kernel
theorem dX13_about_24 : decode cX13_about 24 = .ok (.l2i, 1) := by decide +kernel
theorem dX13_about_25 : decode cX13_about 25 = .ok (.istore 4, 2) := by decide +kernel
theorem dX13_about_27 : decode cX13_about 27 = .ok (.iload_n 2, 1) := by decide +kernel
theorem dX13_about_28 : decode cX13_about 28 = .ok (.tableswitch 163 0 3 #[32, 35, 44, 78], 32) := by decide +kernel
theorem dX13_about_5 : decode cX13_about 5 = .ok (.ifCond .eq 5, 3) := by decide +kernel
theorem dX13_about_60 : decode cX13_about 60 = .ok (.iload 4, 2) := by decide +kernel
theorem dX13_about_62 : decode cX13_about 62 = .ok (.ireturn, 1) := by decide +kernel
theorem dX13_about_63 : decode cX13_about 63 = .ok (.aload_n 0, 1) := by decide +kernel
theorem dX13_about_64 : decode cX13_about 64 = .ok (.getfield 182, 3) := by decide +kernel
theorem dX13_about_67 : decode cX13_about 67 = .ok (.iload_n 3, 1) := by decide +kernel
theorem dX13_about_68 : decode cX13_about 68 = .ok (.invokestatic 875, 3) := by decide +kernel
theorem dX13_about_71 : decode cX13_about 71 = .ok (.ireturn, 1) := by decide +kernel
theorem dX13_about_72 : decode cX13_about 72 = .ok (.iload 4, 2) := by decide +kernel
theorem dX13_about_74 : decode cX13_about 74 = .ok (.iconst 2, 1) := by decide +kernel
theorem dX13_about_75 : decode cX13_about 75 = .ok (.if_icmp .eq 17, 3) := by decide +kernel
theorem dX13_about_78 : decode cX13_about 78 = .ok (.iload 4, 2) := by decide +kernel
theorem dX13_about_8 : decode cX13_about 8 = .ok (.iconst (-1), 1) := by decide +kernel
theorem dX13_about_80 : decode cX13_about 80 = .ok (.bipush 8, 2) := by decide +kernel
theorem dX13_about_82 : decode cX13_about 82 = .ok (.if_icmp .eq 10, 3) := by decide +kernel
theorem dX13_about_85 : decode cX13_about 85 = .ok (.iload 4, 2) := by decide +kernel
theorem dX13_about_87 : decode cX13_about 87 = .ok (.bipush 6, 2) := by decide +kernel
theorem dX13_about_89 : decode cX13_about 89 = .ok (.if_icmp .ne 15, 3) := by decide +kernel
theorem dX13_about_9 : decode cX13_about 9 = .ok (.ireturn, 1) := by decide +kernel
theorem dX13_about_92 : decode cX13_about 92 = .ok (.aload_n 0, 1) := by decide +kernel
theorem dX13_about_93 : decode cX13_about 93 = .ok (.getfield 182, 3) := by decide +kernel
theorem dX13_about_96 : decode cX13_about 96 = .ok (.iload_n 3, 1) := by decide +kernel
theorem dX13_about_97 : decode cX13_about 97 = .ok (.iconst 1, 1) := by decide +kernel
theorem dX13_about_98 : decode cX13_about 98 = .ok (.iadd, 1) := by decide +kernel
theorem dX13_about_99 : decode cX13_about 99 = .ok (.laload, 1) := by decide +kernel
noncomputable def k_X13_about_128 (l3 : Int32) (k0 : Int32) (s : t_S) : Option (Int32) :=
 if k0 = (0 : Int32) then (some (0 : Int32))
 else (if t_ix (l3 + (1 : Int32)) 626600 = true then
  if (lg_cmp (s.2.1 1006 ((l3 + (1 : Int32)).toNatClampNeg)) (2147483647 : Int64)) ≤ (0 : Int32) then (if (0 : Int32) ≤ (lg_cmp (s.2.1 1006 ((l3 + (1 : Int32)).toNatClampNeg)) (-2147483648 : Int64)) then (some ((s.2.1 1006 ((l3 + (1 : Int32)).toNatClampNeg)).toInt32))
 else (some ((-2147483648 : Int64).toInt32)))
 else (some ((2147483647 : Int64).toInt32))
else none)
set_option maxRecDepth 4000 in
set_option maxHeartbeats 1000000 in
theorem B_X13_about_128 {D : va_G} {cy : Nat → ClassId} {ad : Nat → Nat} {bs : Nat} {X : State → Heap → Prop} (l3 : Int32) (k0 : Int32) (s : t_S) (Q : Int32 → Prop) (hk : t_hk (k_X13_about_128 l3 k0 s) Q) : mj_G D cy ad bs X cX13_about 6 yX13_about.cls (some .int) yX13_about.name 2 0 0 1065 (t_P (fun v s' => s' = s ∧ ∃ x, v = some (.int x) ∧ Q (x))) 128 [(0, .ref 950), (3, .int l3)] [.int k0] (t_m s) 1065 0 0 := by
  refine mj_istore (lv2 := [(5, .int k0), (0, .ref 950), (3, .int l3)]) dX13_about_128 (by decide) rfl ?_
  refine mj_iload dX13_about_130 0 rfl ?_
  refine mj_if_ne 139 dX13_about_132 (by decide) (fun z => t_negK hk z (fun hk => ?_)) (fun z => t_posK hk z (fun hk => ?_))
  · refine mj_aload_n dX13_about_139 1 rfl ?_
    refine t_getR 1006 dX13_about_140 F_X13_182 qr_950_95 ?_
    refine mj_iload_n dX13_about_143 2 rfl ?_
    refine mj_iconst (v := 1) dX13_about_144 (by decide) ?_
    refine mj_iadd dX13_about_145 ?_
    refine t_chkK hk (fun c0 hk => ?_)
    refine t_lald dX13_about_146 qa_1006 (t_ixv c0) ?_
    refine mj_ldc2 dX13_about_147 K_X13_1005 ?_
    refine mj_lcmp dX13_about_150 ?_
    refine mj_if_le 160 dX13_about_151 (by decide) (fun z => t_posK hk z (fun hk => ?_)) (fun z => t_negK hk z (fun hk => ?_))
    · refine mj_aload_n dX13_about_160 1 rfl ?_
      refine t_getR 1006 dX13_about_161 F_X13_182 qr_950_95 ?_
      refine mj_iload_n dX13_about_164 2 rfl ?_
      refine mj_iconst (v := 1) dX13_about_165 (by decide) ?_
      refine mj_iadd dX13_about_166 ?_
      refine t_lald dX13_about_167 qa_1006 (t_ixv c0) ?_
      refine mj_ldc2 dX13_about_168 K_X13_1007 ?_
      refine mj_lcmp dX13_about_171 ?_
      refine mj_if_ge 181 dX13_about_172 (by decide) (fun z => t_posK hk z (fun hk => ?_)) (fun z => t_negK hk z (fun hk => ?_))
      · refine mj_aload_n dX13_about_181 1 rfl ?_
        refine t_getR 1006 dX13_about_182 F_X13_182 qr_950_95 ?_
        refine mj_iload_n dX13_about_185 2 rfl ?_
        refine mj_iconst (v := 1) dX13_about_186 (by decide) ?_
        refine mj_iadd dX13_about_187 ?_
        refine t_lald dX13_about_188 qa_1006 (t_ixv c0) ?_
        refine mj_l2i (v := (s.2.1 1006 ((l3 + (1 : Int32)).toNatClampNeg)).toInt32) dX13_about_189 rfl ?_
        exact t_somK hk (fun hf => t_iret dX13_about_190 rfl rfl ⟨rfl, _, rfl, hf⟩ (Nat.le_of_ble_eq_true rfl) (Nat.le_of_ble_eq_true rfl))
      · refine mj_ldc2 dX13_about_175 K_X13_1007 ?_
        refine mj_goto 189 dX13_about_178 (by decide) ?_
        refine mj_l2i (v := (-2147483648 : Int64).toInt32) dX13_about_189 rfl ?_
        exact t_somK hk (fun hf => t_iret dX13_about_190 rfl rfl ⟨rfl, _, rfl, hf⟩ (Nat.le_of_ble_eq_true rfl) (Nat.le_of_ble_eq_true rfl))
    · refine mj_ldc2 dX13_about_154 K_X13_1005 ?_
      refine mj_goto 189 dX13_about_157 (by decide) ?_
      refine mj_l2i (v := (2147483647 : Int64).toInt32) dX13_about_189 rfl ?_
      exact t_somK hk (fun hf => t_iret dX13_about_190 rfl rfl ⟨rfl, _, rfl, hf⟩ (Nat.le_of_ble_eq_true rfl) (Nat.le_of_ble_eq_true rfl))
  · refine mj_iconst (v := 0) dX13_about_135 (by decide) ?_
    refine mj_goto 190 dX13_about_136 (by decide) ?_
    exact t_somK hk (fun hf => t_iret dX13_about_190 rfl rfl ⟨rfl, _, rfl, hf⟩ (Nat.le_of_ble_eq_true rfl) (Nat.le_of_ble_eq_true rfl))
noncomputable def k_X13_about_123 (l3 : Int32) (s : t_S) : Option (Int32) :=
 k_X13_about_128 l3 1 s
set_option maxRecDepth 4000 in
set_option maxHeartbeats 1000000 in
theorem B_X13_about_123 {D : va_G} {cy : Nat → ClassId} {ad : Nat → Nat} {bs : Nat} {X : State → Heap → Prop} (l3 : Int32) (s : t_S) (Q : Int32 → Prop) (hk : t_hk (k_X13_about_123 l3 s) Q) : mj_G D cy ad bs X cX13_about 6 yX13_about.cls (some .int) yX13_about.name 2 0 0 1065 (t_P (fun v s' => s' = s ∧ ∃ x, v = some (.int x) ∧ Q (x))) 123 [(0, .ref 950), (3, .int l3)] [] (t_m s) 1065 0 0 := by
  refine mj_iconst (v := 1) dX13_about_123 (by decide) ?_
  refine mj_goto 128 dX13_about_124 (by decide) ?_
  exact B_X13_about_128 _ _ _ _ hk
noncomputable def k_X13_about_92 (l3 : Int32) (s : t_S) : Option (Int32) :=
 if t_ix (l3 + (1 : Int32)) 626600 = true then
  some ((s.2.1 1006 ((l3 + (1 : Int32)).toNatClampNeg)).toInt32)
else none
set_option maxRecDepth 4000 in
set_option maxHeartbeats 1000000 in
theorem B_X13_about_92 {D : va_G} {cy : Nat → ClassId} {ad : Nat → Nat} {bs : Nat} {X : State → Heap → Prop} (l3 : Int32) (s : t_S) (Q : Int32 → Prop) (hk : t_hk (k_X13_about_92 l3 s) Q) : mj_G D cy ad bs X cX13_about 6 yX13_about.cls (some .int) yX13_about.name 2 0 0 1065 (t_P (fun v s' => s' = s ∧ ∃ x, v = some (.int x) ∧ Q (x))) 92 [(0, .ref 950), (3, .int l3)] [] (t_m s) 1065 0 0 := by
  refine mj_aload_n dX13_about_92 0 rfl ?_
  refine t_getR 1006 dX13_about_93 F_X13_182 qr_950_95 ?_
  refine mj_iload_n dX13_about_96 1 rfl ?_
  refine mj_iconst (v := 1) dX13_about_97 (by decide) ?_
  refine mj_iadd dX13_about_98 ?_
  refine t_chkK hk (fun c0 hk => ?_)
  refine t_lald dX13_about_99 qa_1006 (t_ixv c0) ?_
  refine mj_l2i (v := (s.2.1 1006 ((l3 + (1 : Int32)).toNatClampNeg)).toInt32) dX13_about_100 rfl ?_
  refine mj_goto 105 dX13_about_101 (by decide) ?_
  exact t_somK hk (fun hf => t_iret dX13_about_105 rfl rfl ⟨rfl, _, rfl, hf⟩ (Nat.le_of_ble_eq_true rfl) (Nat.le_of_ble_eq_true rfl))
noncomputable def f_X13_about (x1 : Int32) (x2 : Int32) (s : t_S) : Option (Int32) :=
 if (f_X13_noValue x1 s) = (0 : Int32) then (if t_ix ((260 : Int32) * ((0 : Int32) + x1)) 626600 = true then
  if x2.toInt < 0 ∨ 3 < x2.toInt then (some (-1 : Int32))
 else if x2.toInt = 0 then (some ((s.2.1 1006 (((260 : Int32) * ((0 : Int32) + x1)).toNatClampNeg)).toInt32))
 else if x2.toInt = 1 then ((f_X13_weightOf 1006 ((260 : Int32) * ((0 : Int32) + x1)) s).bind (fun r3 =>
 some (r3)))
 else if x2.toInt = 2 then (if ((s.2.1 1006 (((260 : Int32) * ((0 : Int32) + x1)).toNatClampNeg)).toInt32) = (2 : Int32) then (k_X13_about_92 ((260 : Int32) * ((0 : Int32) + x1)) s)
 else (if ((s.2.1 1006 (((260 : Int32) * ((0 : Int32) + x1)).toNatClampNeg)).toInt32) = (8 : Int32) then (k_X13_about_92 ((260 : Int32) * ((0 : Int32) + x1)) s)
 else (if ((s.2.1 1006 (((260 : Int32) * ((0 : Int32) + x1)).toNatClampNeg)).toInt32) = (6 : Int32) then (k_X13_about_92 ((260 : Int32) * ((0 : Int32) + x1)) s)
 else (some (0 : Int32)))))
 else (if ((s.2.1 1006 (((260 : Int32) * ((0 : Int32) + x1)).toNatClampNeg)).toInt32) = (0 : Int32) then (k_X13_about_123 ((260 : Int32) * ((0 : Int32) + x1)) s)
 else (if ((s.2.1 1006 (((260 : Int32) * ((0 : Int32) + x1)).toNatClampNeg)).toInt32) = (1 : Int32) then (k_X13_about_123 ((260 : Int32) * ((0 : Int32) + x1)) s)
 else (if ((s.2.1 1006 (((260 : Int32) * ((0 : Int32) + x1)).toNatClampNeg)).toInt32) = (5 : Int32) then (k_X13_about_123 ((260 : Int32) * ((0 : Int32) + x1)) s)
 else (k_X13_about_128 ((260 : Int32) * ((0 : Int32) + x1)) 0 s))))
else none)
 else (some (-1 : Int32))
set_option maxRecDepth 4000 in
set_option maxHeartbeats 1000000 in
theorem C_X13_about (x1 : Int32) (x2 : Int32) (s : t_S) (r : Int32) (hr : f_X13_about x1 x2 s = some r) : t_C yX13_about cX13_about 6 (some .int) 2 [.ref 950, .int x1, .int x2] s (fun v s' => v = some (.int r) ∧ s' = s) := by
  refine t_C.imp (P := fun v s' => s' = s ∧ ∃ x, v = some (.int x) ∧ (fun q => q = r) (x)) (t_C.of (by decide +kernel) (Nat.le_of_ble_eq_true rfl) ?_) (fun v s' hp => by obtain ⟨rfl, x, rfl, rfl⟩ := hp; exact ⟨rfl, rfl⟩)
  intro D cy ad bs X
  have hk : t_hk (f_X13_about x1 x2 s) (fun q => q = r) := ⟨r, hr, rfl⟩
  show mj_G D cy ad bs X cX13_about 6 yX13_about.cls (some .int) yX13_about.name 2 0 0 1065 (t_P (fun v s' => s' = s ∧ ∃ x, v = some (.int x) ∧ (fun q => q = r) (x))) 0 [(0, .ref 950), (1, .int x1), (2, .int x2)] [] (t_m s) 1065 0 0
  refine mj_aload_n dX13_about_0 0 rfl ?_
  refine mj_iload_n dX13_about_1 1 rfl ?_
  refine t_callViP dX13_about_2 M_X13_noValue (C_X13_noValue _ _) ML_X13_1002 IM_X13_noValue SE_X13_noValue qc_950 rfl (As := [.int x1]) rfl rfl (Nat.le_of_ble_eq_true rfl) (Nat.le_of_ble_eq_true rfl) (Nat.le_of_ble_eq_true rfl) (Nat.le_of_ble_eq_true rfl) ?_
  refine mj_if_eq 10 dX13_about_5 (by decide) (fun z => t_posK hk z (fun hk => ?_)) (fun z => t_negK hk z (fun hk => ?_))
  · refine mj_sipush (v := 260) dX13_about_10 (by decide) ?_
    refine mj_iconst (v := 0) dX13_about_13 (by decide) ?_
    refine mj_iload_n dX13_about_14 1 rfl ?_
    refine mj_iadd dX13_about_15 ?_
    refine mj_imul dX13_about_16 ?_
    refine mj_istore_n 3 (lv2 := [(3, .int ((260 : Int32) * ((0 : Int32) + x1))), (0, .ref 950), (1, .int x1), (2, .int x2)]) dX13_about_17 rfl (by decide) rfl ?_
    refine mj_aload_n dX13_about_18 1 rfl ?_
    refine t_getR 1006 dX13_about_19 F_X13_182 qr_950_95 ?_
    refine mj_iload_n dX13_about_22 0 rfl ?_
    refine t_chkK hk (fun c1 hk => ?_)
    refine t_lald dX13_about_23 qa_1006 (t_ixv c1) ?_
    refine mj_l2i (v := (s.2.1 1006 (((260 : Int32) * ((0 : Int32) + x1)).toNatClampNeg)).toInt32) dX13_about_24 rfl ?_
    refine mj_istore (lv2 := [(4, .int ((s.2.1 1006 (((260 : Int32) * ((0 : Int32) + x1)).toNatClampNeg)).toInt32)), (3, .int ((260 : Int32) * ((0 : Int32) + x1))), (0, .ref 950), (1, .int x1), (2, .int x2)]) dX13_about_25 (by decide) rfl ?_
    refine mj_iload_n dX13_about_27 4 rfl ?_
    by_cases hout : x2.toInt < 0 ∨ 3 < x2.toInt
    · replace hk := t_pos hk hout
      refine mj_tableOut 191 dX13_about_28 hout (by decide) ?_
      refine mj_iconst (v := (-1)) dX13_about_191 (by decide) ?_
      exact t_somK hk (fun hf => t_iret dX13_about_192 rfl rfl ⟨rfl, _, rfl, hf⟩ (Nat.le_of_ble_eq_true rfl) (Nat.le_of_ble_eq_true rfl))
    · replace hk := t_neg hk hout
      have hh1 : ¬ x2.toInt < 0 := fun z => hout (Or.inl z)
      have hh2 : ¬ (3 : Int) < x2.toInt := fun z => hout (Or.inr z)
      by_cases h0 : x2.toInt = 0
      · replace hk := t_pos hk h0
        refine mj_tableIn 60 dX13_about_28 hh1 hh2 (by rw [h0]; rfl) (by decide) ?_
        refine mj_iload dX13_about_60 0 rfl ?_
        exact t_somK hk (fun hf => t_iret dX13_about_62 rfl rfl ⟨rfl, _, rfl, hf⟩ (Nat.le_of_ble_eq_true rfl) (Nat.le_of_ble_eq_true rfl))
      replace hk := t_neg hk h0
      by_cases h1 : x2.toInt = 1
      · replace hk := t_pos hk h1
        refine mj_tableIn 63 dX13_about_28 hh1 hh2 (by rw [h1]; rfl) (by decide) ?_
        refine mj_aload_n dX13_about_63 2 rfl ?_
        refine t_getR 1006 dX13_about_64 F_X13_182 qr_950_95 ?_
        refine mj_iload_n dX13_about_67 1 rfl ?_
        refine t_bndK hk (fun r3 er3 hk => ?_)
        refine t_callSiP dX13_about_68 M_X13_weightOf (C_X13_weightOf _ _ _ _ er3) ML_X13_875 SM_X13_weightOf (As := [.ref 1006, .int ((260 : Int32) * ((0 : Int32) + x1))]) rfl rfl (Nat.le_of_ble_eq_true rfl) (Nat.le_of_ble_eq_true rfl) (Nat.le_of_ble_eq_true rfl) (Nat.le_of_ble_eq_true rfl) ?_
        exact t_somK hk (fun hf => t_iret dX13_about_71 rfl rfl ⟨rfl, _, rfl, hf⟩ (Nat.le_of_ble_eq_true rfl) (Nat.le_of_ble_eq_true rfl))
      replace hk := t_neg hk h1
      by_cases h2 : x2.toInt = 2
      · replace hk := t_pos hk h2
        refine mj_tableIn 72 dX13_about_28 hh1 hh2 (by rw [h2]; rfl) (by decide) ?_
        refine mj_iload dX13_about_72 0 rfl ?_
        refine mj_iconst (v := 2) dX13_about_74 (by decide) ?_
        refine mj_icmp_eq 92 dX13_about_75 (by decide) (fun z => t_posK hk z (fun hk => ?_)) (fun z => t_negK hk z (fun hk => ?_))
        · refine mj_sublv [(0, .ref 950), (3, .int ((260 : Int32) * ((0 : Int32) + x1)))] [2, 1] rfl ?_
          exact B_X13_about_92 _ _ _ hk
        · refine mj_iload dX13_about_78 0 rfl ?_
          refine mj_bipush (v := 8) dX13_about_80 (by decide) ?_
          refine mj_icmp_eq 92 dX13_about_82 (by decide) (fun z => t_posK hk z (fun hk => ?_)) (fun z => t_negK hk z (fun hk => ?_))
          · refine mj_sublv [(0, .ref 950), (3, .int ((260 : Int32) * ((0 : Int32) + x1)))] [2, 1] rfl ?_
            exact B_X13_about_92 _ _ _ hk
          · refine mj_iload dX13_about_85 0 rfl ?_
            refine mj_bipush (v := 6) dX13_about_87 (by decide) ?_
            refine mj_icmp_ne 104 dX13_about_89 (by decide) (fun z => t_negK hk z (fun hk => ?_)) (fun z => t_posK hk z (fun hk => ?_))
            · refine mj_iconst (v := 0) dX13_about_104 (by decide) ?_
              exact t_somK hk (fun hf => t_iret dX13_about_105 rfl rfl ⟨rfl, _, rfl, hf⟩ (Nat.le_of_ble_eq_true rfl) (Nat.le_of_ble_eq_true rfl))
            · refine mj_sublv [(0, .ref 950), (3, .int ((260 : Int32) * ((0 : Int32) + x1)))] [2, 1] rfl ?_
              exact B_X13_about_92 _ _ _ hk
      replace hk := t_neg hk h2
      have h3 : x2.toInt = 3 := by omega
      refine mj_tableIn 106 dX13_about_28 hh1 hh2 (by rw [h3]; rfl) (by decide) ?_
      refine mj_iload dX13_about_106 0 rfl ?_
      refine mj_if_eq 123 dX13_about_108 (by decide) (fun z => t_posK hk z (fun hk => ?_)) (fun z => t_negK hk z (fun hk => ?_))
      · refine mj_sublv [(0, .ref 950), (3, .int ((260 : Int32) * ((0 : Int32) + x1)))] [2, 1] rfl ?_
        exact B_X13_about_123 _ _ _ hk
      · refine mj_iload dX13_about_111 0 rfl ?_
        refine mj_iconst (v := 1) dX13_about_113 (by decide) ?_
        refine mj_icmp_eq 123 dX13_about_114 (by decide) (fun z => t_posK hk z (fun hk => ?_)) (fun z => t_negK hk z (fun hk => ?_))
        · refine mj_sublv [(0, .ref 950), (3, .int ((260 : Int32) * ((0 : Int32) + x1)))] [2, 1] rfl ?_
          exact B_X13_about_123 _ _ _ hk
        · refine mj_iload dX13_about_117 0 rfl ?_
          refine mj_iconst (v := 5) dX13_about_119 (by decide) ?_
          refine mj_icmp_ne 127 dX13_about_120 (by decide) (fun z => t_negK hk z (fun hk => ?_)) (fun z => t_posK hk z (fun hk => ?_))
          · refine mj_iconst (v := 0) dX13_about_127 (by decide) ?_
            refine mj_sublv [(0, .ref 950), (3, .int ((260 : Int32) * ((0 : Int32) + x1)))] [2, 1] rfl ?_
            exact B_X13_about_128 _ _ _ _ hk
          · refine mj_sublv [(0, .ref 950), (3, .int ((260 : Int32) * ((0 : Int32) + x1)))] [2, 1] rfl ?_
            exact B_X13_about_123 _ _ _ hk
  · refine mj_iconst (v := (-1)) dX13_about_8 (by decide) ?_
    exact t_somK hk (fun hf => t_iret dX13_about_9 rfl rfl ⟨rfl, _, rfl, hf⟩ (Nat.le_of_ble_eq_true rfl) (Nat.le_of_ble_eq_true rfl))

theorem dX13_add_0 : decode cX13_add 0 = .ok (.aload_n 0, 1) := by decide +kernel
theorem dX13_add_1 : decode cX13_add 1 = .ok (.getfield 1412, 3) := by decide +kernel
theorem dX13_add_10 : decode cX13_add 10 = .ok (.aload_n 0, 1) := by decide +kernel
theorem dX13_add_11 : decode cX13_add 11 = .ok (.getfield 185, 3) := by decide +kernel
theorem dX13_add_14 : decode cX13_add 14 = .ok (.aload_n 0, 1) := by decide +kernel
theorem dX13_add_15 : decode cX13_add 15 = .ok (.getfield 1412, 3) := by decide +kernel
theorem dX13_add_18 : decode cX13_add 18 = .ok (.lload_n 1, 1) := by decide +kernel
theorem dX13_add_19 : decode cX13_add 19 = .ok (.lastore, 1) := by decide +kernel
theorem dX13_add_20 : decode cX13_add 20 = .ok (.aload_n 0, 1) := by decide +kernel
theorem dX13_add_21 : decode cX13_add 21 = .ok (.dup, 1) := by decide +kernel
theorem dX13_add_22 : decode cX13_add 22 = .ok (.getfield 1412, 3) := by decide +kernel
theorem dX13_add_25 : decode cX13_add 25 = .ok (.iconst 1, 1) := by decide +kernel
theorem dX13_add_26 : decode cX13_add 26 = .ok (.iadd, 1) := by decide +kernel
theorem dX13_add_27 : decode cX13_add 27 = .ok (.putfield 1412, 3) := by decide +kernel
theorem dX13_add_30 : decode cX13_add 30 = .ok (.return_, 1) := by decide +kernel
theorem dX13_add_4 : decode cX13_add 4 = .ok (.sipush 8500, 3) := by decide +kernel
theorem dX13_add_7 : decode cX13_add 7 = .ok (.if_icmp .ge 23, 3) := by decide +kernel
noncomputable def f_X13_add (x1 : Int64) (s : t_S) : Option (t_S) :=
 if (8500 : Int32) ≤ (s.1 950 176) then (some (s))
 else (if t_ix (s.1 950 176) 8600 = true then
  t_let (t_setJ s 1007 ((s.1 950 176).toNatClampNeg) x1) (fun s1 =>
 t_let (t_setI s1 950 176 ((s1.1 950 176) + (1 : Int32))) (fun s2 =>
 some (s2)))
else none)
set_option maxRecDepth 4000 in
set_option maxHeartbeats 1000000 in
theorem C_X13_add (x1 : Int64) (s : t_S) (r : t_S) (hr : f_X13_add x1 s = some r) : t_C yX13_add cX13_add 3 none 0 [.ref 950, .long x1] s (fun v s' => v = none ∧ s' = r) := by
  refine t_C.imp (P := fun v s' => v = none ∧ (fun q => q = r) (s')) (t_C.of (by decide +kernel) (Nat.le_of_ble_eq_true rfl) ?_) (fun v s' hp => hp)
  intro D cy ad bs X
  have hk : t_hk (f_X13_add x1 s) (fun q => q = r) := ⟨r, hr, rfl⟩
  show mj_G D cy ad bs X cX13_add 3 yX13_add.cls none yX13_add.name 0 0 0 1065 (t_P (fun v s' => v = none ∧ (fun q => q = r) (s'))) 0 [(0, .ref 950), (1, .long x1)] [] (t_m s) 1065 0 0
  refine mj_aload_n dX13_add_0 0 rfl ?_
  refine t_getI dX13_add_1 F_X13_1412 qf_950_176 ?_
  refine mj_sipush (v := 8500) dX13_add_4 (by decide) ?_
  refine mj_icmp_ge 30 dX13_add_7 (by decide) (fun z => t_posK hk z (fun hk => ?_)) (fun z => t_negK hk z (fun hk => ?_))
  · exact t_somK hk (fun hf => t_vret dX13_add_30 rfl ⟨rfl, hf⟩ (Nat.le_of_ble_eq_true rfl) (Nat.le_of_ble_eq_true rfl))
  · refine mj_aload_n dX13_add_10 0 rfl ?_
    refine t_getR 1007 dX13_add_11 F_X13_185 qr_950_99 ?_
    refine mj_aload_n dX13_add_14 0 rfl ?_
    refine t_getI dX13_add_15 F_X13_1412 qf_950_176 ?_
    refine mj_lload_n dX13_add_18 1 rfl ?_
    refine t_chkK hk (fun c0 hk => ?_)
    refine t_lastK dX13_add_19 qa_1007 (t_ixv c0) (fun s1 ws1 => t_letE hk ws1 (fun hk => ?_))
    refine mj_aload_n dX13_add_20 0 rfl ?_
    refine mj_dup dX13_add_21 rfl ?_
    refine t_getI dX13_add_22 F_X13_1412 qf_950_176 ?_
    refine mj_iconst (v := 1) dX13_add_25 (by decide) ?_
    refine mj_iadd dX13_add_26 ?_
    refine t_putIK dX13_add_27 F_X13_1412 qf_950_176 rfl (fun s2 ws2 => t_letE hk ws2 (fun hk => ?_))
    exact t_somK hk (fun hf => t_vret dX13_add_30 rfl ⟨rfl, hf⟩ (Nat.le_of_ble_eq_true rfl) (Nat.le_of_ble_eq_true rfl))

theorem dX13_addFar_0 : decode cX13_addFar 0 = .ok (.lload_n 1, 1) := by decide +kernel
theorem dX13_addFar_1 : decode cX13_addFar 1 = .ok (.ldc2_w 1054, 3) := by decide +kernel
theorem dX13_addFar_10 : decode cX13_addFar 10 = .ok (.ldc2_w 1054, 3) := by decide +kernel
theorem dX13_addFar_13 : decode cX13_addFar 13 = .ok (.goto 6, 3) := by decide +kernel
theorem dX13_addFar_16 : decode cX13_addFar 16 = .ok (.lload_n 1, 1) := by decide +kernel
theorem dX13_addFar_17 : decode cX13_addFar 17 = .ok (.lload_n 3, 1) := by decide +kernel
theorem dX13_addFar_18 : decode cX13_addFar 18 = .ok (.ladd, 1) := by decide +kernel
theorem dX13_addFar_19 : decode cX13_addFar 19 = .ok (.lreturn, 1) := by decide +kernel
theorem dX13_addFar_4 : decode cX13_addFar 4 = .ok (.lload_n 3, 1) := by decide +kernel
theorem dX13_addFar_5 : decode cX13_addFar 5 = .ok (.lsub, 1) := by decide +kernel
theorem dX13_addFar_6 : decode cX13_addFar 6 = .ok (.lcmp, 1) := by decide +kernel
theorem dX13_addFar_7 : decode cX13_addFar 7 = .ok (.ifCond .lt 9, 3) := by decide +kernel
noncomputable def f_X13_addFar (x1 : Int64) (x2 : Int64) (s : t_S) : Int64 :=
 if (lg_cmp x1 ((4000000000000000000 : Int64) - x2)) < (0 : Int32) then ((x1 + x2))
 else ((4000000000000000000 : Int64))
set_option maxRecDepth 4000 in
set_option maxHeartbeats 1000000 in
theorem C_X13_addFar (x1 : Int64) (x2 : Int64) (s : t_S) : t_C yX13_addFar cX13_addFar 5 (some .long) 0 [.ref 950, .long x1, .long x2] s (fun v s' => v = some (.long (f_X13_addFar x1 x2 s)) ∧ s' = s) := by
  refine t_C.imp (P := fun v s' => s' = s ∧ ∃ x, v = some (.long x) ∧ (fun r => r = f_X13_addFar x1 x2 s) (x)) (t_C.of (by decide +kernel) (Nat.le_of_ble_eq_true rfl) ?_) (fun v s' hp => by obtain ⟨rfl, x, rfl, rfl⟩ := hp; exact ⟨rfl, rfl⟩)
  intro D cy ad bs X
  have hk : t_ht (f_X13_addFar x1 x2 s) (fun r => r = f_X13_addFar x1 x2 s) := rfl
  show mj_G D cy ad bs X cX13_addFar 5 yX13_addFar.cls (some .long) yX13_addFar.name 0 0 0 1065 (t_P (fun v s' => s' = s ∧ ∃ x, v = some (.long x) ∧ (fun r => r = f_X13_addFar x1 x2 s) (x))) 0 [(0, .ref 950), (1, .long x1), (3, .long x2)] [] (t_m s) 1065 0 0
  refine mj_lload_n dX13_addFar_0 1 rfl ?_
  refine mj_ldc2 dX13_addFar_1 K_X13_1054 ?_
  refine mj_lload_n dX13_addFar_4 2 rfl ?_
  refine mj_lsub dX13_addFar_5 ?_
  refine mj_lcmp dX13_addFar_6 ?_
  refine mj_if_lt 16 dX13_addFar_7 (by decide) (fun z => t_posTK hk z (fun hk => ?_)) (fun z => t_negTK hk z (fun hk => ?_))
  · refine mj_lload_n dX13_addFar_16 1 rfl ?_
    refine mj_lload_n dX13_addFar_17 2 rfl ?_
    refine mj_ladd dX13_addFar_18 ?_
    exact t_lret dX13_addFar_19 rfl ⟨rfl, _, rfl, hk⟩ (Nat.le_of_ble_eq_true rfl) (Nat.le_of_ble_eq_true rfl)
  · refine mj_ldc2 dX13_addFar_10 K_X13_1054 ?_
    refine mj_goto 19 dX13_addFar_13 (by decide) ?_
    exact t_lret dX13_addFar_19 rfl ⟨rfl, _, rfl, hk⟩ (Nat.le_of_ble_eq_true rfl) (Nat.le_of_ble_eq_true rfl)

theorem dX13_fail_0 : decode cX13_fail 0 = .ok (.aload_n 0, 1) := by decide +kernel
theorem dX13_fail_1 : decode cX13_fail 1 = .ok (.getfield 375, 3) := by decide +kernel
theorem dX13_fail_12 : decode cX13_fail 12 = .ok (.aload_n 0, 1) := by decide +kernel
theorem dX13_fail_13 : decode cX13_fail 13 = .ok (.iload_n 2, 1) := by decide +kernel
theorem dX13_fail_14 : decode cX13_fail 14 = .ok (.putfield 13, 3) := by decide +kernel
theorem dX13_fail_17 : decode cX13_fail 17 = .ok (.return_, 1) := by decide +kernel
theorem dX13_fail_4 : decode cX13_fail 4 = .ok (.ifCond .ne 13, 3) := by decide +kernel
theorem dX13_fail_7 : decode cX13_fail 7 = .ok (.aload_n 0, 1) := by decide +kernel
theorem dX13_fail_8 : decode cX13_fail 8 = .ok (.iload_n 1, 1) := by decide +kernel
theorem dX13_fail_9 : decode cX13_fail 9 = .ok (.putfield 375, 3) := by decide +kernel
noncomputable def f_X13_fail (x1 : Int32) (x2 : Int32) (s : t_S) : Option (t_S) :=
 if (s.1 950 2) = (0 : Int32) then (t_let (t_setI s 950 2 x1) (fun s1 =>
 t_let (t_setI s1 950 3 x2) (fun s2 =>
 some (s2))))
 else (some (s))
set_option maxRecDepth 4000 in
set_option maxHeartbeats 1000000 in
theorem C_X13_fail (x1 : Int32) (x2 : Int32) (s : t_S) (r : t_S) (hr : f_X13_fail x1 x2 s = some r) : t_C yX13_fail cX13_fail 3 none 0 [.ref 950, .int x1, .int x2] s (fun v s' => v = none ∧ s' = r) := by
  refine t_C.imp (P := fun v s' => v = none ∧ (fun q => q = r) (s')) (t_C.of (by decide +kernel) (Nat.le_of_ble_eq_true rfl) ?_) (fun v s' hp => hp)
  intro D cy ad bs X
  have hk : t_hk (f_X13_fail x1 x2 s) (fun q => q = r) := ⟨r, hr, rfl⟩
  show mj_G D cy ad bs X cX13_fail 3 yX13_fail.cls none yX13_fail.name 0 0 0 1065 (t_P (fun v s' => v = none ∧ (fun q => q = r) (s'))) 0 [(0, .ref 950), (1, .int x1), (2, .int x2)] [] (t_m s) 1065 0 0
  refine mj_aload_n dX13_fail_0 0 rfl ?_
  refine t_getI dX13_fail_1 F_X13_375 qf_950_2 ?_
  refine mj_if_ne 17 dX13_fail_4 (by decide) (fun z => t_negK hk z (fun hk => ?_)) (fun z => t_posK hk z (fun hk => ?_))
  · exact t_somK hk (fun hf => t_vret dX13_fail_17 rfl ⟨rfl, hf⟩ (Nat.le_of_ble_eq_true rfl) (Nat.le_of_ble_eq_true rfl))
  · refine mj_aload_n dX13_fail_7 0 rfl ?_
    refine mj_iload_n dX13_fail_8 1 rfl ?_
    refine t_putIK dX13_fail_9 F_X13_375 qf_950_2 rfl (fun s1 ws1 => t_letE hk ws1 (fun hk => ?_))
    refine mj_aload_n dX13_fail_12 0 rfl ?_
    refine mj_iload_n dX13_fail_13 2 rfl ?_
    refine t_putIK dX13_fail_14 F_X13_13 qf_950_3 rfl (fun s2 ws2 => t_letE hk ws2 (fun hk => ?_))
    exact t_somK hk (fun hf => t_vret dX13_fail_17 rfl ⟨rfl, hf⟩ (Nat.le_of_ble_eq_true rfl) (Nat.le_of_ble_eq_true rfl))

theorem dX13_name_0 : decode cX13_name 0 = .ok (.iconst 0, 1) := by decide +kernel
theorem dX13_name_1 : decode cX13_name 1 = .ok (.istore_n 1, 1) := by decide +kernel
theorem dX13_name_10 : decode cX13_name 10 = .ok (.aload_n 0, 1) := by decide +kernel
theorem dX13_name_101 : decode cX13_name 101 = .ok (.iconst (-1), 1) := by decide +kernel
theorem dX13_name_102 : decode cX13_name 102 = .ok (.ireturn, 1) := by decide +kernel
theorem dX13_name_103 : decode cX13_name 103 = .ok (.aload_n 0, 1) := by decide +kernel
theorem dX13_name_104 : decode cX13_name 104 = .ok (.getfield 17, 3) := by decide +kernel
theorem dX13_name_107 : decode cX13_name 107 = .ok (.aload_n 0, 1) := by decide +kernel
theorem dX13_name_108 : decode cX13_name 108 = .ok (.getfield 458, 3) := by decide +kernel
theorem dX13_name_11 : decode cX13_name 11 = .ok (.getfield 20, 3) := by decide +kernel
theorem dX13_name_111 : decode cX13_name 111 = .ok (.aload_n 0, 1) := by decide +kernel
theorem dX13_name_112 : decode cX13_name 112 = .ok (.getfield 465, 3) := by decide +kernel
theorem dX13_name_115 : decode cX13_name 115 = .ok (.iastore, 1) := by decide +kernel
theorem dX13_name_116 : decode cX13_name 116 = .ok (.aload_n 0, 1) := by decide +kernel
theorem dX13_name_117 : decode cX13_name 117 = .ok (.getfield 20, 3) := by decide +kernel
theorem dX13_name_120 : decode cX13_name 120 = .ok (.aload_n 0, 1) := by decide +kernel
theorem dX13_name_121 : decode cX13_name 121 = .ok (.getfield 458, 3) := by decide +kernel
theorem dX13_name_124 : decode cX13_name 124 = .ok (.aload_n 0, 1) := by decide +kernel
theorem dX13_name_125 : decode cX13_name 125 = .ok (.getfield 394, 3) := by decide +kernel
theorem dX13_name_128 : decode cX13_name 128 = .ok (.iastore, 1) := by decide +kernel
theorem dX13_name_129 : decode cX13_name 129 = .ok (.iconst 0, 1) := by decide +kernel
theorem dX13_name_130 : decode cX13_name 130 = .ok (.istore_n 1, 1) := by decide +kernel
theorem dX13_name_131 : decode cX13_name 131 = .ok (.iload_n 1, 1) := by decide +kernel
theorem dX13_name_132 : decode cX13_name 132 = .ok (.aload_n 0, 1) := by decide +kernel
theorem dX13_name_133 : decode cX13_name 133 = .ok (.getfield 394, 3) := by decide +kernel
theorem dX13_name_136 : decode cX13_name 136 = .ok (.if_icmp .ge 39, 3) := by decide +kernel
theorem dX13_name_139 : decode cX13_name 139 = .ok (.aload_n 0, 1) := by decide +kernel
theorem dX13_name_14 : decode cX13_name 14 = .ok (.iload_n 1, 1) := by decide +kernel
theorem dX13_name_140 : decode cX13_name 140 = .ok (.getfield 23, 3) := by decide +kernel
theorem dX13_name_143 : decode cX13_name 143 = .ok (.aload_n 0, 1) := by decide +kernel
theorem dX13_name_144 : decode cX13_name 144 = .ok (.getfield 465, 3) := by decide +kernel
theorem dX13_name_147 : decode cX13_name 147 = .ok (.aload_n 0, 1) := by decide +kernel
theorem dX13_name_148 : decode cX13_name 148 = .ok (.getfield 7, 3) := by decide +kernel
theorem dX13_name_15 : decode cX13_name 15 = .ok (.iaload, 1) := by decide +kernel
theorem dX13_name_151 : decode cX13_name 151 = .ok (.aload_n 0, 1) := by decide +kernel
theorem dX13_name_152 : decode cX13_name 152 = .ok (.getfield 391, 3) := by decide +kernel
theorem dX13_name_155 : decode cX13_name 155 = .ok (.iload_n 1, 1) := by decide +kernel
theorem dX13_name_156 : decode cX13_name 156 = .ok (.iadd, 1) := by decide +kernel
theorem dX13_name_157 : decode cX13_name 157 = .ok (.iaload, 1) := by decide +kernel
theorem dX13_name_158 : decode cX13_name 158 = .ok (.iastore, 1) := by decide +kernel
theorem dX13_name_159 : decode cX13_name 159 = .ok (.aload_n 0, 1) := by decide +kernel
theorem dX13_name_16 : decode cX13_name 16 = .ok (.aload_n 0, 1) := by decide +kernel
theorem dX13_name_160 : decode cX13_name 160 = .ok (.dup, 1) := by decide +kernel
theorem dX13_name_161 : decode cX13_name 161 = .ok (.getfield 465, 3) := by decide +kernel
theorem dX13_name_164 : decode cX13_name 164 = .ok (.iconst 1, 1) := by decide +kernel
theorem dX13_name_165 : decode cX13_name 165 = .ok (.iadd, 1) := by decide +kernel
theorem dX13_name_166 : decode cX13_name 166 = .ok (.putfield 465, 3) := by decide +kernel
theorem dX13_name_169 : decode cX13_name 169 = .ok (.iinc 1 1, 3) := by decide +kernel
theorem dX13_name_17 : decode cX13_name 17 = .ok (.getfield 394, 3) := by decide +kernel
theorem dX13_name_172 : decode cX13_name 172 = .ok (.goto (-41), 3) := by decide +kernel
theorem dX13_name_175 : decode cX13_name 175 = .ok (.aload_n 0, 1) := by decide +kernel
theorem dX13_name_176 : decode cX13_name 176 = .ok (.dup, 1) := by decide +kernel
theorem dX13_name_177 : decode cX13_name 177 = .ok (.getfield 458, 3) := by decide +kernel
theorem dX13_name_180 : decode cX13_name 180 = .ok (.iconst 1, 1) := by decide +kernel
theorem dX13_name_181 : decode cX13_name 181 = .ok (.iadd, 1) := by decide +kernel
theorem dX13_name_182 : decode cX13_name 182 = .ok (.putfield 458, 3) := by decide +kernel
theorem dX13_name_185 : decode cX13_name 185 = .ok (.aload_n 0, 1) := by decide +kernel
theorem dX13_name_186 : decode cX13_name 186 = .ok (.getfield 458, 3) := by decide +kernel
theorem dX13_name_189 : decode cX13_name 189 = .ok (.iconst 1, 1) := by decide +kernel
theorem dX13_name_190 : decode cX13_name 190 = .ok (.isub, 1) := by decide +kernel
theorem dX13_name_191 : decode cX13_name 191 = .ok (.ireturn, 1) := by decide +kernel
theorem dX13_name_2 : decode cX13_name 2 = .ok (.iload_n 1, 1) := by decide +kernel
theorem dX13_name_20 : decode cX13_name 20 = .ok (.if_icmp .ne 7, 3) := by decide +kernel
theorem dX13_name_23 : decode cX13_name 23 = .ok (.iconst 1, 1) := by decide +kernel
theorem dX13_name_24 : decode cX13_name 24 = .ok (.goto 4, 3) := by decide +kernel
theorem dX13_name_27 : decode cX13_name 27 = .ok (.iconst 0, 1) := by decide +kernel
theorem dX13_name_28 : decode cX13_name 28 = .ok (.istore_n 2, 1) := by decide +kernel
theorem dX13_name_29 : decode cX13_name 29 = .ok (.iconst 0, 1) := by decide +kernel
theorem dX13_name_3 : decode cX13_name 3 = .ok (.aload_n 0, 1) := by decide +kernel
theorem dX13_name_30 : decode cX13_name 30 = .ok (.istore_n 3, 1) := by decide +kernel
theorem dX13_name_31 : decode cX13_name 31 = .ok (.iload_n 3, 1) := by decide +kernel
theorem dX13_name_32 : decode cX13_name 32 = .ok (.aload_n 0, 1) := by decide +kernel
theorem dX13_name_33 : decode cX13_name 33 = .ok (.getfield 394, 3) := by decide +kernel
theorem dX13_name_36 : decode cX13_name 36 = .ok (.if_icmp .ge 46, 3) := by decide +kernel
theorem dX13_name_39 : decode cX13_name 39 = .ok (.iload_n 2, 1) := by decide +kernel
theorem dX13_name_4 : decode cX13_name 4 = .ok (.getfield 458, 3) := by decide +kernel
theorem dX13_name_40 : decode cX13_name 40 = .ok (.ifCond .eq 42, 3) := by decide +kernel
theorem dX13_name_43 : decode cX13_name 43 = .ok (.aload_n 0, 1) := by decide +kernel
theorem dX13_name_44 : decode cX13_name 44 = .ok (.getfield 23, 3) := by decide +kernel
theorem dX13_name_47 : decode cX13_name 47 = .ok (.aload_n 0, 1) := by decide +kernel
theorem dX13_name_48 : decode cX13_name 48 = .ok (.getfield 17, 3) := by decide +kernel
theorem dX13_name_51 : decode cX13_name 51 = .ok (.iload_n 1, 1) := by decide +kernel
theorem dX13_name_52 : decode cX13_name 52 = .ok (.iaload, 1) := by decide +kernel
theorem dX13_name_53 : decode cX13_name 53 = .ok (.iload_n 3, 1) := by decide +kernel
theorem dX13_name_54 : decode cX13_name 54 = .ok (.iadd, 1) := by decide +kernel
theorem dX13_name_55 : decode cX13_name 55 = .ok (.iaload, 1) := by decide +kernel
theorem dX13_name_56 : decode cX13_name 56 = .ok (.aload_n 0, 1) := by decide +kernel
theorem dX13_name_57 : decode cX13_name 57 = .ok (.getfield 7, 3) := by decide +kernel
theorem dX13_name_60 : decode cX13_name 60 = .ok (.aload_n 0, 1) := by decide +kernel
theorem dX13_name_61 : decode cX13_name 61 = .ok (.getfield 391, 3) := by decide +kernel
theorem dX13_name_64 : decode cX13_name 64 = .ok (.iload_n 3, 1) := by decide +kernel
theorem dX13_name_65 : decode cX13_name 65 = .ok (.iadd, 1) := by decide +kernel
theorem dX13_name_66 : decode cX13_name 66 = .ok (.iaload, 1) := by decide +kernel
theorem dX13_name_67 : decode cX13_name 67 = .ok (.if_icmp .ne 7, 3) := by decide +kernel
theorem dX13_name_7 : decode cX13_name 7 = .ok (.if_icmp .ge 87, 3) := by decide +kernel
theorem dX13_name_70 : decode cX13_name 70 = .ok (.iconst 1, 1) := by decide +kernel
theorem dX13_name_71 : decode cX13_name 71 = .ok (.goto 4, 3) := by decide +kernel
theorem dX13_name_74 : decode cX13_name 74 = .ok (.iconst 0, 1) := by decide +kernel
theorem dX13_name_75 : decode cX13_name 75 = .ok (.istore_n 2, 1) := by decide +kernel
theorem dX13_name_76 : decode cX13_name 76 = .ok (.iinc 3 1, 3) := by decide +kernel
theorem dX13_name_79 : decode cX13_name 79 = .ok (.goto (-48), 3) := by decide +kernel
theorem dX13_name_82 : decode cX13_name 82 = .ok (.iload_n 2, 1) := by decide +kernel
theorem dX13_name_83 : decode cX13_name 83 = .ok (.ifCond .eq 5, 3) := by decide +kernel
theorem dX13_name_86 : decode cX13_name 86 = .ok (.iload_n 1, 1) := by decide +kernel
theorem dX13_name_87 : decode cX13_name 87 = .ok (.ireturn, 1) := by decide +kernel
theorem dX13_name_88 : decode cX13_name 88 = .ok (.iinc 1 1, 3) := by decide +kernel
theorem dX13_name_91 : decode cX13_name 91 = .ok (.goto (-89), 3) := by decide +kernel
theorem dX13_name_94 : decode cX13_name 94 = .ok (.aload_n 0, 1) := by decide +kernel
theorem dX13_name_95 : decode cX13_name 95 = .ok (.getfield 461, 3) := by decide +kernel
theorem dX13_name_98 : decode cX13_name 98 = .ok (.ifCond .ne 5, 3) := by decide +kernel
noncomputable def k_X13_name_131 (l1 : Int32) (s : t_S) : Option ((Int32 × t_S) ⊕ (Int32 × t_S)) :=
 if (s.1 950 7) ≤ l1 then ((t_let (t_setI s 950 14 ((s.1 950 14) + (1 : Int32))) (fun s1 =>
 some (((s1.1 950 14) - (1 : Int32)), s1))).map Sum.inr)
 else (if t_ix ((s.1 950 6) + l1) 12000 = true then
  if t_ix (s.1 950 15) 24300 = true then
  t_let (t_setI s 954 ((s.1 950 15).toNatClampNeg) (s.1 951 (((s.1 950 6) + l1).toNatClampNeg))) (fun s2 =>
 t_let (t_setI s2 950 15 ((s2.1 950 15) + (1 : Int32))) (fun s3 =>
 some (.inl ((l1 + 1), s3))))
else none
else none)
set_option maxRecDepth 4000 in
set_option maxHeartbeats 1000000 in
theorem B_X13_name_131 {D : va_G} {cy : Nat → ClassId} {ad : Nat → Nat} {bs : Nat} {X : State → Heap → Prop} (l1 : Int32) (s : t_S) (Q : (Int32 × t_S) ⊕ (Int32 × t_S) → Prop) (Hb131 : ∀ (y0 : Int32) (y1 : t_S), Q (.inl (y0, y1)) → mj_G D cy ad bs X cX13_name 4 yX13_name.cls (some .int) yX13_name.name 0 0 0 1065 (t_P (fun v s' => ∃ x, v = some (.int x) ∧ Q (.inr ((x, s'))))) 131 [(0, .ref 950), (1, .int (y0))] [] (t_m y1) 1065 0 0) (hk : t_hk (k_X13_name_131 l1 s) Q) : mj_G D cy ad bs X cX13_name 4 yX13_name.cls (some .int) yX13_name.name 0 0 0 1065 (t_P (fun v s' => ∃ x, v = some (.int x) ∧ Q (.inr ((x, s'))))) 131 [(0, .ref 950), (1, .int l1)] [] (t_m s) 1065 0 0 := by
  refine mj_iload_n dX13_name_131 1 rfl ?_
  refine mj_aload_n dX13_name_132 0 rfl ?_
  refine t_getI dX13_name_133 F_X13_394 qf_950_7 ?_
  refine mj_icmp_ge 175 dX13_name_136 (by decide) (fun z => t_posK hk z (fun hk => ?_)) (fun z => t_negK hk z (fun hk => ?_))
  · refine t_mapK hk (fun hk => ?_)
    refine mj_aload_n dX13_name_175 0 rfl ?_
    refine mj_dup dX13_name_176 rfl ?_
    refine t_getI dX13_name_177 F_X13_458 qf_950_14 ?_
    refine mj_iconst (v := 1) dX13_name_180 (by decide) ?_
    refine mj_iadd dX13_name_181 ?_
    refine t_putIK dX13_name_182 F_X13_458 qf_950_14 rfl (fun s1 ws1 => t_letE hk ws1 (fun hk => ?_))
    refine mj_aload_n dX13_name_185 0 rfl ?_
    refine t_getI dX13_name_186 F_X13_458 qf_950_14 ?_
    refine mj_iconst (v := 1) dX13_name_189 (by decide) ?_
    refine mj_isub dX13_name_190 ?_
    exact t_somK hk (fun hf => t_iret dX13_name_191 rfl rfl ⟨_, rfl, hf⟩ (Nat.le_of_ble_eq_true rfl) (Nat.le_of_ble_eq_true rfl))
  · refine mj_aload_n dX13_name_139 0 rfl ?_
    refine t_getR 954 dX13_name_140 F_X13_23 qr_950_13 ?_
    refine mj_aload_n dX13_name_143 0 rfl ?_
    refine t_getI dX13_name_144 F_X13_465 qf_950_15 ?_
    refine mj_aload_n dX13_name_147 0 rfl ?_
    refine t_getR 951 dX13_name_148 F_X13_7 qr_950_0 ?_
    refine mj_aload_n dX13_name_151 0 rfl ?_
    refine t_getI dX13_name_152 F_X13_391 qf_950_6 ?_
    refine mj_iload_n dX13_name_155 1 rfl ?_
    refine mj_iadd dX13_name_156 ?_
    refine t_chkK hk (fun c0 hk => ?_)
    refine t_iald dX13_name_157 qa_951 (t_ixv c0) ?_
    refine t_chkK hk (fun c1 hk => ?_)
    refine t_iastK dX13_name_158 qa_954 (t_ixv c1) (fun s2 ws2 => t_letE hk ws2 (fun hk => ?_))
    refine mj_aload_n dX13_name_159 0 rfl ?_
    refine mj_dup dX13_name_160 rfl ?_
    refine t_getI dX13_name_161 F_X13_465 qf_950_15 ?_
    refine mj_iconst (v := 1) dX13_name_164 (by decide) ?_
    refine mj_iadd dX13_name_165 ?_
    refine t_putIK dX13_name_166 F_X13_465 qf_950_15 rfl (fun s3 ws3 => t_letE hk ws3 (fun hk => ?_))
    refine mj_iinc (k := 1) (v := (l1 + 1)) (lv2 := [(1, .int (l1 + 1)), (0, .ref 950)]) dX13_name_169 rfl rfl (by decide) rfl ?_
    refine mj_goto 131 dX13_name_172 (by decide) ?_
    refine mj_sublv [(0, .ref 950), (1, .int (l1 + 1))] [1, 0] rfl ?_
    exact t_somK hk (fun hf => Hb131 (l1 + 1) s3 hf)
noncomputable def b_X13_name_131 (x : Int32 × t_S) : Option ((Int32 × t_S) ⊕ (Int32 × t_S)) := k_X13_name_131 x.1 x.2
set_option maxRecDepth 4000 in
set_option maxHeartbeats 1000000 in
theorem LH_X13_name_131 {D : va_G} {cy : Nat → ClassId} {ad : Nat → Nat} {bs : Nat} {X : State → Heap → Prop} : ∀ (n : Nat) (y0 : Int32) (y1 : t_S) (Q : Int32 × t_S → Prop) (hk : t_hk (t_loop (b_X13_name_131) n (y0, y1)) Q), mj_G D cy ad bs X cX13_name 4 yX13_name.cls (some .int) yX13_name.name 0 0 0 1065 (t_P (fun v s' => ∃ x, v = some (.int x) ∧ Q ((x, s')))) 131 [(0, .ref 950), (1, .int (y0))] [] (t_m y1) 1065 0 0 := by
  intro n
  induction n with
  | zero => intro y0 y1 Q hk; obtain ⟨r, hr, _⟩ := hk; cases hr
  | succ n ih =>
    intro y0 y1 Q hk
    exact B_X13_name_131 y0 y1 (fun y => t_lq (b_X13_name_131) n Q y) (fun y0' y1' hy => ih y0' y1' Q hy) (t_lp hk)
noncomputable def k_X13_name_82 (l1 : Int32) (l2 : Int32) (s : t_S) : Option ((Int32 × t_S) ⊕ (Int32 × t_S)) :=
 if l2 = (0 : Int32) then (some (.inl ((l1 + 1), s)))
 else ((some (l1, s)).map Sum.inr)
set_option maxRecDepth 4000 in
set_option maxHeartbeats 1000000 in
theorem B_X13_name_82 {D : va_G} {cy : Nat → ClassId} {ad : Nat → Nat} {bs : Nat} {X : State → Heap → Prop} (l1 : Int32) (l2 : Int32) (s : t_S) (Q : (Int32 × t_S) ⊕ (Int32 × t_S) → Prop) (Hb2 : ∀ (y0 : Int32) (y1 : t_S), Q (.inl (y0, y1)) → mj_G D cy ad bs X cX13_name 4 yX13_name.cls (some .int) yX13_name.name 0 0 0 1065 (t_P (fun v s' => ∃ x, v = some (.int x) ∧ Q (.inr ((x, s'))))) 2 [(0, .ref 950), (1, .int (y0))] [] (t_m y1) 1065 0 0) (hk : t_hk (k_X13_name_82 l1 l2 s) Q) : mj_G D cy ad bs X cX13_name 4 yX13_name.cls (some .int) yX13_name.name 0 0 0 1065 (t_P (fun v s' => ∃ x, v = some (.int x) ∧ Q (.inr ((x, s'))))) 82 [(0, .ref 950), (1, .int l1), (2, .int l2)] [] (t_m s) 1065 0 0 := by
  refine mj_iload_n dX13_name_82 2 rfl ?_
  refine mj_if_eq 88 dX13_name_83 (by decide) (fun z => t_posK hk z (fun hk => ?_)) (fun z => t_negK hk z (fun hk => ?_))
  · refine mj_iinc (k := 1) (v := (l1 + 1)) (lv2 := [(1, .int (l1 + 1)), (0, .ref 950), (2, .int l2)]) dX13_name_88 rfl rfl (by decide) rfl ?_
    refine mj_goto 2 dX13_name_91 (by decide) ?_
    refine mj_sublv [(0, .ref 950), (1, .int (l1 + 1))] [1, 0] rfl ?_
    exact t_somK hk (fun hf => Hb2 (l1 + 1) s hf)
  · refine t_mapK hk (fun hk => ?_)
    refine mj_iload_n dX13_name_86 1 rfl ?_
    exact t_somK hk (fun hf => t_iret dX13_name_87 rfl rfl ⟨_, rfl, hf⟩ (Nat.le_of_ble_eq_true rfl) (Nat.le_of_ble_eq_true rfl))
noncomputable def k_X13_name_75 (l1 : Int32) (l3 : Int32) (k0 : Int32) (s : t_S) : Option ((Int32 × Int32 × Int32 × t_S) ⊕ ((Int32 × t_S) ⊕ (Int32 × t_S))) :=
 some (.inl (l1, k0, (l3 + 1), s))
set_option maxRecDepth 4000 in
set_option maxHeartbeats 1000000 in
theorem B_X13_name_75 {D : va_G} {cy : Nat → ClassId} {ad : Nat → Nat} {bs : Nat} {X : State → Heap → Prop} (l1 : Int32) (l3 : Int32) (k0 : Int32) (s : t_S) (Q : (Int32 × Int32 × Int32 × t_S) ⊕ ((Int32 × t_S) ⊕ (Int32 × t_S)) → Prop) (Hb2 : ∀ (y0 : Int32) (y1 : t_S), Q (.inr (.inl (y0, y1))) → mj_G D cy ad bs X cX13_name 4 yX13_name.cls (some .int) yX13_name.name 0 0 0 1065 (t_P (fun v s' => ∃ x, v = some (.int x) ∧ Q (.inr (.inr ((x, s')))))) 2 [(0, .ref 950), (1, .int (y0))] [] (t_m y1) 1065 0 0) (Hb31 : ∀ (y0 : Int32) (y1 : Int32) (y2 : Int32) (y3 : t_S), Q (.inl (y0, y1, y2, y3)) → mj_G D cy ad bs X cX13_name 4 yX13_name.cls (some .int) yX13_name.name 0 0 0 1065 (t_P (fun v s' => ∃ x, v = some (.int x) ∧ Q (.inr (.inr ((x, s')))))) 31 [(0, .ref 950), (1, .int (y0)), (2, .int (y1)), (3, .int (y2))] [] (t_m y3) 1065 0 0) (hk : t_hk (k_X13_name_75 l1 l3 k0 s) Q) : mj_G D cy ad bs X cX13_name 4 yX13_name.cls (some .int) yX13_name.name 0 0 0 1065 (t_P (fun v s' => ∃ x, v = some (.int x) ∧ Q (.inr (.inr ((x, s')))))) 75 [(0, .ref 950), (1, .int l1), (3, .int l3)] [.int k0] (t_m s) 1065 0 0 := by
  refine mj_istore_n 2 (lv2 := [(2, .int k0), (0, .ref 950), (1, .int l1), (3, .int l3)]) dX13_name_75 rfl (by decide) rfl ?_
  refine mj_iinc (k := 3) (v := (l3 + 1)) (lv2 := [(3, .int (l3 + 1)), (2, .int k0), (0, .ref 950), (1, .int l1)]) dX13_name_76 rfl rfl (by decide) rfl ?_
  refine mj_goto 31 dX13_name_79 (by decide) ?_
  refine mj_sublv [(0, .ref 950), (1, .int l1), (2, .int k0), (3, .int (l3 + 1))] [2, 3, 1, 0] rfl ?_
  exact t_somK hk (fun hf => Hb31 l1 k0 (l3 + 1) s hf)
noncomputable def k_X13_name_31 (l1 : Int32) (l2 : Int32) (l3 : Int32) (s : t_S) : Option ((Int32 × Int32 × Int32 × t_S) ⊕ ((Int32 × t_S) ⊕ (Int32 × t_S))) :=
 if (s.1 950 7) ≤ l3 then ((k_X13_name_82 l1 l2 s).map Sum.inr)
 else (if l2 = (0 : Int32) then ((k_X13_name_82 l1 l2 s).map Sum.inr)
 else (if t_ix l1 8200 = true then
  if t_ix ((s.1 952 (l1.toNatClampNeg)) + l3) 24300 = true then
  if t_ix ((s.1 950 6) + l3) 12000 = true then
  if (s.1 954 (((s.1 952 (l1.toNatClampNeg)) + l3).toNatClampNeg)) = (s.1 951 (((s.1 950 6) + l3).toNatClampNeg)) then (k_X13_name_75 l1 l3 1 s)
 else (k_X13_name_75 l1 l3 0 s)
else none
else none
else none))
set_option maxRecDepth 4000 in
set_option maxHeartbeats 1000000 in
theorem B_X13_name_31 {D : va_G} {cy : Nat → ClassId} {ad : Nat → Nat} {bs : Nat} {X : State → Heap → Prop} (l1 : Int32) (l2 : Int32) (l3 : Int32) (s : t_S) (Q : (Int32 × Int32 × Int32 × t_S) ⊕ ((Int32 × t_S) ⊕ (Int32 × t_S)) → Prop) (Hb2 : ∀ (y0 : Int32) (y1 : t_S), Q (.inr (.inl (y0, y1))) → mj_G D cy ad bs X cX13_name 4 yX13_name.cls (some .int) yX13_name.name 0 0 0 1065 (t_P (fun v s' => ∃ x, v = some (.int x) ∧ Q (.inr (.inr ((x, s')))))) 2 [(0, .ref 950), (1, .int (y0))] [] (t_m y1) 1065 0 0) (Hb31 : ∀ (y0 : Int32) (y1 : Int32) (y2 : Int32) (y3 : t_S), Q (.inl (y0, y1, y2, y3)) → mj_G D cy ad bs X cX13_name 4 yX13_name.cls (some .int) yX13_name.name 0 0 0 1065 (t_P (fun v s' => ∃ x, v = some (.int x) ∧ Q (.inr (.inr ((x, s')))))) 31 [(0, .ref 950), (1, .int (y0)), (2, .int (y1)), (3, .int (y2))] [] (t_m y3) 1065 0 0) (hk : t_hk (k_X13_name_31 l1 l2 l3 s) Q) : mj_G D cy ad bs X cX13_name 4 yX13_name.cls (some .int) yX13_name.name 0 0 0 1065 (t_P (fun v s' => ∃ x, v = some (.int x) ∧ Q (.inr (.inr ((x, s')))))) 31 [(0, .ref 950), (1, .int l1), (2, .int l2), (3, .int l3)] [] (t_m s) 1065 0 0 := by
  refine mj_iload_n dX13_name_31 3 rfl ?_
  refine mj_aload_n dX13_name_32 0 rfl ?_
  refine t_getI dX13_name_33 F_X13_394 qf_950_7 ?_
  refine mj_icmp_ge 82 dX13_name_36 (by decide) (fun z => t_posK hk z (fun hk => ?_)) (fun z => t_negK hk z (fun hk => ?_))
  · refine mj_sublv [(0, .ref 950), (1, .int l1), (2, .int l2)] [0, 1, 2] rfl ?_
    refine t_mapK hk (fun hk => ?_)
    exact B_X13_name_82 _ _ _ _ (fun y0 y1 hx => Hb2 y0 y1 hx) hk
  · refine mj_iload_n dX13_name_39 2 rfl ?_
    refine mj_if_eq 82 dX13_name_40 (by decide) (fun z => t_posK hk z (fun hk => ?_)) (fun z => t_negK hk z (fun hk => ?_))
    · refine mj_sublv [(0, .ref 950), (1, .int l1), (2, .int l2)] [0, 1, 2] rfl ?_
      refine t_mapK hk (fun hk => ?_)
      exact B_X13_name_82 _ _ _ _ (fun y0 y1 hx => Hb2 y0 y1 hx) hk
    · refine mj_aload_n dX13_name_43 0 rfl ?_
      refine t_getR 954 dX13_name_44 F_X13_23 qr_950_13 ?_
      refine mj_aload_n dX13_name_47 0 rfl ?_
      refine t_getR 952 dX13_name_48 F_X13_17 qr_950_11 ?_
      refine mj_iload_n dX13_name_51 1 rfl ?_
      refine t_chkK hk (fun c0 hk => ?_)
      refine t_iald dX13_name_52 qa_952 (t_ixv c0) ?_
      refine mj_iload_n dX13_name_53 3 rfl ?_
      refine mj_iadd dX13_name_54 ?_
      refine t_chkK hk (fun c1 hk => ?_)
      refine t_iald dX13_name_55 qa_954 (t_ixv c1) ?_
      refine mj_aload_n dX13_name_56 0 rfl ?_
      refine t_getR 951 dX13_name_57 F_X13_7 qr_950_0 ?_
      refine mj_aload_n dX13_name_60 0 rfl ?_
      refine t_getI dX13_name_61 F_X13_391 qf_950_6 ?_
      refine mj_iload_n dX13_name_64 3 rfl ?_
      refine mj_iadd dX13_name_65 ?_
      refine t_chkK hk (fun c2 hk => ?_)
      refine t_iald dX13_name_66 qa_951 (t_ixv c2) ?_
      refine mj_icmp_ne 74 dX13_name_67 (by decide) (fun z => t_negK hk z (fun hk => ?_)) (fun z => t_posK hk z (fun hk => ?_))
      · refine mj_iconst (v := 0) dX13_name_74 (by decide) ?_
        refine mj_sublv [(0, .ref 950), (1, .int l1), (3, .int l3)] [0, 1, 3] rfl ?_
        exact B_X13_name_75 _ _ _ _ _ (fun y0 y1 hx => Hb2 y0 y1 hx) (fun y0 y1 y2 y3 hx => Hb31 y0 y1 y2 y3 hx) hk
      · refine mj_iconst (v := 1) dX13_name_70 (by decide) ?_
        refine mj_goto 75 dX13_name_71 (by decide) ?_
        refine mj_sublv [(0, .ref 950), (1, .int l1), (3, .int l3)] [0, 1, 3] rfl ?_
        exact B_X13_name_75 _ _ _ _ _ (fun y0 y1 hx => Hb2 y0 y1 hx) (fun y0 y1 y2 y3 hx => Hb31 y0 y1 y2 y3 hx) hk
noncomputable def b_X13_name_31 (x : Int32 × Int32 × Int32 × t_S) : Option ((Int32 × Int32 × Int32 × t_S) ⊕ ((Int32 × t_S) ⊕ (Int32 × t_S))) := k_X13_name_31 x.1 x.2.1 x.2.2.1 x.2.2.2
set_option maxRecDepth 4000 in
set_option maxHeartbeats 1000000 in
theorem LH_X13_name_31 {D : va_G} {cy : Nat → ClassId} {ad : Nat → Nat} {bs : Nat} {X : State → Heap → Prop} : ∀ (n : Nat) (y0 : Int32) (y1 : Int32) (y2 : Int32) (y3 : t_S) (Q : (Int32 × t_S) ⊕ (Int32 × t_S) → Prop) (Hb2 : ∀ (y0 : Int32) (y1 : t_S), Q (.inl (y0, y1)) → mj_G D cy ad bs X cX13_name 4 yX13_name.cls (some .int) yX13_name.name 0 0 0 1065 (t_P (fun v s' => ∃ x, v = some (.int x) ∧ Q (.inr ((x, s'))))) 2 [(0, .ref 950), (1, .int (y0))] [] (t_m y1) 1065 0 0) (hk : t_hk (t_loop (b_X13_name_31) n (y0, y1, y2, y3)) Q), mj_G D cy ad bs X cX13_name 4 yX13_name.cls (some .int) yX13_name.name 0 0 0 1065 (t_P (fun v s' => ∃ x, v = some (.int x) ∧ Q (.inr ((x, s'))))) 31 [(0, .ref 950), (1, .int (y0)), (2, .int (y1)), (3, .int (y2))] [] (t_m y3) 1065 0 0 := by
  intro n
  induction n with
  | zero => intro y0 y1 y2 y3 Q Hb2 hk; obtain ⟨r, hr, _⟩ := hk; cases hr
  | succ n ih =>
    intro y0 y1 y2 y3 Q Hb2 hk
    exact B_X13_name_31 y0 y1 y2 y3 (fun y => t_lq (b_X13_name_31) n Q y) (fun y0' y1' hy => Hb2 y0' y1' hy) (fun y0' y1' y2' y3' hy => ih y0' y1' y2' y3' Q Hb2 hy) (t_lp hk)
noncomputable def k_X13_name_28 (l1 : Int32) (k0 : Int32) (s : t_S) : Option ((Int32 × t_S) ⊕ (Int32 × t_S)) :=
 t_loop (b_X13_name_31) t_N (l1, k0, 0, s)
set_option maxRecDepth 4000 in
set_option maxHeartbeats 1000000 in
theorem B_X13_name_28 {D : va_G} {cy : Nat → ClassId} {ad : Nat → Nat} {bs : Nat} {X : State → Heap → Prop} (l1 : Int32) (k0 : Int32) (s : t_S) (Q : (Int32 × t_S) ⊕ (Int32 × t_S) → Prop) (Hb2 : ∀ (y0 : Int32) (y1 : t_S), Q (.inl (y0, y1)) → mj_G D cy ad bs X cX13_name 4 yX13_name.cls (some .int) yX13_name.name 0 0 0 1065 (t_P (fun v s' => ∃ x, v = some (.int x) ∧ Q (.inr ((x, s'))))) 2 [(0, .ref 950), (1, .int (y0))] [] (t_m y1) 1065 0 0) (hk : t_hk (k_X13_name_28 l1 k0 s) Q) : mj_G D cy ad bs X cX13_name 4 yX13_name.cls (some .int) yX13_name.name 0 0 0 1065 (t_P (fun v s' => ∃ x, v = some (.int x) ∧ Q (.inr ((x, s'))))) 28 [(0, .ref 950), (1, .int l1)] [.int k0] (t_m s) 1065 0 0 := by
  refine mj_istore_n 2 (lv2 := [(2, .int k0), (0, .ref 950), (1, .int l1)]) dX13_name_28 rfl (by decide) rfl ?_
  refine mj_iconst (v := 0) dX13_name_29 (by decide) ?_
  refine mj_istore_n 3 (lv2 := [(3, .int 0), (2, .int k0), (0, .ref 950), (1, .int l1)]) dX13_name_30 rfl (by decide) rfl ?_
  refine mj_sublv [(0, .ref 950), (1, .int l1), (2, .int k0), (3, .int 0)] [2, 3, 1, 0] rfl ?_
  exact LH_X13_name_31 _ l1 k0 0 s _ (fun y0 y1 hx => Hb2 y0 y1 hx) hk
noncomputable def k_X13_name_2 (l1 : Int32) (s : t_S) : Option ((Int32 × t_S) ⊕ (Int32 × t_S)) :=
 if (s.1 950 14) ≤ l1 then ((if (s.1 950 16) = (0 : Int32) then (some ((-1 : Int32), s))
 else (if t_ix (s.1 950 14) 8200 = true then
  t_let (t_setI s 952 ((s.1 950 14).toNatClampNeg) (s.1 950 15)) (fun s1 =>
 if t_ix (s1.1 950 14) 8200 = true then
  t_let (t_setI s1 953 ((s1.1 950 14).toNatClampNeg) (s1.1 950 7)) (fun s2 =>
 t_loop (b_X13_name_131) t_N (0, s2))
else none)
else none)).map Sum.inr)
 else (if t_ix l1 8200 = true then
  if (s.1 953 (l1.toNatClampNeg)) = (s.1 950 7) then (k_X13_name_28 l1 1 s)
 else (k_X13_name_28 l1 0 s)
else none)
set_option maxRecDepth 4000 in
set_option maxHeartbeats 1000000 in
theorem B_X13_name_2 {D : va_G} {cy : Nat → ClassId} {ad : Nat → Nat} {bs : Nat} {X : State → Heap → Prop} (l1 : Int32) (s : t_S) (Q : (Int32 × t_S) ⊕ (Int32 × t_S) → Prop) (Hb2 : ∀ (y0 : Int32) (y1 : t_S), Q (.inl (y0, y1)) → mj_G D cy ad bs X cX13_name 4 yX13_name.cls (some .int) yX13_name.name 0 0 0 1065 (t_P (fun v s' => ∃ x, v = some (.int x) ∧ Q (.inr ((x, s'))))) 2 [(0, .ref 950), (1, .int (y0))] [] (t_m y1) 1065 0 0) (hk : t_hk (k_X13_name_2 l1 s) Q) : mj_G D cy ad bs X cX13_name 4 yX13_name.cls (some .int) yX13_name.name 0 0 0 1065 (t_P (fun v s' => ∃ x, v = some (.int x) ∧ Q (.inr ((x, s'))))) 2 [(0, .ref 950), (1, .int l1)] [] (t_m s) 1065 0 0 := by
  refine mj_iload_n dX13_name_2 1 rfl ?_
  refine mj_aload_n dX13_name_3 0 rfl ?_
  refine t_getI dX13_name_4 F_X13_458 qf_950_14 ?_
  refine mj_icmp_ge 94 dX13_name_7 (by decide) (fun z => t_posK hk z (fun hk => ?_)) (fun z => t_negK hk z (fun hk => ?_))
  · refine t_mapK hk (fun hk => ?_)
    refine mj_aload_n dX13_name_94 0 rfl ?_
    refine t_getI dX13_name_95 F_X13_461 qf_950_16 ?_
    refine mj_if_ne 103 dX13_name_98 (by decide) (fun z => t_negK hk z (fun hk => ?_)) (fun z => t_posK hk z (fun hk => ?_))
    · refine mj_aload_n dX13_name_103 0 rfl ?_
      refine t_getR 952 dX13_name_104 F_X13_17 qr_950_11 ?_
      refine mj_aload_n dX13_name_107 0 rfl ?_
      refine t_getI dX13_name_108 F_X13_458 qf_950_14 ?_
      refine mj_aload_n dX13_name_111 0 rfl ?_
      refine t_getI dX13_name_112 F_X13_465 qf_950_15 ?_
      refine t_chkK hk (fun c0 hk => ?_)
      refine t_iastK dX13_name_115 qa_952 (t_ixv c0) (fun s1 ws1 => t_letE hk ws1 (fun hk => ?_))
      refine mj_aload_n dX13_name_116 0 rfl ?_
      refine t_getR 953 dX13_name_117 F_X13_20 qr_950_12 ?_
      refine mj_aload_n dX13_name_120 0 rfl ?_
      refine t_getI dX13_name_121 F_X13_458 qf_950_14 ?_
      refine mj_aload_n dX13_name_124 0 rfl ?_
      refine t_getI dX13_name_125 F_X13_394 qf_950_7 ?_
      refine t_chkK hk (fun c1 hk => ?_)
      refine t_iastK dX13_name_128 qa_953 (t_ixv c1) (fun s2 ws2 => t_letE hk ws2 (fun hk => ?_))
      refine mj_iconst (v := 0) dX13_name_129 (by decide) ?_
      refine mj_istore_n 1 (lv2 := [(1, .int 0), (0, .ref 950)]) dX13_name_130 rfl (by decide) rfl ?_
      refine mj_sublv [(0, .ref 950), (1, .int 0)] [1, 0] rfl ?_
      exact LH_X13_name_131 _ 0 s2 _ hk
    · refine mj_iconst (v := (-1)) dX13_name_101 (by decide) ?_
      exact t_somK hk (fun hf => t_iret dX13_name_102 rfl rfl ⟨_, rfl, hf⟩ (Nat.le_of_ble_eq_true rfl) (Nat.le_of_ble_eq_true rfl))
  · refine mj_aload_n dX13_name_10 0 rfl ?_
    refine t_getR 953 dX13_name_11 F_X13_20 qr_950_12 ?_
    refine mj_iload_n dX13_name_14 1 rfl ?_
    refine t_chkK hk (fun c2 hk => ?_)
    refine t_iald dX13_name_15 qa_953 (t_ixv c2) ?_
    refine mj_aload_n dX13_name_16 0 rfl ?_
    refine t_getI dX13_name_17 F_X13_394 qf_950_7 ?_
    refine mj_icmp_ne 27 dX13_name_20 (by decide) (fun z => t_negK hk z (fun hk => ?_)) (fun z => t_posK hk z (fun hk => ?_))
    · refine mj_iconst (v := 0) dX13_name_27 (by decide) ?_
      exact B_X13_name_28 _ _ _ _ (fun y0 y1 hx => Hb2 y0 y1 hx) hk
    · refine mj_iconst (v := 1) dX13_name_23 (by decide) ?_
      refine mj_goto 28 dX13_name_24 (by decide) ?_
      exact B_X13_name_28 _ _ _ _ (fun y0 y1 hx => Hb2 y0 y1 hx) hk
noncomputable def b_X13_name_2 (x : Int32 × t_S) : Option ((Int32 × t_S) ⊕ (Int32 × t_S)) := k_X13_name_2 x.1 x.2
set_option maxRecDepth 4000 in
set_option maxHeartbeats 1000000 in
theorem LH_X13_name_2 {D : va_G} {cy : Nat → ClassId} {ad : Nat → Nat} {bs : Nat} {X : State → Heap → Prop} : ∀ (n : Nat) (y0 : Int32) (y1 : t_S) (Q : Int32 × t_S → Prop) (hk : t_hk (t_loop (b_X13_name_2) n (y0, y1)) Q), mj_G D cy ad bs X cX13_name 4 yX13_name.cls (some .int) yX13_name.name 0 0 0 1065 (t_P (fun v s' => ∃ x, v = some (.int x) ∧ Q ((x, s')))) 2 [(0, .ref 950), (1, .int (y0))] [] (t_m y1) 1065 0 0 := by
  intro n
  induction n with
  | zero => intro y0 y1 Q hk; obtain ⟨r, hr, _⟩ := hk; cases hr
  | succ n ih =>
    intro y0 y1 Q hk
    exact B_X13_name_2 y0 y1 (fun y => t_lq (b_X13_name_2) n Q y) (fun y0' y1' hy => ih y0' y1' Q hy) (t_lp hk)
noncomputable def f_X13_name (s : t_S) : Option (Int32 × t_S) :=
 t_loop (b_X13_name_2) t_N (0, s)
set_option maxRecDepth 4000 in
set_option maxHeartbeats 1000000 in
theorem C_X13_name (s : t_S) (r : Int32 × t_S) (hr : f_X13_name s = some r) : t_C yX13_name cX13_name 4 (some .int) 0 [.ref 950] s (fun v s' => v = some (.int r.1) ∧ s' = r.2) := by
  refine t_C.imp (P := fun v s' => ∃ x, v = some (.int x) ∧ (fun q => q = r) ((x, s'))) (t_C.of (by decide +kernel) (Nat.le_of_ble_eq_true rfl) ?_) (fun v s' hp => by obtain ⟨x, rfl, rfl⟩ := hp; exact ⟨rfl, rfl⟩)
  intro D cy ad bs X
  have hk : t_hk (f_X13_name s) (fun q => q = r) := ⟨r, hr, rfl⟩
  show mj_G D cy ad bs X cX13_name 4 yX13_name.cls (some .int) yX13_name.name 0 0 0 1065 (t_P (fun v s' => ∃ x, v = some (.int x) ∧ (fun q => q = r) ((x, s')))) 0 [(0, .ref 950)] [] (t_m s) 1065 0 0
  refine mj_iconst (v := 0) dX13_name_0 (by decide) ?_
  refine mj_istore_n 1 (lv2 := [(1, .int 0), (0, .ref 950)]) dX13_name_1 rfl (by decide) rfl ?_
  refine mj_sublv [(0, .ref 950), (1, .int 0)] [1, 0] rfl ?_
  exact LH_X13_name_2 _ 0 s _ hk

theorem dX13_freeName_0 : decode cX13_freeName 0 = .ok (.aload_n 0, 1) := by decide +kernel
theorem dX13_freeName_1 : decode cX13_freeName 1 = .ok (.getfield 385, 3) := by decide +kernel
theorem dX13_freeName_12 : decode cX13_freeName 12 = .ok (.ifCond .lt 14, 3) := by decide +kernel
theorem dX13_freeName_15 : decode cX13_freeName 15 = .ok (.aload_n 0, 1) := by decide +kernel
theorem dX13_freeName_16 : decode cX13_freeName 16 = .ok (.iconst 2, 1) := by decide +kernel
theorem dX13_freeName_17 : decode cX13_freeName 17 = .ok (.aload_n 0, 1) := by decide +kernel
theorem dX13_freeName_18 : decode cX13_freeName 18 = .ok (.getfield 391, 3) := by decide +kernel
theorem dX13_freeName_21 : decode cX13_freeName 21 = .ok (.invokevirtual 411, 3) := by decide +kernel
theorem dX13_freeName_24 : decode cX13_freeName 24 = .ok (.iconst 0, 1) := by decide +kernel
theorem dX13_freeName_25 : decode cX13_freeName 25 = .ok (.ireturn, 1) := by decide +kernel
theorem dX13_freeName_26 : decode cX13_freeName 26 = .ok (.aload_n 0, 1) := by decide +kernel
theorem dX13_freeName_27 : decode cX13_freeName 27 = .ok (.invokevirtual 468, 3) := by decide +kernel
theorem dX13_freeName_30 : decode cX13_freeName 30 = .ok (.ireturn, 1) := by decide +kernel
theorem dX13_freeName_4 : decode cX13_freeName 4 = .ok (.iconst 1, 1) := by decide +kernel
theorem dX13_freeName_5 : decode cX13_freeName 5 = .ok (.if_icmp .ne 10, 3) := by decide +kernel
theorem dX13_freeName_8 : decode cX13_freeName 8 = .ok (.aload_n 0, 1) := by decide +kernel
theorem dX13_freeName_9 : decode cX13_freeName 9 = .ok (.getfield 397, 3) := by decide +kernel
noncomputable def k_X13_freeName_15 (s : t_S) : Option (Int32 × t_S) :=
 (f_X13_fail (2 : Int32) (s.1 950 6) s).bind (fun r1 =>
 some ((0 : Int32), r1))
set_option maxRecDepth 4000 in
set_option maxHeartbeats 1000000 in
theorem B_X13_freeName_15 {D : va_G} {cy : Nat → ClassId} {ad : Nat → Nat} {bs : Nat} {X : State → Heap → Prop} (s : t_S) (Q : Int32 × t_S → Prop) (hk : t_hk (k_X13_freeName_15 s) Q) : mj_G D cy ad bs X cX13_freeName 1 yX13_freeName.cls (some .int) yX13_freeName.name 1 0 0 1065 (t_P (fun v s' => ∃ x, v = some (.int x) ∧ Q ((x, s')))) 15 [(0, .ref 950)] [] (t_m s) 1065 0 0 := by
  refine mj_aload_n dX13_freeName_15 0 rfl ?_
  refine mj_iconst (v := 2) dX13_freeName_16 (by decide) ?_
  refine mj_aload_n dX13_freeName_17 0 rfl ?_
  refine t_getI dX13_freeName_18 F_X13_391 qf_950_6 ?_
  refine t_bndK hk (fun r1 er1 hk => ?_)
  refine t_callVvE dX13_freeName_21 M_X13_fail (C_X13_fail _ _ _ _ er1) ML_X13_411 IM_X13_fail SE_X13_fail qc_950 rfl (As := [.int 2, .int (s.1 950 6)]) rfl rfl (Nat.le_of_ble_eq_true rfl) (Nat.le_of_ble_eq_true rfl) (Nat.le_of_ble_eq_true rfl) (Nat.le_of_ble_eq_true rfl) ?_
  refine mj_iconst (v := 0) dX13_freeName_24 (by decide) ?_
  exact t_somK hk (fun hf => t_iret dX13_freeName_25 rfl rfl ⟨_, rfl, hf⟩ (Nat.le_of_ble_eq_true rfl) (Nat.le_of_ble_eq_true rfl))
noncomputable def f_X13_freeName (s : t_S) : Option (Int32 × t_S) :=
 if (s.1 950 5) = (1 : Int32) then (if (s.1 950 10) < (0 : Int32) then ((f_X13_name s).bind (fun r1 =>
 some (r1.1, r1.2)))
 else (k_X13_freeName_15 s))
 else (k_X13_freeName_15 s)
set_option maxRecDepth 4000 in
set_option maxHeartbeats 1000000 in
theorem C_X13_freeName (s : t_S) (r : Int32 × t_S) (hr : f_X13_freeName s = some r) : t_C yX13_freeName cX13_freeName 1 (some .int) 1 [.ref 950] s (fun v s' => v = some (.int r.1) ∧ s' = r.2) := by
  refine t_C.imp (P := fun v s' => ∃ x, v = some (.int x) ∧ (fun q => q = r) ((x, s'))) (t_C.of (by decide +kernel) (Nat.le_of_ble_eq_true rfl) ?_) (fun v s' hp => by obtain ⟨x, rfl, rfl⟩ := hp; exact ⟨rfl, rfl⟩)
  intro D cy ad bs X
  have hk : t_hk (f_X13_freeName s) (fun q => q = r) := ⟨r, hr, rfl⟩
  show mj_G D cy ad bs X cX13_freeName 1 yX13_freeName.cls (some .int) yX13_freeName.name 1 0 0 1065 (t_P (fun v s' => ∃ x, v = some (.int x) ∧ (fun q => q = r) ((x, s')))) 0 [(0, .ref 950)] [] (t_m s) 1065 0 0
  refine mj_aload_n dX13_freeName_0 0 rfl ?_
  refine t_getI dX13_freeName_1 F_X13_385 qf_950_5 ?_
  refine mj_iconst (v := 1) dX13_freeName_4 (by decide) ?_
  refine mj_icmp_ne 15 dX13_freeName_5 (by decide) (fun z => t_negK hk z (fun hk => ?_)) (fun z => t_posK hk z (fun hk => ?_))
  · exact B_X13_freeName_15 _ _ hk
  · refine mj_aload_n dX13_freeName_8 0 rfl ?_
    refine t_getI dX13_freeName_9 F_X13_397 qf_950_10 ?_
    refine mj_if_lt 26 dX13_freeName_12 (by decide) (fun z => t_posK hk z (fun hk => ?_)) (fun z => t_negK hk z (fun hk => ?_))
    · refine mj_aload_n dX13_freeName_26 0 rfl ?_
      refine t_bndK hk (fun r1 er1 hk => ?_)
      refine t_callViE dX13_freeName_27 M_X13_name (C_X13_name _ _ er1) ML_X13_468 IM_X13_name SE_X13_name qc_950 rfl (As := []) rfl rfl (Nat.le_of_ble_eq_true rfl) (Nat.le_of_ble_eq_true rfl) (Nat.le_of_ble_eq_true rfl) (Nat.le_of_ble_eq_true rfl) ?_
      exact t_somK hk (fun hf => t_iret dX13_freeName_30 rfl rfl ⟨_, rfl, hf⟩ (Nat.le_of_ble_eq_true rfl) (Nat.le_of_ble_eq_true rfl))
    · exact B_X13_freeName_15 _ _ hk

theorem dX13_isOwn_0 : decode cX13_isOwn 0 = .ok (.iconst 0, 1) := by decide +kernel
theorem dX13_isOwn_1 : decode cX13_isOwn 1 = .ok (.istore_n 3, 1) := by decide +kernel
theorem dX13_isOwn_102 : decode cX13_isOwn 102 = .ok (.iload_n 1, 1) := by decide +kernel
theorem dX13_isOwn_103 : decode cX13_isOwn 103 = .ok (.iaload, 1) := by decide +kernel
theorem dX13_isOwn_104 : decode cX13_isOwn 104 = .ok (.if_icmp .ge 35, 3) := by decide +kernel
theorem dX13_isOwn_107 : decode cX13_isOwn 107 = .ok (.iload_n 3, 1) := by decide +kernel
theorem dX13_isOwn_108 : decode cX13_isOwn 108 = .ok (.ifCond .ne 19, 3) := by decide +kernel
theorem dX13_isOwn_11 : decode cX13_isOwn 11 = .ok (.iload_n 1, 1) := by decide +kernel
theorem dX13_isOwn_111 : decode cX13_isOwn 111 = .ok (.aload_n 0, 1) := by decide +kernel
theorem dX13_isOwn_112 : decode cX13_isOwn 112 = .ok (.getfield 87, 3) := by decide +kernel
theorem dX13_isOwn_115 : decode cX13_isOwn 115 = .ok (.bipush 8, 2) := by decide +kernel
theorem dX13_isOwn_117 : decode cX13_isOwn 117 = .ok (.iload_n 1, 1) := by decide +kernel
theorem dX13_isOwn_118 : decode cX13_isOwn 118 = .ok (.imul, 1) := by decide +kernel
theorem dX13_isOwn_119 : decode cX13_isOwn 119 = .ok (.iload 4, 2) := by decide +kernel
theorem dX13_isOwn_12 : decode cX13_isOwn 12 = .ok (.iaload, 1) := by decide +kernel
theorem dX13_isOwn_121 : decode cX13_isOwn 121 = .ok (.iadd, 1) := by decide +kernel
theorem dX13_isOwn_122 : decode cX13_isOwn 122 = .ok (.iaload, 1) := by decide +kernel
theorem dX13_isOwn_123 : decode cX13_isOwn 123 = .ok (.iload_n 2, 1) := by decide +kernel
theorem dX13_isOwn_124 : decode cX13_isOwn 124 = .ok (.if_icmp .ne 7, 3) := by decide +kernel
theorem dX13_isOwn_127 : decode cX13_isOwn 127 = .ok (.iconst 1, 1) := by decide +kernel
theorem dX13_isOwn_128 : decode cX13_isOwn 128 = .ok (.goto 4, 3) := by decide +kernel
theorem dX13_isOwn_13 : decode cX13_isOwn 13 = .ok (.if_icmp .ge 35, 3) := by decide +kernel
theorem dX13_isOwn_131 : decode cX13_isOwn 131 = .ok (.iconst 0, 1) := by decide +kernel
theorem dX13_isOwn_132 : decode cX13_isOwn 132 = .ok (.istore_n 3, 1) := by decide +kernel
theorem dX13_isOwn_133 : decode cX13_isOwn 133 = .ok (.iinc 4 1, 3) := by decide +kernel
theorem dX13_isOwn_136 : decode cX13_isOwn 136 = .ok (.goto (-40), 3) := by decide +kernel
theorem dX13_isOwn_139 : decode cX13_isOwn 139 = .ok (.iload_n 3, 1) := by decide +kernel
theorem dX13_isOwn_140 : decode cX13_isOwn 140 = .ok (.ireturn, 1) := by decide +kernel
theorem dX13_isOwn_16 : decode cX13_isOwn 16 = .ok (.iload_n 3, 1) := by decide +kernel
theorem dX13_isOwn_17 : decode cX13_isOwn 17 = .ok (.ifCond .ne 19, 3) := by decide +kernel
theorem dX13_isOwn_2 : decode cX13_isOwn 2 = .ok (.iconst 0, 1) := by decide +kernel
theorem dX13_isOwn_20 : decode cX13_isOwn 20 = .ok (.aload_n 0, 1) := by decide +kernel
theorem dX13_isOwn_21 : decode cX13_isOwn 21 = .ok (.getfield 75, 3) := by decide +kernel
theorem dX13_isOwn_24 : decode cX13_isOwn 24 = .ok (.bipush 6, 2) := by decide +kernel
theorem dX13_isOwn_26 : decode cX13_isOwn 26 = .ok (.iload_n 1, 1) := by decide +kernel
theorem dX13_isOwn_27 : decode cX13_isOwn 27 = .ok (.imul, 1) := by decide +kernel
theorem dX13_isOwn_28 : decode cX13_isOwn 28 = .ok (.iload 4, 2) := by decide +kernel
theorem dX13_isOwn_3 : decode cX13_isOwn 3 = .ok (.istore 4, 2) := by decide +kernel
theorem dX13_isOwn_30 : decode cX13_isOwn 30 = .ok (.iadd, 1) := by decide +kernel
theorem dX13_isOwn_31 : decode cX13_isOwn 31 = .ok (.iaload, 1) := by decide +kernel
theorem dX13_isOwn_32 : decode cX13_isOwn 32 = .ok (.iload_n 2, 1) := by decide +kernel
theorem dX13_isOwn_33 : decode cX13_isOwn 33 = .ok (.if_icmp .ne 7, 3) := by decide +kernel
theorem dX13_isOwn_36 : decode cX13_isOwn 36 = .ok (.iconst 1, 1) := by decide +kernel
theorem dX13_isOwn_37 : decode cX13_isOwn 37 = .ok (.goto 4, 3) := by decide +kernel
theorem dX13_isOwn_40 : decode cX13_isOwn 40 = .ok (.iconst 0, 1) := by decide +kernel
theorem dX13_isOwn_41 : decode cX13_isOwn 41 = .ok (.istore_n 3, 1) := by decide +kernel
theorem dX13_isOwn_42 : decode cX13_isOwn 42 = .ok (.iinc 4 1, 3) := by decide +kernel
theorem dX13_isOwn_45 : decode cX13_isOwn 45 = .ok (.goto (-40), 3) := by decide +kernel
theorem dX13_isOwn_48 : decode cX13_isOwn 48 = .ok (.iconst 0, 1) := by decide +kernel
theorem dX13_isOwn_49 : decode cX13_isOwn 49 = .ok (.istore 4, 2) := by decide +kernel
theorem dX13_isOwn_5 : decode cX13_isOwn 5 = .ok (.iload 4, 2) := by decide +kernel
theorem dX13_isOwn_51 : decode cX13_isOwn 51 = .ok (.iload 4, 2) := by decide +kernel
theorem dX13_isOwn_53 : decode cX13_isOwn 53 = .ok (.aload_n 0, 1) := by decide +kernel
theorem dX13_isOwn_54 : decode cX13_isOwn 54 = .ok (.getfield 84, 3) := by decide +kernel
theorem dX13_isOwn_57 : decode cX13_isOwn 57 = .ok (.iload_n 1, 1) := by decide +kernel
theorem dX13_isOwn_58 : decode cX13_isOwn 58 = .ok (.iaload, 1) := by decide +kernel
theorem dX13_isOwn_59 : decode cX13_isOwn 59 = .ok (.if_icmp .ge 34, 3) := by decide +kernel
theorem dX13_isOwn_62 : decode cX13_isOwn 62 = .ok (.iload_n 3, 1) := by decide +kernel
theorem dX13_isOwn_63 : decode cX13_isOwn 63 = .ok (.ifCond .ne 18, 3) := by decide +kernel
theorem dX13_isOwn_66 : decode cX13_isOwn 66 = .ok (.aload_n 0, 1) := by decide +kernel
theorem dX13_isOwn_67 : decode cX13_isOwn 67 = .ok (.getfield 81, 3) := by decide +kernel
theorem dX13_isOwn_7 : decode cX13_isOwn 7 = .ok (.aload_n 0, 1) := by decide +kernel
theorem dX13_isOwn_70 : decode cX13_isOwn 70 = .ok (.iconst 4, 1) := by decide +kernel
theorem dX13_isOwn_71 : decode cX13_isOwn 71 = .ok (.iload_n 1, 1) := by decide +kernel
theorem dX13_isOwn_72 : decode cX13_isOwn 72 = .ok (.imul, 1) := by decide +kernel
theorem dX13_isOwn_73 : decode cX13_isOwn 73 = .ok (.iload 4, 2) := by decide +kernel
theorem dX13_isOwn_75 : decode cX13_isOwn 75 = .ok (.iadd, 1) := by decide +kernel
theorem dX13_isOwn_76 : decode cX13_isOwn 76 = .ok (.iaload, 1) := by decide +kernel
theorem dX13_isOwn_77 : decode cX13_isOwn 77 = .ok (.iload_n 2, 1) := by decide +kernel
theorem dX13_isOwn_78 : decode cX13_isOwn 78 = .ok (.if_icmp .ne 7, 3) := by decide +kernel
theorem dX13_isOwn_8 : decode cX13_isOwn 8 = .ok (.getfield 78, 3) := by decide +kernel
theorem dX13_isOwn_81 : decode cX13_isOwn 81 = .ok (.iconst 1, 1) := by decide +kernel
theorem dX13_isOwn_82 : decode cX13_isOwn 82 = .ok (.goto 4, 3) := by decide +kernel
theorem dX13_isOwn_85 : decode cX13_isOwn 85 = .ok (.iconst 0, 1) := by decide +kernel
theorem dX13_isOwn_86 : decode cX13_isOwn 86 = .ok (.istore_n 3, 1) := by decide +kernel
theorem dX13_isOwn_87 : decode cX13_isOwn 87 = .ok (.iinc 4 1, 3) := by decide +kernel
theorem dX13_isOwn_90 : decode cX13_isOwn 90 = .ok (.goto (-39), 3) := by decide +kernel
theorem dX13_isOwn_93 : decode cX13_isOwn 93 = .ok (.iconst 0, 1) := by decide +kernel
theorem dX13_isOwn_94 : decode cX13_isOwn 94 = .ok (.istore 4, 2) := by decide +kernel
theorem dX13_isOwn_96 : decode cX13_isOwn 96 = .ok (.iload 4, 2) := by decide +kernel
theorem dX13_isOwn_98 : decode cX13_isOwn 98 = .ok (.aload_n 0, 1) := by decide +kernel
theorem dX13_isOwn_99 : decode cX13_isOwn 99 = .ok (.getfield 99, 3) := by decide +kernel
noncomputable def k_X13_isOwn_41 (l1 : Int32) (l2 : Int32) (l4 : Int32) (k0 : Int32) (s : t_S) : Option ((Int32 × Int32 × Int32 × Int32) ⊕ (Int32)) :=
 some (.inl (l1, l2, k0, (l4 + 1)))
set_option maxRecDepth 4000 in
set_option maxHeartbeats 1000000 in
theorem B_X13_isOwn_41 {D : va_G} {cy : Nat → ClassId} {ad : Nat → Nat} {bs : Nat} {X : State → Heap → Prop} (l1 : Int32) (l2 : Int32) (l4 : Int32) (k0 : Int32) (s : t_S) (Q : (Int32 × Int32 × Int32 × Int32) ⊕ (Int32) → Prop) (Hb5 : ∀ (y0 : Int32) (y1 : Int32) (y2 : Int32) (y3 : Int32), Q (.inl (y0, y1, y2, y3)) → mj_G D cy ad bs X cX13_isOwn 5 yX13_isOwn.cls (some .boolean) yX13_isOwn.name 0 0 0 1065 (t_P (fun v s' => s' = s ∧ ∃ x, v = some (.int x) ∧ Q (.inr (x)))) 5 [(0, .ref 950), (1, .int (y0)), (2, .int (y1)), (3, .int (y2)), (4, .int (y3))] [] (t_m s) 1065 0 0) (hk : t_hk (k_X13_isOwn_41 l1 l2 l4 k0 s) Q) : mj_G D cy ad bs X cX13_isOwn 5 yX13_isOwn.cls (some .boolean) yX13_isOwn.name 0 0 0 1065 (t_P (fun v s' => s' = s ∧ ∃ x, v = some (.int x) ∧ Q (.inr (x)))) 41 [(0, .ref 950), (1, .int l1), (2, .int l2), (4, .int l4)] [.int k0] (t_m s) 1065 0 0 := by
  refine mj_istore_n 3 (lv2 := [(3, .int k0), (0, .ref 950), (1, .int l1), (2, .int l2), (4, .int l4)]) dX13_isOwn_41 rfl (by decide) rfl ?_
  refine mj_iinc (k := 4) (v := (l4 + 1)) (lv2 := [(4, .int (l4 + 1)), (3, .int k0), (0, .ref 950), (1, .int l1), (2, .int l2)]) dX13_isOwn_42 rfl rfl (by decide) rfl ?_
  refine mj_goto 5 dX13_isOwn_45 (by decide) ?_
  refine mj_sublv [(0, .ref 950), (1, .int l1), (2, .int l2), (3, .int k0), (4, .int (l4 + 1))] [2, 3, 4, 1, 0] rfl ?_
  exact t_somK hk (fun hf => Hb5 l1 l2 k0 (l4 + 1) hf)
noncomputable def k_X13_isOwn_132 (l1 : Int32) (l2 : Int32) (l4 : Int32) (k0 : Int32) (s : t_S) : Option ((Int32 × Int32 × Int32 × Int32) ⊕ (Int32)) :=
 some (.inl (l1, l2, k0, (l4 + 1)))
set_option maxRecDepth 4000 in
set_option maxHeartbeats 1000000 in
theorem B_X13_isOwn_132 {D : va_G} {cy : Nat → ClassId} {ad : Nat → Nat} {bs : Nat} {X : State → Heap → Prop} (l1 : Int32) (l2 : Int32) (l4 : Int32) (k0 : Int32) (s : t_S) (Q : (Int32 × Int32 × Int32 × Int32) ⊕ (Int32) → Prop) (Hb96 : ∀ (y0 : Int32) (y1 : Int32) (y2 : Int32) (y3 : Int32), Q (.inl (y0, y1, y2, y3)) → mj_G D cy ad bs X cX13_isOwn 5 yX13_isOwn.cls (some .boolean) yX13_isOwn.name 0 0 0 1065 (t_P (fun v s' => s' = s ∧ ∃ x, v = some (.int x) ∧ Q (.inr (x)))) 96 [(0, .ref 950), (1, .int (y0)), (2, .int (y1)), (3, .int (y2)), (4, .int (y3))] [] (t_m s) 1065 0 0) (hk : t_hk (k_X13_isOwn_132 l1 l2 l4 k0 s) Q) : mj_G D cy ad bs X cX13_isOwn 5 yX13_isOwn.cls (some .boolean) yX13_isOwn.name 0 0 0 1065 (t_P (fun v s' => s' = s ∧ ∃ x, v = some (.int x) ∧ Q (.inr (x)))) 132 [(0, .ref 950), (1, .int l1), (2, .int l2), (4, .int l4)] [.int k0] (t_m s) 1065 0 0 := by
  refine mj_istore_n 3 (lv2 := [(3, .int k0), (0, .ref 950), (1, .int l1), (2, .int l2), (4, .int l4)]) dX13_isOwn_132 rfl (by decide) rfl ?_
  refine mj_iinc (k := 4) (v := (l4 + 1)) (lv2 := [(4, .int (l4 + 1)), (3, .int k0), (0, .ref 950), (1, .int l1), (2, .int l2)]) dX13_isOwn_133 rfl rfl (by decide) rfl ?_
  refine mj_goto 96 dX13_isOwn_136 (by decide) ?_
  refine mj_sublv [(0, .ref 950), (1, .int l1), (2, .int l2), (3, .int k0), (4, .int (l4 + 1))] [2, 3, 4, 1, 0] rfl ?_
  exact t_somK hk (fun hf => Hb96 l1 l2 k0 (l4 + 1) hf)
noncomputable def k_X13_isOwn_127 (l1 : Int32) (l2 : Int32) (l4 : Int32) (s : t_S) : Option ((Int32 × Int32 × Int32 × Int32) ⊕ (Int32)) :=
 k_X13_isOwn_132 l1 l2 l4 1 s
set_option maxRecDepth 4000 in
set_option maxHeartbeats 1000000 in
theorem B_X13_isOwn_127 {D : va_G} {cy : Nat → ClassId} {ad : Nat → Nat} {bs : Nat} {X : State → Heap → Prop} (l1 : Int32) (l2 : Int32) (l4 : Int32) (s : t_S) (Q : (Int32 × Int32 × Int32 × Int32) ⊕ (Int32) → Prop) (Hb96 : ∀ (y0 : Int32) (y1 : Int32) (y2 : Int32) (y3 : Int32), Q (.inl (y0, y1, y2, y3)) → mj_G D cy ad bs X cX13_isOwn 5 yX13_isOwn.cls (some .boolean) yX13_isOwn.name 0 0 0 1065 (t_P (fun v s' => s' = s ∧ ∃ x, v = some (.int x) ∧ Q (.inr (x)))) 96 [(0, .ref 950), (1, .int (y0)), (2, .int (y1)), (3, .int (y2)), (4, .int (y3))] [] (t_m s) 1065 0 0) (hk : t_hk (k_X13_isOwn_127 l1 l2 l4 s) Q) : mj_G D cy ad bs X cX13_isOwn 5 yX13_isOwn.cls (some .boolean) yX13_isOwn.name 0 0 0 1065 (t_P (fun v s' => s' = s ∧ ∃ x, v = some (.int x) ∧ Q (.inr (x)))) 127 [(0, .ref 950), (1, .int l1), (2, .int l2), (4, .int l4)] [] (t_m s) 1065 0 0 := by
  refine mj_iconst (v := 1) dX13_isOwn_127 (by decide) ?_
  refine mj_goto 132 dX13_isOwn_128 (by decide) ?_
  exact B_X13_isOwn_132 _ _ _ _ _ _ (fun y0 y1 y2 y3 hx => Hb96 y0 y1 y2 y3 hx) hk
noncomputable def k_X13_isOwn_96 (l1 : Int32) (l2 : Int32) (l3 : Int32) (l4 : Int32) (s : t_S) : Option ((Int32 × Int32 × Int32 × Int32) ⊕ (Int32)) :=
 if t_ix l1 8 = true then
  if (s.1 979 (l1.toNatClampNeg)) ≤ l4 then ((if l3 = 0 ∨ l3 = 1 then
  some (l3)
else none).map Sum.inr)
 else (if l3 = (0 : Int32) then (if t_ix (((8 : Int32) * l1) + l4) 64 = true then
  if (s.1 975 ((((8 : Int32) * l1) + l4).toNatClampNeg)) = l2 then (k_X13_isOwn_127 l1 l2 l4 s)
 else (k_X13_isOwn_132 l1 l2 l4 0 s)
else none)
 else (k_X13_isOwn_127 l1 l2 l4 s))
else none
set_option maxRecDepth 4000 in
set_option maxHeartbeats 1000000 in
theorem B_X13_isOwn_96 {D : va_G} {cy : Nat → ClassId} {ad : Nat → Nat} {bs : Nat} {X : State → Heap → Prop} (l1 : Int32) (l2 : Int32) (l3 : Int32) (l4 : Int32) (s : t_S) (Q : (Int32 × Int32 × Int32 × Int32) ⊕ (Int32) → Prop) (Hb96 : ∀ (y0 : Int32) (y1 : Int32) (y2 : Int32) (y3 : Int32), Q (.inl (y0, y1, y2, y3)) → mj_G D cy ad bs X cX13_isOwn 5 yX13_isOwn.cls (some .boolean) yX13_isOwn.name 0 0 0 1065 (t_P (fun v s' => s' = s ∧ ∃ x, v = some (.int x) ∧ Q (.inr (x)))) 96 [(0, .ref 950), (1, .int (y0)), (2, .int (y1)), (3, .int (y2)), (4, .int (y3))] [] (t_m s) 1065 0 0) (hk : t_hk (k_X13_isOwn_96 l1 l2 l3 l4 s) Q) : mj_G D cy ad bs X cX13_isOwn 5 yX13_isOwn.cls (some .boolean) yX13_isOwn.name 0 0 0 1065 (t_P (fun v s' => s' = s ∧ ∃ x, v = some (.int x) ∧ Q (.inr (x)))) 96 [(0, .ref 950), (1, .int l1), (2, .int l2), (3, .int l3), (4, .int l4)] [] (t_m s) 1065 0 0 := by
  refine mj_iload dX13_isOwn_96 4 rfl ?_
  refine mj_aload_n dX13_isOwn_98 0 rfl ?_
  refine t_getR 979 dX13_isOwn_99 F_X13_99 qr_950_54 ?_
  refine mj_iload_n dX13_isOwn_102 1 rfl ?_
  refine t_chkK hk (fun c0 hk => ?_)
  refine t_iald dX13_isOwn_103 qa_979 (t_ixv c0) ?_
  refine mj_icmp_ge 139 dX13_isOwn_104 (by decide) (fun z => t_posK hk z (fun hk => ?_)) (fun z => t_negK hk z (fun hk => ?_))
  · refine t_mapK hk (fun hk => ?_)
    refine mj_iload_n dX13_isOwn_139 3 rfl ?_
    refine t_chkK hk (fun c1 hk => ?_)
    exact t_somK hk (fun hf => t_iret dX13_isOwn_140 rfl (t_zfit c1) ⟨rfl, _, rfl, hf⟩ (Nat.le_of_ble_eq_true rfl) (Nat.le_of_ble_eq_true rfl))
  · refine mj_iload_n dX13_isOwn_107 3 rfl ?_
    refine mj_if_ne 127 dX13_isOwn_108 (by decide) (fun z => t_negK hk z (fun hk => ?_)) (fun z => t_posK hk z (fun hk => ?_))
    · refine mj_sublv [(0, .ref 950), (1, .int l1), (2, .int l2), (4, .int l4)] [0, 1, 2, 4] rfl ?_
      exact B_X13_isOwn_127 _ _ _ _ _ (fun y0 y1 y2 y3 hx => Hb96 y0 y1 y2 y3 hx) hk
    · refine mj_aload_n dX13_isOwn_111 0 rfl ?_
      refine t_getR 975 dX13_isOwn_112 F_X13_87 qr_950_50 ?_
      refine mj_bipush (v := 8) dX13_isOwn_115 (by decide) ?_
      refine mj_iload_n dX13_isOwn_117 1 rfl ?_
      refine mj_imul dX13_isOwn_118 ?_
      refine mj_iload dX13_isOwn_119 4 rfl ?_
      refine mj_iadd dX13_isOwn_121 ?_
      refine t_chkK hk (fun c2 hk => ?_)
      refine t_iald dX13_isOwn_122 qa_975 (t_ixv c2) ?_
      refine mj_iload_n dX13_isOwn_123 2 rfl ?_
      refine mj_icmp_ne 131 dX13_isOwn_124 (by decide) (fun z => t_negK hk z (fun hk => ?_)) (fun z => t_posK hk z (fun hk => ?_))
      · refine mj_iconst (v := 0) dX13_isOwn_131 (by decide) ?_
        refine mj_sublv [(0, .ref 950), (1, .int l1), (2, .int l2), (4, .int l4)] [0, 1, 2, 4] rfl ?_
        exact B_X13_isOwn_132 _ _ _ _ _ _ (fun y0 y1 y2 y3 hx => Hb96 y0 y1 y2 y3 hx) hk
      · refine mj_sublv [(0, .ref 950), (1, .int l1), (2, .int l2), (4, .int l4)] [0, 1, 2, 4] rfl ?_
        exact B_X13_isOwn_127 _ _ _ _ _ (fun y0 y1 y2 y3 hx => Hb96 y0 y1 y2 y3 hx) hk
noncomputable def b_X13_isOwn_96 (s : t_S) (x : Int32 × Int32 × Int32 × Int32) : Option ((Int32 × Int32 × Int32 × Int32) ⊕ (Int32)) := k_X13_isOwn_96 x.1 x.2.1 x.2.2.1 x.2.2.2 s
set_option maxRecDepth 4000 in
set_option maxHeartbeats 1000000 in
theorem LH_X13_isOwn_96 {D : va_G} {cy : Nat → ClassId} {ad : Nat → Nat} {bs : Nat} {X : State → Heap → Prop} (s : t_S) : ∀ (n : Nat) (y0 : Int32) (y1 : Int32) (y2 : Int32) (y3 : Int32) (Q : Int32 → Prop) (hk : t_hk (t_loop (b_X13_isOwn_96 s) n (y0, y1, y2, y3)) Q), mj_G D cy ad bs X cX13_isOwn 5 yX13_isOwn.cls (some .boolean) yX13_isOwn.name 0 0 0 1065 (t_P (fun v s' => s' = s ∧ ∃ x, v = some (.int x) ∧ Q (x))) 96 [(0, .ref 950), (1, .int (y0)), (2, .int (y1)), (3, .int (y2)), (4, .int (y3))] [] (t_m s) 1065 0 0 := by
  intro n
  induction n with
  | zero => intro y0 y1 y2 y3 Q hk; obtain ⟨r, hr, _⟩ := hk; cases hr
  | succ n ih =>
    intro y0 y1 y2 y3 Q hk
    exact B_X13_isOwn_96 y0 y1 y2 y3 s (fun y => t_lq (b_X13_isOwn_96 s) n Q y) (fun y0' y1' y2' y3' hy => ih y0' y1' y2' y3' Q hy) (t_lp hk)
noncomputable def k_X13_isOwn_86 (l1 : Int32) (l2 : Int32) (l4 : Int32) (k0 : Int32) (s : t_S) : Option ((Int32 × Int32 × Int32 × Int32) ⊕ (Int32)) :=
 some (.inl (l1, l2, k0, (l4 + 1)))
set_option maxRecDepth 4000 in
set_option maxHeartbeats 1000000 in
theorem B_X13_isOwn_86 {D : va_G} {cy : Nat → ClassId} {ad : Nat → Nat} {bs : Nat} {X : State → Heap → Prop} (l1 : Int32) (l2 : Int32) (l4 : Int32) (k0 : Int32) (s : t_S) (Q : (Int32 × Int32 × Int32 × Int32) ⊕ (Int32) → Prop) (Hb51 : ∀ (y0 : Int32) (y1 : Int32) (y2 : Int32) (y3 : Int32), Q (.inl (y0, y1, y2, y3)) → mj_G D cy ad bs X cX13_isOwn 5 yX13_isOwn.cls (some .boolean) yX13_isOwn.name 0 0 0 1065 (t_P (fun v s' => s' = s ∧ ∃ x, v = some (.int x) ∧ Q (.inr (x)))) 51 [(0, .ref 950), (1, .int (y0)), (2, .int (y1)), (3, .int (y2)), (4, .int (y3))] [] (t_m s) 1065 0 0) (hk : t_hk (k_X13_isOwn_86 l1 l2 l4 k0 s) Q) : mj_G D cy ad bs X cX13_isOwn 5 yX13_isOwn.cls (some .boolean) yX13_isOwn.name 0 0 0 1065 (t_P (fun v s' => s' = s ∧ ∃ x, v = some (.int x) ∧ Q (.inr (x)))) 86 [(0, .ref 950), (1, .int l1), (2, .int l2), (4, .int l4)] [.int k0] (t_m s) 1065 0 0 := by
  refine mj_istore_n 3 (lv2 := [(3, .int k0), (0, .ref 950), (1, .int l1), (2, .int l2), (4, .int l4)]) dX13_isOwn_86 rfl (by decide) rfl ?_
  refine mj_iinc (k := 4) (v := (l4 + 1)) (lv2 := [(4, .int (l4 + 1)), (3, .int k0), (0, .ref 950), (1, .int l1), (2, .int l2)]) dX13_isOwn_87 rfl rfl (by decide) rfl ?_
  refine mj_goto 51 dX13_isOwn_90 (by decide) ?_
  refine mj_sublv [(0, .ref 950), (1, .int l1), (2, .int l2), (3, .int k0), (4, .int (l4 + 1))] [2, 3, 4, 1, 0] rfl ?_
  exact t_somK hk (fun hf => Hb51 l1 l2 k0 (l4 + 1) hf)
noncomputable def k_X13_isOwn_81 (l1 : Int32) (l2 : Int32) (l4 : Int32) (s : t_S) : Option ((Int32 × Int32 × Int32 × Int32) ⊕ (Int32)) :=
 k_X13_isOwn_86 l1 l2 l4 1 s
set_option maxRecDepth 4000 in
set_option maxHeartbeats 1000000 in
theorem B_X13_isOwn_81 {D : va_G} {cy : Nat → ClassId} {ad : Nat → Nat} {bs : Nat} {X : State → Heap → Prop} (l1 : Int32) (l2 : Int32) (l4 : Int32) (s : t_S) (Q : (Int32 × Int32 × Int32 × Int32) ⊕ (Int32) → Prop) (Hb51 : ∀ (y0 : Int32) (y1 : Int32) (y2 : Int32) (y3 : Int32), Q (.inl (y0, y1, y2, y3)) → mj_G D cy ad bs X cX13_isOwn 5 yX13_isOwn.cls (some .boolean) yX13_isOwn.name 0 0 0 1065 (t_P (fun v s' => s' = s ∧ ∃ x, v = some (.int x) ∧ Q (.inr (x)))) 51 [(0, .ref 950), (1, .int (y0)), (2, .int (y1)), (3, .int (y2)), (4, .int (y3))] [] (t_m s) 1065 0 0) (hk : t_hk (k_X13_isOwn_81 l1 l2 l4 s) Q) : mj_G D cy ad bs X cX13_isOwn 5 yX13_isOwn.cls (some .boolean) yX13_isOwn.name 0 0 0 1065 (t_P (fun v s' => s' = s ∧ ∃ x, v = some (.int x) ∧ Q (.inr (x)))) 81 [(0, .ref 950), (1, .int l1), (2, .int l2), (4, .int l4)] [] (t_m s) 1065 0 0 := by
  refine mj_iconst (v := 1) dX13_isOwn_81 (by decide) ?_
  refine mj_goto 86 dX13_isOwn_82 (by decide) ?_
  exact B_X13_isOwn_86 _ _ _ _ _ _ (fun y0 y1 y2 y3 hx => Hb51 y0 y1 y2 y3 hx) hk
noncomputable def k_X13_isOwn_51 (l1 : Int32) (l2 : Int32) (l3 : Int32) (l4 : Int32) (s : t_S) : Option ((Int32 × Int32 × Int32 × Int32) ⊕ (Int32)) :=
 if t_ix l1 8 = true then
  if (s.1 974 (l1.toNatClampNeg)) ≤ l4 then ((t_loop (b_X13_isOwn_96 s) t_N (l1, l2, l3, 0)).map Sum.inr)
 else (if l3 = (0 : Int32) then (if t_ix (((4 : Int32) * l1) + l4) 32 = true then
  if (s.1 973 ((((4 : Int32) * l1) + l4).toNatClampNeg)) = l2 then (k_X13_isOwn_81 l1 l2 l4 s)
 else (k_X13_isOwn_86 l1 l2 l4 0 s)
else none)
 else (k_X13_isOwn_81 l1 l2 l4 s))
else none
set_option maxRecDepth 4000 in
set_option maxHeartbeats 1000000 in
theorem B_X13_isOwn_51 {D : va_G} {cy : Nat → ClassId} {ad : Nat → Nat} {bs : Nat} {X : State → Heap → Prop} (l1 : Int32) (l2 : Int32) (l3 : Int32) (l4 : Int32) (s : t_S) (Q : (Int32 × Int32 × Int32 × Int32) ⊕ (Int32) → Prop) (Hb51 : ∀ (y0 : Int32) (y1 : Int32) (y2 : Int32) (y3 : Int32), Q (.inl (y0, y1, y2, y3)) → mj_G D cy ad bs X cX13_isOwn 5 yX13_isOwn.cls (some .boolean) yX13_isOwn.name 0 0 0 1065 (t_P (fun v s' => s' = s ∧ ∃ x, v = some (.int x) ∧ Q (.inr (x)))) 51 [(0, .ref 950), (1, .int (y0)), (2, .int (y1)), (3, .int (y2)), (4, .int (y3))] [] (t_m s) 1065 0 0) (hk : t_hk (k_X13_isOwn_51 l1 l2 l3 l4 s) Q) : mj_G D cy ad bs X cX13_isOwn 5 yX13_isOwn.cls (some .boolean) yX13_isOwn.name 0 0 0 1065 (t_P (fun v s' => s' = s ∧ ∃ x, v = some (.int x) ∧ Q (.inr (x)))) 51 [(0, .ref 950), (1, .int l1), (2, .int l2), (3, .int l3), (4, .int l4)] [] (t_m s) 1065 0 0 := by
  refine mj_iload dX13_isOwn_51 4 rfl ?_
  refine mj_aload_n dX13_isOwn_53 0 rfl ?_
  refine t_getR 974 dX13_isOwn_54 F_X13_84 qr_950_49 ?_
  refine mj_iload_n dX13_isOwn_57 1 rfl ?_
  refine t_chkK hk (fun c0 hk => ?_)
  refine t_iald dX13_isOwn_58 qa_974 (t_ixv c0) ?_
  refine mj_icmp_ge 93 dX13_isOwn_59 (by decide) (fun z => t_posK hk z (fun hk => ?_)) (fun z => t_negK hk z (fun hk => ?_))
  · refine t_mapK hk (fun hk => ?_)
    refine mj_iconst (v := 0) dX13_isOwn_93 (by decide) ?_
    refine mj_istore (lv2 := [(4, .int 0), (0, .ref 950), (1, .int l1), (2, .int l2), (3, .int l3)]) dX13_isOwn_94 (by decide) rfl ?_
    refine mj_sublv [(0, .ref 950), (1, .int l1), (2, .int l2), (3, .int l3), (4, .int 0)] [1, 2, 3, 4, 0] rfl ?_
    exact LH_X13_isOwn_96 _ _ l1 l2 l3 0 _ hk
  · refine mj_iload_n dX13_isOwn_62 3 rfl ?_
    refine mj_if_ne 81 dX13_isOwn_63 (by decide) (fun z => t_negK hk z (fun hk => ?_)) (fun z => t_posK hk z (fun hk => ?_))
    · refine mj_sublv [(0, .ref 950), (1, .int l1), (2, .int l2), (4, .int l4)] [0, 1, 2, 4] rfl ?_
      exact B_X13_isOwn_81 _ _ _ _ _ (fun y0 y1 y2 y3 hx => Hb51 y0 y1 y2 y3 hx) hk
    · refine mj_aload_n dX13_isOwn_66 0 rfl ?_
      refine t_getR 973 dX13_isOwn_67 F_X13_81 qr_950_48 ?_
      refine mj_iconst (v := 4) dX13_isOwn_70 (by decide) ?_
      refine mj_iload_n dX13_isOwn_71 1 rfl ?_
      refine mj_imul dX13_isOwn_72 ?_
      refine mj_iload dX13_isOwn_73 4 rfl ?_
      refine mj_iadd dX13_isOwn_75 ?_
      refine t_chkK hk (fun c1 hk => ?_)
      refine t_iald dX13_isOwn_76 qa_973 (t_ixv c1) ?_
      refine mj_iload_n dX13_isOwn_77 2 rfl ?_
      refine mj_icmp_ne 85 dX13_isOwn_78 (by decide) (fun z => t_negK hk z (fun hk => ?_)) (fun z => t_posK hk z (fun hk => ?_))
      · refine mj_iconst (v := 0) dX13_isOwn_85 (by decide) ?_
        refine mj_sublv [(0, .ref 950), (1, .int l1), (2, .int l2), (4, .int l4)] [0, 1, 2, 4] rfl ?_
        exact B_X13_isOwn_86 _ _ _ _ _ _ (fun y0 y1 y2 y3 hx => Hb51 y0 y1 y2 y3 hx) hk
      · refine mj_sublv [(0, .ref 950), (1, .int l1), (2, .int l2), (4, .int l4)] [0, 1, 2, 4] rfl ?_
        exact B_X13_isOwn_81 _ _ _ _ _ (fun y0 y1 y2 y3 hx => Hb51 y0 y1 y2 y3 hx) hk
noncomputable def b_X13_isOwn_51 (s : t_S) (x : Int32 × Int32 × Int32 × Int32) : Option ((Int32 × Int32 × Int32 × Int32) ⊕ (Int32)) := k_X13_isOwn_51 x.1 x.2.1 x.2.2.1 x.2.2.2 s
set_option maxRecDepth 4000 in
set_option maxHeartbeats 1000000 in
theorem LH_X13_isOwn_51 {D : va_G} {cy : Nat → ClassId} {ad : Nat → Nat} {bs : Nat} {X : State → Heap → Prop} (s : t_S) : ∀ (n : Nat) (y0 : Int32) (y1 : Int32) (y2 : Int32) (y3 : Int32) (Q : Int32 → Prop) (hk : t_hk (t_loop (b_X13_isOwn_51 s) n (y0, y1, y2, y3)) Q), mj_G D cy ad bs X cX13_isOwn 5 yX13_isOwn.cls (some .boolean) yX13_isOwn.name 0 0 0 1065 (t_P (fun v s' => s' = s ∧ ∃ x, v = some (.int x) ∧ Q (x))) 51 [(0, .ref 950), (1, .int (y0)), (2, .int (y1)), (3, .int (y2)), (4, .int (y3))] [] (t_m s) 1065 0 0 := by
  intro n
  induction n with
  | zero => intro y0 y1 y2 y3 Q hk; obtain ⟨r, hr, _⟩ := hk; cases hr
  | succ n ih =>
    intro y0 y1 y2 y3 Q hk
    exact B_X13_isOwn_51 y0 y1 y2 y3 s (fun y => t_lq (b_X13_isOwn_51 s) n Q y) (fun y0' y1' y2' y3' hy => ih y0' y1' y2' y3' Q hy) (t_lp hk)
noncomputable def k_X13_isOwn_36 (l1 : Int32) (l2 : Int32) (l4 : Int32) (s : t_S) : Option ((Int32 × Int32 × Int32 × Int32) ⊕ (Int32)) :=
 k_X13_isOwn_41 l1 l2 l4 1 s
set_option maxRecDepth 4000 in
set_option maxHeartbeats 1000000 in
theorem B_X13_isOwn_36 {D : va_G} {cy : Nat → ClassId} {ad : Nat → Nat} {bs : Nat} {X : State → Heap → Prop} (l1 : Int32) (l2 : Int32) (l4 : Int32) (s : t_S) (Q : (Int32 × Int32 × Int32 × Int32) ⊕ (Int32) → Prop) (Hb5 : ∀ (y0 : Int32) (y1 : Int32) (y2 : Int32) (y3 : Int32), Q (.inl (y0, y1, y2, y3)) → mj_G D cy ad bs X cX13_isOwn 5 yX13_isOwn.cls (some .boolean) yX13_isOwn.name 0 0 0 1065 (t_P (fun v s' => s' = s ∧ ∃ x, v = some (.int x) ∧ Q (.inr (x)))) 5 [(0, .ref 950), (1, .int (y0)), (2, .int (y1)), (3, .int (y2)), (4, .int (y3))] [] (t_m s) 1065 0 0) (hk : t_hk (k_X13_isOwn_36 l1 l2 l4 s) Q) : mj_G D cy ad bs X cX13_isOwn 5 yX13_isOwn.cls (some .boolean) yX13_isOwn.name 0 0 0 1065 (t_P (fun v s' => s' = s ∧ ∃ x, v = some (.int x) ∧ Q (.inr (x)))) 36 [(0, .ref 950), (1, .int l1), (2, .int l2), (4, .int l4)] [] (t_m s) 1065 0 0 := by
  refine mj_iconst (v := 1) dX13_isOwn_36 (by decide) ?_
  refine mj_goto 41 dX13_isOwn_37 (by decide) ?_
  exact B_X13_isOwn_41 _ _ _ _ _ _ (fun y0 y1 y2 y3 hx => Hb5 y0 y1 y2 y3 hx) hk
noncomputable def k_X13_isOwn_5 (l1 : Int32) (l2 : Int32) (l3 : Int32) (l4 : Int32) (s : t_S) : Option ((Int32 × Int32 × Int32 × Int32) ⊕ (Int32)) :=
 if t_ix l1 8 = true then
  if (s.1 972 (l1.toNatClampNeg)) ≤ l4 then ((t_loop (b_X13_isOwn_51 s) t_N (l1, l2, l3, 0)).map Sum.inr)
 else (if l3 = (0 : Int32) then (if t_ix (((6 : Int32) * l1) + l4) 48 = true then
  if (s.1 971 ((((6 : Int32) * l1) + l4).toNatClampNeg)) = l2 then (k_X13_isOwn_36 l1 l2 l4 s)
 else (k_X13_isOwn_41 l1 l2 l4 0 s)
else none)
 else (k_X13_isOwn_36 l1 l2 l4 s))
else none
set_option maxRecDepth 4000 in
set_option maxHeartbeats 1000000 in
theorem B_X13_isOwn_5 {D : va_G} {cy : Nat → ClassId} {ad : Nat → Nat} {bs : Nat} {X : State → Heap → Prop} (l1 : Int32) (l2 : Int32) (l3 : Int32) (l4 : Int32) (s : t_S) (Q : (Int32 × Int32 × Int32 × Int32) ⊕ (Int32) → Prop) (Hb5 : ∀ (y0 : Int32) (y1 : Int32) (y2 : Int32) (y3 : Int32), Q (.inl (y0, y1, y2, y3)) → mj_G D cy ad bs X cX13_isOwn 5 yX13_isOwn.cls (some .boolean) yX13_isOwn.name 0 0 0 1065 (t_P (fun v s' => s' = s ∧ ∃ x, v = some (.int x) ∧ Q (.inr (x)))) 5 [(0, .ref 950), (1, .int (y0)), (2, .int (y1)), (3, .int (y2)), (4, .int (y3))] [] (t_m s) 1065 0 0) (hk : t_hk (k_X13_isOwn_5 l1 l2 l3 l4 s) Q) : mj_G D cy ad bs X cX13_isOwn 5 yX13_isOwn.cls (some .boolean) yX13_isOwn.name 0 0 0 1065 (t_P (fun v s' => s' = s ∧ ∃ x, v = some (.int x) ∧ Q (.inr (x)))) 5 [(0, .ref 950), (1, .int l1), (2, .int l2), (3, .int l3), (4, .int l4)] [] (t_m s) 1065 0 0 := by
  refine mj_iload dX13_isOwn_5 4 rfl ?_
  refine mj_aload_n dX13_isOwn_7 0 rfl ?_
  refine t_getR 972 dX13_isOwn_8 F_X13_78 qr_950_47 ?_
  refine mj_iload_n dX13_isOwn_11 1 rfl ?_
  refine t_chkK hk (fun c0 hk => ?_)
  refine t_iald dX13_isOwn_12 qa_972 (t_ixv c0) ?_
  refine mj_icmp_ge 48 dX13_isOwn_13 (by decide) (fun z => t_posK hk z (fun hk => ?_)) (fun z => t_negK hk z (fun hk => ?_))
  · refine t_mapK hk (fun hk => ?_)
    refine mj_iconst (v := 0) dX13_isOwn_48 (by decide) ?_
    refine mj_istore (lv2 := [(4, .int 0), (0, .ref 950), (1, .int l1), (2, .int l2), (3, .int l3)]) dX13_isOwn_49 (by decide) rfl ?_
    refine mj_sublv [(0, .ref 950), (1, .int l1), (2, .int l2), (3, .int l3), (4, .int 0)] [1, 2, 3, 4, 0] rfl ?_
    exact LH_X13_isOwn_51 _ _ l1 l2 l3 0 _ hk
  · refine mj_iload_n dX13_isOwn_16 3 rfl ?_
    refine mj_if_ne 36 dX13_isOwn_17 (by decide) (fun z => t_negK hk z (fun hk => ?_)) (fun z => t_posK hk z (fun hk => ?_))
    · refine mj_sublv [(0, .ref 950), (1, .int l1), (2, .int l2), (4, .int l4)] [0, 1, 2, 4] rfl ?_
      exact B_X13_isOwn_36 _ _ _ _ _ (fun y0 y1 y2 y3 hx => Hb5 y0 y1 y2 y3 hx) hk
    · refine mj_aload_n dX13_isOwn_20 0 rfl ?_
      refine t_getR 971 dX13_isOwn_21 F_X13_75 qr_950_46 ?_
      refine mj_bipush (v := 6) dX13_isOwn_24 (by decide) ?_
      refine mj_iload_n dX13_isOwn_26 1 rfl ?_
      refine mj_imul dX13_isOwn_27 ?_
      refine mj_iload dX13_isOwn_28 4 rfl ?_
      refine mj_iadd dX13_isOwn_30 ?_
      refine t_chkK hk (fun c1 hk => ?_)
      refine t_iald dX13_isOwn_31 qa_971 (t_ixv c1) ?_
      refine mj_iload_n dX13_isOwn_32 2 rfl ?_
      refine mj_icmp_ne 40 dX13_isOwn_33 (by decide) (fun z => t_negK hk z (fun hk => ?_)) (fun z => t_posK hk z (fun hk => ?_))
      · refine mj_iconst (v := 0) dX13_isOwn_40 (by decide) ?_
        refine mj_sublv [(0, .ref 950), (1, .int l1), (2, .int l2), (4, .int l4)] [0, 1, 2, 4] rfl ?_
        exact B_X13_isOwn_41 _ _ _ _ _ _ (fun y0 y1 y2 y3 hx => Hb5 y0 y1 y2 y3 hx) hk
      · refine mj_sublv [(0, .ref 950), (1, .int l1), (2, .int l2), (4, .int l4)] [0, 1, 2, 4] rfl ?_
        exact B_X13_isOwn_36 _ _ _ _ _ (fun y0 y1 y2 y3 hx => Hb5 y0 y1 y2 y3 hx) hk
noncomputable def b_X13_isOwn_5 (s : t_S) (x : Int32 × Int32 × Int32 × Int32) : Option ((Int32 × Int32 × Int32 × Int32) ⊕ (Int32)) := k_X13_isOwn_5 x.1 x.2.1 x.2.2.1 x.2.2.2 s
set_option maxRecDepth 4000 in
set_option maxHeartbeats 1000000 in
theorem LH_X13_isOwn_5 {D : va_G} {cy : Nat → ClassId} {ad : Nat → Nat} {bs : Nat} {X : State → Heap → Prop} (s : t_S) : ∀ (n : Nat) (y0 : Int32) (y1 : Int32) (y2 : Int32) (y3 : Int32) (Q : Int32 → Prop) (hk : t_hk (t_loop (b_X13_isOwn_5 s) n (y0, y1, y2, y3)) Q), mj_G D cy ad bs X cX13_isOwn 5 yX13_isOwn.cls (some .boolean) yX13_isOwn.name 0 0 0 1065 (t_P (fun v s' => s' = s ∧ ∃ x, v = some (.int x) ∧ Q (x))) 5 [(0, .ref 950), (1, .int (y0)), (2, .int (y1)), (3, .int (y2)), (4, .int (y3))] [] (t_m s) 1065 0 0 := by
  intro n
  induction n with
  | zero => intro y0 y1 y2 y3 Q hk; obtain ⟨r, hr, _⟩ := hk; cases hr
  | succ n ih =>
    intro y0 y1 y2 y3 Q hk
    exact B_X13_isOwn_5 y0 y1 y2 y3 s (fun y => t_lq (b_X13_isOwn_5 s) n Q y) (fun y0' y1' y2' y3' hy => ih y0' y1' y2' y3' Q hy) (t_lp hk)
noncomputable def f_X13_isOwn (x1 : Int32) (x2 : Int32) (s : t_S) : Option (Int32) :=
 t_loop (b_X13_isOwn_5 s) t_N (x1, x2, 0, 0)
set_option maxRecDepth 4000 in
set_option maxHeartbeats 1000000 in
theorem C_X13_isOwn (x1 : Int32) (x2 : Int32) (s : t_S) (r : Int32) (hr : f_X13_isOwn x1 x2 s = some r) : t_C yX13_isOwn cX13_isOwn 5 (some .boolean) 0 [.ref 950, .int x1, .int x2] s (fun v s' => v = some (.int r) ∧ s' = s) := by
  refine t_C.imp (P := fun v s' => s' = s ∧ ∃ x, v = some (.int x) ∧ (fun q => q = r) (x)) (t_C.of (by decide +kernel) (Nat.le_of_ble_eq_true rfl) ?_) (fun v s' hp => by obtain ⟨rfl, x, rfl, rfl⟩ := hp; exact ⟨rfl, rfl⟩)
  intro D cy ad bs X
  have hk : t_hk (f_X13_isOwn x1 x2 s) (fun q => q = r) := ⟨r, hr, rfl⟩
  show mj_G D cy ad bs X cX13_isOwn 5 yX13_isOwn.cls (some .boolean) yX13_isOwn.name 0 0 0 1065 (t_P (fun v s' => s' = s ∧ ∃ x, v = some (.int x) ∧ (fun q => q = r) (x))) 0 [(0, .ref 950), (1, .int x1), (2, .int x2)] [] (t_m s) 1065 0 0
  refine mj_iconst (v := 0) dX13_isOwn_0 (by decide) ?_
  refine mj_istore_n 3 (lv2 := [(3, .int 0), (0, .ref 950), (1, .int x1), (2, .int x2)]) dX13_isOwn_1 rfl (by decide) rfl ?_
  refine mj_iconst (v := 0) dX13_isOwn_2 (by decide) ?_
  refine mj_istore (lv2 := [(4, .int 0), (3, .int 0), (0, .ref 950), (1, .int x1), (2, .int x2)]) dX13_isOwn_3 (by decide) rfl ?_
  refine mj_sublv [(0, .ref 950), (1, .int x1), (2, .int x2), (3, .int 0), (4, .int 0)] [2, 3, 4, 1, 0] rfl ?_
  exact LH_X13_isOwn_5 _ _ x1 x2 0 0 _ hk

