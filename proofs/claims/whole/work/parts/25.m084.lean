/-! Methods as functions, 84: X13_fullOf, X13_isTypeNode, X13_mulFar, X13_lightOf -/
theorem qa_1011 : t_oka 1011 2 13000 = true := by decide +kernel
theorem qf_950_108 : t_okf 950 13 108 0 = true := by decide +kernel
theorem qf_950_29 : t_okf 950 13 29 0 = true := by decide +kernel
theorem qr_950_107 : t_okr 950 13 107 1011 = true := by decide +kernel
theorem dX13_fullOf_0 : decode cX13_fullOf 0 = .ok (.aload_n 0, 1) := by decide +kernel
theorem dX13_fullOf_1 : decode cX13_fullOf 1 = .ok (.getfield 26, 3) := by decide +kernel
theorem dX13_fullOf_102 : decode cX13_fullOf 102 = .ok (.iload_n 1, 1) := by decide +kernel
theorem dX13_fullOf_103 : decode cX13_fullOf 103 = .ok (.iaload, 1) := by decide +kernel
theorem dX13_fullOf_104 : decode cX13_fullOf 104 = .ok (.istore 4, 2) := by decide +kernel
theorem dX13_fullOf_106 : decode cX13_fullOf 106 = .ok (.iload 4, 2) := by decide +kernel
theorem dX13_fullOf_108 : decode cX13_fullOf 108 = .ok (.ifCond .lt 40, 3) := by decide +kernel
theorem dX13_fullOf_111 : decode cX13_fullOf 111 = .ok (.iload_n 3, 1) := by decide +kernel
theorem dX13_fullOf_112 : decode cX13_fullOf 112 = .ok (.ifCond .ne 18, 3) := by decide +kernel
theorem dX13_fullOf_115 : decode cX13_fullOf 115 = .ok (.aload_n 0, 1) := by decide +kernel
theorem dX13_fullOf_116 : decode cX13_fullOf 116 = .ok (.getfield 200, 3) := by decide +kernel
theorem dX13_fullOf_119 : decode cX13_fullOf 119 = .ok (.aload_n 0, 1) := by decide +kernel
theorem dX13_fullOf_120 : decode cX13_fullOf 120 = .ok (.getfield 39, 3) := by decide +kernel
theorem dX13_fullOf_123 : decode cX13_fullOf 123 = .ok (.iload 4, 2) := by decide +kernel
theorem dX13_fullOf_125 : decode cX13_fullOf 125 = .ok (.iaload, 1) := by decide +kernel
theorem dX13_fullOf_126 : decode cX13_fullOf 126 = .ok (.baload, 1) := by decide +kernel
theorem dX13_fullOf_127 : decode cX13_fullOf 127 = .ok (.ifCond .eq 7, 3) := by decide +kernel
theorem dX13_fullOf_130 : decode cX13_fullOf 130 = .ok (.iconst 1, 1) := by decide +kernel
theorem dX13_fullOf_131 : decode cX13_fullOf 131 = .ok (.goto 4, 3) := by decide +kernel
theorem dX13_fullOf_134 : decode cX13_fullOf 134 = .ok (.iconst 0, 1) := by decide +kernel
theorem dX13_fullOf_135 : decode cX13_fullOf 135 = .ok (.istore_n 3, 1) := by decide +kernel
theorem dX13_fullOf_136 : decode cX13_fullOf 136 = .ok (.aload_n 0, 1) := by decide +kernel
theorem dX13_fullOf_137 : decode cX13_fullOf 137 = .ok (.getfield 42, 3) := by decide +kernel
theorem dX13_fullOf_140 : decode cX13_fullOf 140 = .ok (.iload 4, 2) := by decide +kernel
theorem dX13_fullOf_142 : decode cX13_fullOf 142 = .ok (.iaload, 1) := by decide +kernel
theorem dX13_fullOf_143 : decode cX13_fullOf 143 = .ok (.istore 4, 2) := by decide +kernel
theorem dX13_fullOf_145 : decode cX13_fullOf 145 = .ok (.goto (-39), 3) := by decide +kernel
theorem dX13_fullOf_148 : decode cX13_fullOf 148 = .ok (.iload_n 3, 1) := by decide +kernel
theorem dX13_fullOf_149 : decode cX13_fullOf 149 = .ok (.ireturn, 1) := by decide +kernel
theorem dX13_fullOf_150 : decode cX13_fullOf 150 = .ok (.aload_n 0, 1) := by decide +kernel
theorem dX13_fullOf_151 : decode cX13_fullOf 151 = .ok (.getfield 32, 3) := by decide +kernel
theorem dX13_fullOf_154 : decode cX13_fullOf 154 = .ok (.iload_n 1, 1) := by decide +kernel
theorem dX13_fullOf_155 : decode cX13_fullOf 155 = .ok (.laload, 1) := by decide +kernel
theorem dX13_fullOf_156 : decode cX13_fullOf 156 = .ok (.lconst 0, 1) := by decide +kernel
theorem dX13_fullOf_157 : decode cX13_fullOf 157 = .ok (.lcmp, 1) := by decide +kernel
theorem dX13_fullOf_158 : decode cX13_fullOf 158 = .ok (.ifCond .eq 17, 3) := by decide +kernel
theorem dX13_fullOf_161 : decode cX13_fullOf 161 = .ok (.aload_n 0, 1) := by decide +kernel
theorem dX13_fullOf_162 : decode cX13_fullOf 162 = .ok (.getfield 200, 3) := by decide +kernel
theorem dX13_fullOf_165 : decode cX13_fullOf 165 = .ok (.aload_n 0, 1) := by decide +kernel
theorem dX13_fullOf_166 : decode cX13_fullOf 166 = .ok (.getfield 39, 3) := by decide +kernel
theorem dX13_fullOf_169 : decode cX13_fullOf 169 = .ok (.iload_n 1, 1) := by decide +kernel
theorem dX13_fullOf_170 : decode cX13_fullOf 170 = .ok (.iaload, 1) := by decide +kernel
theorem dX13_fullOf_171 : decode cX13_fullOf 171 = .ok (.baload, 1) := by decide +kernel
theorem dX13_fullOf_172 : decode cX13_fullOf 172 = .ok (.ifCond .eq 7, 3) := by decide +kernel
theorem dX13_fullOf_175 : decode cX13_fullOf 175 = .ok (.iconst 1, 1) := by decide +kernel
theorem dX13_fullOf_176 : decode cX13_fullOf 176 = .ok (.goto 4, 3) := by decide +kernel
theorem dX13_fullOf_179 : decode cX13_fullOf 179 = .ok (.iconst 0, 1) := by decide +kernel
theorem dX13_fullOf_180 : decode cX13_fullOf 180 = .ok (.ireturn, 1) := by decide +kernel
theorem dX13_fullOf_181 : decode cX13_fullOf 181 = .ok (.aload_n 0, 1) := by decide +kernel
theorem dX13_fullOf_182 : decode cX13_fullOf 182 = .ok (.getfield 200, 3) := by decide +kernel
theorem dX13_fullOf_185 : decode cX13_fullOf 185 = .ok (.aload_n 0, 1) := by decide +kernel
theorem dX13_fullOf_186 : decode cX13_fullOf 186 = .ok (.getfield 57, 3) := by decide +kernel
theorem dX13_fullOf_189 : decode cX13_fullOf 189 = .ok (.aload_n 0, 1) := by decide +kernel
theorem dX13_fullOf_190 : decode cX13_fullOf 190 = .ok (.aload_n 0, 1) := by decide +kernel
theorem dX13_fullOf_191 : decode cX13_fullOf 191 = .ok (.getfield 54, 3) := by decide +kernel
theorem dX13_fullOf_194 : decode cX13_fullOf 194 = .ok (.iconst 0, 1) := by decide +kernel
theorem dX13_fullOf_195 : decode cX13_fullOf 195 = .ok (.aload_n 0, 1) := by decide +kernel
theorem dX13_fullOf_196 : decode cX13_fullOf 196 = .ok (.getfield 624, 3) := by decide +kernel
theorem dX13_fullOf_199 : decode cX13_fullOf 199 = .ok (.aload_n 0, 1) := by decide +kernel
theorem dX13_fullOf_200 : decode cX13_fullOf 200 = .ok (.getfield 32, 3) := by decide +kernel
theorem dX13_fullOf_203 : decode cX13_fullOf 203 = .ok (.iload_n 1, 1) := by decide +kernel
theorem dX13_fullOf_204 : decode cX13_fullOf 204 = .ok (.laload, 1) := by decide +kernel
theorem dX13_fullOf_205 : decode cX13_fullOf 205 = .ok (.l2i, 1) := by decide +kernel
theorem dX13_fullOf_206 : decode cX13_fullOf 206 = .ok (.invokevirtual 788, 3) := by decide +kernel
theorem dX13_fullOf_209 : decode cX13_fullOf 209 = .ok (.iaload, 1) := by decide +kernel
theorem dX13_fullOf_210 : decode cX13_fullOf 210 = .ok (.baload, 1) := by decide +kernel
theorem dX13_fullOf_211 : decode cX13_fullOf 211 = .ok (.ireturn, 1) := by decide +kernel
theorem dX13_fullOf_212 : decode cX13_fullOf 212 = .ok (.iconst 1, 1) := by decide +kernel
theorem dX13_fullOf_213 : decode cX13_fullOf 213 = .ok (.ireturn, 1) := by decide +kernel
theorem dX13_fullOf_36 : decode cX13_fullOf 36 = .ok (.iconst 1, 1) := by decide +kernel
theorem dX13_fullOf_37 : decode cX13_fullOf 37 = .ok (.istore_n 2, 1) := by decide +kernel
theorem dX13_fullOf_38 : decode cX13_fullOf 38 = .ok (.aload_n 0, 1) := by decide +kernel
theorem dX13_fullOf_39 : decode cX13_fullOf 39 = .ok (.getfield 39, 3) := by decide +kernel
theorem dX13_fullOf_4 : decode cX13_fullOf 4 = .ok (.iload_n 1, 1) := by decide +kernel
theorem dX13_fullOf_42 : decode cX13_fullOf 42 = .ok (.iload_n 1, 1) := by decide +kernel
theorem dX13_fullOf_43 : decode cX13_fullOf 43 = .ok (.iaload, 1) := by decide +kernel
theorem dX13_fullOf_44 : decode cX13_fullOf 44 = .ok (.istore_n 3, 1) := by decide +kernel
theorem dX13_fullOf_45 : decode cX13_fullOf 45 = .ok (.iload_n 3, 1) := by decide +kernel
theorem dX13_fullOf_46 : decode cX13_fullOf 46 = .ok (.ifCond .lt 48, 3) := by decide +kernel
theorem dX13_fullOf_49 : decode cX13_fullOf 49 = .ok (.iload_n 2, 1) := by decide +kernel
theorem dX13_fullOf_5 : decode cX13_fullOf 5 = .ok (.iaload, 1) := by decide +kernel
theorem dX13_fullOf_50 : decode cX13_fullOf 50 = .ok (.ifCond .eq 32, 3) := by decide +kernel
theorem dX13_fullOf_53 : decode cX13_fullOf 53 = .ok (.aload_n 0, 1) := by decide +kernel
theorem dX13_fullOf_54 : decode cX13_fullOf 54 = .ok (.getfield 36, 3) := by decide +kernel
theorem dX13_fullOf_57 : decode cX13_fullOf 57 = .ok (.iload_n 3, 1) := by decide +kernel
theorem dX13_fullOf_58 : decode cX13_fullOf 58 = .ok (.laload, 1) := by decide +kernel
theorem dX13_fullOf_59 : decode cX13_fullOf 59 = .ok (.lconst 0, 1) := by decide +kernel
theorem dX13_fullOf_6 : decode cX13_fullOf 6 = .ok (.tableswitch 206 5 8 #[30, 90, 144, 175], 30) := by decide +kernel
theorem dX13_fullOf_60 : decode cX13_fullOf 60 = .ok (.lcmp, 1) := by decide +kernel
theorem dX13_fullOf_61 : decode cX13_fullOf 61 = .ok (.ifCond .ne 17, 3) := by decide +kernel
theorem dX13_fullOf_64 : decode cX13_fullOf 64 = .ok (.aload_n 0, 1) := by decide +kernel
theorem dX13_fullOf_65 : decode cX13_fullOf 65 = .ok (.getfield 200, 3) := by decide +kernel
theorem dX13_fullOf_68 : decode cX13_fullOf 68 = .ok (.aload_n 0, 1) := by decide +kernel
theorem dX13_fullOf_69 : decode cX13_fullOf 69 = .ok (.getfield 39, 3) := by decide +kernel
theorem dX13_fullOf_72 : decode cX13_fullOf 72 = .ok (.iload_n 3, 1) := by decide +kernel
theorem dX13_fullOf_73 : decode cX13_fullOf 73 = .ok (.iaload, 1) := by decide +kernel
theorem dX13_fullOf_74 : decode cX13_fullOf 74 = .ok (.baload, 1) := by decide +kernel
theorem dX13_fullOf_75 : decode cX13_fullOf 75 = .ok (.ifCond .eq 7, 3) := by decide +kernel
theorem dX13_fullOf_78 : decode cX13_fullOf 78 = .ok (.iconst 1, 1) := by decide +kernel
theorem dX13_fullOf_79 : decode cX13_fullOf 79 = .ok (.goto 4, 3) := by decide +kernel
theorem dX13_fullOf_82 : decode cX13_fullOf 82 = .ok (.iconst 0, 1) := by decide +kernel
theorem dX13_fullOf_83 : decode cX13_fullOf 83 = .ok (.istore_n 2, 1) := by decide +kernel
theorem dX13_fullOf_84 : decode cX13_fullOf 84 = .ok (.aload_n 0, 1) := by decide +kernel
theorem dX13_fullOf_85 : decode cX13_fullOf 85 = .ok (.getfield 42, 3) := by decide +kernel
theorem dX13_fullOf_88 : decode cX13_fullOf 88 = .ok (.iload_n 3, 1) := by decide +kernel
theorem dX13_fullOf_89 : decode cX13_fullOf 89 = .ok (.iaload, 1) := by decide +kernel
theorem dX13_fullOf_90 : decode cX13_fullOf 90 = .ok (.istore_n 3, 1) := by decide +kernel
theorem dX13_fullOf_91 : decode cX13_fullOf 91 = .ok (.goto (-46), 3) := by decide +kernel
theorem dX13_fullOf_94 : decode cX13_fullOf 94 = .ok (.iload_n 2, 1) := by decide +kernel
theorem dX13_fullOf_95 : decode cX13_fullOf 95 = .ok (.ireturn, 1) := by decide +kernel
theorem dX13_fullOf_96 : decode cX13_fullOf 96 = .ok (.iconst 0, 1) := by decide +kernel
theorem dX13_fullOf_97 : decode cX13_fullOf 97 = .ok (.istore_n 3, 1) := by decide +kernel
theorem dX13_fullOf_98 : decode cX13_fullOf 98 = .ok (.aload_n 0, 1) := by decide +kernel
theorem dX13_fullOf_99 : decode cX13_fullOf 99 = .ok (.getfield 39, 3) := by decide +kernel
noncomputable def k_X13_fullOf_135 (l4 : Int32) (k0 : Int32) (s : t_S) : Option ((Int32 × Int32) ⊕ (Int32)) :=
 if t_ix l4 13000 = true then
  some (.inl (k0, (s.1 960 (l4.toNatClampNeg))))
else none
set_option maxRecDepth 4000 in
set_option maxHeartbeats 1000000 in
theorem B_X13_fullOf_135 {D : va_G} {cy : Nat → ClassId} {ad : Nat → Nat} {bs : Nat} {X : State → Heap → Prop} (l4 : Int32) (k0 : Int32) (s : t_S) (Q : (Int32 × Int32) ⊕ (Int32) → Prop) (Hb106 : ∀ (y0 : Int32) (y1 : Int32), Q (.inl (y0, y1)) → mj_G D cy ad bs X cX13_fullOf 5 yX13_fullOf.cls (some .boolean) yX13_fullOf.name 1 0 0 1065 (t_P (fun v s' => s' = s ∧ ∃ x, v = some (.int x) ∧ Q (.inr (x)))) 106 [(0, .ref 950), (3, .int (y0)), (4, .int (y1))] [] (t_m s) 1065 0 0) (hk : t_hk (k_X13_fullOf_135 l4 k0 s) Q) : mj_G D cy ad bs X cX13_fullOf 5 yX13_fullOf.cls (some .boolean) yX13_fullOf.name 1 0 0 1065 (t_P (fun v s' => s' = s ∧ ∃ x, v = some (.int x) ∧ Q (.inr (x)))) 135 [(0, .ref 950), (4, .int l4)] [.int k0] (t_m s) 1065 0 0 := by
  refine mj_istore_n 3 (lv2 := [(3, .int k0), (0, .ref 950), (4, .int l4)]) dX13_fullOf_135 rfl (by decide) rfl ?_
  refine mj_aload_n dX13_fullOf_136 1 rfl ?_
  refine t_getR 960 dX13_fullOf_137 F_X13_42 qr_950_22 ?_
  refine mj_iload dX13_fullOf_140 2 rfl ?_
  refine t_chkK hk (fun c0 hk => ?_)
  refine t_iald dX13_fullOf_142 qa_960 (t_ixv c0) ?_
  refine mj_istore (lv2 := [(4, .int (s.1 960 (l4.toNatClampNeg))), (3, .int k0), (0, .ref 950)]) dX13_fullOf_143 (by decide) rfl ?_
  refine mj_goto 106 dX13_fullOf_145 (by decide) ?_
  refine mj_sublv [(0, .ref 950), (3, .int k0), (4, .int (s.1 960 (l4.toNatClampNeg)))] [2, 1, 0] rfl ?_
  exact t_somK hk (fun hf => Hb106 k0 (s.1 960 (l4.toNatClampNeg)) hf)
noncomputable def k_X13_fullOf_130 (l4 : Int32) (s : t_S) : Option ((Int32 × Int32) ⊕ (Int32)) :=
 k_X13_fullOf_135 l4 1 s
set_option maxRecDepth 4000 in
set_option maxHeartbeats 1000000 in
theorem B_X13_fullOf_130 {D : va_G} {cy : Nat → ClassId} {ad : Nat → Nat} {bs : Nat} {X : State → Heap → Prop} (l4 : Int32) (s : t_S) (Q : (Int32 × Int32) ⊕ (Int32) → Prop) (Hb106 : ∀ (y0 : Int32) (y1 : Int32), Q (.inl (y0, y1)) → mj_G D cy ad bs X cX13_fullOf 5 yX13_fullOf.cls (some .boolean) yX13_fullOf.name 1 0 0 1065 (t_P (fun v s' => s' = s ∧ ∃ x, v = some (.int x) ∧ Q (.inr (x)))) 106 [(0, .ref 950), (3, .int (y0)), (4, .int (y1))] [] (t_m s) 1065 0 0) (hk : t_hk (k_X13_fullOf_130 l4 s) Q) : mj_G D cy ad bs X cX13_fullOf 5 yX13_fullOf.cls (some .boolean) yX13_fullOf.name 1 0 0 1065 (t_P (fun v s' => s' = s ∧ ∃ x, v = some (.int x) ∧ Q (.inr (x)))) 130 [(0, .ref 950), (4, .int l4)] [] (t_m s) 1065 0 0 := by
  refine mj_iconst (v := 1) dX13_fullOf_130 (by decide) ?_
  refine mj_goto 135 dX13_fullOf_131 (by decide) ?_
  exact B_X13_fullOf_135 _ _ _ _ (fun y0 y1 hx => Hb106 y0 y1 hx) hk
noncomputable def k_X13_fullOf_106 (l3 : Int32) (l4 : Int32) (s : t_S) : Option ((Int32 × Int32) ⊕ (Int32)) :=
 if l4 < (0 : Int32) then ((if l3 = 0 ∨ l3 = 1 then
  some (l3)
else none).map Sum.inr)
 else (if l3 = (0 : Int32) then (if t_ix l4 13000 = true then
  if t_ix (s.1 959 (l4.toNatClampNeg)) 13000 = true then
  if (s.1 1012 ((s.1 959 (l4.toNatClampNeg)).toNatClampNeg)) = (0 : Int32) then (k_X13_fullOf_135 l4 0 s)
 else (k_X13_fullOf_130 l4 s)
else none
else none)
 else (k_X13_fullOf_130 l4 s))
set_option maxRecDepth 4000 in
set_option maxHeartbeats 1000000 in
theorem B_X13_fullOf_106 {D : va_G} {cy : Nat → ClassId} {ad : Nat → Nat} {bs : Nat} {X : State → Heap → Prop} (l3 : Int32) (l4 : Int32) (s : t_S) (Q : (Int32 × Int32) ⊕ (Int32) → Prop) (Hb106 : ∀ (y0 : Int32) (y1 : Int32), Q (.inl (y0, y1)) → mj_G D cy ad bs X cX13_fullOf 5 yX13_fullOf.cls (some .boolean) yX13_fullOf.name 1 0 0 1065 (t_P (fun v s' => s' = s ∧ ∃ x, v = some (.int x) ∧ Q (.inr (x)))) 106 [(0, .ref 950), (3, .int (y0)), (4, .int (y1))] [] (t_m s) 1065 0 0) (hk : t_hk (k_X13_fullOf_106 l3 l4 s) Q) : mj_G D cy ad bs X cX13_fullOf 5 yX13_fullOf.cls (some .boolean) yX13_fullOf.name 1 0 0 1065 (t_P (fun v s' => s' = s ∧ ∃ x, v = some (.int x) ∧ Q (.inr (x)))) 106 [(0, .ref 950), (3, .int l3), (4, .int l4)] [] (t_m s) 1065 0 0 := by
  refine mj_iload dX13_fullOf_106 2 rfl ?_
  refine mj_if_lt 148 dX13_fullOf_108 (by decide) (fun z => t_posK hk z (fun hk => ?_)) (fun z => t_negK hk z (fun hk => ?_))
  · refine t_mapK hk (fun hk => ?_)
    refine mj_iload_n dX13_fullOf_148 1 rfl ?_
    refine t_chkK hk (fun c0 hk => ?_)
    exact t_somK hk (fun hf => t_iret dX13_fullOf_149 rfl (t_zfit c0) ⟨rfl, _, rfl, hf⟩ (Nat.le_of_ble_eq_true rfl) (Nat.le_of_ble_eq_true rfl))
  · refine mj_iload_n dX13_fullOf_111 1 rfl ?_
    refine mj_if_ne 130 dX13_fullOf_112 (by decide) (fun z => t_negK hk z (fun hk => ?_)) (fun z => t_posK hk z (fun hk => ?_))
    · refine mj_sublv [(0, .ref 950), (4, .int l4)] [0, 2] rfl ?_
      exact B_X13_fullOf_130 _ _ _ (fun y0 y1 hx => Hb106 y0 y1 hx) hk
    · refine mj_aload_n dX13_fullOf_115 0 rfl ?_
      refine t_getR 1012 dX13_fullOf_116 F_X13_200 qr_950_109 ?_
      refine mj_aload_n dX13_fullOf_119 0 rfl ?_
      refine t_getR 959 dX13_fullOf_120 F_X13_39 qr_950_21 ?_
      refine mj_iload dX13_fullOf_123 2 rfl ?_
      refine t_chkK hk (fun c1 hk => ?_)
      refine t_iald dX13_fullOf_125 qa_959 (t_ixv c1) ?_
      refine t_chkK hk (fun c2 hk => ?_)
      refine t_zald dX13_fullOf_126 qa_1012 (t_ixv c2) ?_
      refine mj_if_eq 134 dX13_fullOf_127 (by decide) (fun z => t_posK hk z (fun hk => ?_)) (fun z => t_negK hk z (fun hk => ?_))
      · refine mj_iconst (v := 0) dX13_fullOf_134 (by decide) ?_
        refine mj_sublv [(0, .ref 950), (4, .int l4)] [0, 2] rfl ?_
        exact B_X13_fullOf_135 _ _ _ _ (fun y0 y1 hx => Hb106 y0 y1 hx) hk
      · refine mj_sublv [(0, .ref 950), (4, .int l4)] [0, 2] rfl ?_
        exact B_X13_fullOf_130 _ _ _ (fun y0 y1 hx => Hb106 y0 y1 hx) hk
noncomputable def b_X13_fullOf_106 (s : t_S) (x : Int32 × Int32) : Option ((Int32 × Int32) ⊕ (Int32)) := k_X13_fullOf_106 x.1 x.2 s
set_option maxRecDepth 4000 in
set_option maxHeartbeats 1000000 in
theorem LH_X13_fullOf_106 {D : va_G} {cy : Nat → ClassId} {ad : Nat → Nat} {bs : Nat} {X : State → Heap → Prop} (s : t_S) : ∀ (n : Nat) (y0 : Int32) (y1 : Int32) (Q : Int32 → Prop) (hk : t_hk (t_loop (b_X13_fullOf_106 s) n (y0, y1)) Q), mj_G D cy ad bs X cX13_fullOf 5 yX13_fullOf.cls (some .boolean) yX13_fullOf.name 1 0 0 1065 (t_P (fun v s' => s' = s ∧ ∃ x, v = some (.int x) ∧ Q (x))) 106 [(0, .ref 950), (3, .int (y0)), (4, .int (y1))] [] (t_m s) 1065 0 0 := by
  intro n
  induction n with
  | zero => intro y0 y1 Q hk; obtain ⟨r, hr, _⟩ := hk; cases hr
  | succ n ih =>
    intro y0 y1 Q hk
    exact B_X13_fullOf_106 y0 y1 s (fun y => t_lq (b_X13_fullOf_106 s) n Q y) (fun y0' y1' hy => ih y0' y1' Q hy) (t_lp (b := b_X13_fullOf_106 s) (n := n) (x := (y0, y1)) hk)
noncomputable def k_X13_fullOf_83 (l3 : Int32) (k0 : Int32) (s : t_S) : Option ((Int32 × Int32) ⊕ (Int32)) :=
 if t_ix l3 13000 = true then
  some (.inl (k0, (s.1 960 (l3.toNatClampNeg))))
else none
set_option maxRecDepth 4000 in
set_option maxHeartbeats 1000000 in
theorem B_X13_fullOf_83 {D : va_G} {cy : Nat → ClassId} {ad : Nat → Nat} {bs : Nat} {X : State → Heap → Prop} (l3 : Int32) (k0 : Int32) (s : t_S) (Q : (Int32 × Int32) ⊕ (Int32) → Prop) (Hb45 : ∀ (y0 : Int32) (y1 : Int32), Q (.inl (y0, y1)) → mj_G D cy ad bs X cX13_fullOf 5 yX13_fullOf.cls (some .boolean) yX13_fullOf.name 1 0 0 1065 (t_P (fun v s' => s' = s ∧ ∃ x, v = some (.int x) ∧ Q (.inr (x)))) 45 [(0, .ref 950), (2, .int (y0)), (3, .int (y1))] [] (t_m s) 1065 0 0) (hk : t_hk (k_X13_fullOf_83 l3 k0 s) Q) : mj_G D cy ad bs X cX13_fullOf 5 yX13_fullOf.cls (some .boolean) yX13_fullOf.name 1 0 0 1065 (t_P (fun v s' => s' = s ∧ ∃ x, v = some (.int x) ∧ Q (.inr (x)))) 83 [(0, .ref 950), (3, .int l3)] [.int k0] (t_m s) 1065 0 0 := by
  refine mj_istore_n 2 (lv2 := [(2, .int k0), (0, .ref 950), (3, .int l3)]) dX13_fullOf_83 rfl (by decide) rfl ?_
  refine mj_aload_n dX13_fullOf_84 1 rfl ?_
  refine t_getR 960 dX13_fullOf_85 F_X13_42 qr_950_22 ?_
  refine mj_iload_n dX13_fullOf_88 2 rfl ?_
  refine t_chkK hk (fun c0 hk => ?_)
  refine t_iald dX13_fullOf_89 qa_960 (t_ixv c0) ?_
  refine mj_istore_n 3 (lv2 := [(3, .int (s.1 960 (l3.toNatClampNeg))), (2, .int k0), (0, .ref 950)]) dX13_fullOf_90 rfl (by decide) rfl ?_
  refine mj_goto 45 dX13_fullOf_91 (by decide) ?_
  refine mj_sublv [(0, .ref 950), (2, .int k0), (3, .int (s.1 960 (l3.toNatClampNeg)))] [2, 1, 0] rfl ?_
  exact t_somK hk (fun hf => Hb45 k0 (s.1 960 (l3.toNatClampNeg)) hf)
noncomputable def k_X13_fullOf_82 (l3 : Int32) (s : t_S) : Option ((Int32 × Int32) ⊕ (Int32)) :=
 k_X13_fullOf_83 l3 0 s
set_option maxRecDepth 4000 in
set_option maxHeartbeats 1000000 in
theorem B_X13_fullOf_82 {D : va_G} {cy : Nat → ClassId} {ad : Nat → Nat} {bs : Nat} {X : State → Heap → Prop} (l3 : Int32) (s : t_S) (Q : (Int32 × Int32) ⊕ (Int32) → Prop) (Hb45 : ∀ (y0 : Int32) (y1 : Int32), Q (.inl (y0, y1)) → mj_G D cy ad bs X cX13_fullOf 5 yX13_fullOf.cls (some .boolean) yX13_fullOf.name 1 0 0 1065 (t_P (fun v s' => s' = s ∧ ∃ x, v = some (.int x) ∧ Q (.inr (x)))) 45 [(0, .ref 950), (2, .int (y0)), (3, .int (y1))] [] (t_m s) 1065 0 0) (hk : t_hk (k_X13_fullOf_82 l3 s) Q) : mj_G D cy ad bs X cX13_fullOf 5 yX13_fullOf.cls (some .boolean) yX13_fullOf.name 1 0 0 1065 (t_P (fun v s' => s' = s ∧ ∃ x, v = some (.int x) ∧ Q (.inr (x)))) 82 [(0, .ref 950), (3, .int l3)] [] (t_m s) 1065 0 0 := by
  refine mj_iconst (v := 0) dX13_fullOf_82 (by decide) ?_
  exact B_X13_fullOf_83 _ _ _ _ (fun y0 y1 hx => Hb45 y0 y1 hx) hk
noncomputable def k_X13_fullOf_78 (l3 : Int32) (s : t_S) : Option ((Int32 × Int32) ⊕ (Int32)) :=
 k_X13_fullOf_83 l3 1 s
set_option maxRecDepth 4000 in
set_option maxHeartbeats 1000000 in
theorem B_X13_fullOf_78 {D : va_G} {cy : Nat → ClassId} {ad : Nat → Nat} {bs : Nat} {X : State → Heap → Prop} (l3 : Int32) (s : t_S) (Q : (Int32 × Int32) ⊕ (Int32) → Prop) (Hb45 : ∀ (y0 : Int32) (y1 : Int32), Q (.inl (y0, y1)) → mj_G D cy ad bs X cX13_fullOf 5 yX13_fullOf.cls (some .boolean) yX13_fullOf.name 1 0 0 1065 (t_P (fun v s' => s' = s ∧ ∃ x, v = some (.int x) ∧ Q (.inr (x)))) 45 [(0, .ref 950), (2, .int (y0)), (3, .int (y1))] [] (t_m s) 1065 0 0) (hk : t_hk (k_X13_fullOf_78 l3 s) Q) : mj_G D cy ad bs X cX13_fullOf 5 yX13_fullOf.cls (some .boolean) yX13_fullOf.name 1 0 0 1065 (t_P (fun v s' => s' = s ∧ ∃ x, v = some (.int x) ∧ Q (.inr (x)))) 78 [(0, .ref 950), (3, .int l3)] [] (t_m s) 1065 0 0 := by
  refine mj_iconst (v := 1) dX13_fullOf_78 (by decide) ?_
  refine mj_goto 83 dX13_fullOf_79 (by decide) ?_
  exact B_X13_fullOf_83 _ _ _ _ (fun y0 y1 hx => Hb45 y0 y1 hx) hk
noncomputable def k_X13_fullOf_45 (l2 : Int32) (l3 : Int32) (s : t_S) : Option ((Int32 × Int32) ⊕ (Int32)) :=
 if l3 < (0 : Int32) then ((if l2 = 0 ∨ l2 = 1 then
  some (l2)
else none).map Sum.inr)
 else (if l2 = (0 : Int32) then (k_X13_fullOf_82 l3 s)
 else (if t_ix l3 13000 = true then
  if (lg_cmp (s.2.1 958 (l3.toNatClampNeg)) (0 : Int64)) = (0 : Int32) then (if t_ix (s.1 959 (l3.toNatClampNeg)) 13000 = true then
  if (s.1 1012 ((s.1 959 (l3.toNatClampNeg)).toNatClampNeg)) = (0 : Int32) then (k_X13_fullOf_82 l3 s)
 else (k_X13_fullOf_78 l3 s)
else none)
 else (k_X13_fullOf_78 l3 s)
else none))
set_option maxRecDepth 4000 in
set_option maxHeartbeats 1000000 in
theorem B_X13_fullOf_45 {D : va_G} {cy : Nat → ClassId} {ad : Nat → Nat} {bs : Nat} {X : State → Heap → Prop} (l2 : Int32) (l3 : Int32) (s : t_S) (Q : (Int32 × Int32) ⊕ (Int32) → Prop) (Hb45 : ∀ (y0 : Int32) (y1 : Int32), Q (.inl (y0, y1)) → mj_G D cy ad bs X cX13_fullOf 5 yX13_fullOf.cls (some .boolean) yX13_fullOf.name 1 0 0 1065 (t_P (fun v s' => s' = s ∧ ∃ x, v = some (.int x) ∧ Q (.inr (x)))) 45 [(0, .ref 950), (2, .int (y0)), (3, .int (y1))] [] (t_m s) 1065 0 0) (hk : t_hk (k_X13_fullOf_45 l2 l3 s) Q) : mj_G D cy ad bs X cX13_fullOf 5 yX13_fullOf.cls (some .boolean) yX13_fullOf.name 1 0 0 1065 (t_P (fun v s' => s' = s ∧ ∃ x, v = some (.int x) ∧ Q (.inr (x)))) 45 [(0, .ref 950), (2, .int l2), (3, .int l3)] [] (t_m s) 1065 0 0 := by
  refine mj_iload_n dX13_fullOf_45 2 rfl ?_
  refine mj_if_lt 94 dX13_fullOf_46 (by decide) (fun z => t_posK hk z (fun hk => ?_)) (fun z => t_negK hk z (fun hk => ?_))
  · refine t_mapK hk (fun hk => ?_)
    refine mj_iload_n dX13_fullOf_94 1 rfl ?_
    refine t_chkK hk (fun c0 hk => ?_)
    exact t_somK hk (fun hf => t_iret dX13_fullOf_95 rfl (t_zfit c0) ⟨rfl, _, rfl, hf⟩ (Nat.le_of_ble_eq_true rfl) (Nat.le_of_ble_eq_true rfl))
  · refine mj_iload_n dX13_fullOf_49 1 rfl ?_
    refine mj_if_eq 82 dX13_fullOf_50 (by decide) (fun z => t_posK hk z (fun hk => ?_)) (fun z => t_negK hk z (fun hk => ?_))
    · refine mj_sublv [(0, .ref 950), (3, .int l3)] [0, 2] rfl ?_
      exact B_X13_fullOf_82 _ _ _ (fun y0 y1 hx => Hb45 y0 y1 hx) hk
    · refine mj_aload_n dX13_fullOf_53 0 rfl ?_
      refine t_getR 958 dX13_fullOf_54 F_X13_36 qr_950_20 ?_
      refine mj_iload_n dX13_fullOf_57 2 rfl ?_
      refine t_chkK hk (fun c1 hk => ?_)
      refine t_lald dX13_fullOf_58 qa_958 (t_ixv c1) ?_
      refine mj_lconst (v := 0) dX13_fullOf_59 (by decide) ?_
      refine mj_lcmp dX13_fullOf_60 ?_
      refine mj_if_ne 78 dX13_fullOf_61 (by decide) (fun z => t_negK hk z (fun hk => ?_)) (fun z => t_posK hk z (fun hk => ?_))
      · refine mj_sublv [(0, .ref 950), (3, .int l3)] [0, 2] rfl ?_
        exact B_X13_fullOf_78 _ _ _ (fun y0 y1 hx => Hb45 y0 y1 hx) hk
      · refine mj_aload_n dX13_fullOf_64 0 rfl ?_
        refine t_getR 1012 dX13_fullOf_65 F_X13_200 qr_950_109 ?_
        refine mj_aload_n dX13_fullOf_68 0 rfl ?_
        refine t_getR 959 dX13_fullOf_69 F_X13_39 qr_950_21 ?_
        refine mj_iload_n dX13_fullOf_72 2 rfl ?_
        refine t_iald dX13_fullOf_73 qa_959 (t_ixv c1) ?_
        refine t_chkK hk (fun c2 hk => ?_)
        refine t_zald dX13_fullOf_74 qa_1012 (t_ixv c2) ?_
        refine mj_if_eq 82 dX13_fullOf_75 (by decide) (fun z => t_posK hk z (fun hk => ?_)) (fun z => t_negK hk z (fun hk => ?_))
        · refine mj_sublv [(0, .ref 950), (3, .int l3)] [0, 2] rfl ?_
          exact B_X13_fullOf_82 _ _ _ (fun y0 y1 hx => Hb45 y0 y1 hx) hk
        · refine mj_sublv [(0, .ref 950), (3, .int l3)] [0, 2] rfl ?_
          exact B_X13_fullOf_78 _ _ _ (fun y0 y1 hx => Hb45 y0 y1 hx) hk
noncomputable def b_X13_fullOf_45 (s : t_S) (x : Int32 × Int32) : Option ((Int32 × Int32) ⊕ (Int32)) := k_X13_fullOf_45 x.1 x.2 s
set_option maxRecDepth 4000 in
set_option maxHeartbeats 1000000 in
theorem LH_X13_fullOf_45 {D : va_G} {cy : Nat → ClassId} {ad : Nat → Nat} {bs : Nat} {X : State → Heap → Prop} (s : t_S) : ∀ (n : Nat) (y0 : Int32) (y1 : Int32) (Q : Int32 → Prop) (hk : t_hk (t_loop (b_X13_fullOf_45 s) n (y0, y1)) Q), mj_G D cy ad bs X cX13_fullOf 5 yX13_fullOf.cls (some .boolean) yX13_fullOf.name 1 0 0 1065 (t_P (fun v s' => s' = s ∧ ∃ x, v = some (.int x) ∧ Q (x))) 45 [(0, .ref 950), (2, .int (y0)), (3, .int (y1))] [] (t_m s) 1065 0 0 := by
  intro n
  induction n with
  | zero => intro y0 y1 Q hk; obtain ⟨r, hr, _⟩ := hk; cases hr
  | succ n ih =>
    intro y0 y1 Q hk
    exact B_X13_fullOf_45 y0 y1 s (fun y => t_lq (b_X13_fullOf_45 s) n Q y) (fun y0' y1' hy => ih y0' y1' Q hy) (t_lp (b := b_X13_fullOf_45 s) (n := n) (x := (y0, y1)) hk)
noncomputable def k_X13_fullOf_175 (s : t_S) : Option (Int32) :=
 some (1 : Int32)
set_option maxRecDepth 4000 in
set_option maxHeartbeats 1000000 in
theorem B_X13_fullOf_175 {D : va_G} {cy : Nat → ClassId} {ad : Nat → Nat} {bs : Nat} {X : State → Heap → Prop} (s : t_S) (Q : Int32 → Prop) (hk : t_hk (k_X13_fullOf_175 s) Q) : mj_G D cy ad bs X cX13_fullOf 5 yX13_fullOf.cls (some .boolean) yX13_fullOf.name 1 0 0 1065 (t_P (fun v s' => s' = s ∧ ∃ x, v = some (.int x) ∧ Q (x))) 175 [] [] (t_m s) 1065 0 0 := by
  refine mj_iconst (v := 1) dX13_fullOf_175 (by decide) ?_
  refine mj_goto 180 dX13_fullOf_176 (by decide) ?_
  exact t_somK hk (fun hf => t_iret dX13_fullOf_180 rfl (by decide) ⟨rfl, _, rfl, hf⟩ (Nat.le_of_ble_eq_true rfl) (Nat.le_of_ble_eq_true rfl))
noncomputable def f_X13_fullOf (x1 : Int32) (s : t_S) : Option (Int32) :=
 if t_ix x1 13000 = true then
  if (s.1 955 (x1.toNatClampNeg)).toInt < 5 ∨ 8 < (s.1 955 (x1.toNatClampNeg)).toInt then (some (1 : Int32))
 else if (s.1 955 (x1.toNatClampNeg)).toInt = 5 then (t_loop (b_X13_fullOf_45 s) t_N (1, (s.1 959 (x1.toNatClampNeg))))
 else if (s.1 955 (x1.toNatClampNeg)).toInt = 6 then (t_loop (b_X13_fullOf_106 s) t_N (0, (s.1 959 (x1.toNatClampNeg))))
 else if (s.1 955 (x1.toNatClampNeg)).toInt = 7 then (if (lg_cmp (s.2.1 957 (x1.toNatClampNeg)) (0 : Int64)) = (0 : Int32) then (k_X13_fullOf_175 s)
 else (if t_ix (s.1 959 (x1.toNatClampNeg)) 13000 = true then
  if (s.1 1012 ((s.1 959 (x1.toNatClampNeg)).toNatClampNeg)) = (0 : Int32) then (some (0 : Int32))
 else (k_X13_fullOf_175 s)
else none))
 else ((f_X13_find 964 (0 : Int32) (s.1 950 40) ((s.2.1 957 (x1.toNatClampNeg)).toInt32) s).bind (fun r3 =>
 if t_ix r3 60 = true then
  if t_ix (s.1 965 (r3.toNatClampNeg)) 13000 = true then
  if (s.1 1012 ((s.1 965 (r3.toNatClampNeg)).toNatClampNeg)) = 0 ∨ (s.1 1012 ((s.1 965 (r3.toNatClampNeg)).toNatClampNeg)) = 1 then
  some (s.1 1012 ((s.1 965 (r3.toNatClampNeg)).toNatClampNeg))
else none
else none
else none))
else none
set_option maxRecDepth 4000 in
set_option maxHeartbeats 1000000 in
theorem C_X13_fullOf (x1 : Int32) (s : t_S) (r : Int32) (hr : f_X13_fullOf x1 s = some r) : t_C yX13_fullOf cX13_fullOf 5 (some .boolean) 1 [.ref 950, .int x1] s (fun v s' => v = some (.int r) ∧ s' = s) := by
  refine t_C.imp (P := fun v s' => s' = s ∧ ∃ x, v = some (.int x) ∧ (fun q => q = r) (x)) (t_C.of (by decide +kernel) (Nat.le_of_ble_eq_true rfl) ?_) (fun v s' hp => by obtain ⟨rfl, x, rfl, rfl⟩ := hp; exact ⟨rfl, rfl⟩)
  intro D cy ad bs X
  have hk : t_hk (f_X13_fullOf x1 s) (fun q => q = r) := ⟨r, hr, rfl⟩
  show mj_G D cy ad bs X cX13_fullOf 5 yX13_fullOf.cls (some .boolean) yX13_fullOf.name 1 0 0 1065 (t_P (fun v s' => s' = s ∧ ∃ x, v = some (.int x) ∧ (fun q => q = r) (x))) 0 [(0, .ref 950), (1, .int x1)] [] (t_m s) 1065 0 0
  refine mj_aload_n dX13_fullOf_0 0 rfl ?_
  refine t_getR 955 dX13_fullOf_1 F_X13_26 qr_950_17 ?_
  refine mj_iload_n dX13_fullOf_4 1 rfl ?_
  refine t_chkK hk (fun c0 hk => ?_)
  refine t_iald dX13_fullOf_5 qa_955 (t_ixv c0) ?_
  by_cases hout : (s.1 955 (x1.toNatClampNeg)).toInt < 5 ∨ 8 < (s.1 955 (x1.toNatClampNeg)).toInt
  · replace hk := t_pos hk hout
    refine mj_tableOut 212 dX13_fullOf_6 hout (by decide) ?_
    refine mj_iconst (v := 1) dX13_fullOf_212 (by decide) ?_
    exact t_somK hk (fun hf => t_iret dX13_fullOf_213 rfl (by decide) ⟨rfl, _, rfl, hf⟩ (Nat.le_of_ble_eq_true rfl) (Nat.le_of_ble_eq_true rfl))
  · replace hk := t_neg hk hout
    have hh1 : ¬ (s.1 955 (x1.toNatClampNeg)).toInt < 5 := fun z => hout (Or.inl z)
    have hh2 : ¬ (8 : Int) < (s.1 955 (x1.toNatClampNeg)).toInt := fun z => hout (Or.inr z)
    by_cases h0 : (s.1 955 (x1.toNatClampNeg)).toInt = 5
    · replace hk := t_pos hk h0
      refine mj_tableIn 36 dX13_fullOf_6 hh1 hh2 (by rw [h0]; rfl) (by decide) ?_
      refine mj_iconst (v := 1) dX13_fullOf_36 (by decide) ?_
      refine mj_istore_n 2 (lv2 := [(2, .int 1), (0, .ref 950), (1, .int x1)]) dX13_fullOf_37 rfl (by decide) rfl ?_
      refine mj_aload_n dX13_fullOf_38 1 rfl ?_
      refine t_getR 959 dX13_fullOf_39 F_X13_39 qr_950_21 ?_
      refine mj_iload_n dX13_fullOf_42 2 rfl ?_
      refine t_iald dX13_fullOf_43 qa_959 (t_ixv c0) ?_
      refine mj_istore_n 3 (lv2 := [(3, .int (s.1 959 (x1.toNatClampNeg))), (2, .int 1), (0, .ref 950), (1, .int x1)]) dX13_fullOf_44 rfl (by decide) rfl ?_
      refine mj_sublv [(0, .ref 950), (2, .int 1), (3, .int (s.1 959 (x1.toNatClampNeg)))] [2, 1, 0] rfl ?_
      exact LH_X13_fullOf_45 _ _ 1 (s.1 959 (x1.toNatClampNeg)) _ hk
    replace hk := t_neg hk h0
    by_cases h1 : (s.1 955 (x1.toNatClampNeg)).toInt = 6
    · replace hk := t_pos hk h1
      refine mj_tableIn 96 dX13_fullOf_6 hh1 hh2 (by rw [h1]; rfl) (by decide) ?_
      refine mj_iconst (v := 0) dX13_fullOf_96 (by decide) ?_
      refine mj_istore_n 3 (lv2 := [(3, .int 0), (0, .ref 950), (1, .int x1)]) dX13_fullOf_97 rfl (by decide) rfl ?_
      refine mj_aload_n dX13_fullOf_98 1 rfl ?_
      refine t_getR 959 dX13_fullOf_99 F_X13_39 qr_950_21 ?_
      refine mj_iload_n dX13_fullOf_102 2 rfl ?_
      refine t_iald dX13_fullOf_103 qa_959 (t_ixv c0) ?_
      refine mj_istore (lv2 := [(4, .int (s.1 959 (x1.toNatClampNeg))), (3, .int 0), (0, .ref 950), (1, .int x1)]) dX13_fullOf_104 (by decide) rfl ?_
      refine mj_sublv [(0, .ref 950), (3, .int 0), (4, .int (s.1 959 (x1.toNatClampNeg)))] [2, 1, 0] rfl ?_
      exact LH_X13_fullOf_106 _ _ 0 (s.1 959 (x1.toNatClampNeg)) _ hk
    replace hk := t_neg hk h1
    by_cases h2 : (s.1 955 (x1.toNatClampNeg)).toInt = 7
    · replace hk := t_pos hk h2
      refine mj_tableIn 150 dX13_fullOf_6 hh1 hh2 (by rw [h2]; rfl) (by decide) ?_
      refine mj_aload_n dX13_fullOf_150 0 rfl ?_
      refine t_getR 957 dX13_fullOf_151 F_X13_32 qr_950_19 ?_
      refine mj_iload_n dX13_fullOf_154 1 rfl ?_
      refine t_lald dX13_fullOf_155 qa_957 (t_ixv c0) ?_
      refine mj_lconst (v := 0) dX13_fullOf_156 (by decide) ?_
      refine mj_lcmp dX13_fullOf_157 ?_
      refine mj_if_eq 175 dX13_fullOf_158 (by decide) (fun z => t_posK hk z (fun hk => ?_)) (fun z => t_negK hk z (fun hk => ?_))
      · refine mj_sublv [] [] rfl ?_
        exact B_X13_fullOf_175 _ _ hk
      · refine mj_aload_n dX13_fullOf_161 0 rfl ?_
        refine t_getR 1012 dX13_fullOf_162 F_X13_200 qr_950_109 ?_
        refine mj_aload_n dX13_fullOf_165 0 rfl ?_
        refine t_getR 959 dX13_fullOf_166 F_X13_39 qr_950_21 ?_
        refine mj_iload_n dX13_fullOf_169 1 rfl ?_
        refine t_iald dX13_fullOf_170 qa_959 (t_ixv c0) ?_
        refine t_chkK hk (fun c1 hk => ?_)
        refine t_zald dX13_fullOf_171 qa_1012 (t_ixv c1) ?_
        refine mj_if_eq 179 dX13_fullOf_172 (by decide) (fun z => t_posK hk z (fun hk => ?_)) (fun z => t_negK hk z (fun hk => ?_))
        · refine mj_iconst (v := 0) dX13_fullOf_179 (by decide) ?_
          exact t_somK hk (fun hf => t_iret dX13_fullOf_180 rfl (by decide) ⟨rfl, _, rfl, hf⟩ (Nat.le_of_ble_eq_true rfl) (Nat.le_of_ble_eq_true rfl))
        · refine mj_sublv [] [] rfl ?_
          exact B_X13_fullOf_175 _ _ hk
    replace hk := t_neg hk h2
    have h3 : (s.1 955 (x1.toNatClampNeg)).toInt = 8 := by omega
    refine mj_tableIn 181 dX13_fullOf_6 hh1 hh2 (by rw [h3]; rfl) (by decide) ?_
    refine mj_aload_n dX13_fullOf_181 0 rfl ?_
    refine t_getR 1012 dX13_fullOf_182 F_X13_200 qr_950_109 ?_
    refine mj_aload_n dX13_fullOf_185 0 rfl ?_
    refine t_getR 965 dX13_fullOf_186 F_X13_57 qr_950_38 ?_
    refine mj_aload_n dX13_fullOf_189 0 rfl ?_
    refine mj_aload_n dX13_fullOf_190 0 rfl ?_
    refine t_getR 964 dX13_fullOf_191 F_X13_54 qr_950_37 ?_
    refine mj_iconst (v := 0) dX13_fullOf_194 (by decide) ?_
    refine mj_aload_n dX13_fullOf_195 0 rfl ?_
    refine t_getI dX13_fullOf_196 F_X13_624 qf_950_40 ?_
    refine mj_aload_n dX13_fullOf_199 0 rfl ?_
    refine t_getR 957 dX13_fullOf_200 F_X13_32 qr_950_19 ?_
    refine mj_iload_n dX13_fullOf_203 1 rfl ?_
    refine t_lald dX13_fullOf_204 qa_957 (t_ixv c0) ?_
    refine mj_l2i (v := (s.2.1 957 (x1.toNatClampNeg)).toInt32) dX13_fullOf_205 rfl ?_
    refine t_bndK hk (fun r3 er3 hk => ?_)
    refine t_callViP dX13_fullOf_206 M_X13_find (C_X13_find _ _ _ _ _ _ er3) ML_X13_788 IM_X13_find SE_X13_find qc_950 rfl (As := [.ref 964, .int 0, .int (s.1 950 40), .int ((s.2.1 957 (x1.toNatClampNeg)).toInt32)]) rfl rfl (Nat.le_of_ble_eq_true rfl) (Nat.le_of_ble_eq_true rfl) (Nat.le_of_ble_eq_true rfl) (Nat.le_of_ble_eq_true rfl) ?_
    refine t_chkK hk (fun c3 hk => ?_)
    refine t_iald dX13_fullOf_209 qa_965 (t_ixv c3) ?_
    refine t_chkK hk (fun c4 hk => ?_)
    refine t_zald dX13_fullOf_210 qa_1012 (t_ixv c4) ?_
    refine t_chkK hk (fun c5 hk => ?_)
    exact t_somK hk (fun hf => t_iret dX13_fullOf_211 rfl (t_zfit c5) ⟨rfl, _, rfl, hf⟩ (Nat.le_of_ble_eq_true rfl) (Nat.le_of_ble_eq_true rfl))

theorem dX13_isTypeNode_0 : decode cX13_isTypeNode 0 = .ok (.aload_n 0, 1) := by decide +kernel
theorem dX13_isTypeNode_1 : decode cX13_isTypeNode 1 = .ok (.getfield 26, 3) := by decide +kernel
theorem dX13_isTypeNode_11 : decode cX13_isTypeNode 11 = .ok (.invokestatic 371, 3) := by decide +kernel
theorem dX13_isTypeNode_14 : decode cX13_isTypeNode 14 = .ok (.ireturn, 1) := by decide +kernel
theorem dX13_isTypeNode_4 : decode cX13_isTypeNode 4 = .ok (.iload_n 1, 1) := by decide +kernel
theorem dX13_isTypeNode_5 : decode cX13_isTypeNode 5 = .ok (.iaload, 1) := by decide +kernel
theorem dX13_isTypeNode_6 : decode cX13_isTypeNode 6 = .ok (.i2l, 1) := by decide +kernel
theorem dX13_isTypeNode_7 : decode cX13_isTypeNode 7 = .ok (.lconst 1, 1) := by decide +kernel
theorem dX13_isTypeNode_8 : decode cX13_isTypeNode 8 = .ok (.ldc2_w 951, 3) := by decide +kernel
noncomputable def f_X13_isTypeNode (x1 : Int32) (s : t_S) : Option (Int32) :=
 if t_ix x1 13000 = true then
  if (f_X13_in ((s.1 955 (x1.toNatClampNeg)).toInt64) (1 : Int64) (8 : Int64) s) = 0 ∨ (f_X13_in ((s.1 955 (x1.toNatClampNeg)).toInt64) (1 : Int64) (8 : Int64) s) = 1 then
  some (f_X13_in ((s.1 955 (x1.toNatClampNeg)).toInt64) (1 : Int64) (8 : Int64) s)
else none
else none
set_option maxRecDepth 4000 in
set_option maxHeartbeats 1000000 in
theorem C_X13_isTypeNode (x1 : Int32) (s : t_S) (r : Int32) (hr : f_X13_isTypeNode x1 s = some r) : t_C yX13_isTypeNode cX13_isTypeNode 2 (some .boolean) 1 [.ref 950, .int x1] s (fun v s' => v = some (.int r) ∧ s' = s) := by
  refine t_C.imp (P := fun v s' => s' = s ∧ ∃ x, v = some (.int x) ∧ (fun q => q = r) (x)) (t_C.of (by decide +kernel) (Nat.le_of_ble_eq_true rfl) ?_) (fun v s' hp => by obtain ⟨rfl, x, rfl, rfl⟩ := hp; exact ⟨rfl, rfl⟩)
  intro D cy ad bs X
  have hk : t_hk (f_X13_isTypeNode x1 s) (fun q => q = r) := ⟨r, hr, rfl⟩
  show mj_G D cy ad bs X cX13_isTypeNode 2 yX13_isTypeNode.cls (some .boolean) yX13_isTypeNode.name 1 0 0 1065 (t_P (fun v s' => s' = s ∧ ∃ x, v = some (.int x) ∧ (fun q => q = r) (x))) 0 [(0, .ref 950), (1, .int x1)] [] (t_m s) 1065 0 0
  refine mj_aload_n dX13_isTypeNode_0 0 rfl ?_
  refine t_getR 955 dX13_isTypeNode_1 F_X13_26 qr_950_17 ?_
  refine mj_iload_n dX13_isTypeNode_4 1 rfl ?_
  refine t_chkK hk (fun c0 hk => ?_)
  refine t_iald dX13_isTypeNode_5 qa_955 (t_ixv c0) ?_
  refine mj_i2l (v := (s.1 955 (x1.toNatClampNeg)).toInt64) dX13_isTypeNode_6 rfl ?_
  refine mj_lconst (v := 1) dX13_isTypeNode_7 (by decide) ?_
  refine mj_ldc2 dX13_isTypeNode_8 K_X13_951 ?_
  refine t_callSiP dX13_isTypeNode_11 M_X13_in (C_X13_in _ _ _ _) ML_X13_371 SM_X13_in (As := [.long ((s.1 955 (x1.toNatClampNeg)).toInt64), .long 1, .long 8]) rfl rfl (Nat.le_of_ble_eq_true rfl) (Nat.le_of_ble_eq_true rfl) (Nat.le_of_ble_eq_true rfl) (Nat.le_of_ble_eq_true rfl) ?_
  refine t_chkK hk (fun c2 hk => ?_)
  exact t_somK hk (fun hf => t_iret dX13_isTypeNode_14 rfl (t_zfit c2) ⟨rfl, _, rfl, hf⟩ (Nat.le_of_ble_eq_true rfl) (Nat.le_of_ble_eq_true rfl))

theorem dX13_mulFar_0 : decode cX13_mulFar 0 = .ok (.lload_n 1, 1) := by decide +kernel
theorem dX13_mulFar_1 : decode cX13_mulFar 1 = .ok (.lconst 0, 1) := by decide +kernel
theorem dX13_mulFar_12 : decode cX13_mulFar 12 = .ok (.lconst 0, 1) := by decide +kernel
theorem dX13_mulFar_13 : decode cX13_mulFar 13 = .ok (.goto 38, 3) := by decide +kernel
theorem dX13_mulFar_16 : decode cX13_mulFar 16 = .ok (.lload_n 1, 1) := by decide +kernel
theorem dX13_mulFar_17 : decode cX13_mulFar 17 = .ok (.ldc2_w 1054, 3) := by decide +kernel
theorem dX13_mulFar_2 : decode cX13_mulFar 2 = .ok (.lcmp, 1) := by decide +kernel
theorem dX13_mulFar_20 : decode cX13_mulFar 20 = .ok (.lload_n 3, 1) := by decide +kernel
theorem dX13_mulFar_21 : decode cX13_mulFar 21 = .ok (.ldiv, 1) := by decide +kernel
theorem dX13_mulFar_22 : decode cX13_mulFar 22 = .ok (.lcmp, 1) := by decide +kernel
theorem dX13_mulFar_23 : decode cX13_mulFar 23 = .ok (.ifCond .le 9, 3) := by decide +kernel
theorem dX13_mulFar_26 : decode cX13_mulFar 26 = .ok (.ldc2_w 1054, 3) := by decide +kernel
theorem dX13_mulFar_29 : decode cX13_mulFar 29 = .ok (.goto 22, 3) := by decide +kernel
theorem dX13_mulFar_3 : decode cX13_mulFar 3 = .ok (.ifCond .eq 9, 3) := by decide +kernel
theorem dX13_mulFar_32 : decode cX13_mulFar 32 = .ok (.lload_n 1, 1) := by decide +kernel
theorem dX13_mulFar_33 : decode cX13_mulFar 33 = .ok (.lload_n 3, 1) := by decide +kernel
theorem dX13_mulFar_34 : decode cX13_mulFar 34 = .ok (.lmul, 1) := by decide +kernel
theorem dX13_mulFar_35 : decode cX13_mulFar 35 = .ok (.ldc2_w 1054, 3) := by decide +kernel
theorem dX13_mulFar_38 : decode cX13_mulFar 38 = .ok (.lcmp, 1) := by decide +kernel
theorem dX13_mulFar_39 : decode cX13_mulFar 39 = .ok (.ifCond .le 9, 3) := by decide +kernel
theorem dX13_mulFar_42 : decode cX13_mulFar 42 = .ok (.ldc2_w 1054, 3) := by decide +kernel
theorem dX13_mulFar_45 : decode cX13_mulFar 45 = .ok (.goto 6, 3) := by decide +kernel
theorem dX13_mulFar_48 : decode cX13_mulFar 48 = .ok (.lload_n 1, 1) := by decide +kernel
theorem dX13_mulFar_49 : decode cX13_mulFar 49 = .ok (.lload_n 3, 1) := by decide +kernel
theorem dX13_mulFar_50 : decode cX13_mulFar 50 = .ok (.lmul, 1) := by decide +kernel
theorem dX13_mulFar_51 : decode cX13_mulFar 51 = .ok (.lreturn, 1) := by decide +kernel
theorem dX13_mulFar_6 : decode cX13_mulFar 6 = .ok (.lload_n 3, 1) := by decide +kernel
theorem dX13_mulFar_7 : decode cX13_mulFar 7 = .ok (.lconst 0, 1) := by decide +kernel
theorem dX13_mulFar_8 : decode cX13_mulFar 8 = .ok (.lcmp, 1) := by decide +kernel
theorem dX13_mulFar_9 : decode cX13_mulFar 9 = .ok (.ifCond .ne 7, 3) := by decide +kernel
noncomputable def k_X13_mulFar_12 (s : t_S) : Option (Int64) :=
 some (0 : Int64)
set_option maxRecDepth 4000 in
set_option maxHeartbeats 1000000 in
theorem B_X13_mulFar_12 {D : va_G} {cy : Nat → ClassId} {ad : Nat → Nat} {bs : Nat} {X : State → Heap → Prop} (s : t_S) (Q : Int64 → Prop) (hk : t_hk (k_X13_mulFar_12 s) Q) : mj_G D cy ad bs X cX13_mulFar 5 yX13_mulFar.cls (some .long) yX13_mulFar.name 0 0 0 1065 (t_P (fun v s' => s' = s ∧ ∃ x, v = some (.long x) ∧ Q (x))) 12 [] [] (t_m s) 1065 0 0 := by
  refine mj_lconst (v := 0) dX13_mulFar_12 (by decide) ?_
  refine mj_goto 51 dX13_mulFar_13 (by decide) ?_
  exact t_somK hk (fun hf => t_lret dX13_mulFar_51 rfl ⟨rfl, _, rfl, hf⟩ (Nat.le_of_ble_eq_true rfl) (Nat.le_of_ble_eq_true rfl))
noncomputable def f_X13_mulFar (x1 : Int64) (x2 : Int64) (s : t_S) : Option (Int64) :=
 if (lg_cmp x1 (0 : Int64)) = (0 : Int32) then (k_X13_mulFar_12 s)
 else (if (lg_cmp x2 (0 : Int64)) = (0 : Int32) then (k_X13_mulFar_12 s)
 else (if ¬ x2 = 0 then
  if (lg_cmp x1 ((4000000000000000000 : Int64) / x2)) ≤ (0 : Int32) then (if (lg_cmp (x1 * x2) (4000000000000000000 : Int64)) ≤ (0 : Int32) then (some (x1 * x2))
 else (some (4000000000000000000 : Int64)))
 else (some (4000000000000000000 : Int64))
else none))
set_option maxRecDepth 4000 in
set_option maxHeartbeats 1000000 in
theorem C_X13_mulFar (x1 : Int64) (x2 : Int64) (s : t_S) (r : Int64) (hr : f_X13_mulFar x1 x2 s = some r) : t_C yX13_mulFar cX13_mulFar 5 (some .long) 0 [.ref 950, .long x1, .long x2] s (fun v s' => v = some (.long r) ∧ s' = s) := by
  refine t_C.imp (P := fun v s' => s' = s ∧ ∃ x, v = some (.long x) ∧ (fun q => q = r) (x)) (t_C.of (by decide +kernel) (Nat.le_of_ble_eq_true rfl) ?_) (fun v s' hp => by obtain ⟨rfl, x, rfl, rfl⟩ := hp; exact ⟨rfl, rfl⟩)
  intro D cy ad bs X
  have hk : t_hk (f_X13_mulFar x1 x2 s) (fun q => q = r) := ⟨r, hr, rfl⟩
  show mj_G D cy ad bs X cX13_mulFar 5 yX13_mulFar.cls (some .long) yX13_mulFar.name 0 0 0 1065 (t_P (fun v s' => s' = s ∧ ∃ x, v = some (.long x) ∧ (fun q => q = r) (x))) 0 [(0, .ref 950), (1, .long x1), (3, .long x2)] [] (t_m s) 1065 0 0
  refine mj_lload_n dX13_mulFar_0 1 rfl ?_
  refine mj_lconst (v := 0) dX13_mulFar_1 (by decide) ?_
  refine mj_lcmp dX13_mulFar_2 ?_
  refine mj_if_eq 12 dX13_mulFar_3 (by decide) (fun z => t_posK hk z (fun hk => ?_)) (fun z => t_negK hk z (fun hk => ?_))
  · refine mj_sublv [] [] rfl ?_
    exact B_X13_mulFar_12 _ _ hk
  · refine mj_lload_n dX13_mulFar_6 2 rfl ?_
    refine mj_lconst (v := 0) dX13_mulFar_7 (by decide) ?_
    refine mj_lcmp dX13_mulFar_8 ?_
    refine mj_if_ne 16 dX13_mulFar_9 (by decide) (fun z => t_negK hk z (fun hk => ?_)) (fun z => t_posK hk z (fun hk => ?_))
    · refine mj_lload_n dX13_mulFar_16 1 rfl ?_
      refine mj_ldc2 dX13_mulFar_17 K_X13_1054 ?_
      refine mj_lload_n dX13_mulFar_20 2 rfl ?_
      refine t_chkK hk (fun c0 hk => ?_)
      refine mj_ldiv dX13_mulFar_21 c0 ?_
      refine mj_lcmp dX13_mulFar_22 ?_
      refine mj_if_le 32 dX13_mulFar_23 (by decide) (fun z => t_posK hk z (fun hk => ?_)) (fun z => t_negK hk z (fun hk => ?_))
      · refine mj_lload_n dX13_mulFar_32 1 rfl ?_
        refine mj_lload_n dX13_mulFar_33 2 rfl ?_
        refine mj_lmul dX13_mulFar_34 ?_
        refine mj_ldc2 dX13_mulFar_35 K_X13_1054 ?_
        refine mj_lcmp dX13_mulFar_38 ?_
        refine mj_if_le 48 dX13_mulFar_39 (by decide) (fun z => t_posK hk z (fun hk => ?_)) (fun z => t_negK hk z (fun hk => ?_))
        · refine mj_lload_n dX13_mulFar_48 1 rfl ?_
          refine mj_lload_n dX13_mulFar_49 2 rfl ?_
          refine mj_lmul dX13_mulFar_50 ?_
          exact t_somK hk (fun hf => t_lret dX13_mulFar_51 rfl ⟨rfl, _, rfl, hf⟩ (Nat.le_of_ble_eq_true rfl) (Nat.le_of_ble_eq_true rfl))
        · refine mj_ldc2 dX13_mulFar_42 K_X13_1054 ?_
          refine mj_goto 51 dX13_mulFar_45 (by decide) ?_
          exact t_somK hk (fun hf => t_lret dX13_mulFar_51 rfl ⟨rfl, _, rfl, hf⟩ (Nat.le_of_ble_eq_true rfl) (Nat.le_of_ble_eq_true rfl))
      · refine mj_ldc2 dX13_mulFar_26 K_X13_1054 ?_
        refine mj_goto 51 dX13_mulFar_29 (by decide) ?_
        exact t_somK hk (fun hf => t_lret dX13_mulFar_51 rfl ⟨rfl, _, rfl, hf⟩ (Nat.le_of_ble_eq_true rfl) (Nat.le_of_ble_eq_true rfl))
    · refine mj_sublv [] [] rfl ?_
      exact B_X13_mulFar_12 _ _ hk

theorem dX13_lightOf_0 : decode cX13_lightOf 0 = .ok (.aload_n 0, 1) := by decide +kernel
theorem dX13_lightOf_1 : decode cX13_lightOf 1 = .ok (.getfield 26, 3) := by decide +kernel
theorem dX13_lightOf_100 : decode cX13_lightOf 100 = .ok (.iload 4, 2) := by decide +kernel
theorem dX13_lightOf_102 : decode cX13_lightOf 102 = .ok (.iaload, 1) := by decide +kernel
theorem dX13_lightOf_103 : decode cX13_lightOf 103 = .ok (.laload, 1) := by decide +kernel
theorem dX13_lightOf_104 : decode cX13_lightOf 104 = .ok (.invokevirtual 1056, 3) := by decide +kernel
theorem dX13_lightOf_107 : decode cX13_lightOf 107 = .ok (.invokevirtual 1056, 3) := by decide +kernel
theorem dX13_lightOf_110 : decode cX13_lightOf 110 = .ok (.lstore_n 2, 1) := by decide +kernel
theorem dX13_lightOf_111 : decode cX13_lightOf 111 = .ok (.aload_n 0, 1) := by decide +kernel
theorem dX13_lightOf_112 : decode cX13_lightOf 112 = .ok (.getfield 42, 3) := by decide +kernel
theorem dX13_lightOf_115 : decode cX13_lightOf 115 = .ok (.iload 4, 2) := by decide +kernel
theorem dX13_lightOf_117 : decode cX13_lightOf 117 = .ok (.iaload, 1) := by decide +kernel
theorem dX13_lightOf_118 : decode cX13_lightOf 118 = .ok (.istore 4, 2) := by decide +kernel
theorem dX13_lightOf_120 : decode cX13_lightOf 120 = .ok (.goto (-53), 3) := by decide +kernel
theorem dX13_lightOf_123 : decode cX13_lightOf 123 = .ok (.lload_n 2, 1) := by decide +kernel
theorem dX13_lightOf_124 : decode cX13_lightOf 124 = .ok (.lreturn, 1) := by decide +kernel
theorem dX13_lightOf_125 : decode cX13_lightOf 125 = .ok (.ldc2_w 1054, 3) := by decide +kernel
theorem dX13_lightOf_128 : decode cX13_lightOf 128 = .ok (.lstore 4, 2) := by decide +kernel
theorem dX13_lightOf_130 : decode cX13_lightOf 130 = .ok (.aload_n 0, 1) := by decide +kernel
theorem dX13_lightOf_131 : decode cX13_lightOf 131 = .ok (.getfield 39, 3) := by decide +kernel
theorem dX13_lightOf_134 : decode cX13_lightOf 134 = .ok (.iload_n 1, 1) := by decide +kernel
theorem dX13_lightOf_135 : decode cX13_lightOf 135 = .ok (.iaload, 1) := by decide +kernel
theorem dX13_lightOf_136 : decode cX13_lightOf 136 = .ok (.istore 6, 2) := by decide +kernel
theorem dX13_lightOf_138 : decode cX13_lightOf 138 = .ok (.iload 6, 2) := by decide +kernel
theorem dX13_lightOf_140 : decode cX13_lightOf 140 = .ok (.ifCond .lt 51, 3) := by decide +kernel
theorem dX13_lightOf_143 : decode cX13_lightOf 143 = .ok (.aload_n 0, 1) := by decide +kernel
theorem dX13_lightOf_144 : decode cX13_lightOf 144 = .ok (.lconst 1, 1) := by decide +kernel
theorem dX13_lightOf_145 : decode cX13_lightOf 145 = .ok (.aload_n 0, 1) := by decide +kernel
theorem dX13_lightOf_146 : decode cX13_lightOf 146 = .ok (.getfield 197, 3) := by decide +kernel
theorem dX13_lightOf_149 : decode cX13_lightOf 149 = .ok (.aload_n 0, 1) := by decide +kernel
theorem dX13_lightOf_150 : decode cX13_lightOf 150 = .ok (.getfield 39, 3) := by decide +kernel
theorem dX13_lightOf_153 : decode cX13_lightOf 153 = .ok (.iload 6, 2) := by decide +kernel
theorem dX13_lightOf_155 : decode cX13_lightOf 155 = .ok (.iaload, 1) := by decide +kernel
theorem dX13_lightOf_156 : decode cX13_lightOf 156 = .ok (.laload, 1) := by decide +kernel
theorem dX13_lightOf_157 : decode cX13_lightOf 157 = .ok (.invokevirtual 1056, 3) := by decide +kernel
theorem dX13_lightOf_160 : decode cX13_lightOf 160 = .ok (.lstore 7, 2) := by decide +kernel
theorem dX13_lightOf_162 : decode cX13_lightOf 162 = .ok (.lload 7, 2) := by decide +kernel
theorem dX13_lightOf_164 : decode cX13_lightOf 164 = .ok (.lload 4, 2) := by decide +kernel
theorem dX13_lightOf_166 : decode cX13_lightOf 166 = .ok (.lcmp, 1) := by decide +kernel
theorem dX13_lightOf_167 : decode cX13_lightOf 167 = .ok (.ifCond .ge 8, 3) := by decide +kernel
theorem dX13_lightOf_170 : decode cX13_lightOf 170 = .ok (.lload 7, 2) := by decide +kernel
theorem dX13_lightOf_172 : decode cX13_lightOf 172 = .ok (.goto 5, 3) := by decide +kernel
theorem dX13_lightOf_175 : decode cX13_lightOf 175 = .ok (.lload 4, 2) := by decide +kernel
theorem dX13_lightOf_177 : decode cX13_lightOf 177 = .ok (.lstore 4, 2) := by decide +kernel
theorem dX13_lightOf_179 : decode cX13_lightOf 179 = .ok (.aload_n 0, 1) := by decide +kernel
theorem dX13_lightOf_180 : decode cX13_lightOf 180 = .ok (.getfield 42, 3) := by decide +kernel
theorem dX13_lightOf_183 : decode cX13_lightOf 183 = .ok (.iload 6, 2) := by decide +kernel
theorem dX13_lightOf_185 : decode cX13_lightOf 185 = .ok (.iaload, 1) := by decide +kernel
theorem dX13_lightOf_186 : decode cX13_lightOf 186 = .ok (.istore 6, 2) := by decide +kernel
theorem dX13_lightOf_188 : decode cX13_lightOf 188 = .ok (.goto (-50), 3) := by decide +kernel
theorem dX13_lightOf_191 : decode cX13_lightOf 191 = .ok (.lload 4, 2) := by decide +kernel
theorem dX13_lightOf_193 : decode cX13_lightOf 193 = .ok (.lreturn, 1) := by decide +kernel
theorem dX13_lightOf_194 : decode cX13_lightOf 194 = .ok (.aload_n 0, 1) := by decide +kernel
theorem dX13_lightOf_195 : decode cX13_lightOf 195 = .ok (.getfield 32, 3) := by decide +kernel
theorem dX13_lightOf_198 : decode cX13_lightOf 198 = .ok (.iload_n 1, 1) := by decide +kernel
theorem dX13_lightOf_199 : decode cX13_lightOf 199 = .ok (.laload, 1) := by decide +kernel
theorem dX13_lightOf_200 : decode cX13_lightOf 200 = .ok (.lconst 0, 1) := by decide +kernel
theorem dX13_lightOf_201 : decode cX13_lightOf 201 = .ok (.lcmp, 1) := by decide +kernel
theorem dX13_lightOf_202 : decode cX13_lightOf 202 = .ok (.ifCond .ne 7, 3) := by decide +kernel
theorem dX13_lightOf_205 : decode cX13_lightOf 205 = .ok (.lconst 1, 1) := by decide +kernel
theorem dX13_lightOf_206 : decode cX13_lightOf 206 = .ok (.goto 29, 3) := by decide +kernel
theorem dX13_lightOf_209 : decode cX13_lightOf 209 = .ok (.aload_n 0, 1) := by decide +kernel
theorem dX13_lightOf_210 : decode cX13_lightOf 210 = .ok (.lconst 1, 1) := by decide +kernel
theorem dX13_lightOf_211 : decode cX13_lightOf 211 = .ok (.aload_n 0, 1) := by decide +kernel
theorem dX13_lightOf_212 : decode cX13_lightOf 212 = .ok (.aload_n 0, 1) := by decide +kernel
theorem dX13_lightOf_213 : decode cX13_lightOf 213 = .ok (.getfield 32, 3) := by decide +kernel
theorem dX13_lightOf_216 : decode cX13_lightOf 216 = .ok (.iload_n 1, 1) := by decide +kernel
theorem dX13_lightOf_217 : decode cX13_lightOf 217 = .ok (.laload, 1) := by decide +kernel
theorem dX13_lightOf_218 : decode cX13_lightOf 218 = .ok (.aload_n 0, 1) := by decide +kernel
theorem dX13_lightOf_219 : decode cX13_lightOf 219 = .ok (.getfield 197, 3) := by decide +kernel
theorem dX13_lightOf_222 : decode cX13_lightOf 222 = .ok (.aload_n 0, 1) := by decide +kernel
theorem dX13_lightOf_223 : decode cX13_lightOf 223 = .ok (.getfield 39, 3) := by decide +kernel
theorem dX13_lightOf_226 : decode cX13_lightOf 226 = .ok (.iload_n 1, 1) := by decide +kernel
theorem dX13_lightOf_227 : decode cX13_lightOf 227 = .ok (.iaload, 1) := by decide +kernel
theorem dX13_lightOf_228 : decode cX13_lightOf 228 = .ok (.laload, 1) := by decide +kernel
theorem dX13_lightOf_229 : decode cX13_lightOf 229 = .ok (.invokevirtual 1060, 3) := by decide +kernel
theorem dX13_lightOf_232 : decode cX13_lightOf 232 = .ok (.invokevirtual 1056, 3) := by decide +kernel
theorem dX13_lightOf_235 : decode cX13_lightOf 235 = .ok (.lreturn, 1) := by decide +kernel
theorem dX13_lightOf_236 : decode cX13_lightOf 236 = .ok (.aload_n 0, 1) := by decide +kernel
theorem dX13_lightOf_237 : decode cX13_lightOf 237 = .ok (.getfield 197, 3) := by decide +kernel
theorem dX13_lightOf_240 : decode cX13_lightOf 240 = .ok (.aload_n 0, 1) := by decide +kernel
theorem dX13_lightOf_241 : decode cX13_lightOf 241 = .ok (.getfield 57, 3) := by decide +kernel
theorem dX13_lightOf_244 : decode cX13_lightOf 244 = .ok (.aload_n 0, 1) := by decide +kernel
theorem dX13_lightOf_245 : decode cX13_lightOf 245 = .ok (.aload_n 0, 1) := by decide +kernel
theorem dX13_lightOf_246 : decode cX13_lightOf 246 = .ok (.getfield 54, 3) := by decide +kernel
theorem dX13_lightOf_249 : decode cX13_lightOf 249 = .ok (.iconst 0, 1) := by decide +kernel
theorem dX13_lightOf_250 : decode cX13_lightOf 250 = .ok (.aload_n 0, 1) := by decide +kernel
theorem dX13_lightOf_251 : decode cX13_lightOf 251 = .ok (.getfield 624, 3) := by decide +kernel
theorem dX13_lightOf_254 : decode cX13_lightOf 254 = .ok (.aload_n 0, 1) := by decide +kernel
theorem dX13_lightOf_255 : decode cX13_lightOf 255 = .ok (.getfield 32, 3) := by decide +kernel
theorem dX13_lightOf_258 : decode cX13_lightOf 258 = .ok (.iload_n 1, 1) := by decide +kernel
theorem dX13_lightOf_259 : decode cX13_lightOf 259 = .ok (.laload, 1) := by decide +kernel
theorem dX13_lightOf_260 : decode cX13_lightOf 260 = .ok (.l2i, 1) := by decide +kernel
theorem dX13_lightOf_261 : decode cX13_lightOf 261 = .ok (.invokevirtual 788, 3) := by decide +kernel
theorem dX13_lightOf_264 : decode cX13_lightOf 264 = .ok (.iaload, 1) := by decide +kernel
theorem dX13_lightOf_265 : decode cX13_lightOf 265 = .ok (.laload, 1) := by decide +kernel
theorem dX13_lightOf_266 : decode cX13_lightOf 266 = .ok (.lreturn, 1) := by decide +kernel
theorem dX13_lightOf_267 : decode cX13_lightOf 267 = .ok (.lconst 1, 1) := by decide +kernel
theorem dX13_lightOf_268 : decode cX13_lightOf 268 = .ok (.lreturn, 1) := by decide +kernel
theorem dX13_lightOf_4 : decode cX13_lightOf 4 = .ok (.iload_n 1, 1) := by decide +kernel
theorem dX13_lightOf_44 : decode cX13_lightOf 44 = .ok (.lconst 1, 1) := by decide +kernel
theorem dX13_lightOf_45 : decode cX13_lightOf 45 = .ok (.aload_n 0, 1) := by decide +kernel
theorem dX13_lightOf_46 : decode cX13_lightOf 46 = .ok (.getfield 32, 3) := by decide +kernel
theorem dX13_lightOf_49 : decode cX13_lightOf 49 = .ok (.iload_n 1, 1) := by decide +kernel
theorem dX13_lightOf_5 : decode cX13_lightOf 5 = .ok (.iaload, 1) := by decide +kernel
theorem dX13_lightOf_50 : decode cX13_lightOf 50 = .ok (.laload, 1) := by decide +kernel
theorem dX13_lightOf_51 : decode cX13_lightOf 51 = .ok (.invokestatic 845, 3) := by decide +kernel
theorem dX13_lightOf_54 : decode cX13_lightOf 54 = .ok (.i2l, 1) := by decide +kernel
theorem dX13_lightOf_55 : decode cX13_lightOf 55 = .ok (.ladd, 1) := by decide +kernel
theorem dX13_lightOf_56 : decode cX13_lightOf 56 = .ok (.lreturn, 1) := by decide +kernel
theorem dX13_lightOf_57 : decode cX13_lightOf 57 = .ok (.lconst 1, 1) := by decide +kernel
theorem dX13_lightOf_58 : decode cX13_lightOf 58 = .ok (.lstore_n 2, 1) := by decide +kernel
theorem dX13_lightOf_59 : decode cX13_lightOf 59 = .ok (.aload_n 0, 1) := by decide +kernel
theorem dX13_lightOf_6 : decode cX13_lightOf 6 = .ok (.tableswitch 261 3 8 #[38, 261, 51, 119, 188, 230], 38) := by decide +kernel
theorem dX13_lightOf_60 : decode cX13_lightOf 60 = .ok (.getfield 39, 3) := by decide +kernel
theorem dX13_lightOf_63 : decode cX13_lightOf 63 = .ok (.iload_n 1, 1) := by decide +kernel
theorem dX13_lightOf_64 : decode cX13_lightOf 64 = .ok (.iaload, 1) := by decide +kernel
theorem dX13_lightOf_65 : decode cX13_lightOf 65 = .ok (.istore 4, 2) := by decide +kernel
theorem dX13_lightOf_67 : decode cX13_lightOf 67 = .ok (.iload 4, 2) := by decide +kernel
theorem dX13_lightOf_69 : decode cX13_lightOf 69 = .ok (.ifCond .lt 54, 3) := by decide +kernel
theorem dX13_lightOf_72 : decode cX13_lightOf 72 = .ok (.aload_n 0, 1) := by decide +kernel
theorem dX13_lightOf_73 : decode cX13_lightOf 73 = .ok (.getfield 36, 3) := by decide +kernel
theorem dX13_lightOf_76 : decode cX13_lightOf 76 = .ok (.iload 4, 2) := by decide +kernel
theorem dX13_lightOf_78 : decode cX13_lightOf 78 = .ok (.laload, 1) := by decide +kernel
theorem dX13_lightOf_79 : decode cX13_lightOf 79 = .ok (.lconst 0, 1) := by decide +kernel
theorem dX13_lightOf_80 : decode cX13_lightOf 80 = .ok (.lcmp, 1) := by decide +kernel
theorem dX13_lightOf_81 : decode cX13_lightOf 81 = .ok (.ifCond .eq 7, 3) := by decide +kernel
theorem dX13_lightOf_84 : decode cX13_lightOf 84 = .ok (.lload_n 2, 1) := by decide +kernel
theorem dX13_lightOf_85 : decode cX13_lightOf 85 = .ok (.goto 25, 3) := by decide +kernel
theorem dX13_lightOf_88 : decode cX13_lightOf 88 = .ok (.aload_n 0, 1) := by decide +kernel
theorem dX13_lightOf_89 : decode cX13_lightOf 89 = .ok (.lload_n 2, 1) := by decide +kernel
theorem dX13_lightOf_90 : decode cX13_lightOf 90 = .ok (.aload_n 0, 1) := by decide +kernel
theorem dX13_lightOf_91 : decode cX13_lightOf 91 = .ok (.lconst 1, 1) := by decide +kernel
theorem dX13_lightOf_92 : decode cX13_lightOf 92 = .ok (.aload_n 0, 1) := by decide +kernel
theorem dX13_lightOf_93 : decode cX13_lightOf 93 = .ok (.getfield 197, 3) := by decide +kernel
theorem dX13_lightOf_96 : decode cX13_lightOf 96 = .ok (.aload_n 0, 1) := by decide +kernel
theorem dX13_lightOf_97 : decode cX13_lightOf 97 = .ok (.getfield 39, 3) := by decide +kernel
noncomputable def k_X13_lightOf_177 (l6 : Int32) (k0 : Int64) (s : t_S) : Option ((Int64 × Int32) ⊕ (Int64)) :=
 if t_ix l6 13000 = true then
  some (.inl (k0, (s.1 960 (l6.toNatClampNeg))))
else none
set_option maxRecDepth 4000 in
set_option maxHeartbeats 1000000 in
theorem B_X13_lightOf_177 {D : va_G} {cy : Nat → ClassId} {ad : Nat → Nat} {bs : Nat} {X : State → Heap → Prop} (l6 : Int32) (k0 : Int64) (s : t_S) (Q : (Int64 × Int32) ⊕ (Int64) → Prop) (Hb138 : ∀ (y0 : Int64) (y1 : Int32), Q (.inl (y0, y1)) → mj_G D cy ad bs X cX13_lightOf 9 yX13_lightOf.cls (some .long) yX13_lightOf.name 1 0 0 1065 (t_P (fun v s' => s' = s ∧ ∃ x, v = some (.long x) ∧ Q (.inr (x)))) 138 [(0, .ref 950), (4, .long (y0)), (6, .int (y1))] [] (t_m s) 1065 0 0) (hk : t_hk (k_X13_lightOf_177 l6 k0 s) Q) : mj_G D cy ad bs X cX13_lightOf 9 yX13_lightOf.cls (some .long) yX13_lightOf.name 1 0 0 1065 (t_P (fun v s' => s' = s ∧ ∃ x, v = some (.long x) ∧ Q (.inr (x)))) 177 [(0, .ref 950), (6, .int l6)] [.long k0] (t_m s) 1065 0 0 := by
  refine mj_lstore (lv2 := [(4, .long k0), (0, .ref 950), (6, .int l6)]) dX13_lightOf_177 (by decide) rfl ?_
  refine mj_aload_n dX13_lightOf_179 1 rfl ?_
  refine t_getR 960 dX13_lightOf_180 F_X13_42 qr_950_22 ?_
  refine mj_iload dX13_lightOf_183 2 rfl ?_
  refine t_chkK hk (fun c0 hk => ?_)
  refine t_iald dX13_lightOf_185 qa_960 (t_ixv c0) ?_
  refine mj_istore (lv2 := [(6, .int (s.1 960 (l6.toNatClampNeg))), (4, .long k0), (0, .ref 950)]) dX13_lightOf_186 (by decide) rfl ?_
  refine mj_goto 138 dX13_lightOf_188 (by decide) ?_
  refine mj_sublv [(0, .ref 950), (4, .long k0), (6, .int (s.1 960 (l6.toNatClampNeg)))] [2, 1, 0] rfl ?_
  exact t_somK hk (fun hf => Hb138 k0 (s.1 960 (l6.toNatClampNeg)) hf)
noncomputable def k_X13_lightOf_138 (l4 : Int64) (l6 : Int32) (s : t_S) : Option ((Int64 × Int32) ⊕ (Int64)) :=
 if l6 < (0 : Int32) then ((some (l4)).map Sum.inr)
 else (if t_ix l6 13000 = true then
  if t_ix (s.1 959 (l6.toNatClampNeg)) 13000 = true then
  if (0 : Int32) ≤ (lg_cmp (f_X13_addFar (1 : Int64) (s.2.1 1011 ((s.1 959 (l6.toNatClampNeg)).toNatClampNeg)) s) l4) then (k_X13_lightOf_177 l6 l4 s)
 else (k_X13_lightOf_177 l6 (f_X13_addFar (1 : Int64) (s.2.1 1011 ((s.1 959 (l6.toNatClampNeg)).toNatClampNeg)) s) s)
else none
else none)
set_option maxRecDepth 4000 in
set_option maxHeartbeats 1000000 in
theorem B_X13_lightOf_138 {D : va_G} {cy : Nat → ClassId} {ad : Nat → Nat} {bs : Nat} {X : State → Heap → Prop} (l4 : Int64) (l6 : Int32) (s : t_S) (Q : (Int64 × Int32) ⊕ (Int64) → Prop) (Hb138 : ∀ (y0 : Int64) (y1 : Int32), Q (.inl (y0, y1)) → mj_G D cy ad bs X cX13_lightOf 9 yX13_lightOf.cls (some .long) yX13_lightOf.name 1 0 0 1065 (t_P (fun v s' => s' = s ∧ ∃ x, v = some (.long x) ∧ Q (.inr (x)))) 138 [(0, .ref 950), (4, .long (y0)), (6, .int (y1))] [] (t_m s) 1065 0 0) (hk : t_hk (k_X13_lightOf_138 l4 l6 s) Q) : mj_G D cy ad bs X cX13_lightOf 9 yX13_lightOf.cls (some .long) yX13_lightOf.name 1 0 0 1065 (t_P (fun v s' => s' = s ∧ ∃ x, v = some (.long x) ∧ Q (.inr (x)))) 138 [(0, .ref 950), (4, .long l4), (6, .int l6)] [] (t_m s) 1065 0 0 := by
  refine mj_iload dX13_lightOf_138 2 rfl ?_
  refine mj_if_lt 191 dX13_lightOf_140 (by decide) (fun z => t_posK hk z (fun hk => ?_)) (fun z => t_negK hk z (fun hk => ?_))
  · refine t_mapK hk (fun hk => ?_)
    refine mj_lload dX13_lightOf_191 1 rfl ?_
    exact t_somK hk (fun hf => t_lret dX13_lightOf_193 rfl ⟨rfl, _, rfl, hf⟩ (Nat.le_of_ble_eq_true rfl) (Nat.le_of_ble_eq_true rfl))
  · refine mj_aload_n dX13_lightOf_143 0 rfl ?_
    refine mj_lconst (v := 1) dX13_lightOf_144 (by decide) ?_
    refine mj_aload_n dX13_lightOf_145 0 rfl ?_
    refine t_getR 1011 dX13_lightOf_146 F_X13_197 qr_950_107 ?_
    refine mj_aload_n dX13_lightOf_149 0 rfl ?_
    refine t_getR 959 dX13_lightOf_150 F_X13_39 qr_950_21 ?_
    refine mj_iload dX13_lightOf_153 2 rfl ?_
    refine t_chkK hk (fun c0 hk => ?_)
    refine t_iald dX13_lightOf_155 qa_959 (t_ixv c0) ?_
    refine t_chkK hk (fun c1 hk => ?_)
    refine t_lald dX13_lightOf_156 qa_1011 (t_ixv c1) ?_
    refine t_callVlP dX13_lightOf_157 M_X13_addFar (C_X13_addFar _ _ _) ML_X13_1056 IM_X13_addFar SE_X13_addFar qc_950 rfl (As := [.long 1, .long (s.2.1 1011 ((s.1 959 (l6.toNatClampNeg)).toNatClampNeg))]) rfl rfl (Nat.le_of_ble_eq_true rfl) (Nat.le_of_ble_eq_true rfl) (Nat.le_of_ble_eq_true rfl) (Nat.le_of_ble_eq_true rfl) ?_
    refine mj_lstore (lv2 := [(7, .long (f_X13_addFar (1 : Int64) (s.2.1 1011 ((s.1 959 (l6.toNatClampNeg)).toNatClampNeg)) s)), (0, .ref 950), (4, .long l4), (6, .int l6)]) dX13_lightOf_160 (by decide) rfl ?_
    refine mj_lload dX13_lightOf_162 0 rfl ?_
    refine mj_lload dX13_lightOf_164 2 rfl ?_
    refine mj_lcmp dX13_lightOf_166 ?_
    refine mj_if_ge 175 dX13_lightOf_167 (by decide) (fun z => t_posK hk z (fun hk => ?_)) (fun z => t_negK hk z (fun hk => ?_))
    · refine mj_lload dX13_lightOf_175 2 rfl ?_
      refine mj_sublv [(0, .ref 950), (6, .int l6)] [1, 3] rfl ?_
      exact B_X13_lightOf_177 _ _ _ _ (fun y0 y1 hx => Hb138 y0 y1 hx) hk
    · refine mj_lload dX13_lightOf_170 0 rfl ?_
      refine mj_goto 177 dX13_lightOf_172 (by decide) ?_
      refine mj_sublv [(0, .ref 950), (6, .int l6)] [1, 3] rfl ?_
      exact B_X13_lightOf_177 _ _ _ _ (fun y0 y1 hx => Hb138 y0 y1 hx) hk
noncomputable def b_X13_lightOf_138 (s : t_S) (x : Int64 × Int32) : Option ((Int64 × Int32) ⊕ (Int64)) := k_X13_lightOf_138 x.1 x.2 s
set_option maxRecDepth 4000 in
set_option maxHeartbeats 1000000 in
theorem LH_X13_lightOf_138 {D : va_G} {cy : Nat → ClassId} {ad : Nat → Nat} {bs : Nat} {X : State → Heap → Prop} (s : t_S) : ∀ (n : Nat) (y0 : Int64) (y1 : Int32) (Q : Int64 → Prop) (hk : t_hk (t_loop (b_X13_lightOf_138 s) n (y0, y1)) Q), mj_G D cy ad bs X cX13_lightOf 9 yX13_lightOf.cls (some .long) yX13_lightOf.name 1 0 0 1065 (t_P (fun v s' => s' = s ∧ ∃ x, v = some (.long x) ∧ Q (x))) 138 [(0, .ref 950), (4, .long (y0)), (6, .int (y1))] [] (t_m s) 1065 0 0 := by
  intro n
  induction n with
  | zero => intro y0 y1 Q hk; obtain ⟨r, hr, _⟩ := hk; cases hr
  | succ n ih =>
    intro y0 y1 Q hk
    exact B_X13_lightOf_138 y0 y1 s (fun y => t_lq (b_X13_lightOf_138 s) n Q y) (fun y0' y1' hy => ih y0' y1' Q hy) (t_lp (b := b_X13_lightOf_138 s) (n := n) (x := (y0, y1)) hk)
noncomputable def k_X13_lightOf_110 (l4 : Int32) (k0 : Int64) (s : t_S) : Option ((Int64 × Int32) ⊕ (Int64)) :=
 if t_ix l4 13000 = true then
  some (.inl (k0, (s.1 960 (l4.toNatClampNeg))))
else none
set_option maxRecDepth 4000 in
set_option maxHeartbeats 1000000 in
theorem B_X13_lightOf_110 {D : va_G} {cy : Nat → ClassId} {ad : Nat → Nat} {bs : Nat} {X : State → Heap → Prop} (l4 : Int32) (k0 : Int64) (s : t_S) (Q : (Int64 × Int32) ⊕ (Int64) → Prop) (Hb67 : ∀ (y0 : Int64) (y1 : Int32), Q (.inl (y0, y1)) → mj_G D cy ad bs X cX13_lightOf 9 yX13_lightOf.cls (some .long) yX13_lightOf.name 1 0 0 1065 (t_P (fun v s' => s' = s ∧ ∃ x, v = some (.long x) ∧ Q (.inr (x)))) 67 [(0, .ref 950), (2, .long (y0)), (4, .int (y1))] [] (t_m s) 1065 0 0) (hk : t_hk (k_X13_lightOf_110 l4 k0 s) Q) : mj_G D cy ad bs X cX13_lightOf 9 yX13_lightOf.cls (some .long) yX13_lightOf.name 1 0 0 1065 (t_P (fun v s' => s' = s ∧ ∃ x, v = some (.long x) ∧ Q (.inr (x)))) 110 [(0, .ref 950), (4, .int l4)] [.long k0] (t_m s) 1065 0 0 := by
  refine mj_lstore_n 2 (lv2 := [(2, .long k0), (0, .ref 950), (4, .int l4)]) dX13_lightOf_110 rfl (by decide) rfl ?_
  refine mj_aload_n dX13_lightOf_111 1 rfl ?_
  refine t_getR 960 dX13_lightOf_112 F_X13_42 qr_950_22 ?_
  refine mj_iload dX13_lightOf_115 2 rfl ?_
  refine t_chkK hk (fun c0 hk => ?_)
  refine t_iald dX13_lightOf_117 qa_960 (t_ixv c0) ?_
  refine mj_istore (lv2 := [(4, .int (s.1 960 (l4.toNatClampNeg))), (2, .long k0), (0, .ref 950)]) dX13_lightOf_118 (by decide) rfl ?_
  refine mj_goto 67 dX13_lightOf_120 (by decide) ?_
  refine mj_sublv [(0, .ref 950), (2, .long k0), (4, .int (s.1 960 (l4.toNatClampNeg)))] [2, 1, 0] rfl ?_
  exact t_somK hk (fun hf => Hb67 k0 (s.1 960 (l4.toNatClampNeg)) hf)
noncomputable def k_X13_lightOf_67 (l2 : Int64) (l4 : Int32) (s : t_S) : Option ((Int64 × Int32) ⊕ (Int64)) :=
 if l4 < (0 : Int32) then ((some (l2)).map Sum.inr)
 else (if t_ix l4 13000 = true then
  if (lg_cmp (s.2.1 958 (l4.toNatClampNeg)) (0 : Int64)) = (0 : Int32) then (if t_ix (s.1 959 (l4.toNatClampNeg)) 13000 = true then
  k_X13_lightOf_110 l4 (f_X13_addFar l2 (f_X13_addFar (1 : Int64) (s.2.1 1011 ((s.1 959 (l4.toNatClampNeg)).toNatClampNeg)) s) s) s
else none)
 else (k_X13_lightOf_110 l4 l2 s)
else none)
set_option maxRecDepth 4000 in
set_option maxHeartbeats 1000000 in
theorem B_X13_lightOf_67 {D : va_G} {cy : Nat → ClassId} {ad : Nat → Nat} {bs : Nat} {X : State → Heap → Prop} (l2 : Int64) (l4 : Int32) (s : t_S) (Q : (Int64 × Int32) ⊕ (Int64) → Prop) (Hb67 : ∀ (y0 : Int64) (y1 : Int32), Q (.inl (y0, y1)) → mj_G D cy ad bs X cX13_lightOf 9 yX13_lightOf.cls (some .long) yX13_lightOf.name 1 0 0 1065 (t_P (fun v s' => s' = s ∧ ∃ x, v = some (.long x) ∧ Q (.inr (x)))) 67 [(0, .ref 950), (2, .long (y0)), (4, .int (y1))] [] (t_m s) 1065 0 0) (hk : t_hk (k_X13_lightOf_67 l2 l4 s) Q) : mj_G D cy ad bs X cX13_lightOf 9 yX13_lightOf.cls (some .long) yX13_lightOf.name 1 0 0 1065 (t_P (fun v s' => s' = s ∧ ∃ x, v = some (.long x) ∧ Q (.inr (x)))) 67 [(0, .ref 950), (2, .long l2), (4, .int l4)] [] (t_m s) 1065 0 0 := by
  refine mj_iload dX13_lightOf_67 2 rfl ?_
  refine mj_if_lt 123 dX13_lightOf_69 (by decide) (fun z => t_posK hk z (fun hk => ?_)) (fun z => t_negK hk z (fun hk => ?_))
  · refine t_mapK hk (fun hk => ?_)
    refine mj_lload_n dX13_lightOf_123 1 rfl ?_
    exact t_somK hk (fun hf => t_lret dX13_lightOf_124 rfl ⟨rfl, _, rfl, hf⟩ (Nat.le_of_ble_eq_true rfl) (Nat.le_of_ble_eq_true rfl))
  · refine mj_aload_n dX13_lightOf_72 0 rfl ?_
    refine t_getR 958 dX13_lightOf_73 F_X13_36 qr_950_20 ?_
    refine mj_iload dX13_lightOf_76 2 rfl ?_
    refine t_chkK hk (fun c0 hk => ?_)
    refine t_lald dX13_lightOf_78 qa_958 (t_ixv c0) ?_
    refine mj_lconst (v := 0) dX13_lightOf_79 (by decide) ?_
    refine mj_lcmp dX13_lightOf_80 ?_
    refine mj_if_eq 88 dX13_lightOf_81 (by decide) (fun z => t_posK hk z (fun hk => ?_)) (fun z => t_negK hk z (fun hk => ?_))
    · refine mj_aload_n dX13_lightOf_88 0 rfl ?_
      refine mj_lload_n dX13_lightOf_89 1 rfl ?_
      refine mj_aload_n dX13_lightOf_90 0 rfl ?_
      refine mj_lconst (v := 1) dX13_lightOf_91 (by decide) ?_
      refine mj_aload_n dX13_lightOf_92 0 rfl ?_
      refine t_getR 1011 dX13_lightOf_93 F_X13_197 qr_950_107 ?_
      refine mj_aload_n dX13_lightOf_96 0 rfl ?_
      refine t_getR 959 dX13_lightOf_97 F_X13_39 qr_950_21 ?_
      refine mj_iload dX13_lightOf_100 2 rfl ?_
      refine t_iald dX13_lightOf_102 qa_959 (t_ixv c0) ?_
      refine t_chkK hk (fun c1 hk => ?_)
      refine t_lald dX13_lightOf_103 qa_1011 (t_ixv c1) ?_
      refine t_callVlP dX13_lightOf_104 M_X13_addFar (C_X13_addFar _ _ _) ML_X13_1056 IM_X13_addFar SE_X13_addFar qc_950 rfl (As := [.long 1, .long (s.2.1 1011 ((s.1 959 (l4.toNatClampNeg)).toNatClampNeg))]) rfl rfl (Nat.le_of_ble_eq_true rfl) (Nat.le_of_ble_eq_true rfl) (Nat.le_of_ble_eq_true rfl) (Nat.le_of_ble_eq_true rfl) ?_
      refine t_callVlP dX13_lightOf_107 M_X13_addFar (C_X13_addFar _ _ _) ML_X13_1056 IM_X13_addFar SE_X13_addFar qc_950 rfl (As := [.long l2, .long (f_X13_addFar (1 : Int64) (s.2.1 1011 ((s.1 959 (l4.toNatClampNeg)).toNatClampNeg)) s)]) rfl rfl (Nat.le_of_ble_eq_true rfl) (Nat.le_of_ble_eq_true rfl) (Nat.le_of_ble_eq_true rfl) (Nat.le_of_ble_eq_true rfl) ?_
      refine mj_sublv [(0, .ref 950), (4, .int l4)] [0, 2] rfl ?_
      exact B_X13_lightOf_110 _ _ _ _ (fun y0 y1 hx => Hb67 y0 y1 hx) hk
    · refine mj_lload_n dX13_lightOf_84 1 rfl ?_
      refine mj_goto 110 dX13_lightOf_85 (by decide) ?_
      refine mj_sublv [(0, .ref 950), (4, .int l4)] [0, 2] rfl ?_
      exact B_X13_lightOf_110 _ _ _ _ (fun y0 y1 hx => Hb67 y0 y1 hx) hk
noncomputable def b_X13_lightOf_67 (s : t_S) (x : Int64 × Int32) : Option ((Int64 × Int32) ⊕ (Int64)) := k_X13_lightOf_67 x.1 x.2 s
set_option maxRecDepth 4000 in
set_option maxHeartbeats 1000000 in
theorem LH_X13_lightOf_67 {D : va_G} {cy : Nat → ClassId} {ad : Nat → Nat} {bs : Nat} {X : State → Heap → Prop} (s : t_S) : ∀ (n : Nat) (y0 : Int64) (y1 : Int32) (Q : Int64 → Prop) (hk : t_hk (t_loop (b_X13_lightOf_67 s) n (y0, y1)) Q), mj_G D cy ad bs X cX13_lightOf 9 yX13_lightOf.cls (some .long) yX13_lightOf.name 1 0 0 1065 (t_P (fun v s' => s' = s ∧ ∃ x, v = some (.long x) ∧ Q (x))) 67 [(0, .ref 950), (2, .long (y0)), (4, .int (y1))] [] (t_m s) 1065 0 0 := by
  intro n
  induction n with
  | zero => intro y0 y1 Q hk; obtain ⟨r, hr, _⟩ := hk; cases hr
  | succ n ih =>
    intro y0 y1 Q hk
    exact B_X13_lightOf_67 y0 y1 s (fun y => t_lq (b_X13_lightOf_67 s) n Q y) (fun y0' y1' hy => ih y0' y1' Q hy) (t_lp (b := b_X13_lightOf_67 s) (n := n) (x := (y0, y1)) hk)
noncomputable def f_X13_lightOf (x1 : Int32) (s : t_S) : Option (Int64) :=
 if t_ix x1 13000 = true then
  if (s.1 955 (x1.toNatClampNeg)).toInt < 3 ∨ 8 < (s.1 955 (x1.toNatClampNeg)).toInt then (some (1 : Int64))
 else if (s.1 955 (x1.toNatClampNeg)).toInt = 3 then ((f_X13_packs (s.2.1 957 (x1.toNatClampNeg)) s).bind (fun r2 =>
 some ((1 : Int64) + r2.toInt64)))
 else if (s.1 955 (x1.toNatClampNeg)).toInt = 4 then (some (1 : Int64))
 else if (s.1 955 (x1.toNatClampNeg)).toInt = 5 then (t_loop (b_X13_lightOf_67 s) t_N (1, (s.1 959 (x1.toNatClampNeg))))
 else if (s.1 955 (x1.toNatClampNeg)).toInt = 6 then (t_loop (b_X13_lightOf_138 s) t_N (4000000000000000000, (s.1 959 (x1.toNatClampNeg))))
 else if (s.1 955 (x1.toNatClampNeg)).toInt = 7 then (if (lg_cmp (s.2.1 957 (x1.toNatClampNeg)) (0 : Int64)) = (0 : Int32) then (some (1 : Int64))
 else (if t_ix (s.1 959 (x1.toNatClampNeg)) 13000 = true then
  (f_X13_mulFar (s.2.1 957 (x1.toNatClampNeg)) (s.2.1 1011 ((s.1 959 (x1.toNatClampNeg)).toNatClampNeg)) s).bind (fun r4 =>
 some (f_X13_addFar (1 : Int64) r4 s))
else none))
 else ((f_X13_find 964 (0 : Int32) (s.1 950 40) ((s.2.1 957 (x1.toNatClampNeg)).toInt32) s).bind (fun r6 =>
 if t_ix r6 60 = true then
  if t_ix (s.1 965 (r6.toNatClampNeg)) 13000 = true then
  some (s.2.1 1011 ((s.1 965 (r6.toNatClampNeg)).toNatClampNeg))
else none
else none))
else none
set_option maxRecDepth 4000 in
set_option maxHeartbeats 1000000 in
theorem C_X13_lightOf (x1 : Int32) (s : t_S) (r : Int64) (hr : f_X13_lightOf x1 s = some r) : t_C yX13_lightOf cX13_lightOf 9 (some .long) 1 [.ref 950, .int x1] s (fun v s' => v = some (.long r) ∧ s' = s) := by
  refine t_C.imp (P := fun v s' => s' = s ∧ ∃ x, v = some (.long x) ∧ (fun q => q = r) (x)) (t_C.of (by decide +kernel) (Nat.le_of_ble_eq_true rfl) ?_) (fun v s' hp => by obtain ⟨rfl, x, rfl, rfl⟩ := hp; exact ⟨rfl, rfl⟩)
  intro D cy ad bs X
  have hk : t_hk (f_X13_lightOf x1 s) (fun q => q = r) := ⟨r, hr, rfl⟩
  show mj_G D cy ad bs X cX13_lightOf 9 yX13_lightOf.cls (some .long) yX13_lightOf.name 1 0 0 1065 (t_P (fun v s' => s' = s ∧ ∃ x, v = some (.long x) ∧ (fun q => q = r) (x))) 0 [(0, .ref 950), (1, .int x1)] [] (t_m s) 1065 0 0
  refine mj_aload_n dX13_lightOf_0 0 rfl ?_
  refine t_getR 955 dX13_lightOf_1 F_X13_26 qr_950_17 ?_
  refine mj_iload_n dX13_lightOf_4 1 rfl ?_
  refine t_chkK hk (fun c0 hk => ?_)
  refine t_iald dX13_lightOf_5 qa_955 (t_ixv c0) ?_
  by_cases hout : (s.1 955 (x1.toNatClampNeg)).toInt < 3 ∨ 8 < (s.1 955 (x1.toNatClampNeg)).toInt
  · replace hk := t_pos hk hout
    refine mj_tableOut 267 dX13_lightOf_6 hout (by decide) ?_
    refine mj_lconst (v := 1) dX13_lightOf_267 (by decide) ?_
    exact t_somK hk (fun hf => t_lret dX13_lightOf_268 rfl ⟨rfl, _, rfl, hf⟩ (Nat.le_of_ble_eq_true rfl) (Nat.le_of_ble_eq_true rfl))
  · replace hk := t_neg hk hout
    have hh1 : ¬ (s.1 955 (x1.toNatClampNeg)).toInt < 3 := fun z => hout (Or.inl z)
    have hh2 : ¬ (8 : Int) < (s.1 955 (x1.toNatClampNeg)).toInt := fun z => hout (Or.inr z)
    by_cases h0 : (s.1 955 (x1.toNatClampNeg)).toInt = 3
    · replace hk := t_pos hk h0
      refine mj_tableIn 44 dX13_lightOf_6 hh1 hh2 (by rw [h0]; rfl) (by decide) ?_
      refine mj_lconst (v := 1) dX13_lightOf_44 (by decide) ?_
      refine mj_aload_n dX13_lightOf_45 0 rfl ?_
      refine t_getR 957 dX13_lightOf_46 F_X13_32 qr_950_19 ?_
      refine mj_iload_n dX13_lightOf_49 1 rfl ?_
      refine t_lald dX13_lightOf_50 qa_957 (t_ixv c0) ?_
      refine t_bndK hk (fun r2 er2 hk => ?_)
      refine t_callSiP dX13_lightOf_51 M_X13_packs (C_X13_packs _ _ _ er2) ML_X13_845 SM_X13_packs (As := [.long (s.2.1 957 (x1.toNatClampNeg))]) rfl rfl (Nat.le_of_ble_eq_true rfl) (Nat.le_of_ble_eq_true rfl) (Nat.le_of_ble_eq_true rfl) (Nat.le_of_ble_eq_true rfl) ?_
      refine mj_i2l (v := r2.toInt64) dX13_lightOf_54 rfl ?_
      refine mj_ladd dX13_lightOf_55 ?_
      exact t_somK hk (fun hf => t_lret dX13_lightOf_56 rfl ⟨rfl, _, rfl, hf⟩ (Nat.le_of_ble_eq_true rfl) (Nat.le_of_ble_eq_true rfl))
    replace hk := t_neg hk h0
    by_cases h1 : (s.1 955 (x1.toNatClampNeg)).toInt = 4
    · replace hk := t_pos hk h1
      refine mj_tableIn 267 dX13_lightOf_6 hh1 hh2 (by rw [h1]; rfl) (by decide) ?_
      refine mj_lconst (v := 1) dX13_lightOf_267 (by decide) ?_
      exact t_somK hk (fun hf => t_lret dX13_lightOf_268 rfl ⟨rfl, _, rfl, hf⟩ (Nat.le_of_ble_eq_true rfl) (Nat.le_of_ble_eq_true rfl))
    replace hk := t_neg hk h1
    by_cases h2 : (s.1 955 (x1.toNatClampNeg)).toInt = 5
    · replace hk := t_pos hk h2
      refine mj_tableIn 57 dX13_lightOf_6 hh1 hh2 (by rw [h2]; rfl) (by decide) ?_
      refine mj_lconst (v := 1) dX13_lightOf_57 (by decide) ?_
      refine mj_lstore_n 2 (lv2 := [(2, .long 1), (0, .ref 950), (1, .int x1)]) dX13_lightOf_58 rfl (by decide) rfl ?_
      refine mj_aload_n dX13_lightOf_59 1 rfl ?_
      refine t_getR 959 dX13_lightOf_60 F_X13_39 qr_950_21 ?_
      refine mj_iload_n dX13_lightOf_63 2 rfl ?_
      refine t_iald dX13_lightOf_64 qa_959 (t_ixv c0) ?_
      refine mj_istore (lv2 := [(4, .int (s.1 959 (x1.toNatClampNeg))), (2, .long 1), (0, .ref 950), (1, .int x1)]) dX13_lightOf_65 (by decide) rfl ?_
      refine mj_sublv [(0, .ref 950), (2, .long 1), (4, .int (s.1 959 (x1.toNatClampNeg)))] [2, 1, 0] rfl ?_
      exact LH_X13_lightOf_67 _ _ 1 (s.1 959 (x1.toNatClampNeg)) _ hk
    replace hk := t_neg hk h2
    by_cases h3 : (s.1 955 (x1.toNatClampNeg)).toInt = 6
    · replace hk := t_pos hk h3
      refine mj_tableIn 125 dX13_lightOf_6 hh1 hh2 (by rw [h3]; rfl) (by decide) ?_
      refine mj_ldc2 dX13_lightOf_125 K_X13_1054 ?_
      refine mj_lstore (lv2 := [(4, .long 4000000000000000000), (0, .ref 950), (1, .int x1)]) dX13_lightOf_128 (by decide) rfl ?_
      refine mj_aload_n dX13_lightOf_130 1 rfl ?_
      refine t_getR 959 dX13_lightOf_131 F_X13_39 qr_950_21 ?_
      refine mj_iload_n dX13_lightOf_134 2 rfl ?_
      refine t_iald dX13_lightOf_135 qa_959 (t_ixv c0) ?_
      refine mj_istore (lv2 := [(6, .int (s.1 959 (x1.toNatClampNeg))), (4, .long 4000000000000000000), (0, .ref 950), (1, .int x1)]) dX13_lightOf_136 (by decide) rfl ?_
      refine mj_sublv [(0, .ref 950), (4, .long 4000000000000000000), (6, .int (s.1 959 (x1.toNatClampNeg)))] [2, 1, 0] rfl ?_
      exact LH_X13_lightOf_138 _ _ 4000000000000000000 (s.1 959 (x1.toNatClampNeg)) _ hk
    replace hk := t_neg hk h3
    by_cases h4 : (s.1 955 (x1.toNatClampNeg)).toInt = 7
    · replace hk := t_pos hk h4
      refine mj_tableIn 194 dX13_lightOf_6 hh1 hh2 (by rw [h4]; rfl) (by decide) ?_
      refine mj_aload_n dX13_lightOf_194 0 rfl ?_
      refine t_getR 957 dX13_lightOf_195 F_X13_32 qr_950_19 ?_
      refine mj_iload_n dX13_lightOf_198 1 rfl ?_
      refine t_lald dX13_lightOf_199 qa_957 (t_ixv c0) ?_
      refine mj_lconst (v := 0) dX13_lightOf_200 (by decide) ?_
      refine mj_lcmp dX13_lightOf_201 ?_
      refine mj_if_ne 209 dX13_lightOf_202 (by decide) (fun z => t_negK hk z (fun hk => ?_)) (fun z => t_posK hk z (fun hk => ?_))
      · refine mj_aload_n dX13_lightOf_209 0 rfl ?_
        refine mj_lconst (v := 1) dX13_lightOf_210 (by decide) ?_
        refine mj_aload_n dX13_lightOf_211 0 rfl ?_
        refine mj_aload_n dX13_lightOf_212 0 rfl ?_
        refine t_getR 957 dX13_lightOf_213 F_X13_32 qr_950_19 ?_
        refine mj_iload_n dX13_lightOf_216 1 rfl ?_
        refine t_lald dX13_lightOf_217 qa_957 (t_ixv c0) ?_
        refine mj_aload_n dX13_lightOf_218 0 rfl ?_
        refine t_getR 1011 dX13_lightOf_219 F_X13_197 qr_950_107 ?_
        refine mj_aload_n dX13_lightOf_222 0 rfl ?_
        refine t_getR 959 dX13_lightOf_223 F_X13_39 qr_950_21 ?_
        refine mj_iload_n dX13_lightOf_226 1 rfl ?_
        refine t_iald dX13_lightOf_227 qa_959 (t_ixv c0) ?_
        refine t_chkK hk (fun c2 hk => ?_)
        refine t_lald dX13_lightOf_228 qa_1011 (t_ixv c2) ?_
        refine t_bndK hk (fun r4 er4 hk => ?_)
        refine t_callVlP dX13_lightOf_229 M_X13_mulFar (C_X13_mulFar _ _ _ _ er4) ML_X13_1060 IM_X13_mulFar SE_X13_mulFar qc_950 rfl (As := [.long (s.2.1 957 (x1.toNatClampNeg)), .long (s.2.1 1011 ((s.1 959 (x1.toNatClampNeg)).toNatClampNeg))]) rfl rfl (Nat.le_of_ble_eq_true rfl) (Nat.le_of_ble_eq_true rfl) (Nat.le_of_ble_eq_true rfl) (Nat.le_of_ble_eq_true rfl) ?_
        refine t_callVlP dX13_lightOf_232 M_X13_addFar (C_X13_addFar _ _ _) ML_X13_1056 IM_X13_addFar SE_X13_addFar qc_950 rfl (As := [.long 1, .long r4]) rfl rfl (Nat.le_of_ble_eq_true rfl) (Nat.le_of_ble_eq_true rfl) (Nat.le_of_ble_eq_true rfl) (Nat.le_of_ble_eq_true rfl) ?_
        exact t_somK hk (fun hf => t_lret dX13_lightOf_235 rfl ⟨rfl, _, rfl, hf⟩ (Nat.le_of_ble_eq_true rfl) (Nat.le_of_ble_eq_true rfl))
      · refine mj_lconst (v := 1) dX13_lightOf_205 (by decide) ?_
        refine mj_goto 235 dX13_lightOf_206 (by decide) ?_
        exact t_somK hk (fun hf => t_lret dX13_lightOf_235 rfl ⟨rfl, _, rfl, hf⟩ (Nat.le_of_ble_eq_true rfl) (Nat.le_of_ble_eq_true rfl))
    replace hk := t_neg hk h4
    have h5 : (s.1 955 (x1.toNatClampNeg)).toInt = 8 := by omega
    refine mj_tableIn 236 dX13_lightOf_6 hh1 hh2 (by rw [h5]; rfl) (by decide) ?_
    refine mj_aload_n dX13_lightOf_236 0 rfl ?_
    refine t_getR 1011 dX13_lightOf_237 F_X13_197 qr_950_107 ?_
    refine mj_aload_n dX13_lightOf_240 0 rfl ?_
    refine t_getR 965 dX13_lightOf_241 F_X13_57 qr_950_38 ?_
    refine mj_aload_n dX13_lightOf_244 0 rfl ?_
    refine mj_aload_n dX13_lightOf_245 0 rfl ?_
    refine t_getR 964 dX13_lightOf_246 F_X13_54 qr_950_37 ?_
    refine mj_iconst (v := 0) dX13_lightOf_249 (by decide) ?_
    refine mj_aload_n dX13_lightOf_250 0 rfl ?_
    refine t_getI dX13_lightOf_251 F_X13_624 qf_950_40 ?_
    refine mj_aload_n dX13_lightOf_254 0 rfl ?_
    refine t_getR 957 dX13_lightOf_255 F_X13_32 qr_950_19 ?_
    refine mj_iload_n dX13_lightOf_258 1 rfl ?_
    refine t_lald dX13_lightOf_259 qa_957 (t_ixv c0) ?_
    refine mj_l2i (v := (s.2.1 957 (x1.toNatClampNeg)).toInt32) dX13_lightOf_260 rfl ?_
    refine t_bndK hk (fun r6 er6 hk => ?_)
    refine t_callViP dX13_lightOf_261 M_X13_find (C_X13_find _ _ _ _ _ _ er6) ML_X13_788 IM_X13_find SE_X13_find qc_950 rfl (As := [.ref 964, .int 0, .int (s.1 950 40), .int ((s.2.1 957 (x1.toNatClampNeg)).toInt32)]) rfl rfl (Nat.le_of_ble_eq_true rfl) (Nat.le_of_ble_eq_true rfl) (Nat.le_of_ble_eq_true rfl) (Nat.le_of_ble_eq_true rfl) ?_
    refine t_chkK hk (fun c6 hk => ?_)
    refine t_iald dX13_lightOf_264 qa_965 (t_ixv c6) ?_
    refine t_chkK hk (fun c7 hk => ?_)
    refine t_lald dX13_lightOf_265 qa_1011 (t_ixv c7) ?_
    exact t_somK hk (fun hf => t_lret dX13_lightOf_266 rfl ⟨rfl, _, rfl, hf⟩ (Nat.le_of_ble_eq_true rfl) (Nat.le_of_ble_eq_true rfl))

