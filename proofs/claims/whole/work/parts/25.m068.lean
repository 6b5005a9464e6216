/-! Methods as functions, 68: X13_joins, X13_node, X13_mustBe, X13_fieldHere, X13_keepText, X13_beginsTempl, X13_isWord, X13_bounded -/
theorem qa_1003 : t_oka 1003 1 13000 = true := by decide +kernel
theorem qa_956 : t_oka 956 1 13000 = true := by decide +kernel
theorem qf_950_24 : t_okf 950 13 24 0 = true := by decide +kernel
theorem qf_950_26 : t_okf 950 13 26 0 = true := by decide +kernel
theorem qf_950_28 : t_okf 950 13 28 0 = true := by decide +kernel
theorem qf_950_36 : t_okf 950 13 36 0 = true := by decide +kernel
theorem qr_950_18 : t_okr 950 13 18 956 = true := by decide +kernel
theorem qr_950_85 : t_okr 950 13 85 1003 = true := by decide +kernel
theorem dX13_joins_0 : decode cX13_joins 0 = .ok (.aload_n 0, 1) := by decide +kernel
theorem dX13_joins_1 : decode cX13_joins 1 = .ok (.getfield 385, 3) := by decide +kernel
theorem dX13_joins_10 : decode cX13_joins 10 = .ok (.iload_n 1, 1) := by decide +kernel
theorem dX13_joins_100 : decode cX13_joins 100 = .ok (.aload_n 0, 1) := by decide +kernel
theorem dX13_joins_101 : decode cX13_joins 101 = .ok (.getfield 438, 3) := by decide +kernel
theorem dX13_joins_104 : decode cX13_joins 104 = .ok (.sipush 8509, 3) := by decide +kernel
theorem dX13_joins_107 : decode cX13_joins 107 = .ok (.if_icmp .eq 23, 3) := by decide +kernel
theorem dX13_joins_11 : decode cX13_joins 11 = .ok (.tableswitch 158 0 3 #[29, 45, 61, 125], 29) := by decide +kernel
theorem dX13_joins_110 : decode cX13_joins 110 = .ok (.aload_n 0, 1) := by decide +kernel
theorem dX13_joins_111 : decode cX13_joins 111 = .ok (.getfield 438, 3) := by decide +kernel
theorem dX13_joins_114 : decode cX13_joins 114 = .ok (.sipush 15421, 3) := by decide +kernel
theorem dX13_joins_117 : decode cX13_joins 117 = .ok (.if_icmp .eq 13, 3) := by decide +kernel
theorem dX13_joins_120 : decode cX13_joins 120 = .ok (.aload_n 0, 1) := by decide +kernel
theorem dX13_joins_121 : decode cX13_joins 121 = .ok (.getfield 438, 3) := by decide +kernel
theorem dX13_joins_124 : decode cX13_joins 124 = .ok (.sipush 15933, 3) := by decide +kernel
theorem dX13_joins_127 : decode cX13_joins 127 = .ok (.if_icmp .ne 7, 3) := by decide +kernel
theorem dX13_joins_130 : decode cX13_joins 130 = .ok (.iconst 1, 1) := by decide +kernel
theorem dX13_joins_131 : decode cX13_joins 131 = .ok (.goto 4, 3) := by decide +kernel
theorem dX13_joins_134 : decode cX13_joins 134 = .ok (.iconst 0, 1) := by decide +kernel
theorem dX13_joins_135 : decode cX13_joins 135 = .ok (.ireturn, 1) := by decide +kernel
theorem dX13_joins_136 : decode cX13_joins 136 = .ok (.aload_n 0, 1) := by decide +kernel
theorem dX13_joins_137 : decode cX13_joins 137 = .ok (.getfield 438, 3) := by decide +kernel
theorem dX13_joins_140 : decode cX13_joins 140 = .ok (.bipush 43, 2) := by decide +kernel
theorem dX13_joins_142 : decode cX13_joins 142 = .ok (.if_icmp .eq 21, 3) := by decide +kernel
theorem dX13_joins_145 : decode cX13_joins 145 = .ok (.aload_n 0, 1) := by decide +kernel
theorem dX13_joins_146 : decode cX13_joins 146 = .ok (.getfield 438, 3) := by decide +kernel
theorem dX13_joins_149 : decode cX13_joins 149 = .ok (.bipush 45, 2) := by decide +kernel
theorem dX13_joins_151 : decode cX13_joins 151 = .ok (.if_icmp .eq 12, 3) := by decide +kernel
theorem dX13_joins_154 : decode cX13_joins 154 = .ok (.aload_n 0, 1) := by decide +kernel
theorem dX13_joins_155 : decode cX13_joins 155 = .ok (.getfield 438, 3) := by decide +kernel
theorem dX13_joins_158 : decode cX13_joins 158 = .ok (.bipush 38, 2) := by decide +kernel
theorem dX13_joins_160 : decode cX13_joins 160 = .ok (.if_icmp .ne 7, 3) := by decide +kernel
theorem dX13_joins_163 : decode cX13_joins 163 = .ok (.iconst 1, 1) := by decide +kernel
theorem dX13_joins_164 : decode cX13_joins 164 = .ok (.goto 4, 3) := by decide +kernel
theorem dX13_joins_167 : decode cX13_joins 167 = .ok (.iconst 0, 1) := by decide +kernel
theorem dX13_joins_168 : decode cX13_joins 168 = .ok (.ireturn, 1) := by decide +kernel
theorem dX13_joins_169 : decode cX13_joins 169 = .ok (.aload_n 0, 1) := by decide +kernel
theorem dX13_joins_170 : decode cX13_joins 170 = .ok (.getfield 438, 3) := by decide +kernel
theorem dX13_joins_173 : decode cX13_joins 173 = .ok (.bipush 42, 2) := by decide +kernel
theorem dX13_joins_175 : decode cX13_joins 175 = .ok (.if_icmp .eq 21, 3) := by decide +kernel
theorem dX13_joins_178 : decode cX13_joins 178 = .ok (.aload_n 0, 1) := by decide +kernel
theorem dX13_joins_179 : decode cX13_joins 179 = .ok (.getfield 438, 3) := by decide +kernel
theorem dX13_joins_182 : decode cX13_joins 182 = .ok (.bipush 47, 2) := by decide +kernel
theorem dX13_joins_184 : decode cX13_joins 184 = .ok (.if_icmp .eq 12, 3) := by decide +kernel
theorem dX13_joins_187 : decode cX13_joins 187 = .ok (.aload_n 0, 1) := by decide +kernel
theorem dX13_joins_188 : decode cX13_joins 188 = .ok (.getfield 438, 3) := by decide +kernel
theorem dX13_joins_191 : decode cX13_joins 191 = .ok (.bipush 37, 2) := by decide +kernel
theorem dX13_joins_193 : decode cX13_joins 193 = .ok (.if_icmp .ne 7, 3) := by decide +kernel
theorem dX13_joins_196 : decode cX13_joins 196 = .ok (.iconst 1, 1) := by decide +kernel
theorem dX13_joins_197 : decode cX13_joins 197 = .ok (.goto 4, 3) := by decide +kernel
theorem dX13_joins_200 : decode cX13_joins 200 = .ok (.iconst 0, 1) := by decide +kernel
theorem dX13_joins_201 : decode cX13_joins 201 = .ok (.ireturn, 1) := by decide +kernel
theorem dX13_joins_4 : decode cX13_joins 4 = .ok (.iconst 4, 1) := by decide +kernel
theorem dX13_joins_40 : decode cX13_joins 40 = .ok (.aload_n 0, 1) := by decide +kernel
theorem dX13_joins_41 : decode cX13_joins 41 = .ok (.getfield 438, 3) := by decide +kernel
theorem dX13_joins_44 : decode cX13_joins 44 = .ok (.sipush 31868, 3) := by decide +kernel
theorem dX13_joins_47 : decode cX13_joins 47 = .ok (.if_icmp .ne 7, 3) := by decide +kernel
theorem dX13_joins_5 : decode cX13_joins 5 = .ok (.if_icmp .eq 5, 3) := by decide +kernel
theorem dX13_joins_50 : decode cX13_joins 50 = .ok (.iconst 1, 1) := by decide +kernel
theorem dX13_joins_51 : decode cX13_joins 51 = .ok (.goto 4, 3) := by decide +kernel
theorem dX13_joins_54 : decode cX13_joins 54 = .ok (.iconst 0, 1) := by decide +kernel
theorem dX13_joins_55 : decode cX13_joins 55 = .ok (.ireturn, 1) := by decide +kernel
theorem dX13_joins_56 : decode cX13_joins 56 = .ok (.aload_n 0, 1) := by decide +kernel
theorem dX13_joins_57 : decode cX13_joins 57 = .ok (.getfield 438, 3) := by decide +kernel
theorem dX13_joins_60 : decode cX13_joins 60 = .ok (.sipush 9766, 3) := by decide +kernel
theorem dX13_joins_63 : decode cX13_joins 63 = .ok (.if_icmp .ne 7, 3) := by decide +kernel
theorem dX13_joins_66 : decode cX13_joins 66 = .ok (.iconst 1, 1) := by decide +kernel
theorem dX13_joins_67 : decode cX13_joins 67 = .ok (.goto 4, 3) := by decide +kernel
theorem dX13_joins_70 : decode cX13_joins 70 = .ok (.iconst 0, 1) := by decide +kernel
theorem dX13_joins_71 : decode cX13_joins 71 = .ok (.ireturn, 1) := by decide +kernel
theorem dX13_joins_72 : decode cX13_joins 72 = .ok (.aload_n 0, 1) := by decide +kernel
theorem dX13_joins_73 : decode cX13_joins 73 = .ok (.getfield 438, 3) := by decide +kernel
theorem dX13_joins_76 : decode cX13_joins 76 = .ok (.bipush 60, 2) := by decide +kernel
theorem dX13_joins_78 : decode cX13_joins 78 = .ok (.if_icmp .eq 52, 3) := by decide +kernel
theorem dX13_joins_8 : decode cX13_joins 8 = .ok (.iconst 0, 1) := by decide +kernel
theorem dX13_joins_81 : decode cX13_joins 81 = .ok (.aload_n 0, 1) := by decide +kernel
theorem dX13_joins_82 : decode cX13_joins 82 = .ok (.getfield 438, 3) := by decide +kernel
theorem dX13_joins_85 : decode cX13_joins 85 = .ok (.bipush 62, 2) := by decide +kernel
theorem dX13_joins_87 : decode cX13_joins 87 = .ok (.if_icmp .eq 43, 3) := by decide +kernel
theorem dX13_joins_9 : decode cX13_joins 9 = .ok (.ireturn, 1) := by decide +kernel
theorem dX13_joins_90 : decode cX13_joins 90 = .ok (.aload_n 0, 1) := by decide +kernel
theorem dX13_joins_91 : decode cX13_joins 91 = .ok (.getfield 438, 3) := by decide +kernel
theorem dX13_joins_94 : decode cX13_joins 94 = .ok (.sipush 15677, 3) := by decide +kernel
theorem dX13_joins_97 : decode cX13_joins 97 = .ok (.if_icmp .eq 33, 3) := by decide +kernel
noncomputable def k_X13_joins_130 (s : t_S) : Int32 :=
 (1 : Int32)
set_option maxRecDepth 4000 in
set_option maxHeartbeats 1000000 in
theorem B_X13_joins_130 {D : va_G} {cy : Nat → ClassId} {ad : Nat → Nat} {bs : Nat} {X : State → Heap → Prop} (s : t_S) (Q : Int32 → Prop) (hk : t_ht (k_X13_joins_130 s) Q) : mj_G D cy ad bs X cX13_joins 2 yX13_joins.cls (some .boolean) yX13_joins.name 0 0 0 1065 (t_P (fun v s' => s' = s ∧ ∃ x, v = some (.int x) ∧ Q (x))) 130 [] [] (t_m s) 1065 0 0 := by
  refine mj_iconst (v := 1) dX13_joins_130 (by decide) ?_
  refine mj_goto 135 dX13_joins_131 (by decide) ?_
  exact t_iret dX13_joins_135 rfl (by decide) ⟨rfl, _, rfl, hk⟩ (Nat.le_of_ble_eq_true rfl) (Nat.le_of_ble_eq_true rfl)
noncomputable def k_X13_joins_163 (s : t_S) : Int32 :=
 (1 : Int32)
set_option maxRecDepth 4000 in
set_option maxHeartbeats 1000000 in
theorem B_X13_joins_163 {D : va_G} {cy : Nat → ClassId} {ad : Nat → Nat} {bs : Nat} {X : State → Heap → Prop} (s : t_S) (Q : Int32 → Prop) (hk : t_ht (k_X13_joins_163 s) Q) : mj_G D cy ad bs X cX13_joins 2 yX13_joins.cls (some .boolean) yX13_joins.name 0 0 0 1065 (t_P (fun v s' => s' = s ∧ ∃ x, v = some (.int x) ∧ Q (x))) 163 [] [] (t_m s) 1065 0 0 := by
  refine mj_iconst (v := 1) dX13_joins_163 (by decide) ?_
  refine mj_goto 168 dX13_joins_164 (by decide) ?_
  exact t_iret dX13_joins_168 rfl (by decide) ⟨rfl, _, rfl, hk⟩ (Nat.le_of_ble_eq_true rfl) (Nat.le_of_ble_eq_true rfl)
noncomputable def k_X13_joins_196 (s : t_S) : Int32 :=
 (1 : Int32)
set_option maxRecDepth 4000 in
set_option maxHeartbeats 1000000 in
theorem B_X13_joins_196 {D : va_G} {cy : Nat → ClassId} {ad : Nat → Nat} {bs : Nat} {X : State → Heap → Prop} (s : t_S) (Q : Int32 → Prop) (hk : t_ht (k_X13_joins_196 s) Q) : mj_G D cy ad bs X cX13_joins 2 yX13_joins.cls (some .boolean) yX13_joins.name 0 0 0 1065 (t_P (fun v s' => s' = s ∧ ∃ x, v = some (.int x) ∧ Q (x))) 196 [] [] (t_m s) 1065 0 0 := by
  refine mj_iconst (v := 1) dX13_joins_196 (by decide) ?_
  refine mj_goto 201 dX13_joins_197 (by decide) ?_
  exact t_iret dX13_joins_201 rfl (by decide) ⟨rfl, _, rfl, hk⟩ (Nat.le_of_ble_eq_true rfl) (Nat.le_of_ble_eq_true rfl)
noncomputable def f_X13_joins (x1 : Int32) (s : t_S) : Int32 :=
 if (s.1 950 5) = (4 : Int32) then (if x1.toInt < 0 ∨ 3 < x1.toInt then (if (s.1 950 9) = (42 : Int32) then (k_X13_joins_196 s)
 else (if (s.1 950 9) = (47 : Int32) then (k_X13_joins_196 s)
 else (if (s.1 950 9) = (37 : Int32) then (k_X13_joins_196 s)
 else ((0 : Int32)))))
 else if x1.toInt = 0 then (if (s.1 950 9) = (31868 : Int32) then ((1 : Int32))
 else ((0 : Int32)))
 else if x1.toInt = 1 then (if (s.1 950 9) = (9766 : Int32) then ((1 : Int32))
 else ((0 : Int32)))
 else if x1.toInt = 2 then (if (s.1 950 9) = (60 : Int32) then (k_X13_joins_130 s)
 else (if (s.1 950 9) = (62 : Int32) then (k_X13_joins_130 s)
 else (if (s.1 950 9) = (15677 : Int32) then (k_X13_joins_130 s)
 else (if (s.1 950 9) = (8509 : Int32) then (k_X13_joins_130 s)
 else (if (s.1 950 9) = (15421 : Int32) then (k_X13_joins_130 s)
 else (if (s.1 950 9) = (15933 : Int32) then (k_X13_joins_130 s)
 else ((0 : Int32))))))))
 else (if (s.1 950 9) = (43 : Int32) then (k_X13_joins_163 s)
 else (if (s.1 950 9) = (45 : Int32) then (k_X13_joins_163 s)
 else (if (s.1 950 9) = (38 : Int32) then (k_X13_joins_163 s)
 else ((0 : Int32))))))
 else ((0 : Int32))
set_option maxRecDepth 4000 in
set_option maxHeartbeats 1000000 in
theorem C_X13_joins (x1 : Int32) (s : t_S) : t_C yX13_joins cX13_joins 2 (some .boolean) 0 [.ref 950, .int x1] s (fun v s' => v = some (.int (f_X13_joins x1 s)) ∧ s' = s) := by
  refine t_C.imp (P := fun v s' => s' = s ∧ ∃ x, v = some (.int x) ∧ (fun r => r = f_X13_joins x1 s) (x)) (t_C.of (by decide +kernel) (Nat.le_of_ble_eq_true rfl) ?_) (fun v s' hp => by obtain ⟨rfl, x, rfl, rfl⟩ := hp; exact ⟨rfl, rfl⟩)
  intro D cy ad bs X
  have hk : t_ht (f_X13_joins x1 s) (fun r => r = f_X13_joins x1 s) := rfl
  show mj_G D cy ad bs X cX13_joins 2 yX13_joins.cls (some .boolean) yX13_joins.name 0 0 0 1065 (t_P (fun v s' => s' = s ∧ ∃ x, v = some (.int x) ∧ (fun r => r = f_X13_joins x1 s) (x))) 0 [(0, .ref 950), (1, .int x1)] [] (t_m s) 1065 0 0
  refine mj_aload_n dX13_joins_0 0 rfl ?_
  refine t_getI dX13_joins_1 F_X13_385 qf_950_5 ?_
  refine mj_iconst (v := 4) dX13_joins_4 (by decide) ?_
  refine mj_icmp_eq 10 dX13_joins_5 (by decide) (fun z => t_posTK hk z (fun hk => ?_)) (fun z => t_negTK hk z (fun hk => ?_))
  · refine mj_iload_n dX13_joins_10 1 rfl ?_
    by_cases hout : x1.toInt < 0 ∨ 3 < x1.toInt
    · replace hk := t_posT hk hout
      refine mj_tableOut 169 dX13_joins_11 hout (by decide) ?_
      refine mj_aload_n dX13_joins_169 0 rfl ?_
      refine t_getI dX13_joins_170 F_X13_438 qf_950_9 ?_
      refine mj_bipush (v := 42) dX13_joins_173 (by decide) ?_
      refine mj_icmp_eq 196 dX13_joins_175 (by decide) (fun z => t_posTK hk z (fun hk => ?_)) (fun z => t_negTK hk z (fun hk => ?_))
      · refine mj_sublv [] [] rfl ?_
        exact B_X13_joins_196 _ _ hk
      · refine mj_aload_n dX13_joins_178 0 rfl ?_
        refine t_getI dX13_joins_179 F_X13_438 qf_950_9 ?_
        refine mj_bipush (v := 47) dX13_joins_182 (by decide) ?_
        refine mj_icmp_eq 196 dX13_joins_184 (by decide) (fun z => t_posTK hk z (fun hk => ?_)) (fun z => t_negTK hk z (fun hk => ?_))
        · refine mj_sublv [] [] rfl ?_
          exact B_X13_joins_196 _ _ hk
        · refine mj_aload_n dX13_joins_187 0 rfl ?_
          refine t_getI dX13_joins_188 F_X13_438 qf_950_9 ?_
          refine mj_bipush (v := 37) dX13_joins_191 (by decide) ?_
          refine mj_icmp_ne 200 dX13_joins_193 (by decide) (fun z => t_negTK hk z (fun hk => ?_)) (fun z => t_posTK hk z (fun hk => ?_))
          · refine mj_iconst (v := 0) dX13_joins_200 (by decide) ?_
            exact t_iret dX13_joins_201 rfl (by decide) ⟨rfl, _, rfl, hk⟩ (Nat.le_of_ble_eq_true rfl) (Nat.le_of_ble_eq_true rfl)
          · refine mj_sublv [] [] rfl ?_
            exact B_X13_joins_196 _ _ hk
    · replace hk := t_negT hk hout
      have hh1 : ¬ x1.toInt < 0 := fun z => hout (Or.inl z)
      have hh2 : ¬ (3 : Int) < x1.toInt := fun z => hout (Or.inr z)
      by_cases h0 : x1.toInt = 0
      · replace hk := t_posT hk h0
        refine mj_tableIn 40 dX13_joins_11 hh1 hh2 (by rw [h0]; rfl) (by decide) ?_
        refine mj_aload_n dX13_joins_40 0 rfl ?_
        refine t_getI dX13_joins_41 F_X13_438 qf_950_9 ?_
        refine mj_sipush (v := 31868) dX13_joins_44 (by decide) ?_
        refine mj_icmp_ne 54 dX13_joins_47 (by decide) (fun z => t_negTK hk z (fun hk => ?_)) (fun z => t_posTK hk z (fun hk => ?_))
        · refine mj_iconst (v := 0) dX13_joins_54 (by decide) ?_
          exact t_iret dX13_joins_55 rfl (by decide) ⟨rfl, _, rfl, hk⟩ (Nat.le_of_ble_eq_true rfl) (Nat.le_of_ble_eq_true rfl)
        · refine mj_iconst (v := 1) dX13_joins_50 (by decide) ?_
          refine mj_goto 55 dX13_joins_51 (by decide) ?_
          exact t_iret dX13_joins_55 rfl (by decide) ⟨rfl, _, rfl, hk⟩ (Nat.le_of_ble_eq_true rfl) (Nat.le_of_ble_eq_true rfl)
      replace hk := t_negT hk h0
      by_cases h1 : x1.toInt = 1
      · replace hk := t_posT hk h1
        refine mj_tableIn 56 dX13_joins_11 hh1 hh2 (by rw [h1]; rfl) (by decide) ?_
        refine mj_aload_n dX13_joins_56 0 rfl ?_
        refine t_getI dX13_joins_57 F_X13_438 qf_950_9 ?_
        refine mj_sipush (v := 9766) dX13_joins_60 (by decide) ?_
        refine mj_icmp_ne 70 dX13_joins_63 (by decide) (fun z => t_negTK hk z (fun hk => ?_)) (fun z => t_posTK hk z (fun hk => ?_))
        · refine mj_iconst (v := 0) dX13_joins_70 (by decide) ?_
          exact t_iret dX13_joins_71 rfl (by decide) ⟨rfl, _, rfl, hk⟩ (Nat.le_of_ble_eq_true rfl) (Nat.le_of_ble_eq_true rfl)
        · refine mj_iconst (v := 1) dX13_joins_66 (by decide) ?_
          refine mj_goto 71 dX13_joins_67 (by decide) ?_
          exact t_iret dX13_joins_71 rfl (by decide) ⟨rfl, _, rfl, hk⟩ (Nat.le_of_ble_eq_true rfl) (Nat.le_of_ble_eq_true rfl)
      replace hk := t_negT hk h1
      by_cases h2 : x1.toInt = 2
      · replace hk := t_posT hk h2
        refine mj_tableIn 72 dX13_joins_11 hh1 hh2 (by rw [h2]; rfl) (by decide) ?_
        refine mj_aload_n dX13_joins_72 0 rfl ?_
        refine t_getI dX13_joins_73 F_X13_438 qf_950_9 ?_
        refine mj_bipush (v := 60) dX13_joins_76 (by decide) ?_
        refine mj_icmp_eq 130 dX13_joins_78 (by decide) (fun z => t_posTK hk z (fun hk => ?_)) (fun z => t_negTK hk z (fun hk => ?_))
        · refine mj_sublv [] [] rfl ?_
          exact B_X13_joins_130 _ _ hk
        · refine mj_aload_n dX13_joins_81 0 rfl ?_
          refine t_getI dX13_joins_82 F_X13_438 qf_950_9 ?_
          refine mj_bipush (v := 62) dX13_joins_85 (by decide) ?_
          refine mj_icmp_eq 130 dX13_joins_87 (by decide) (fun z => t_posTK hk z (fun hk => ?_)) (fun z => t_negTK hk z (fun hk => ?_))
          · refine mj_sublv [] [] rfl ?_
            exact B_X13_joins_130 _ _ hk
          · refine mj_aload_n dX13_joins_90 0 rfl ?_
            refine t_getI dX13_joins_91 F_X13_438 qf_950_9 ?_
            refine mj_sipush (v := 15677) dX13_joins_94 (by decide) ?_
            refine mj_icmp_eq 130 dX13_joins_97 (by decide) (fun z => t_posTK hk z (fun hk => ?_)) (fun z => t_negTK hk z (fun hk => ?_))
            · refine mj_sublv [] [] rfl ?_
              exact B_X13_joins_130 _ _ hk
            · refine mj_aload_n dX13_joins_100 0 rfl ?_
              refine t_getI dX13_joins_101 F_X13_438 qf_950_9 ?_
              refine mj_sipush (v := 8509) dX13_joins_104 (by decide) ?_
              refine mj_icmp_eq 130 dX13_joins_107 (by decide) (fun z => t_posTK hk z (fun hk => ?_)) (fun z => t_negTK hk z (fun hk => ?_))
              · refine mj_sublv [] [] rfl ?_
                exact B_X13_joins_130 _ _ hk
              · refine mj_aload_n dX13_joins_110 0 rfl ?_
                refine t_getI dX13_joins_111 F_X13_438 qf_950_9 ?_
                refine mj_sipush (v := 15421) dX13_joins_114 (by decide) ?_
                refine mj_icmp_eq 130 dX13_joins_117 (by decide) (fun z => t_posTK hk z (fun hk => ?_)) (fun z => t_negTK hk z (fun hk => ?_))
                · refine mj_sublv [] [] rfl ?_
                  exact B_X13_joins_130 _ _ hk
                · refine mj_aload_n dX13_joins_120 0 rfl ?_
                  refine t_getI dX13_joins_121 F_X13_438 qf_950_9 ?_
                  refine mj_sipush (v := 15933) dX13_joins_124 (by decide) ?_
                  refine mj_icmp_ne 134 dX13_joins_127 (by decide) (fun z => t_negTK hk z (fun hk => ?_)) (fun z => t_posTK hk z (fun hk => ?_))
                  · refine mj_iconst (v := 0) dX13_joins_134 (by decide) ?_
                    exact t_iret dX13_joins_135 rfl (by decide) ⟨rfl, _, rfl, hk⟩ (Nat.le_of_ble_eq_true rfl) (Nat.le_of_ble_eq_true rfl)
                  · refine mj_sublv [] [] rfl ?_
                    exact B_X13_joins_130 _ _ hk
      replace hk := t_negT hk h2
      have h3 : x1.toInt = 3 := by omega
      refine mj_tableIn 136 dX13_joins_11 hh1 hh2 (by rw [h3]; rfl) (by decide) ?_
      refine mj_aload_n dX13_joins_136 0 rfl ?_
      refine t_getI dX13_joins_137 F_X13_438 qf_950_9 ?_
      refine mj_bipush (v := 43) dX13_joins_140 (by decide) ?_
      refine mj_icmp_eq 163 dX13_joins_142 (by decide) (fun z => t_posTK hk z (fun hk => ?_)) (fun z => t_negTK hk z (fun hk => ?_))
      · refine mj_sublv [] [] rfl ?_
        exact B_X13_joins_163 _ _ hk
      · refine mj_aload_n dX13_joins_145 0 rfl ?_
        refine t_getI dX13_joins_146 F_X13_438 qf_950_9 ?_
        refine mj_bipush (v := 45) dX13_joins_149 (by decide) ?_
        refine mj_icmp_eq 163 dX13_joins_151 (by decide) (fun z => t_posTK hk z (fun hk => ?_)) (fun z => t_negTK hk z (fun hk => ?_))
        · refine mj_sublv [] [] rfl ?_
          exact B_X13_joins_163 _ _ hk
        · refine mj_aload_n dX13_joins_154 0 rfl ?_
          refine t_getI dX13_joins_155 F_X13_438 qf_950_9 ?_
          refine mj_bipush (v := 38) dX13_joins_158 (by decide) ?_
          refine mj_icmp_ne 167 dX13_joins_160 (by decide) (fun z => t_negTK hk z (fun hk => ?_)) (fun z => t_posTK hk z (fun hk => ?_))
          · refine mj_iconst (v := 0) dX13_joins_167 (by decide) ?_
            exact t_iret dX13_joins_168 rfl (by decide) ⟨rfl, _, rfl, hk⟩ (Nat.le_of_ble_eq_true rfl) (Nat.le_of_ble_eq_true rfl)
          · refine mj_sublv [] [] rfl ?_
            exact B_X13_joins_163 _ _ hk
  · refine mj_iconst (v := 0) dX13_joins_8 (by decide) ?_
    exact t_iret dX13_joins_9 rfl (by decide) ⟨rfl, _, rfl, hk⟩ (Nat.le_of_ble_eq_true rfl) (Nat.le_of_ble_eq_true rfl)

theorem dX13_node_0 : decode cX13_node 0 = .ok (.iload_n 2, 1) := by decide +kernel
theorem dX13_node_1 : decode cX13_node 1 = .ok (.ifCond .eq 32, 3) := by decide +kernel
theorem dX13_node_100 : decode cX13_node 100 = .ok (.getfield 42, 3) := by decide +kernel
theorem dX13_node_103 : decode cX13_node 103 = .ok (.iload_n 3, 1) := by decide +kernel
theorem dX13_node_104 : decode cX13_node 104 = .ok (.iconst (-1), 1) := by decide +kernel
theorem dX13_node_105 : decode cX13_node 105 = .ok (.iastore, 1) := by decide +kernel
theorem dX13_node_106 : decode cX13_node 106 = .ok (.aload_n 0, 1) := by decide +kernel
theorem dX13_node_107 : decode cX13_node 107 = .ok (.getfield 45, 3) := by decide +kernel
theorem dX13_node_11 : decode cX13_node 11 = .ok (.if_icmp .ne 12, 3) := by decide +kernel
theorem dX13_node_110 : decode cX13_node 110 = .ok (.iload_n 3, 1) := by decide +kernel
theorem dX13_node_111 : decode cX13_node 111 = .ok (.iconst 0, 1) := by decide +kernel
theorem dX13_node_112 : decode cX13_node 112 = .ok (.iastore, 1) := by decide +kernel
theorem dX13_node_113 : decode cX13_node 113 = .ok (.iload_n 1, 1) := by decide +kernel
theorem dX13_node_114 : decode cX13_node 114 = .ok (.i2l, 1) := by decide +kernel
theorem dX13_node_115 : decode cX13_node 115 = .ok (.ldc2_w 369, 3) := by decide +kernel
theorem dX13_node_118 : decode cX13_node 118 = .ok (.ldc2_w 477, 3) := by decide +kernel
theorem dX13_node_121 : decode cX13_node 121 = .ok (.invokestatic 371, 3) := by decide +kernel
theorem dX13_node_124 : decode cX13_node 124 = .ok (.ifCond .eq 23, 3) := by decide +kernel
theorem dX13_node_127 : decode cX13_node 127 = .ok (.aload_n 0, 1) := by decide +kernel
theorem dX13_node_128 : decode cX13_node 128 = .ok (.getfield 48, 3) := by decide +kernel
theorem dX13_node_131 : decode cX13_node 131 = .ok (.iload_n 3, 1) := by decide +kernel
theorem dX13_node_132 : decode cX13_node 132 = .ok (.aload_n 0, 1) := by decide +kernel
theorem dX13_node_133 : decode cX13_node 133 = .ok (.getfield 479, 3) := by decide +kernel
theorem dX13_node_136 : decode cX13_node 136 = .ok (.iastore, 1) := by decide +kernel
theorem dX13_node_137 : decode cX13_node 137 = .ok (.aload_n 0, 1) := by decide +kernel
theorem dX13_node_138 : decode cX13_node 138 = .ok (.dup, 1) := by decide +kernel
theorem dX13_node_139 : decode cX13_node 139 = .ok (.getfield 479, 3) := by decide +kernel
theorem dX13_node_14 : decode cX13_node 14 = .ok (.aload_n 0, 1) := by decide +kernel
theorem dX13_node_142 : decode cX13_node 142 = .ok (.iconst 1, 1) := by decide +kernel
theorem dX13_node_143 : decode cX13_node 143 = .ok (.iadd, 1) := by decide +kernel
theorem dX13_node_144 : decode cX13_node 144 = .ok (.putfield 479, 3) := by decide +kernel
theorem dX13_node_147 : decode cX13_node 147 = .ok (.iload_n 3, 1) := by decide +kernel
theorem dX13_node_148 : decode cX13_node 148 = .ok (.ireturn, 1) := by decide +kernel
theorem dX13_node_15 : decode cX13_node 15 = .ok (.iconst 5, 1) := by decide +kernel
theorem dX13_node_16 : decode cX13_node 16 = .ok (.aload_n 0, 1) := by decide +kernel
theorem dX13_node_17 : decode cX13_node 17 = .ok (.getfield 391, 3) := by decide +kernel
theorem dX13_node_20 : decode cX13_node 20 = .ok (.invokevirtual 411, 3) := by decide +kernel
theorem dX13_node_23 : decode cX13_node 23 = .ok (.aload_n 0, 1) := by decide +kernel
theorem dX13_node_24 : decode cX13_node 24 = .ok (.dup, 1) := by decide +kernel
theorem dX13_node_25 : decode cX13_node 25 = .ok (.getfield 471, 3) := by decide +kernel
theorem dX13_node_28 : decode cX13_node 28 = .ok (.iconst 1, 1) := by decide +kernel
theorem dX13_node_29 : decode cX13_node 29 = .ok (.iadd, 1) := by decide +kernel
theorem dX13_node_30 : decode cX13_node 30 = .ok (.putfield 471, 3) := by decide +kernel
theorem dX13_node_33 : decode cX13_node 33 = .ok (.aload_n 0, 1) := by decide +kernel
theorem dX13_node_34 : decode cX13_node 34 = .ok (.getfield 474, 3) := by decide +kernel
theorem dX13_node_37 : decode cX13_node 37 = .ok (.sipush 12999, 3) := by decide +kernel
theorem dX13_node_4 : decode cX13_node 4 = .ok (.aload_n 0, 1) := by decide +kernel
theorem dX13_node_40 : decode cX13_node 40 = .ok (.if_icmp .ge 10, 3) := by decide +kernel
theorem dX13_node_43 : decode cX13_node 43 = .ok (.aload_n 0, 1) := by decide +kernel
theorem dX13_node_44 : decode cX13_node 44 = .ok (.getfield 474, 3) := by decide +kernel
theorem dX13_node_47 : decode cX13_node 47 = .ok (.goto 6, 3) := by decide +kernel
theorem dX13_node_5 : decode cX13_node 5 = .ok (.getfield 471, 3) := by decide +kernel
theorem dX13_node_50 : decode cX13_node 50 = .ok (.sipush 12999, 3) := by decide +kernel
theorem dX13_node_53 : decode cX13_node 53 = .ok (.istore_n 3, 1) := by decide +kernel
theorem dX13_node_54 : decode cX13_node 54 = .ok (.aload_n 0, 1) := by decide +kernel
theorem dX13_node_55 : decode cX13_node 55 = .ok (.iload_n 3, 1) := by decide +kernel
theorem dX13_node_56 : decode cX13_node 56 = .ok (.iconst 1, 1) := by decide +kernel
theorem dX13_node_57 : decode cX13_node 57 = .ok (.iadd, 1) := by decide +kernel
theorem dX13_node_58 : decode cX13_node 58 = .ok (.putfield 474, 3) := by decide +kernel
theorem dX13_node_61 : decode cX13_node 61 = .ok (.aload_n 0, 1) := by decide +kernel
theorem dX13_node_62 : decode cX13_node 62 = .ok (.getfield 26, 3) := by decide +kernel
theorem dX13_node_65 : decode cX13_node 65 = .ok (.iload_n 3, 1) := by decide +kernel
theorem dX13_node_66 : decode cX13_node 66 = .ok (.iload_n 1, 1) := by decide +kernel
theorem dX13_node_67 : decode cX13_node 67 = .ok (.iastore, 1) := by decide +kernel
theorem dX13_node_68 : decode cX13_node 68 = .ok (.aload_n 0, 1) := by decide +kernel
theorem dX13_node_69 : decode cX13_node 69 = .ok (.getfield 29, 3) := by decide +kernel
theorem dX13_node_72 : decode cX13_node 72 = .ok (.iload_n 3, 1) := by decide +kernel
theorem dX13_node_73 : decode cX13_node 73 = .ok (.aload_n 0, 1) := by decide +kernel
theorem dX13_node_74 : decode cX13_node 74 = .ok (.getfield 391, 3) := by decide +kernel
theorem dX13_node_77 : decode cX13_node 77 = .ok (.iastore, 1) := by decide +kernel
theorem dX13_node_78 : decode cX13_node 78 = .ok (.aload_n 0, 1) := by decide +kernel
theorem dX13_node_79 : decode cX13_node 79 = .ok (.getfield 32, 3) := by decide +kernel
theorem dX13_node_8 : decode cX13_node 8 = .ok (.sipush 3000, 3) := by decide +kernel
theorem dX13_node_82 : decode cX13_node 82 = .ok (.iload_n 3, 1) := by decide +kernel
theorem dX13_node_83 : decode cX13_node 83 = .ok (.lconst 0, 1) := by decide +kernel
theorem dX13_node_84 : decode cX13_node 84 = .ok (.lastore, 1) := by decide +kernel
theorem dX13_node_85 : decode cX13_node 85 = .ok (.aload_n 0, 1) := by decide +kernel
theorem dX13_node_86 : decode cX13_node 86 = .ok (.getfield 36, 3) := by decide +kernel
theorem dX13_node_89 : decode cX13_node 89 = .ok (.iload_n 3, 1) := by decide +kernel
theorem dX13_node_90 : decode cX13_node 90 = .ok (.lconst 0, 1) := by decide +kernel
theorem dX13_node_91 : decode cX13_node 91 = .ok (.lastore, 1) := by decide +kernel
theorem dX13_node_92 : decode cX13_node 92 = .ok (.aload_n 0, 1) := by decide +kernel
theorem dX13_node_93 : decode cX13_node 93 = .ok (.getfield 39, 3) := by decide +kernel
theorem dX13_node_96 : decode cX13_node 96 = .ok (.iload_n 3, 1) := by decide +kernel
theorem dX13_node_97 : decode cX13_node 97 = .ok (.iconst (-1), 1) := by decide +kernel
theorem dX13_node_98 : decode cX13_node 98 = .ok (.iastore, 1) := by decide +kernel
theorem dX13_node_99 : decode cX13_node 99 = .ok (.aload_n 0, 1) := by decide +kernel
noncomputable def k_X13_node_53 (l1 : Int32) (k0 : Int32) (s : t_S) : Option (Int32 × t_S) :=
 t_let (t_setI s 950 24 (k0 + (1 : Int32))) (fun s1 =>
 if t_ix k0 13000 = true then
  t_let (t_setI s1 955 (k0.toNatClampNeg) l1) (fun s2 =>
 t_let (t_setI s2 956 (k0.toNatClampNeg) (s2.1 950 6)) (fun s3 =>
 t_let (t_setJ s3 957 (k0.toNatClampNeg) (0 : Int64)) (fun s4 =>
 t_let (t_setJ s4 958 (k0.toNatClampNeg) (0 : Int64)) (fun s5 =>
 t_let (t_setI s5 959 (k0.toNatClampNeg) (-1 : Int32)) (fun s6 =>
 t_let (t_setI s6 960 (k0.toNatClampNeg) (-1 : Int32)) (fun s7 =>
 t_let (t_setI s7 961 (k0.toNatClampNeg) (0 : Int32)) (fun s8 =>
 if (f_X13_in l1.toInt64 (20 : Int64) (41 : Int64) s8) = (0 : Int32) then (some (k0, s8))
 else (t_let (t_setI s8 962 (k0.toNatClampNeg) (s8.1 950 26)) (fun s9 =>
 t_let (t_setI s9 950 26 ((s9.1 950 26) + (1 : Int32))) (fun s10 =>
 some (k0, s10)))))))))))
else none)
set_option maxRecDepth 4000 in
set_option maxHeartbeats 1000000 in
theorem B_X13_node_53 {D : va_G} {cy : Nat → ClassId} {ad : Nat → Nat} {bs : Nat} {X : State → Heap → Prop} (l1 : Int32) (k0 : Int32) (s : t_S) (Q : Int32 × t_S → Prop) (hk : t_hk (k_X13_node_53 l1 k0 s) Q) : mj_G D cy ad bs X cX13_node 4 yX13_node.cls (some .int) yX13_node.name 1 0 0 1065 (t_P (fun v s' => ∃ x, v = some (.int x) ∧ Q ((x, s')))) 53 [(0, .ref 950), (1, .int l1)] [.int k0] (t_m s) 1065 0 0 := by
  refine mj_istore_n 3 (lv2 := [(3, .int k0), (0, .ref 950), (1, .int l1)]) dX13_node_53 rfl (by decide) rfl ?_
  refine mj_aload_n dX13_node_54 1 rfl ?_
  refine mj_iload_n dX13_node_55 0 rfl ?_
  refine mj_iconst (v := 1) dX13_node_56 (by decide) ?_
  refine mj_iadd dX13_node_57 ?_
  refine t_putIK dX13_node_58 F_X13_474 qf_950_24 rfl (fun s1 ws1 => t_letE hk ws1 (fun hk => ?_))
  refine mj_aload_n dX13_node_61 1 rfl ?_
  refine t_getR 955 dX13_node_62 F_X13_26 qr_950_17 ?_
  refine mj_iload_n dX13_node_65 0 rfl ?_
  refine mj_iload_n dX13_node_66 2 rfl ?_
  refine t_chkK hk (fun c0 hk => ?_)
  refine t_iastK dX13_node_67 qa_955 (t_ixv c0) (fun s2 ws2 => t_letE hk ws2 (fun hk => ?_))
  refine mj_aload_n dX13_node_68 1 rfl ?_
  refine t_getR 956 dX13_node_69 F_X13_29 qr_950_18 ?_
  refine mj_iload_n dX13_node_72 0 rfl ?_
  refine mj_aload_n dX13_node_73 1 rfl ?_
  refine t_getI dX13_node_74 F_X13_391 qf_950_6 ?_
  refine t_iastK dX13_node_77 qa_956 (t_ixv c0) (fun s3 ws3 => t_letE hk ws3 (fun hk => ?_))
  refine mj_aload_n dX13_node_78 1 rfl ?_
  refine t_getR 957 dX13_node_79 F_X13_32 qr_950_19 ?_
  refine mj_iload_n dX13_node_82 0 rfl ?_
  refine mj_lconst (v := 0) dX13_node_83 (by decide) ?_
  refine t_lastK dX13_node_84 qa_957 (t_ixv c0) (fun s4 ws4 => t_letE hk ws4 (fun hk => ?_))
  refine mj_aload_n dX13_node_85 1 rfl ?_
  refine t_getR 958 dX13_node_86 F_X13_36 qr_950_20 ?_
  refine mj_iload_n dX13_node_89 0 rfl ?_
  refine mj_lconst (v := 0) dX13_node_90 (by decide) ?_
  refine t_lastK dX13_node_91 qa_958 (t_ixv c0) (fun s5 ws5 => t_letE hk ws5 (fun hk => ?_))
  refine mj_aload_n dX13_node_92 1 rfl ?_
  refine t_getR 959 dX13_node_93 F_X13_39 qr_950_21 ?_
  refine mj_iload_n dX13_node_96 0 rfl ?_
  refine mj_iconst (v := (-1)) dX13_node_97 (by decide) ?_
  refine t_iastK dX13_node_98 qa_959 (t_ixv c0) (fun s6 ws6 => t_letE hk ws6 (fun hk => ?_))
  refine mj_aload_n dX13_node_99 1 rfl ?_
  refine t_getR 960 dX13_node_100 F_X13_42 qr_950_22 ?_
  refine mj_iload_n dX13_node_103 0 rfl ?_
  refine mj_iconst (v := (-1)) dX13_node_104 (by decide) ?_
  refine t_iastK dX13_node_105 qa_960 (t_ixv c0) (fun s7 ws7 => t_letE hk ws7 (fun hk => ?_))
  refine mj_aload_n dX13_node_106 1 rfl ?_
  refine t_getR 961 dX13_node_107 F_X13_45 qr_950_23 ?_
  refine mj_iload_n dX13_node_110 0 rfl ?_
  refine mj_iconst (v := 0) dX13_node_111 (by decide) ?_
  refine t_iastK dX13_node_112 qa_961 (t_ixv c0) (fun s8 ws8 => t_letE hk ws8 (fun hk => ?_))
  refine mj_iload_n dX13_node_113 2 rfl ?_
  refine mj_i2l (v := l1.toInt64) dX13_node_114 rfl ?_
  refine mj_ldc2 dX13_node_115 K_X13_369 ?_
  refine mj_ldc2 dX13_node_118 K_X13_477 ?_
  refine t_callSiP dX13_node_121 M_X13_in (C_X13_in _ _ _ _) ML_X13_371 SM_X13_in (As := [.long l1.toInt64, .long 20, .long 41]) rfl rfl (Nat.le_of_ble_eq_true rfl) (Nat.le_of_ble_eq_true rfl) (Nat.le_of_ble_eq_true rfl) (Nat.le_of_ble_eq_true rfl) ?_
  refine mj_if_eq 147 dX13_node_124 (by decide) (fun z => t_posK hk z (fun hk => ?_)) (fun z => t_negK hk z (fun hk => ?_))
  · refine mj_iload_n dX13_node_147 0 rfl ?_
    exact t_somK hk (fun hf => t_iret dX13_node_148 rfl rfl ⟨_, rfl, hf⟩ (Nat.le_of_ble_eq_true rfl) (Nat.le_of_ble_eq_true rfl))
  · refine mj_aload_n dX13_node_127 1 rfl ?_
    refine t_getR 962 dX13_node_128 F_X13_48 qr_950_25 ?_
    refine mj_iload_n dX13_node_131 0 rfl ?_
    refine mj_aload_n dX13_node_132 1 rfl ?_
    refine t_getI dX13_node_133 F_X13_479 qf_950_26 ?_
    refine t_iastK dX13_node_136 qa_962 (t_ixv c0) (fun s9 ws9 => t_letE hk ws9 (fun hk => ?_))
    refine mj_aload_n dX13_node_137 1 rfl ?_
    refine mj_dup dX13_node_138 rfl ?_
    refine t_getI dX13_node_139 F_X13_479 qf_950_26 ?_
    refine mj_iconst (v := 1) dX13_node_142 (by decide) ?_
    refine mj_iadd dX13_node_143 ?_
    refine t_putIK dX13_node_144 F_X13_479 qf_950_26 rfl (fun s10 ws10 => t_letE hk ws10 (fun hk => ?_))
    refine mj_iload_n dX13_node_147 0 rfl ?_
    exact t_somK hk (fun hf => t_iret dX13_node_148 rfl rfl ⟨_, rfl, hf⟩ (Nat.le_of_ble_eq_true rfl) (Nat.le_of_ble_eq_true rfl))
noncomputable def k_X13_node_33 (l1 : Int32) (s : t_S) : Option (Int32 × t_S) :=
 if (12999 : Int32) ≤ (s.1 950 24) then (k_X13_node_53 l1 12999 s)
 else (k_X13_node_53 l1 (s.1 950 24) s)
set_option maxRecDepth 4000 in
set_option maxHeartbeats 1000000 in
theorem B_X13_node_33 {D : va_G} {cy : Nat → ClassId} {ad : Nat → Nat} {bs : Nat} {X : State → Heap → Prop} (l1 : Int32) (s : t_S) (Q : Int32 × t_S → Prop) (hk : t_hk (k_X13_node_33 l1 s) Q) : mj_G D cy ad bs X cX13_node 4 yX13_node.cls (some .int) yX13_node.name 1 0 0 1065 (t_P (fun v s' => ∃ x, v = some (.int x) ∧ Q ((x, s')))) 33 [(0, .ref 950), (1, .int l1)] [] (t_m s) 1065 0 0 := by
  refine mj_aload_n dX13_node_33 0 rfl ?_
  refine t_getI dX13_node_34 F_X13_474 qf_950_24 ?_
  refine mj_sipush (v := 12999) dX13_node_37 (by decide) ?_
  refine mj_icmp_ge 50 dX13_node_40 (by decide) (fun z => t_posK hk z (fun hk => ?_)) (fun z => t_negK hk z (fun hk => ?_))
  · refine mj_sipush (v := 12999) dX13_node_50 (by decide) ?_
    exact B_X13_node_53 _ _ _ _ hk
  · refine mj_aload_n dX13_node_43 0 rfl ?_
    refine t_getI dX13_node_44 F_X13_474 qf_950_24 ?_
    refine mj_goto 53 dX13_node_47 (by decide) ?_
    exact B_X13_node_53 _ _ _ _ hk
noncomputable def k_X13_node_23 (l1 : Int32) (s : t_S) : Option (Int32 × t_S) :=
 t_let (t_setI s 950 28 ((s.1 950 28) + (1 : Int32))) (fun s1 =>
 k_X13_node_33 l1 s1)
set_option maxRecDepth 4000 in
set_option maxHeartbeats 1000000 in
theorem B_X13_node_23 {D : va_G} {cy : Nat → ClassId} {ad : Nat → Nat} {bs : Nat} {X : State → Heap → Prop} (l1 : Int32) (s : t_S) (Q : Int32 × t_S → Prop) (hk : t_hk (k_X13_node_23 l1 s) Q) : mj_G D cy ad bs X cX13_node 4 yX13_node.cls (some .int) yX13_node.name 1 0 0 1065 (t_P (fun v s' => ∃ x, v = some (.int x) ∧ Q ((x, s')))) 23 [(0, .ref 950), (1, .int l1)] [] (t_m s) 1065 0 0 := by
  refine mj_aload_n dX13_node_23 0 rfl ?_
  refine mj_dup dX13_node_24 rfl ?_
  refine t_getI dX13_node_25 F_X13_471 qf_950_28 ?_
  refine mj_iconst (v := 1) dX13_node_28 (by decide) ?_
  refine mj_iadd dX13_node_29 ?_
  refine t_putIK dX13_node_30 F_X13_471 qf_950_28 rfl (fun s1 ws1 => t_letE hk ws1 (fun hk => ?_))
  exact B_X13_node_33 _ _ _ hk
noncomputable def f_X13_node (x1 : Int32) (x2 : Int32) (s : t_S) : Option (Int32 × t_S) :=
 if x2 = (0 : Int32) then (k_X13_node_33 x1 s)
 else (if (s.1 950 28) = (3000 : Int32) then ((f_X13_fail (5 : Int32) (s.1 950 6) s).bind (fun r1 =>
 k_X13_node_23 x1 r1))
 else (k_X13_node_23 x1 s))
set_option maxRecDepth 4000 in
set_option maxHeartbeats 1000000 in
theorem C_X13_node (x1 : Int32) (x2 : Int32) (s : t_S) (r : Int32 × t_S) (hr : f_X13_node x1 x2 s = some r) : t_C yX13_node cX13_node 4 (some .int) 1 [.ref 950, .int x1, .int x2] s (fun v s' => v = some (.int r.1) ∧ s' = r.2) := by
  refine t_C.imp (P := fun v s' => ∃ x, v = some (.int x) ∧ (fun q => q = r) ((x, s'))) (t_C.of (by decide +kernel) (Nat.le_of_ble_eq_true rfl) ?_) (fun v s' hp => by obtain ⟨x, rfl, rfl⟩ := hp; exact ⟨rfl, rfl⟩)
  intro D cy ad bs X
  have hk : t_hk (f_X13_node x1 x2 s) (fun q => q = r) := ⟨r, hr, rfl⟩
  show mj_G D cy ad bs X cX13_node 4 yX13_node.cls (some .int) yX13_node.name 1 0 0 1065 (t_P (fun v s' => ∃ x, v = some (.int x) ∧ (fun q => q = r) ((x, s')))) 0 [(0, .ref 950), (1, .int x1), (2, .int x2)] [] (t_m s) 1065 0 0
  refine mj_iload_n dX13_node_0 2 rfl ?_
  refine mj_if_eq 33 dX13_node_1 (by decide) (fun z => t_posK hk z (fun hk => ?_)) (fun z => t_negK hk z (fun hk => ?_))
  · refine mj_sublv [(0, .ref 950), (1, .int x1)] [0, 1] rfl ?_
    exact B_X13_node_33 _ _ _ hk
  · refine mj_aload_n dX13_node_4 0 rfl ?_
    refine t_getI dX13_node_5 F_X13_471 qf_950_28 ?_
    refine mj_sipush (v := 3000) dX13_node_8 (by decide) ?_
    refine mj_icmp_ne 23 dX13_node_11 (by decide) (fun z => t_negK hk z (fun hk => ?_)) (fun z => t_posK hk z (fun hk => ?_))
    · refine mj_sublv [(0, .ref 950), (1, .int x1)] [0, 1] rfl ?_
      exact B_X13_node_23 _ _ _ hk
    · refine mj_aload_n dX13_node_14 0 rfl ?_
      refine mj_iconst (v := 5) dX13_node_15 (by decide) ?_
      refine mj_aload_n dX13_node_16 0 rfl ?_
      refine t_getI dX13_node_17 F_X13_391 qf_950_6 ?_
      refine t_bndK hk (fun r1 er1 hk => ?_)
      refine t_callVvE dX13_node_20 M_X13_fail (C_X13_fail _ _ _ _ er1) ML_X13_411 IM_X13_fail SE_X13_fail qc_950 rfl (As := [.int 5, .int (s.1 950 6)]) rfl rfl (Nat.le_of_ble_eq_true rfl) (Nat.le_of_ble_eq_true rfl) (Nat.le_of_ble_eq_true rfl) (Nat.le_of_ble_eq_true rfl) ?_
      refine mj_sublv [(0, .ref 950), (1, .int x1)] [0, 1] rfl ?_
      exact B_X13_node_23 _ _ _ hk

theorem dX13_mustBe_0 : decode cX13_mustBe 0 = .ok (.aload_n 0, 1) := by decide +kernel
theorem dX13_mustBe_1 : decode cX13_mustBe 1 = .ok (.iload_n 1, 1) := by decide +kernel
theorem dX13_mustBe_10 : decode cX13_mustBe 10 = .ok (.aload_n 0, 1) := by decide +kernel
theorem dX13_mustBe_11 : decode cX13_mustBe 11 = .ok (.getfield 391, 3) := by decide +kernel
theorem dX13_mustBe_14 : decode cX13_mustBe 14 = .ok (.invokevirtual 411, 3) := by decide +kernel
theorem dX13_mustBe_17 : decode cX13_mustBe 17 = .ok (.aload_n 0, 1) := by decide +kernel
theorem dX13_mustBe_18 : decode cX13_mustBe 18 = .ok (.invokevirtual 452, 3) := by decide +kernel
theorem dX13_mustBe_2 : decode cX13_mustBe 2 = .ok (.invokevirtual 449, 3) := by decide +kernel
theorem dX13_mustBe_21 : decode cX13_mustBe 21 = .ok (.return_, 1) := by decide +kernel
theorem dX13_mustBe_5 : decode cX13_mustBe 5 = .ok (.ifCond .ne 12, 3) := by decide +kernel
theorem dX13_mustBe_8 : decode cX13_mustBe 8 = .ok (.aload_n 0, 1) := by decide +kernel
theorem dX13_mustBe_9 : decode cX13_mustBe 9 = .ok (.iconst 2, 1) := by decide +kernel
noncomputable def k_X13_mustBe_17 (s : t_S) : Option (t_S) :=
 (f_X13_next s).bind (fun r1 =>
 some (r1))
set_option maxRecDepth 4000 in
set_option maxHeartbeats 1000000 in
theorem B_X13_mustBe_17 {D : va_G} {cy : Nat → ClassId} {ad : Nat → Nat} {bs : Nat} {X : State → Heap → Prop} (s : t_S) (Q : t_S → Prop) (hk : t_hk (k_X13_mustBe_17 s) Q) : mj_G D cy ad bs X cX13_mustBe 2 yX13_mustBe.cls none yX13_mustBe.name 6 0 0 1065 (t_P (fun v s' => v = none ∧ Q (s'))) 17 [(0, .ref 950)] [] (t_m s) 1065 0 0 := by
  refine mj_aload_n dX13_mustBe_17 0 rfl ?_
  refine t_bndK hk (fun r1 er1 hk => ?_)
  refine t_callVvE dX13_mustBe_18 M_X13_next (C_X13_next _ _ er1) ML_X13_452 IM_X13_next SE_X13_next qc_950 rfl (As := []) rfl rfl (Nat.le_of_ble_eq_true rfl) (Nat.le_of_ble_eq_true rfl) (Nat.le_of_ble_eq_true rfl) (Nat.le_of_ble_eq_true rfl) ?_
  exact t_somK hk (fun hf => t_vret dX13_mustBe_21 rfl ⟨rfl, hf⟩ (Nat.le_of_ble_eq_true rfl) (Nat.le_of_ble_eq_true rfl))
noncomputable def f_X13_mustBe (x1 : Int32) (s : t_S) : Option (t_S) :=
 if (f_X13_is x1 s) = (0 : Int32) then ((f_X13_fail (2 : Int32) (s.1 950 6) s).bind (fun r2 =>
 k_X13_mustBe_17 r2))
 else (k_X13_mustBe_17 s)
set_option maxRecDepth 4000 in
set_option maxHeartbeats 1000000 in
theorem C_X13_mustBe (x1 : Int32) (s : t_S) (r : t_S) (hr : f_X13_mustBe x1 s = some r) : t_C yX13_mustBe cX13_mustBe 2 none 6 [.ref 950, .int x1] s (fun v s' => v = none ∧ s' = r) := by
  refine t_C.imp (P := fun v s' => v = none ∧ (fun q => q = r) (s')) (t_C.of (by decide +kernel) (Nat.le_of_ble_eq_true rfl) ?_) (fun v s' hp => hp)
  intro D cy ad bs X
  have hk : t_hk (f_X13_mustBe x1 s) (fun q => q = r) := ⟨r, hr, rfl⟩
  show mj_G D cy ad bs X cX13_mustBe 2 yX13_mustBe.cls none yX13_mustBe.name 6 0 0 1065 (t_P (fun v s' => v = none ∧ (fun q => q = r) (s'))) 0 [(0, .ref 950), (1, .int x1)] [] (t_m s) 1065 0 0
  refine mj_aload_n dX13_mustBe_0 0 rfl ?_
  refine mj_iload_n dX13_mustBe_1 1 rfl ?_
  refine t_callViP dX13_mustBe_2 M_X13_is (C_X13_is _ _) ML_X13_449 IM_X13_is SE_X13_is qc_950 rfl (As := [.int x1]) rfl rfl (Nat.le_of_ble_eq_true rfl) (Nat.le_of_ble_eq_true rfl) (Nat.le_of_ble_eq_true rfl) (Nat.le_of_ble_eq_true rfl) ?_
  refine mj_if_ne 17 dX13_mustBe_5 (by decide) (fun z => t_negK hk z (fun hk => ?_)) (fun z => t_posK hk z (fun hk => ?_))
  · refine mj_sublv [(0, .ref 950)] [0] rfl ?_
    exact B_X13_mustBe_17 _ _ hk
  · refine mj_aload_n dX13_mustBe_8 0 rfl ?_
    refine mj_iconst (v := 2) dX13_mustBe_9 (by decide) ?_
    refine mj_aload_n dX13_mustBe_10 0 rfl ?_
    refine t_getI dX13_mustBe_11 F_X13_391 qf_950_6 ?_
    refine t_bndK hk (fun r2 er2 hk => ?_)
    refine t_callVvE dX13_mustBe_14 M_X13_fail (C_X13_fail _ _ _ _ er2) ML_X13_411 IM_X13_fail SE_X13_fail qc_950 rfl (As := [.int 2, .int (s.1 950 6)]) rfl rfl (Nat.le_of_ble_eq_true rfl) (Nat.le_of_ble_eq_true rfl) (Nat.le_of_ble_eq_true rfl) (Nat.le_of_ble_eq_true rfl) ?_
    refine mj_sublv [(0, .ref 950)] [0] rfl ?_
    exact B_X13_mustBe_17 _ _ hk

theorem dX13_fieldHere_0 : decode cX13_fieldHere 0 = .ok (.aload_n 0, 1) := by decide +kernel
theorem dX13_fieldHere_1 : decode cX13_fieldHere 1 = .ok (.invokevirtual 535, 3) := by decide +kernel
theorem dX13_fieldHere_10 : decode cX13_fieldHere 10 = .ok (.ifCond .ne 23, 3) := by decide +kernel
theorem dX13_fieldHere_13 : decode cX13_fieldHere 13 = .ok (.aload_n 0, 1) := by decide +kernel
theorem dX13_fieldHere_14 : decode cX13_fieldHere 14 = .ok (.iload_n 1, 1) := by decide +kernel
theorem dX13_fieldHere_15 : decode cX13_fieldHere 15 = .ok (.iload 4, 2) := by decide +kernel
theorem dX13_fieldHere_17 : decode cX13_fieldHere 17 = .ok (.i2l, 1) := by decide +kernel
theorem dX13_fieldHere_18 : decode cX13_fieldHere 18 = .ok (.invokevirtual 538, 3) := by decide +kernel
theorem dX13_fieldHere_21 : decode cX13_fieldHere 21 = .ok (.ifCond .eq 12, 3) := by decide +kernel
theorem dX13_fieldHere_24 : decode cX13_fieldHere 24 = .ok (.aload_n 0, 1) := by decide +kernel
theorem dX13_fieldHere_25 : decode cX13_fieldHere 25 = .ok (.iconst 3, 1) := by decide +kernel
theorem dX13_fieldHere_26 : decode cX13_fieldHere 26 = .ok (.aload_n 0, 1) := by decide +kernel
theorem dX13_fieldHere_27 : decode cX13_fieldHere 27 = .ok (.getfield 391, 3) := by decide +kernel
theorem dX13_fieldHere_30 : decode cX13_fieldHere 30 = .ok (.invokevirtual 411, 3) := by decide +kernel
theorem dX13_fieldHere_33 : decode cX13_fieldHere 33 = .ok (.iload_n 2, 1) := by decide +kernel
theorem dX13_fieldHere_34 : decode cX13_fieldHere 34 = .ok (.bipush 16, 2) := by decide +kernel
theorem dX13_fieldHere_36 : decode cX13_fieldHere 36 = .ok (.if_icmp .ne 12, 3) := by decide +kernel
theorem dX13_fieldHere_39 : decode cX13_fieldHere 39 = .ok (.aload_n 0, 1) := by decide +kernel
theorem dX13_fieldHere_4 : decode cX13_fieldHere 4 = .ok (.istore 4, 2) := by decide +kernel
theorem dX13_fieldHere_40 : decode cX13_fieldHere 40 = .ok (.iconst 5, 1) := by decide +kernel
theorem dX13_fieldHere_41 : decode cX13_fieldHere 41 = .ok (.aload_n 0, 1) := by decide +kernel
theorem dX13_fieldHere_42 : decode cX13_fieldHere 42 = .ok (.getfield 391, 3) := by decide +kernel
theorem dX13_fieldHere_45 : decode cX13_fieldHere 45 = .ok (.invokevirtual 411, 3) := by decide +kernel
theorem dX13_fieldHere_48 : decode cX13_fieldHere 48 = .ok (.aload_n 0, 1) := by decide +kernel
theorem dX13_fieldHere_49 : decode cX13_fieldHere 49 = .ok (.iload_n 3, 1) := by decide +kernel
theorem dX13_fieldHere_50 : decode cX13_fieldHere 50 = .ok (.iconst 1, 1) := by decide +kernel
theorem dX13_fieldHere_51 : decode cX13_fieldHere 51 = .ok (.invokevirtual 510, 3) := by decide +kernel
theorem dX13_fieldHere_54 : decode cX13_fieldHere 54 = .ok (.istore 5, 2) := by decide +kernel
theorem dX13_fieldHere_56 : decode cX13_fieldHere 56 = .ok (.aload_n 0, 1) := by decide +kernel
theorem dX13_fieldHere_57 : decode cX13_fieldHere 57 = .ok (.getfield 32, 3) := by decide +kernel
theorem dX13_fieldHere_6 : decode cX13_fieldHere 6 = .ok (.aload_n 0, 1) := by decide +kernel
theorem dX13_fieldHere_60 : decode cX13_fieldHere 60 = .ok (.iload 5, 2) := by decide +kernel
theorem dX13_fieldHere_62 : decode cX13_fieldHere 62 = .ok (.iload 4, 2) := by decide +kernel
theorem dX13_fieldHere_64 : decode cX13_fieldHere 64 = .ok (.i2l, 1) := by decide +kernel
theorem dX13_fieldHere_65 : decode cX13_fieldHere 65 = .ok (.lastore, 1) := by decide +kernel
theorem dX13_fieldHere_66 : decode cX13_fieldHere 66 = .ok (.aload_n 0, 1) := by decide +kernel
theorem dX13_fieldHere_67 : decode cX13_fieldHere 67 = .ok (.getfield 171, 3) := by decide +kernel
theorem dX13_fieldHere_7 : decode cX13_fieldHere 7 = .ok (.getfield 375, 3) := by decide +kernel
theorem dX13_fieldHere_70 : decode cX13_fieldHere 70 = .ok (.iload 5, 2) := by decide +kernel
theorem dX13_fieldHere_72 : decode cX13_fieldHere 72 = .ok (.aload_n 0, 1) := by decide +kernel
theorem dX13_fieldHere_73 : decode cX13_fieldHere 73 = .ok (.getfield 391, 3) := by decide +kernel
theorem dX13_fieldHere_76 : decode cX13_fieldHere 76 = .ok (.iastore, 1) := by decide +kernel
theorem dX13_fieldHere_77 : decode cX13_fieldHere 77 = .ok (.aload_n 0, 1) := by decide +kernel
theorem dX13_fieldHere_78 : decode cX13_fieldHere 78 = .ok (.iload_n 1, 1) := by decide +kernel
theorem dX13_fieldHere_79 : decode cX13_fieldHere 79 = .ok (.iload 5, 2) := by decide +kernel
theorem dX13_fieldHere_81 : decode cX13_fieldHere 81 = .ok (.invokevirtual 507, 3) := by decide +kernel
theorem dX13_fieldHere_84 : decode cX13_fieldHere 84 = .ok (.aload_n 0, 1) := by decide +kernel
theorem dX13_fieldHere_85 : decode cX13_fieldHere 85 = .ok (.invokevirtual 452, 3) := by decide +kernel
theorem dX13_fieldHere_88 : decode cX13_fieldHere 88 = .ok (.aload_n 0, 1) := by decide +kernel
theorem dX13_fieldHere_89 : decode cX13_fieldHere 89 = .ok (.sipush 14909, 3) := by decide +kernel
theorem dX13_fieldHere_92 : decode cX13_fieldHere 92 = .ok (.invokevirtual 528, 3) := by decide +kernel
theorem dX13_fieldHere_95 : decode cX13_fieldHere 95 = .ok (.iload 5, 2) := by decide +kernel
theorem dX13_fieldHere_97 : decode cX13_fieldHere 97 = .ok (.ireturn, 1) := by decide +kernel
noncomputable def k_X13_fieldHere_48 (l1 : Int32) (l3 : Int32) (l4 : Int32) (s : t_S) : Option (Int32 × t_S) :=
 (f_X13_node l3 (1 : Int32) s).bind (fun r1 =>
 if t_ix r1.1 13000 = true then
  t_let (t_setJ r1.2 957 (r1.1.toNatClampNeg) l4.toInt64) (fun s1 =>
 t_let (t_setI s1 1003 (r1.1.toNatClampNeg) (s1.1 950 6)) (fun s2 =>
 (f_X13_hang l1 r1.1 s2).bind (fun r3 =>
 (f_X13_next r3).bind (fun r4 =>
 (f_X13_mustBe (14909 : Int32) r4).bind (fun r5 =>
 some (r1.1, r5))))))
else none)
set_option maxRecDepth 4000 in
set_option maxHeartbeats 1000000 in
theorem B_X13_fieldHere_48 {D : va_G} {cy : Nat → ClassId} {ad : Nat → Nat} {bs : Nat} {X : State → Heap → Prop} (l1 : Int32) (l3 : Int32) (l4 : Int32) (s : t_S) (Q : Int32 × t_S → Prop) (hk : t_hk (k_X13_fieldHere_48 l1 l3 l4 s) Q) : mj_G D cy ad bs X cX13_fieldHere 6 yX13_fieldHere.cls (some .int) yX13_fieldHere.name 7 0 0 1065 (t_P (fun v s' => ∃ x, v = some (.int x) ∧ Q ((x, s')))) 48 [(0, .ref 950), (1, .int l1), (3, .int l3), (4, .int l4)] [] (t_m s) 1065 0 0 := by
  refine mj_aload_n dX13_fieldHere_48 0 rfl ?_
  refine mj_iload_n dX13_fieldHere_49 2 rfl ?_
  refine mj_iconst (v := 1) dX13_fieldHere_50 (by decide) ?_
  refine t_bndK hk (fun r1 er1 hk => ?_)
  refine t_callViE dX13_fieldHere_51 M_X13_node (C_X13_node _ _ _ _ er1) ML_X13_510 IM_X13_node SE_X13_node qc_950 rfl (As := [.int l3, .int 1]) rfl rfl (Nat.le_of_ble_eq_true rfl) (Nat.le_of_ble_eq_true rfl) (Nat.le_of_ble_eq_true rfl) (Nat.le_of_ble_eq_true rfl) ?_
  refine mj_istore (lv2 := [(5, .int r1.1), (0, .ref 950), (1, .int l1), (3, .int l3), (4, .int l4)]) dX13_fieldHere_54 (by decide) rfl ?_
  refine mj_aload_n dX13_fieldHere_56 1 rfl ?_
  refine t_getR 957 dX13_fieldHere_57 F_X13_32 qr_950_19 ?_
  refine mj_iload dX13_fieldHere_60 0 rfl ?_
  refine mj_iload dX13_fieldHere_62 4 rfl ?_
  refine mj_i2l (v := l4.toInt64) dX13_fieldHere_64 rfl ?_
  refine t_chkK hk (fun c1 hk => ?_)
  refine t_lastK dX13_fieldHere_65 qa_957 (t_ixv c1) (fun s1 ws1 => t_letE hk ws1 (fun hk => ?_))
  refine mj_aload_n dX13_fieldHere_66 1 rfl ?_
  refine t_getR 1003 dX13_fieldHere_67 F_X13_171 qr_950_85 ?_
  refine mj_iload dX13_fieldHere_70 0 rfl ?_
  refine mj_aload_n dX13_fieldHere_72 1 rfl ?_
  refine t_getI dX13_fieldHere_73 F_X13_391 qf_950_6 ?_
  refine t_iastK dX13_fieldHere_76 qa_1003 (t_ixv c1) (fun s2 ws2 => t_letE hk ws2 (fun hk => ?_))
  refine mj_aload_n dX13_fieldHere_77 1 rfl ?_
  refine mj_iload_n dX13_fieldHere_78 2 rfl ?_
  refine mj_iload dX13_fieldHere_79 0 rfl ?_
  refine t_bndK hk (fun r3 er3 hk => ?_)
  refine t_callVvE dX13_fieldHere_81 M_X13_hang (C_X13_hang _ _ _ _ er3) ML_X13_507 IM_X13_hang SE_X13_hang qc_950 rfl (As := [.int l1, .int r1.1]) rfl rfl (Nat.le_of_ble_eq_true rfl) (Nat.le_of_ble_eq_true rfl) (Nat.le_of_ble_eq_true rfl) (Nat.le_of_ble_eq_true rfl) ?_
  refine mj_aload_n dX13_fieldHere_84 1 rfl ?_
  refine t_bndK hk (fun r4 er4 hk => ?_)
  refine t_callVvE dX13_fieldHere_85 M_X13_next (C_X13_next _ _ er4) ML_X13_452 IM_X13_next SE_X13_next qc_950 rfl (As := []) rfl rfl (Nat.le_of_ble_eq_true rfl) (Nat.le_of_ble_eq_true rfl) (Nat.le_of_ble_eq_true rfl) (Nat.le_of_ble_eq_true rfl) ?_
  refine mj_aload_n dX13_fieldHere_88 1 rfl ?_
  refine mj_sipush (v := 14909) dX13_fieldHere_89 (by decide) ?_
  refine t_bndK hk (fun r5 er5 hk => ?_)
  refine t_callVvE dX13_fieldHere_92 M_X13_mustBe (C_X13_mustBe _ _ _ er5) ML_X13_528 IM_X13_mustBe SE_X13_mustBe qc_950 rfl (As := [.int 14909]) rfl rfl (Nat.le_of_ble_eq_true rfl) (Nat.le_of_ble_eq_true rfl) (Nat.le_of_ble_eq_true rfl) (Nat.le_of_ble_eq_true rfl) ?_
  refine mj_iload dX13_fieldHere_95 0 rfl ?_
  exact t_somK hk (fun hf => t_iret dX13_fieldHere_97 rfl rfl ⟨_, rfl, hf⟩ (Nat.le_of_ble_eq_true rfl) (Nat.le_of_ble_eq_true rfl))
noncomputable def k_X13_fieldHere_33 (l1 : Int32) (l2 : Int32) (l3 : Int32) (l4 : Int32) (s : t_S) : Option (Int32 × t_S) :=
 if l2 = (16 : Int32) then ((f_X13_fail (5 : Int32) (s.1 950 6) s).bind (fun r1 =>
 k_X13_fieldHere_48 l1 l3 l4 r1))
 else (k_X13_fieldHere_48 l1 l3 l4 s)
set_option maxRecDepth 4000 in
set_option maxHeartbeats 1000000 in
theorem B_X13_fieldHere_33 {D : va_G} {cy : Nat → ClassId} {ad : Nat → Nat} {bs : Nat} {X : State → Heap → Prop} (l1 : Int32) (l2 : Int32) (l3 : Int32) (l4 : Int32) (s : t_S) (Q : Int32 × t_S → Prop) (hk : t_hk (k_X13_fieldHere_33 l1 l2 l3 l4 s) Q) : mj_G D cy ad bs X cX13_fieldHere 6 yX13_fieldHere.cls (some .int) yX13_fieldHere.name 7 0 0 1065 (t_P (fun v s' => ∃ x, v = some (.int x) ∧ Q ((x, s')))) 33 [(0, .ref 950), (1, .int l1), (2, .int l2), (3, .int l3), (4, .int l4)] [] (t_m s) 1065 0 0 := by
  refine mj_iload_n dX13_fieldHere_33 2 rfl ?_
  refine mj_bipush (v := 16) dX13_fieldHere_34 (by decide) ?_
  refine mj_icmp_ne 48 dX13_fieldHere_36 (by decide) (fun z => t_negK hk z (fun hk => ?_)) (fun z => t_posK hk z (fun hk => ?_))
  · refine mj_sublv [(0, .ref 950), (1, .int l1), (3, .int l3), (4, .int l4)] [0, 1, 3, 4] rfl ?_
    exact B_X13_fieldHere_48 _ _ _ _ _ hk
  · refine mj_aload_n dX13_fieldHere_39 0 rfl ?_
    refine mj_iconst (v := 5) dX13_fieldHere_40 (by decide) ?_
    refine mj_aload_n dX13_fieldHere_41 0 rfl ?_
    refine t_getI dX13_fieldHere_42 F_X13_391 qf_950_6 ?_
    refine t_bndK hk (fun r1 er1 hk => ?_)
    refine t_callVvE dX13_fieldHere_45 M_X13_fail (C_X13_fail _ _ _ _ er1) ML_X13_411 IM_X13_fail SE_X13_fail qc_950 rfl (As := [.int 5, .int (s.1 950 6)]) rfl rfl (Nat.le_of_ble_eq_true rfl) (Nat.le_of_ble_eq_true rfl) (Nat.le_of_ble_eq_true rfl) (Nat.le_of_ble_eq_true rfl) ?_
    refine mj_sublv [(0, .ref 950), (1, .int l1), (3, .int l3), (4, .int l4)] [0, 1, 3, 4] rfl ?_
    exact B_X13_fieldHere_48 _ _ _ _ _ hk
noncomputable def f_X13_fieldHere (x1 : Int32) (x2 : Int32) (x3 : Int32) (s : t_S) : Option (Int32 × t_S) :=
 (f_X13_freeName s).bind (fun r1 =>
 if (r1.2.1 950 2) = (0 : Int32) then ((f_X13_hasPart x1 r1.1.toInt64 r1.2).bind (fun r2 =>
 if r2 = (0 : Int32) then (k_X13_fieldHere_33 x1 x2 x3 r1.1 r1.2)
 else ((f_X13_fail (3 : Int32) (r1.2.1 950 6) r1.2).bind (fun r3 =>
 k_X13_fieldHere_33 x1 x2 x3 r1.1 r3))))
 else (k_X13_fieldHere_33 x1 x2 x3 r1.1 r1.2))
set_option maxRecDepth 4000 in
set_option maxHeartbeats 1000000 in
theorem C_X13_fieldHere (x1 : Int32) (x2 : Int32) (x3 : Int32) (s : t_S) (r : Int32 × t_S) (hr : f_X13_fieldHere x1 x2 x3 s = some r) : t_C yX13_fieldHere cX13_fieldHere 6 (some .int) 7 [.ref 950, .int x1, .int x2, .int x3] s (fun v s' => v = some (.int r.1) ∧ s' = r.2) := by
  refine t_C.imp (P := fun v s' => ∃ x, v = some (.int x) ∧ (fun q => q = r) ((x, s'))) (t_C.of (by decide +kernel) (Nat.le_of_ble_eq_true rfl) ?_) (fun v s' hp => by obtain ⟨x, rfl, rfl⟩ := hp; exact ⟨rfl, rfl⟩)
  intro D cy ad bs X
  have hk : t_hk (f_X13_fieldHere x1 x2 x3 s) (fun q => q = r) := ⟨r, hr, rfl⟩
  show mj_G D cy ad bs X cX13_fieldHere 6 yX13_fieldHere.cls (some .int) yX13_fieldHere.name 7 0 0 1065 (t_P (fun v s' => ∃ x, v = some (.int x) ∧ (fun q => q = r) ((x, s')))) 0 [(0, .ref 950), (1, .int x1), (2, .int x2), (3, .int x3)] [] (t_m s) 1065 0 0
  refine mj_aload_n dX13_fieldHere_0 0 rfl ?_
  refine t_bndK hk (fun r1 er1 hk => ?_)
  refine t_callViE dX13_fieldHere_1 M_X13_freeName (C_X13_freeName _ _ er1) ML_X13_535 IM_X13_freeName SE_X13_freeName qc_950 rfl (As := []) rfl rfl (Nat.le_of_ble_eq_true rfl) (Nat.le_of_ble_eq_true rfl) (Nat.le_of_ble_eq_true rfl) (Nat.le_of_ble_eq_true rfl) ?_
  refine mj_istore (lv2 := [(4, .int r1.1), (0, .ref 950), (1, .int x1), (2, .int x2), (3, .int x3)]) dX13_fieldHere_4 (by decide) rfl ?_
  refine mj_aload_n dX13_fieldHere_6 1 rfl ?_
  refine t_getI dX13_fieldHere_7 F_X13_375 qf_950_2 ?_
  refine mj_if_ne 33 dX13_fieldHere_10 (by decide) (fun z => t_negK hk z (fun hk => ?_)) (fun z => t_posK hk z (fun hk => ?_))
  · refine mj_sublv [(0, .ref 950), (1, .int x1), (2, .int x2), (3, .int x3), (4, .int r1.1)] [1, 2, 3, 4, 0] rfl ?_
    exact B_X13_fieldHere_33 _ _ _ _ _ _ hk
  · refine mj_aload_n dX13_fieldHere_13 1 rfl ?_
    refine mj_iload_n dX13_fieldHere_14 2 rfl ?_
    refine mj_iload dX13_fieldHere_15 0 rfl ?_
    refine mj_i2l (v := r1.1.toInt64) dX13_fieldHere_17 rfl ?_
    refine t_bndK hk (fun r2 er2 hk => ?_)
    refine t_callViP dX13_fieldHere_18 M_X13_hasPart (C_X13_hasPart _ _ _ _ er2) ML_X13_538 IM_X13_hasPart SE_X13_hasPart qc_950 rfl (As := [.int x1, .long r1.1.toInt64]) rfl rfl (Nat.le_of_ble_eq_true rfl) (Nat.le_of_ble_eq_true rfl) (Nat.le_of_ble_eq_true rfl) (Nat.le_of_ble_eq_true rfl) ?_
    refine mj_if_eq 33 dX13_fieldHere_21 (by decide) (fun z => t_posK hk z (fun hk => ?_)) (fun z => t_negK hk z (fun hk => ?_))
    · refine mj_sublv [(0, .ref 950), (1, .int x1), (2, .int x2), (3, .int x3), (4, .int r1.1)] [1, 2, 3, 4, 0] rfl ?_
      exact B_X13_fieldHere_33 _ _ _ _ _ _ hk
    · refine mj_aload_n dX13_fieldHere_24 1 rfl ?_
      refine mj_iconst (v := 3) dX13_fieldHere_25 (by decide) ?_
      refine mj_aload_n dX13_fieldHere_26 1 rfl ?_
      refine t_getI dX13_fieldHere_27 F_X13_391 qf_950_6 ?_
      refine t_bndK hk (fun r3 er3 hk => ?_)
      refine t_callVvE dX13_fieldHere_30 M_X13_fail (C_X13_fail _ _ _ _ er3) ML_X13_411 IM_X13_fail SE_X13_fail qc_950 rfl (As := [.int 3, .int (r1.2.1 950 6)]) rfl rfl (Nat.le_of_ble_eq_true rfl) (Nat.le_of_ble_eq_true rfl) (Nat.le_of_ble_eq_true rfl) (Nat.le_of_ble_eq_true rfl) ?_
      refine mj_sublv [(0, .ref 950), (1, .int x1), (2, .int x2), (3, .int x3), (4, .int r1.1)] [1, 2, 3, 4, 0] rfl ?_
      exact B_X13_fieldHere_33 _ _ _ _ _ _ hk

theorem dX13_keepText_0 : decode cX13_keepText 0 = .ok (.aload_n 0, 1) := by decide +kernel
theorem dX13_keepText_1 : decode cX13_keepText 1 = .ok (.getfield 32, 3) := by decide +kernel
theorem dX13_keepText_10 : decode cX13_keepText 10 = .ok (.lastore, 1) := by decide +kernel
theorem dX13_keepText_11 : decode cX13_keepText 11 = .ok (.aload_n 0, 1) := by decide +kernel
theorem dX13_keepText_12 : decode cX13_keepText 12 = .ok (.getfield 36, 3) := by decide +kernel
theorem dX13_keepText_15 : decode cX13_keepText 15 = .ok (.iload_n 1, 1) := by decide +kernel
theorem dX13_keepText_16 : decode cX13_keepText 16 = .ok (.aload_n 0, 1) := by decide +kernel
theorem dX13_keepText_17 : decode cX13_keepText 17 = .ok (.getfield 394, 3) := by decide +kernel
theorem dX13_keepText_20 : decode cX13_keepText 20 = .ok (.i2l, 1) := by decide +kernel
theorem dX13_keepText_21 : decode cX13_keepText 21 = .ok (.lastore, 1) := by decide +kernel
theorem dX13_keepText_22 : decode cX13_keepText 22 = .ok (.iconst 0, 1) := by decide +kernel
theorem dX13_keepText_23 : decode cX13_keepText 23 = .ok (.istore_n 2, 1) := by decide +kernel
theorem dX13_keepText_24 : decode cX13_keepText 24 = .ok (.iload_n 2, 1) := by decide +kernel
theorem dX13_keepText_25 : decode cX13_keepText 25 = .ok (.aload_n 0, 1) := by decide +kernel
theorem dX13_keepText_26 : decode cX13_keepText 26 = .ok (.getfield 394, 3) := by decide +kernel
theorem dX13_keepText_29 : decode cX13_keepText 29 = .ok (.if_icmp .ge 48, 3) := by decide +kernel
theorem dX13_keepText_32 : decode cX13_keepText 32 = .ok (.aload_n 0, 1) := by decide +kernel
theorem dX13_keepText_33 : decode cX13_keepText 33 = .ok (.getfield 375, 3) := by decide +kernel
theorem dX13_keepText_36 : decode cX13_keepText 36 = .ok (.ifCond .ne 41, 3) := by decide +kernel
theorem dX13_keepText_39 : decode cX13_keepText 39 = .ok (.aload_n 0, 1) := by decide +kernel
theorem dX13_keepText_4 : decode cX13_keepText 4 = .ok (.iload_n 1, 1) := by decide +kernel
theorem dX13_keepText_40 : decode cX13_keepText 40 = .ok (.getfield 51, 3) := by decide +kernel
theorem dX13_keepText_43 : decode cX13_keepText 43 = .ok (.aload_n 0, 1) := by decide +kernel
theorem dX13_keepText_44 : decode cX13_keepText 44 = .ok (.getfield 591, 3) := by decide +kernel
theorem dX13_keepText_47 : decode cX13_keepText 47 = .ok (.aload_n 0, 1) := by decide +kernel
theorem dX13_keepText_48 : decode cX13_keepText 48 = .ok (.getfield 7, 3) := by decide +kernel
theorem dX13_keepText_5 : decode cX13_keepText 5 = .ok (.aload_n 0, 1) := by decide +kernel
theorem dX13_keepText_51 : decode cX13_keepText 51 = .ok (.aload_n 0, 1) := by decide +kernel
theorem dX13_keepText_52 : decode cX13_keepText 52 = .ok (.getfield 391, 3) := by decide +kernel
theorem dX13_keepText_55 : decode cX13_keepText 55 = .ok (.iconst 1, 1) := by decide +kernel
theorem dX13_keepText_56 : decode cX13_keepText 56 = .ok (.iadd, 1) := by decide +kernel
theorem dX13_keepText_57 : decode cX13_keepText 57 = .ok (.iload_n 2, 1) := by decide +kernel
theorem dX13_keepText_58 : decode cX13_keepText 58 = .ok (.iadd, 1) := by decide +kernel
theorem dX13_keepText_59 : decode cX13_keepText 59 = .ok (.iaload, 1) := by decide +kernel
theorem dX13_keepText_6 : decode cX13_keepText 6 = .ok (.getfield 591, 3) := by decide +kernel
theorem dX13_keepText_60 : decode cX13_keepText 60 = .ok (.iastore, 1) := by decide +kernel
theorem dX13_keepText_61 : decode cX13_keepText 61 = .ok (.aload_n 0, 1) := by decide +kernel
theorem dX13_keepText_62 : decode cX13_keepText 62 = .ok (.dup, 1) := by decide +kernel
theorem dX13_keepText_63 : decode cX13_keepText 63 = .ok (.getfield 591, 3) := by decide +kernel
theorem dX13_keepText_66 : decode cX13_keepText 66 = .ok (.iconst 1, 1) := by decide +kernel
theorem dX13_keepText_67 : decode cX13_keepText 67 = .ok (.iadd, 1) := by decide +kernel
theorem dX13_keepText_68 : decode cX13_keepText 68 = .ok (.putfield 591, 3) := by decide +kernel
theorem dX13_keepText_71 : decode cX13_keepText 71 = .ok (.iinc 2 1, 3) := by decide +kernel
theorem dX13_keepText_74 : decode cX13_keepText 74 = .ok (.goto (-50), 3) := by decide +kernel
theorem dX13_keepText_77 : decode cX13_keepText 77 = .ok (.return_, 1) := by decide +kernel
theorem dX13_keepText_9 : decode cX13_keepText 9 = .ok (.i2l, 1) := by decide +kernel
noncomputable def k_X13_keepText_24 (l2 : Int32) (s : t_S) : Option ((Int32 × t_S) ⊕ (t_S)) :=
 if (s.1 950 7) ≤ l2 then ((some (s)).map Sum.inr)
 else (if (s.1 950 2) = (0 : Int32) then (if t_ix (((s.1 950 6) + (1 : Int32)) + l2) 12000 = true then
  if t_ix (s.1 950 36) 24300 = true then
  t_let (t_setI s 963 ((s.1 950 36).toNatClampNeg) (s.1 951 ((((s.1 950 6) + (1 : Int32)) + l2).toNatClampNeg))) (fun s1 =>
 t_let (t_setI s1 950 36 ((s1.1 950 36) + (1 : Int32))) (fun s2 =>
 some (.inl ((l2 + 1), s2))))
else none
else none)
 else ((some (s)).map Sum.inr))
set_option maxRecDepth 4000 in
set_option maxHeartbeats 1000000 in
theorem B_X13_keepText_24 {D : va_G} {cy : Nat → ClassId} {ad : Nat → Nat} {bs : Nat} {X : State → Heap → Prop} (l2 : Int32) (s : t_S) (Q : (Int32 × t_S) ⊕ (t_S) → Prop) (Hb24 : ∀ (y0 : Int32) (y1 : t_S), Q (.inl (y0, y1)) → mj_G D cy ad bs X cX13_keepText 3 yX13_keepText.cls none yX13_keepText.name 0 0 0 1065 (t_P (fun v s' => v = none ∧ Q (.inr (s')))) 24 [(0, .ref 950), (2, .int (y0))] [] (t_m y1) 1065 0 0) (hk : t_hk (k_X13_keepText_24 l2 s) Q) : mj_G D cy ad bs X cX13_keepText 3 yX13_keepText.cls none yX13_keepText.name 0 0 0 1065 (t_P (fun v s' => v = none ∧ Q (.inr (s')))) 24 [(0, .ref 950), (2, .int l2)] [] (t_m s) 1065 0 0 := by
  refine mj_iload_n dX13_keepText_24 1 rfl ?_
  refine mj_aload_n dX13_keepText_25 0 rfl ?_
  refine t_getI dX13_keepText_26 F_X13_394 qf_950_7 ?_
  refine mj_icmp_ge 77 dX13_keepText_29 (by decide) (fun z => t_posK hk z (fun hk => ?_)) (fun z => t_negK hk z (fun hk => ?_))
  · refine t_mapK hk (fun hk => ?_)
    exact t_somK hk (fun hf => t_vret dX13_keepText_77 rfl ⟨rfl, hf⟩ (Nat.le_of_ble_eq_true rfl) (Nat.le_of_ble_eq_true rfl))
  · refine mj_aload_n dX13_keepText_32 0 rfl ?_
    refine t_getI dX13_keepText_33 F_X13_375 qf_950_2 ?_
    refine mj_if_ne 77 dX13_keepText_36 (by decide) (fun z => t_negK hk z (fun hk => ?_)) (fun z => t_posK hk z (fun hk => ?_))
    · refine t_mapK hk (fun hk => ?_)
      exact t_somK hk (fun hf => t_vret dX13_keepText_77 rfl ⟨rfl, hf⟩ (Nat.le_of_ble_eq_true rfl) (Nat.le_of_ble_eq_true rfl))
    · refine mj_aload_n dX13_keepText_39 0 rfl ?_
      refine t_getR 963 dX13_keepText_40 F_X13_51 qr_950_35 ?_
      refine mj_aload_n dX13_keepText_43 0 rfl ?_
      refine t_getI dX13_keepText_44 F_X13_591 qf_950_36 ?_
      refine mj_aload_n dX13_keepText_47 0 rfl ?_
      refine t_getR 951 dX13_keepText_48 F_X13_7 qr_950_0 ?_
      refine mj_aload_n dX13_keepText_51 0 rfl ?_
      refine t_getI dX13_keepText_52 F_X13_391 qf_950_6 ?_
      refine mj_iconst (v := 1) dX13_keepText_55 (by decide) ?_
      refine mj_iadd dX13_keepText_56 ?_
      refine mj_iload_n dX13_keepText_57 1 rfl ?_
      refine mj_iadd dX13_keepText_58 ?_
      refine t_chkK hk (fun c0 hk => ?_)
      refine t_iald dX13_keepText_59 qa_951 (t_ixv c0) ?_
      refine t_chkK hk (fun c1 hk => ?_)
      refine t_iastK dX13_keepText_60 qa_963 (t_ixv c1) (fun s1 ws1 => t_letE hk ws1 (fun hk => ?_))
      refine mj_aload_n dX13_keepText_61 0 rfl ?_
      refine mj_dup dX13_keepText_62 rfl ?_
      refine t_getI dX13_keepText_63 F_X13_591 qf_950_36 ?_
      refine mj_iconst (v := 1) dX13_keepText_66 (by decide) ?_
      refine mj_iadd dX13_keepText_67 ?_
      refine t_putIK dX13_keepText_68 F_X13_591 qf_950_36 rfl (fun s2 ws2 => t_letE hk ws2 (fun hk => ?_))
      refine mj_iinc (k := 1) (v := (l2 + 1)) (lv2 := [(2, .int (l2 + 1)), (0, .ref 950)]) dX13_keepText_71 rfl rfl (by decide) rfl ?_
      refine mj_goto 24 dX13_keepText_74 (by decide) ?_
      refine mj_sublv [(0, .ref 950), (2, .int (l2 + 1))] [1, 0] rfl ?_
      exact t_somK hk (fun hf => Hb24 (l2 + 1) s2 hf)
noncomputable def b_X13_keepText_24 (x : Int32 × t_S) : Option ((Int32 × t_S) ⊕ (t_S)) := k_X13_keepText_24 x.1 x.2
set_option maxRecDepth 4000 in
set_option maxHeartbeats 1000000 in
theorem LH_X13_keepText_24 {D : va_G} {cy : Nat → ClassId} {ad : Nat → Nat} {bs : Nat} {X : State → Heap → Prop} : ∀ (n : Nat) (y0 : Int32) (y1 : t_S) (Q : t_S → Prop) (hk : t_hk (t_loop (b_X13_keepText_24) n (y0, y1)) Q), mj_G D cy ad bs X cX13_keepText 3 yX13_keepText.cls none yX13_keepText.name 0 0 0 1065 (t_P (fun v s' => v = none ∧ Q (s'))) 24 [(0, .ref 950), (2, .int (y0))] [] (t_m y1) 1065 0 0 := by
  intro n
  induction n with
  | zero => intro y0 y1 Q hk; obtain ⟨r, hr, _⟩ := hk; cases hr
  | succ n ih =>
    intro y0 y1 Q hk
    exact B_X13_keepText_24 y0 y1 (fun y => t_lq (b_X13_keepText_24) n Q y) (fun y0' y1' hy => ih y0' y1' Q hy) (t_lp (b := b_X13_keepText_24) (n := n) (x := (y0, y1)) hk)
noncomputable def f_X13_keepText (x1 : Int32) (s : t_S) : Option (t_S) :=
 if t_ix x1 13000 = true then
  t_let (t_setJ s 957 (x1.toNatClampNeg) ((s.1 950 36).toInt64)) (fun s1 =>
 t_let (t_setJ s1 958 (x1.toNatClampNeg) ((s1.1 950 7).toInt64)) (fun s2 =>
 t_loop (b_X13_keepText_24) t_N (0, s2)))
else none
set_option maxRecDepth 4000 in
set_option maxHeartbeats 1000000 in
theorem C_X13_keepText (x1 : Int32) (s : t_S) (r : t_S) (hr : f_X13_keepText x1 s = some r) : t_C yX13_keepText cX13_keepText 3 none 0 [.ref 950, .int x1] s (fun v s' => v = none ∧ s' = r) := by
  refine t_C.imp (P := fun v s' => v = none ∧ (fun q => q = r) (s')) (t_C.of (by decide +kernel) (Nat.le_of_ble_eq_true rfl) ?_) (fun v s' hp => hp)
  intro D cy ad bs X
  have hk : t_hk (f_X13_keepText x1 s) (fun q => q = r) := ⟨r, hr, rfl⟩
  show mj_G D cy ad bs X cX13_keepText 3 yX13_keepText.cls none yX13_keepText.name 0 0 0 1065 (t_P (fun v s' => v = none ∧ (fun q => q = r) (s'))) 0 [(0, .ref 950), (1, .int x1)] [] (t_m s) 1065 0 0
  refine mj_aload_n dX13_keepText_0 0 rfl ?_
  refine t_getR 957 dX13_keepText_1 F_X13_32 qr_950_19 ?_
  refine mj_iload_n dX13_keepText_4 1 rfl ?_
  refine mj_aload_n dX13_keepText_5 0 rfl ?_
  refine t_getI dX13_keepText_6 F_X13_591 qf_950_36 ?_
  refine mj_i2l (v := (s.1 950 36).toInt64) dX13_keepText_9 rfl ?_
  refine t_chkK hk (fun c0 hk => ?_)
  refine t_lastK dX13_keepText_10 qa_957 (t_ixv c0) (fun s1 ws1 => t_letE hk ws1 (fun hk => ?_))
  refine mj_aload_n dX13_keepText_11 0 rfl ?_
  refine t_getR 958 dX13_keepText_12 F_X13_36 qr_950_20 ?_
  refine mj_iload_n dX13_keepText_15 1 rfl ?_
  refine mj_aload_n dX13_keepText_16 0 rfl ?_
  refine t_getI dX13_keepText_17 F_X13_394 qf_950_7 ?_
  refine mj_i2l (v := (s1.1 950 7).toInt64) dX13_keepText_20 rfl ?_
  refine t_lastK dX13_keepText_21 qa_958 (t_ixv c0) (fun s2 ws2 => t_letE hk ws2 (fun hk => ?_))
  refine mj_iconst (v := 0) dX13_keepText_22 (by decide) ?_
  refine mj_istore_n 2 (lv2 := [(2, .int 0), (0, .ref 950), (1, .int x1)]) dX13_keepText_23 rfl (by decide) rfl ?_
  refine mj_sublv [(0, .ref 950), (2, .int 0)] [1, 0] rfl ?_
  exact LH_X13_keepText_24 _ 0 s2 _ hk

theorem dX13_beginsTempl_0 : decode cX13_beginsTempl 0 = .ok (.aload_n 0, 1) := by decide +kernel
theorem dX13_beginsTempl_1 : decode cX13_beginsTempl 1 = .ok (.getfield 385, 3) := by decide +kernel
theorem dX13_beginsTempl_101 : decode cX13_beginsTempl 101 = .ok (.aload_n 0, 1) := by decide +kernel
theorem dX13_beginsTempl_102 : decode cX13_beginsTempl 102 = .ok (.bipush 91, 2) := by decide +kernel
theorem dX13_beginsTempl_104 : decode cX13_beginsTempl 104 = .ok (.invokevirtual 449, 3) := by decide +kernel
theorem dX13_beginsTempl_107 : decode cX13_beginsTempl 107 = .ok (.ifCond .ne 21, 3) := by decide +kernel
theorem dX13_beginsTempl_110 : decode cX13_beginsTempl 110 = .ok (.aload_n 0, 1) := by decide +kernel
theorem dX13_beginsTempl_111 : decode cX13_beginsTempl 111 = .ok (.bipush 40, 2) := by decide +kernel
theorem dX13_beginsTempl_113 : decode cX13_beginsTempl 113 = .ok (.invokevirtual 449, 3) := by decide +kernel
theorem dX13_beginsTempl_116 : decode cX13_beginsTempl 116 = .ok (.ifCond .ne 12, 3) := by decide +kernel
theorem dX13_beginsTempl_119 : decode cX13_beginsTempl 119 = .ok (.aload_n 0, 1) := by decide +kernel
theorem dX13_beginsTempl_12 : decode cX13_beginsTempl 12 = .ok (.iconst 3, 1) := by decide +kernel
theorem dX13_beginsTempl_120 : decode cX13_beginsTempl 120 = .ok (.bipush 61, 2) := by decide +kernel
theorem dX13_beginsTempl_122 : decode cX13_beginsTempl 122 = .ok (.invokevirtual 449, 3) := by decide +kernel
theorem dX13_beginsTempl_125 : decode cX13_beginsTempl 125 = .ok (.ifCond .eq 7, 3) := by decide +kernel
theorem dX13_beginsTempl_128 : decode cX13_beginsTempl 128 = .ok (.iconst 1, 1) := by decide +kernel
theorem dX13_beginsTempl_129 : decode cX13_beginsTempl 129 = .ok (.goto 4, 3) := by decide +kernel
theorem dX13_beginsTempl_13 : decode cX13_beginsTempl 13 = .ok (.if_icmp .ne 5, 3) := by decide +kernel
theorem dX13_beginsTempl_132 : decode cX13_beginsTempl 132 = .ok (.iconst 0, 1) := by decide +kernel
theorem dX13_beginsTempl_133 : decode cX13_beginsTempl 133 = .ok (.ireturn, 1) := by decide +kernel
theorem dX13_beginsTempl_16 : decode cX13_beginsTempl 16 = .ok (.iconst 1, 1) := by decide +kernel
theorem dX13_beginsTempl_17 : decode cX13_beginsTempl 17 = .ok (.ireturn, 1) := by decide +kernel
theorem dX13_beginsTempl_18 : decode cX13_beginsTempl 18 = .ok (.aload_n 0, 1) := by decide +kernel
theorem dX13_beginsTempl_19 : decode cX13_beginsTempl 19 = .ok (.getfield 385, 3) := by decide +kernel
theorem dX13_beginsTempl_22 : decode cX13_beginsTempl 22 = .ok (.iconst 1, 1) := by decide +kernel
theorem dX13_beginsTempl_23 : decode cX13_beginsTempl 23 = .ok (.if_icmp .ne 33, 3) := by decide +kernel
theorem dX13_beginsTempl_26 : decode cX13_beginsTempl 26 = .ok (.aload_n 0, 1) := by decide +kernel
theorem dX13_beginsTempl_27 : decode cX13_beginsTempl 27 = .ok (.getfield 397, 3) := by decide +kernel
theorem dX13_beginsTempl_30 : decode cX13_beginsTempl 30 = .ok (.ifCond .lt 20, 3) := by decide +kernel
theorem dX13_beginsTempl_33 : decode cX13_beginsTempl 33 = .ok (.aload_n 0, 1) := by decide +kernel
theorem dX13_beginsTempl_34 : decode cX13_beginsTempl 34 = .ok (.getfield 397, 3) := by decide +kernel
theorem dX13_beginsTempl_37 : decode cX13_beginsTempl 37 = .ok (.i2l, 1) := by decide +kernel
theorem dX13_beginsTempl_38 : decode cX13_beginsTempl 38 = .ok (.ldc2_w 542, 3) := by decide +kernel
theorem dX13_beginsTempl_4 : decode cX13_beginsTempl 4 = .ok (.iconst 2, 1) := by decide +kernel
theorem dX13_beginsTempl_41 : decode cX13_beginsTempl 41 = .ok (.ldc2_w 550, 3) := by decide +kernel
theorem dX13_beginsTempl_44 : decode cX13_beginsTempl 44 = .ok (.invokestatic 371, 3) := by decide +kernel
theorem dX13_beginsTempl_47 : decode cX13_beginsTempl 47 = .ok (.ifCond .eq 7, 3) := by decide +kernel
theorem dX13_beginsTempl_5 : decode cX13_beginsTempl 5 = .ok (.if_icmp .eq 11, 3) := by decide +kernel
theorem dX13_beginsTempl_50 : decode cX13_beginsTempl 50 = .ok (.iconst 1, 1) := by decide +kernel
theorem dX13_beginsTempl_51 : decode cX13_beginsTempl 51 = .ok (.goto 4, 3) := by decide +kernel
theorem dX13_beginsTempl_54 : decode cX13_beginsTempl 54 = .ok (.iconst 0, 1) := by decide +kernel
theorem dX13_beginsTempl_55 : decode cX13_beginsTempl 55 = .ok (.ireturn, 1) := by decide +kernel
theorem dX13_beginsTempl_56 : decode cX13_beginsTempl 56 = .ok (.aload_n 0, 1) := by decide +kernel
theorem dX13_beginsTempl_57 : decode cX13_beginsTempl 57 = .ok (.bipush 63, 2) := by decide +kernel
theorem dX13_beginsTempl_59 : decode cX13_beginsTempl 59 = .ok (.invokevirtual 449, 3) := by decide +kernel
theorem dX13_beginsTempl_62 : decode cX13_beginsTempl 62 = .ok (.ifCond .ne 66, 3) := by decide +kernel
theorem dX13_beginsTempl_65 : decode cX13_beginsTempl 65 = .ok (.aload_n 0, 1) := by decide +kernel
theorem dX13_beginsTempl_66 : decode cX13_beginsTempl 66 = .ok (.bipush 42, 2) := by decide +kernel
theorem dX13_beginsTempl_68 : decode cX13_beginsTempl 68 = .ok (.invokevirtual 449, 3) := by decide +kernel
theorem dX13_beginsTempl_71 : decode cX13_beginsTempl 71 = .ok (.ifCond .ne 57, 3) := by decide +kernel
theorem dX13_beginsTempl_74 : decode cX13_beginsTempl 74 = .ok (.aload_n 0, 1) := by decide +kernel
theorem dX13_beginsTempl_75 : decode cX13_beginsTempl 75 = .ok (.bipush 45, 2) := by decide +kernel
theorem dX13_beginsTempl_77 : decode cX13_beginsTempl 77 = .ok (.invokevirtual 449, 3) := by decide +kernel
theorem dX13_beginsTempl_8 : decode cX13_beginsTempl 8 = .ok (.aload_n 0, 1) := by decide +kernel
theorem dX13_beginsTempl_80 : decode cX13_beginsTempl 80 = .ok (.ifCond .ne 48, 3) := by decide +kernel
theorem dX13_beginsTempl_83 : decode cX13_beginsTempl 83 = .ok (.aload_n 0, 1) := by decide +kernel
theorem dX13_beginsTempl_84 : decode cX13_beginsTempl 84 = .ok (.bipush 64, 2) := by decide +kernel
theorem dX13_beginsTempl_86 : decode cX13_beginsTempl 86 = .ok (.invokevirtual 449, 3) := by decide +kernel
theorem dX13_beginsTempl_89 : decode cX13_beginsTempl 89 = .ok (.ifCond .ne 39, 3) := by decide +kernel
theorem dX13_beginsTempl_9 : decode cX13_beginsTempl 9 = .ok (.getfield 385, 3) := by decide +kernel
theorem dX13_beginsTempl_92 : decode cX13_beginsTempl 92 = .ok (.aload_n 0, 1) := by decide +kernel
theorem dX13_beginsTempl_93 : decode cX13_beginsTempl 93 = .ok (.bipush 123, 2) := by decide +kernel
theorem dX13_beginsTempl_95 : decode cX13_beginsTempl 95 = .ok (.invokevirtual 449, 3) := by decide +kernel
theorem dX13_beginsTempl_98 : decode cX13_beginsTempl 98 = .ok (.ifCond .ne 30, 3) := by decide +kernel
noncomputable def k_X13_beginsTempl_128 (s : t_S) : Int32 :=
 (1 : Int32)
set_option maxRecDepth 4000 in
set_option maxHeartbeats 1000000 in
theorem B_X13_beginsTempl_128 {D : va_G} {cy : Nat → ClassId} {ad : Nat → Nat} {bs : Nat} {X : State → Heap → Prop} (s : t_S) (Q : Int32 → Prop) (hk : t_ht (k_X13_beginsTempl_128 s) Q) : mj_G D cy ad bs X cX13_beginsTempl 1 yX13_beginsTempl.cls (some .boolean) yX13_beginsTempl.name 1 0 0 1065 (t_P (fun v s' => s' = s ∧ ∃ x, v = some (.int x) ∧ Q (x))) 128 [] [] (t_m s) 1065 0 0 := by
  refine mj_iconst (v := 1) dX13_beginsTempl_128 (by decide) ?_
  refine mj_goto 133 dX13_beginsTempl_129 (by decide) ?_
  exact t_iret dX13_beginsTempl_133 rfl (by decide) ⟨rfl, _, rfl, hk⟩ (Nat.le_of_ble_eq_true rfl) (Nat.le_of_ble_eq_true rfl)
noncomputable def k_X13_beginsTempl_50 (s : t_S) : Int32 :=
 (1 : Int32)
set_option maxRecDepth 4000 in
set_option maxHeartbeats 1000000 in
theorem B_X13_beginsTempl_50 {D : va_G} {cy : Nat → ClassId} {ad : Nat → Nat} {bs : Nat} {X : State → Heap → Prop} (s : t_S) (Q : Int32 → Prop) (hk : t_ht (k_X13_beginsTempl_50 s) Q) : mj_G D cy ad bs X cX13_beginsTempl 1 yX13_beginsTempl.cls (some .boolean) yX13_beginsTempl.name 1 0 0 1065 (t_P (fun v s' => s' = s ∧ ∃ x, v = some (.int x) ∧ Q (x))) 50 [] [] (t_m s) 1065 0 0 := by
  refine mj_iconst (v := 1) dX13_beginsTempl_50 (by decide) ?_
  refine mj_goto 55 dX13_beginsTempl_51 (by decide) ?_
  exact t_iret dX13_beginsTempl_55 rfl (by decide) ⟨rfl, _, rfl, hk⟩ (Nat.le_of_ble_eq_true rfl) (Nat.le_of_ble_eq_true rfl)
noncomputable def f_X13_beginsTempl (s : t_S) : Int32 :=
 if (s.1 950 5) = (2 : Int32) then ((1 : Int32))
 else (if (s.1 950 5) = (3 : Int32) then ((1 : Int32))
 else (if (s.1 950 5) = (1 : Int32) then (if (s.1 950 10) < (0 : Int32) then (k_X13_beginsTempl_50 s)
 else (if (f_X13_in ((s.1 950 10).toInt64) (21 : Int64) (28 : Int64) s) = (0 : Int32) then ((0 : Int32))
 else (k_X13_beginsTempl_50 s)))
 else (if (f_X13_is (63 : Int32) s) = (0 : Int32) then (if (f_X13_is (42 : Int32) s) = (0 : Int32) then (if (f_X13_is (45 : Int32) s) = (0 : Int32) then (if (f_X13_is (64 : Int32) s) = (0 : Int32) then (if (f_X13_is (123 : Int32) s) = (0 : Int32) then (if (f_X13_is (91 : Int32) s) = (0 : Int32) then (if (f_X13_is (40 : Int32) s) = (0 : Int32) then (if (f_X13_is (61 : Int32) s) = (0 : Int32) then ((0 : Int32))
 else (k_X13_beginsTempl_128 s))
 else (k_X13_beginsTempl_128 s))
 else (k_X13_beginsTempl_128 s))
 else (k_X13_beginsTempl_128 s))
 else (k_X13_beginsTempl_128 s))
 else (k_X13_beginsTempl_128 s))
 else (k_X13_beginsTempl_128 s))
 else (k_X13_beginsTempl_128 s))))
set_option maxRecDepth 4000 in
set_option maxHeartbeats 1000000 in
theorem C_X13_beginsTempl (s : t_S) : t_C yX13_beginsTempl cX13_beginsTempl 1 (some .boolean) 1 [.ref 950] s (fun v s' => v = some (.int (f_X13_beginsTempl s)) ∧ s' = s) := by
  refine t_C.imp (P := fun v s' => s' = s ∧ ∃ x, v = some (.int x) ∧ (fun r => r = f_X13_beginsTempl s) (x)) (t_C.of (by decide +kernel) (Nat.le_of_ble_eq_true rfl) ?_) (fun v s' hp => by obtain ⟨rfl, x, rfl, rfl⟩ := hp; exact ⟨rfl, rfl⟩)
  intro D cy ad bs X
  have hk : t_ht (f_X13_beginsTempl s) (fun r => r = f_X13_beginsTempl s) := rfl
  show mj_G D cy ad bs X cX13_beginsTempl 1 yX13_beginsTempl.cls (some .boolean) yX13_beginsTempl.name 1 0 0 1065 (t_P (fun v s' => s' = s ∧ ∃ x, v = some (.int x) ∧ (fun r => r = f_X13_beginsTempl s) (x))) 0 [(0, .ref 950)] [] (t_m s) 1065 0 0
  refine mj_aload_n dX13_beginsTempl_0 0 rfl ?_
  refine t_getI dX13_beginsTempl_1 F_X13_385 qf_950_5 ?_
  refine mj_iconst (v := 2) dX13_beginsTempl_4 (by decide) ?_
  refine mj_icmp_eq 16 dX13_beginsTempl_5 (by decide) (fun z => t_posTK hk z (fun hk => ?_)) (fun z => t_negTK hk z (fun hk => ?_))
  · refine mj_iconst (v := 1) dX13_beginsTempl_16 (by decide) ?_
    exact t_iret dX13_beginsTempl_17 rfl (by decide) ⟨rfl, _, rfl, hk⟩ (Nat.le_of_ble_eq_true rfl) (Nat.le_of_ble_eq_true rfl)
  · refine mj_aload_n dX13_beginsTempl_8 0 rfl ?_
    refine t_getI dX13_beginsTempl_9 F_X13_385 qf_950_5 ?_
    refine mj_iconst (v := 3) dX13_beginsTempl_12 (by decide) ?_
    refine mj_icmp_ne 18 dX13_beginsTempl_13 (by decide) (fun z => t_negTK hk z (fun hk => ?_)) (fun z => t_posTK hk z (fun hk => ?_))
    · refine mj_aload_n dX13_beginsTempl_18 0 rfl ?_
      refine t_getI dX13_beginsTempl_19 F_X13_385 qf_950_5 ?_
      refine mj_iconst (v := 1) dX13_beginsTempl_22 (by decide) ?_
      refine mj_icmp_ne 56 dX13_beginsTempl_23 (by decide) (fun z => t_negTK hk z (fun hk => ?_)) (fun z => t_posTK hk z (fun hk => ?_))
      · refine mj_aload_n dX13_beginsTempl_56 0 rfl ?_
        refine mj_bipush (v := 63) dX13_beginsTempl_57 (by decide) ?_
        refine t_callViP dX13_beginsTempl_59 M_X13_is (C_X13_is _ _) ML_X13_449 IM_X13_is SE_X13_is qc_950 rfl (As := [.int 63]) rfl rfl (Nat.le_of_ble_eq_true rfl) (Nat.le_of_ble_eq_true rfl) (Nat.le_of_ble_eq_true rfl) (Nat.le_of_ble_eq_true rfl) ?_
        refine mj_if_ne 128 dX13_beginsTempl_62 (by decide) (fun z => t_negTK hk z (fun hk => ?_)) (fun z => t_posTK hk z (fun hk => ?_))
        · refine mj_sublv [] [] rfl ?_
          exact B_X13_beginsTempl_128 _ _ hk
        · refine mj_aload_n dX13_beginsTempl_65 0 rfl ?_
          refine mj_bipush (v := 42) dX13_beginsTempl_66 (by decide) ?_
          refine t_callViP dX13_beginsTempl_68 M_X13_is (C_X13_is _ _) ML_X13_449 IM_X13_is SE_X13_is qc_950 rfl (As := [.int 42]) rfl rfl (Nat.le_of_ble_eq_true rfl) (Nat.le_of_ble_eq_true rfl) (Nat.le_of_ble_eq_true rfl) (Nat.le_of_ble_eq_true rfl) ?_
          refine mj_if_ne 128 dX13_beginsTempl_71 (by decide) (fun z => t_negTK hk z (fun hk => ?_)) (fun z => t_posTK hk z (fun hk => ?_))
          · refine mj_sublv [] [] rfl ?_
            exact B_X13_beginsTempl_128 _ _ hk
          · refine mj_aload_n dX13_beginsTempl_74 0 rfl ?_
            refine mj_bipush (v := 45) dX13_beginsTempl_75 (by decide) ?_
            refine t_callViP dX13_beginsTempl_77 M_X13_is (C_X13_is _ _) ML_X13_449 IM_X13_is SE_X13_is qc_950 rfl (As := [.int 45]) rfl rfl (Nat.le_of_ble_eq_true rfl) (Nat.le_of_ble_eq_true rfl) (Nat.le_of_ble_eq_true rfl) (Nat.le_of_ble_eq_true rfl) ?_
            refine mj_if_ne 128 dX13_beginsTempl_80 (by decide) (fun z => t_negTK hk z (fun hk => ?_)) (fun z => t_posTK hk z (fun hk => ?_))
            · refine mj_sublv [] [] rfl ?_
              exact B_X13_beginsTempl_128 _ _ hk
            · refine mj_aload_n dX13_beginsTempl_83 0 rfl ?_
              refine mj_bipush (v := 64) dX13_beginsTempl_84 (by decide) ?_
              refine t_callViP dX13_beginsTempl_86 M_X13_is (C_X13_is _ _) ML_X13_449 IM_X13_is SE_X13_is qc_950 rfl (As := [.int 64]) rfl rfl (Nat.le_of_ble_eq_true rfl) (Nat.le_of_ble_eq_true rfl) (Nat.le_of_ble_eq_true rfl) (Nat.le_of_ble_eq_true rfl) ?_
              refine mj_if_ne 128 dX13_beginsTempl_89 (by decide) (fun z => t_negTK hk z (fun hk => ?_)) (fun z => t_posTK hk z (fun hk => ?_))
              · refine mj_sublv [] [] rfl ?_
                exact B_X13_beginsTempl_128 _ _ hk
              · refine mj_aload_n dX13_beginsTempl_92 0 rfl ?_
                refine mj_bipush (v := 123) dX13_beginsTempl_93 (by decide) ?_
                refine t_callViP dX13_beginsTempl_95 M_X13_is (C_X13_is _ _) ML_X13_449 IM_X13_is SE_X13_is qc_950 rfl (As := [.int 123]) rfl rfl (Nat.le_of_ble_eq_true rfl) (Nat.le_of_ble_eq_true rfl) (Nat.le_of_ble_eq_true rfl) (Nat.le_of_ble_eq_true rfl) ?_
                refine mj_if_ne 128 dX13_beginsTempl_98 (by decide) (fun z => t_negTK hk z (fun hk => ?_)) (fun z => t_posTK hk z (fun hk => ?_))
                · refine mj_sublv [] [] rfl ?_
                  exact B_X13_beginsTempl_128 _ _ hk
                · refine mj_aload_n dX13_beginsTempl_101 0 rfl ?_
                  refine mj_bipush (v := 91) dX13_beginsTempl_102 (by decide) ?_
                  refine t_callViP dX13_beginsTempl_104 M_X13_is (C_X13_is _ _) ML_X13_449 IM_X13_is SE_X13_is qc_950 rfl (As := [.int 91]) rfl rfl (Nat.le_of_ble_eq_true rfl) (Nat.le_of_ble_eq_true rfl) (Nat.le_of_ble_eq_true rfl) (Nat.le_of_ble_eq_true rfl) ?_
                  refine mj_if_ne 128 dX13_beginsTempl_107 (by decide) (fun z => t_negTK hk z (fun hk => ?_)) (fun z => t_posTK hk z (fun hk => ?_))
                  · refine mj_sublv [] [] rfl ?_
                    exact B_X13_beginsTempl_128 _ _ hk
                  · refine mj_aload_n dX13_beginsTempl_110 0 rfl ?_
                    refine mj_bipush (v := 40) dX13_beginsTempl_111 (by decide) ?_
                    refine t_callViP dX13_beginsTempl_113 M_X13_is (C_X13_is _ _) ML_X13_449 IM_X13_is SE_X13_is qc_950 rfl (As := [.int 40]) rfl rfl (Nat.le_of_ble_eq_true rfl) (Nat.le_of_ble_eq_true rfl) (Nat.le_of_ble_eq_true rfl) (Nat.le_of_ble_eq_true rfl) ?_
                    refine mj_if_ne 128 dX13_beginsTempl_116 (by decide) (fun z => t_negTK hk z (fun hk => ?_)) (fun z => t_posTK hk z (fun hk => ?_))
                    · refine mj_sublv [] [] rfl ?_
                      exact B_X13_beginsTempl_128 _ _ hk
                    · refine mj_aload_n dX13_beginsTempl_119 0 rfl ?_
                      refine mj_bipush (v := 61) dX13_beginsTempl_120 (by decide) ?_
                      refine t_callViP dX13_beginsTempl_122 M_X13_is (C_X13_is _ _) ML_X13_449 IM_X13_is SE_X13_is qc_950 rfl (As := [.int 61]) rfl rfl (Nat.le_of_ble_eq_true rfl) (Nat.le_of_ble_eq_true rfl) (Nat.le_of_ble_eq_true rfl) (Nat.le_of_ble_eq_true rfl) ?_
                      refine mj_if_eq 132 dX13_beginsTempl_125 (by decide) (fun z => t_posTK hk z (fun hk => ?_)) (fun z => t_negTK hk z (fun hk => ?_))
                      · refine mj_iconst (v := 0) dX13_beginsTempl_132 (by decide) ?_
                        exact t_iret dX13_beginsTempl_133 rfl (by decide) ⟨rfl, _, rfl, hk⟩ (Nat.le_of_ble_eq_true rfl) (Nat.le_of_ble_eq_true rfl)
                      · refine mj_sublv [] [] rfl ?_
                        exact B_X13_beginsTempl_128 _ _ hk
      · refine mj_aload_n dX13_beginsTempl_26 0 rfl ?_
        refine t_getI dX13_beginsTempl_27 F_X13_397 qf_950_10 ?_
        refine mj_if_lt 50 dX13_beginsTempl_30 (by decide) (fun z => t_posTK hk z (fun hk => ?_)) (fun z => t_negTK hk z (fun hk => ?_))
        · refine mj_sublv [] [] rfl ?_
          exact B_X13_beginsTempl_50 _ _ hk
        · refine mj_aload_n dX13_beginsTempl_33 0 rfl ?_
          refine t_getI dX13_beginsTempl_34 F_X13_397 qf_950_10 ?_
          refine mj_i2l (v := (s.1 950 10).toInt64) dX13_beginsTempl_37 rfl ?_
          refine mj_ldc2 dX13_beginsTempl_38 K_X13_542 ?_
          refine mj_ldc2 dX13_beginsTempl_41 K_X13_550 ?_
          refine t_callSiP dX13_beginsTempl_44 M_X13_in (C_X13_in _ _ _ _) ML_X13_371 SM_X13_in (As := [.long ((s.1 950 10).toInt64), .long 21, .long 28]) rfl rfl (Nat.le_of_ble_eq_true rfl) (Nat.le_of_ble_eq_true rfl) (Nat.le_of_ble_eq_true rfl) (Nat.le_of_ble_eq_true rfl) ?_
          refine mj_if_eq 54 dX13_beginsTempl_47 (by decide) (fun z => t_posTK hk z (fun hk => ?_)) (fun z => t_negTK hk z (fun hk => ?_))
          · refine mj_iconst (v := 0) dX13_beginsTempl_54 (by decide) ?_
            exact t_iret dX13_beginsTempl_55 rfl (by decide) ⟨rfl, _, rfl, hk⟩ (Nat.le_of_ble_eq_true rfl) (Nat.le_of_ble_eq_true rfl)
          · refine mj_sublv [] [] rfl ?_
            exact B_X13_beginsTempl_50 _ _ hk
    · refine mj_iconst (v := 1) dX13_beginsTempl_16 (by decide) ?_
      exact t_iret dX13_beginsTempl_17 rfl (by decide) ⟨rfl, _, rfl, hk⟩ (Nat.le_of_ble_eq_true rfl) (Nat.le_of_ble_eq_true rfl)

theorem dX13_isWord_0 : decode cX13_isWord 0 = .ok (.aload_n 0, 1) := by decide +kernel
theorem dX13_isWord_1 : decode cX13_isWord 1 = .ok (.getfield 385, 3) := by decide +kernel
theorem dX13_isWord_12 : decode cX13_isWord 12 = .ok (.iload_n 1, 1) := by decide +kernel
theorem dX13_isWord_13 : decode cX13_isWord 13 = .ok (.if_icmp .ne 7, 3) := by decide +kernel
theorem dX13_isWord_16 : decode cX13_isWord 16 = .ok (.iconst 1, 1) := by decide +kernel
theorem dX13_isWord_17 : decode cX13_isWord 17 = .ok (.goto 4, 3) := by decide +kernel
theorem dX13_isWord_20 : decode cX13_isWord 20 = .ok (.iconst 0, 1) := by decide +kernel
theorem dX13_isWord_21 : decode cX13_isWord 21 = .ok (.ireturn, 1) := by decide +kernel
theorem dX13_isWord_4 : decode cX13_isWord 4 = .ok (.iconst 1, 1) := by decide +kernel
theorem dX13_isWord_5 : decode cX13_isWord 5 = .ok (.if_icmp .ne 15, 3) := by decide +kernel
theorem dX13_isWord_8 : decode cX13_isWord 8 = .ok (.aload_n 0, 1) := by decide +kernel
theorem dX13_isWord_9 : decode cX13_isWord 9 = .ok (.getfield 397, 3) := by decide +kernel
noncomputable def f_X13_isWord (x1 : Int32) (s : t_S) : Int32 :=
 if (s.1 950 5) = (1 : Int32) then (if (s.1 950 10) = x1 then ((1 : Int32))
 else ((0 : Int32)))
 else ((0 : Int32))
set_option maxRecDepth 4000 in
set_option maxHeartbeats 1000000 in
theorem C_X13_isWord (x1 : Int32) (s : t_S) : t_C yX13_isWord cX13_isWord 2 (some .boolean) 0 [.ref 950, .int x1] s (fun v s' => v = some (.int (f_X13_isWord x1 s)) ∧ s' = s) := by
  refine t_C.imp (P := fun v s' => s' = s ∧ ∃ x, v = some (.int x) ∧ (fun r => r = f_X13_isWord x1 s) (x)) (t_C.of (by decide +kernel) (Nat.le_of_ble_eq_true rfl) ?_) (fun v s' hp => by obtain ⟨rfl, x, rfl, rfl⟩ := hp; exact ⟨rfl, rfl⟩)
  intro D cy ad bs X
  have hk : t_ht (f_X13_isWord x1 s) (fun r => r = f_X13_isWord x1 s) := rfl
  show mj_G D cy ad bs X cX13_isWord 2 yX13_isWord.cls (some .boolean) yX13_isWord.name 0 0 0 1065 (t_P (fun v s' => s' = s ∧ ∃ x, v = some (.int x) ∧ (fun r => r = f_X13_isWord x1 s) (x))) 0 [(0, .ref 950), (1, .int x1)] [] (t_m s) 1065 0 0
  refine mj_aload_n dX13_isWord_0 0 rfl ?_
  refine t_getI dX13_isWord_1 F_X13_385 qf_950_5 ?_
  refine mj_iconst (v := 1) dX13_isWord_4 (by decide) ?_
  refine mj_icmp_ne 20 dX13_isWord_5 (by decide) (fun z => t_negTK hk z (fun hk => ?_)) (fun z => t_posTK hk z (fun hk => ?_))
  · refine mj_iconst (v := 0) dX13_isWord_20 (by decide) ?_
    exact t_iret dX13_isWord_21 rfl (by decide) ⟨rfl, _, rfl, hk⟩ (Nat.le_of_ble_eq_true rfl) (Nat.le_of_ble_eq_true rfl)
  · refine mj_aload_n dX13_isWord_8 0 rfl ?_
    refine t_getI dX13_isWord_9 F_X13_397 qf_950_10 ?_
    refine mj_iload_n dX13_isWord_12 1 rfl ?_
    refine mj_icmp_ne 20 dX13_isWord_13 (by decide) (fun z => t_negTK hk z (fun hk => ?_)) (fun z => t_posTK hk z (fun hk => ?_))
    · refine mj_iconst (v := 0) dX13_isWord_20 (by decide) ?_
      exact t_iret dX13_isWord_21 rfl (by decide) ⟨rfl, _, rfl, hk⟩ (Nat.le_of_ble_eq_true rfl) (Nat.le_of_ble_eq_true rfl)
    · refine mj_iconst (v := 1) dX13_isWord_16 (by decide) ?_
      refine mj_goto 21 dX13_isWord_17 (by decide) ?_
      exact t_iret dX13_isWord_21 rfl (by decide) ⟨rfl, _, rfl, hk⟩ (Nat.le_of_ble_eq_true rfl) (Nat.le_of_ble_eq_true rfl)

theorem dX13_bounded_0 : decode cX13_bounded 0 = .ok (.aload_n 0, 1) := by decide +kernel
theorem dX13_bounded_1 : decode cX13_bounded 1 = .ok (.getfield 385, 3) := by decide +kernel
theorem dX13_bounded_10 : decode cX13_bounded 10 = .ok (.aload_n 0, 1) := by decide +kernel
theorem dX13_bounded_11 : decode cX13_bounded 11 = .ok (.getfield 391, 3) := by decide +kernel
theorem dX13_bounded_14 : decode cX13_bounded 14 = .ok (.invokevirtual 411, 3) := by decide +kernel
theorem dX13_bounded_17 : decode cX13_bounded 17 = .ok (.goto 25, 3) := by decide +kernel
theorem dX13_bounded_20 : decode cX13_bounded 20 = .ok (.aload_n 0, 1) := by decide +kernel
theorem dX13_bounded_21 : decode cX13_bounded 21 = .ok (.getfield 415, 3) := by decide +kernel
theorem dX13_bounded_24 : decode cX13_bounded 24 = .ok (.lload_n 2, 1) := by decide +kernel
theorem dX13_bounded_25 : decode cX13_bounded 25 = .ok (.iload_n 1, 1) := by decide +kernel
theorem dX13_bounded_26 : decode cX13_bounded 26 = .ok (.i2l, 1) := by decide +kernel
theorem dX13_bounded_27 : decode cX13_bounded 27 = .ok (.invokestatic 371, 3) := by decide +kernel
theorem dX13_bounded_30 : decode cX13_bounded 30 = .ok (.ifCond .ne 12, 3) := by decide +kernel
theorem dX13_bounded_33 : decode cX13_bounded 33 = .ok (.aload_n 0, 1) := by decide +kernel
theorem dX13_bounded_34 : decode cX13_bounded 34 = .ok (.iconst 5, 1) := by decide +kernel
theorem dX13_bounded_35 : decode cX13_bounded 35 = .ok (.aload_n 0, 1) := by decide +kernel
theorem dX13_bounded_36 : decode cX13_bounded 36 = .ok (.getfield 391, 3) := by decide +kernel
theorem dX13_bounded_39 : decode cX13_bounded 39 = .ok (.invokevirtual 411, 3) := by decide +kernel
theorem dX13_bounded_4 : decode cX13_bounded 4 = .ok (.iconst 2, 1) := by decide +kernel
theorem dX13_bounded_42 : decode cX13_bounded 42 = .ok (.aload_n 0, 1) := by decide +kernel
theorem dX13_bounded_43 : decode cX13_bounded 43 = .ok (.getfield 415, 3) := by decide +kernel
theorem dX13_bounded_46 : decode cX13_bounded 46 = .ok (.lstore 4, 2) := by decide +kernel
theorem dX13_bounded_48 : decode cX13_bounded 48 = .ok (.aload_n 0, 1) := by decide +kernel
theorem dX13_bounded_49 : decode cX13_bounded 49 = .ok (.invokevirtual 452, 3) := by decide +kernel
theorem dX13_bounded_5 : decode cX13_bounded 5 = .ok (.if_icmp .eq 15, 3) := by decide +kernel
theorem dX13_bounded_52 : decode cX13_bounded 52 = .ok (.lload 4, 2) := by decide +kernel
theorem dX13_bounded_54 : decode cX13_bounded 54 = .ok (.lreturn, 1) := by decide +kernel
theorem dX13_bounded_8 : decode cX13_bounded 8 = .ok (.aload_n 0, 1) := by decide +kernel
theorem dX13_bounded_9 : decode cX13_bounded 9 = .ok (.iconst 2, 1) := by decide +kernel
noncomputable def k_X13_bounded_42 (s : t_S) : Option (Int64 × t_S) :=
 (f_X13_next s).bind (fun r1 =>
 some ((s.2.1 950 8), r1))
set_option maxRecDepth 4000 in
set_option maxHeartbeats 1000000 in
theorem B_X13_bounded_42 {D : va_G} {cy : Nat → ClassId} {ad : Nat → Nat} {bs : Nat} {X : State → Heap → Prop} (s : t_S) (Q : Int64 × t_S → Prop) (hk : t_hk (k_X13_bounded_42 s) Q) : mj_G D cy ad bs X cX13_bounded 6 yX13_bounded.cls (some .long) yX13_bounded.name 6 0 0 1065 (t_P (fun v s' => ∃ x, v = some (.long x) ∧ Q ((x, s')))) 42 [(0, .ref 950)] [] (t_m s) 1065 0 0 := by
  refine mj_aload_n dX13_bounded_42 0 rfl ?_
  refine t_getJ dX13_bounded_43 F_X13_415 qf_950_8 ?_
  refine mj_lstore (lv2 := [(4, .long (s.2.1 950 8)), (0, .ref 950)]) dX13_bounded_46 (by decide) rfl ?_
  refine mj_aload_n dX13_bounded_48 1 rfl ?_
  refine t_bndK hk (fun r1 er1 hk => ?_)
  refine t_callVvE dX13_bounded_49 M_X13_next (C_X13_next _ _ er1) ML_X13_452 IM_X13_next SE_X13_next qc_950 rfl (As := []) rfl rfl (Nat.le_of_ble_eq_true rfl) (Nat.le_of_ble_eq_true rfl) (Nat.le_of_ble_eq_true rfl) (Nat.le_of_ble_eq_true rfl) ?_
  refine mj_lload dX13_bounded_52 0 rfl ?_
  exact t_somK hk (fun hf => t_lret dX13_bounded_54 rfl ⟨_, rfl, hf⟩ (Nat.le_of_ble_eq_true rfl) (Nat.le_of_ble_eq_true rfl))
noncomputable def f_X13_bounded (x1 : Int32) (x2 : Int64) (s : t_S) : Option (Int64 × t_S) :=
 if (s.1 950 5) = (2 : Int32) then (if (f_X13_in (s.2.1 950 8) x2 x1.toInt64 s) = (0 : Int32) then ((f_X13_fail (5 : Int32) (s.1 950 6) s).bind (fun r2 =>
 k_X13_bounded_42 r2))
 else (k_X13_bounded_42 s))
 else ((f_X13_fail (2 : Int32) (s.1 950 6) s).bind (fun r3 =>
 k_X13_bounded_42 r3))
set_option maxRecDepth 4000 in
set_option maxHeartbeats 1000000 in
theorem C_X13_bounded (x1 : Int32) (x2 : Int64) (s : t_S) (r : Int64 × t_S) (hr : f_X13_bounded x1 x2 s = some r) : t_C yX13_bounded cX13_bounded 6 (some .long) 6 [.ref 950, .int x1, .long x2] s (fun v s' => v = some (.long r.1) ∧ s' = r.2) := by
  refine t_C.imp (P := fun v s' => ∃ x, v = some (.long x) ∧ (fun q => q = r) ((x, s'))) (t_C.of (by decide +kernel) (Nat.le_of_ble_eq_true rfl) ?_) (fun v s' hp => by obtain ⟨x, rfl, rfl⟩ := hp; exact ⟨rfl, rfl⟩)
  intro D cy ad bs X
  have hk : t_hk (f_X13_bounded x1 x2 s) (fun q => q = r) := ⟨r, hr, rfl⟩
  show mj_G D cy ad bs X cX13_bounded 6 yX13_bounded.cls (some .long) yX13_bounded.name 6 0 0 1065 (t_P (fun v s' => ∃ x, v = some (.long x) ∧ (fun q => q = r) ((x, s')))) 0 [(0, .ref 950), (1, .int x1), (2, .long x2)] [] (t_m s) 1065 0 0
  refine mj_aload_n dX13_bounded_0 0 rfl ?_
  refine t_getI dX13_bounded_1 F_X13_385 qf_950_5 ?_
  refine mj_iconst (v := 2) dX13_bounded_4 (by decide) ?_
  refine mj_icmp_eq 20 dX13_bounded_5 (by decide) (fun z => t_posK hk z (fun hk => ?_)) (fun z => t_negK hk z (fun hk => ?_))
  · refine mj_aload_n dX13_bounded_20 0 rfl ?_
    refine t_getJ dX13_bounded_21 F_X13_415 qf_950_8 ?_
    refine mj_lload_n dX13_bounded_24 2 rfl ?_
    refine mj_iload_n dX13_bounded_25 1 rfl ?_
    refine mj_i2l (v := x1.toInt64) dX13_bounded_26 rfl ?_
    refine t_callSiP dX13_bounded_27 M_X13_in (C_X13_in _ _ _ _) ML_X13_371 SM_X13_in (As := [.long (s.2.1 950 8), .long x2, .long x1.toInt64]) rfl rfl (Nat.le_of_ble_eq_true rfl) (Nat.le_of_ble_eq_true rfl) (Nat.le_of_ble_eq_true rfl) (Nat.le_of_ble_eq_true rfl) ?_
    refine mj_if_ne 42 dX13_bounded_30 (by decide) (fun z => t_negK hk z (fun hk => ?_)) (fun z => t_posK hk z (fun hk => ?_))
    · refine mj_sublv [(0, .ref 950)] [0] rfl ?_
      exact B_X13_bounded_42 _ _ hk
    · refine mj_aload_n dX13_bounded_33 0 rfl ?_
      refine mj_iconst (v := 5) dX13_bounded_34 (by decide) ?_
      refine mj_aload_n dX13_bounded_35 0 rfl ?_
      refine t_getI dX13_bounded_36 F_X13_391 qf_950_6 ?_
      refine t_bndK hk (fun r2 er2 hk => ?_)
      refine t_callVvE dX13_bounded_39 M_X13_fail (C_X13_fail _ _ _ _ er2) ML_X13_411 IM_X13_fail SE_X13_fail qc_950 rfl (As := [.int 5, .int (s.1 950 6)]) rfl rfl (Nat.le_of_ble_eq_true rfl) (Nat.le_of_ble_eq_true rfl) (Nat.le_of_ble_eq_true rfl) (Nat.le_of_ble_eq_true rfl) ?_
      refine mj_sublv [(0, .ref 950)] [0] rfl ?_
      exact B_X13_bounded_42 _ _ hk
  · refine mj_aload_n dX13_bounded_8 0 rfl ?_
    refine mj_iconst (v := 2) dX13_bounded_9 (by decide) ?_
    refine mj_aload_n dX13_bounded_10 0 rfl ?_
    refine t_getI dX13_bounded_11 F_X13_391 qf_950_6 ?_
    refine t_bndK hk (fun r3 er3 hk => ?_)
    refine t_callVvE dX13_bounded_14 M_X13_fail (C_X13_fail _ _ _ _ er3) ML_X13_411 IM_X13_fail SE_X13_fail qc_950 rfl (As := [.int 2, .int (s.1 950 6)]) rfl rfl (Nat.le_of_ble_eq_true rfl) (Nat.le_of_ble_eq_true rfl) (Nat.le_of_ble_eq_true rfl) (Nat.le_of_ble_eq_true rfl) ?_
    refine mj_goto 42 dX13_bounded_17 (by decide) ?_
    refine mj_sublv [(0, .ref 950)] [0] rfl ?_
    exact B_X13_bounded_42 _ _ hk

