/-! Methods as functions, 53: X13_varOf, X13_pushWord, X13_part, X13_recordRow, X13_isPattern -/
theorem qa_1009 : t_oka 1009 1 20 = true := by decide +kernel
theorem qa_1026 : t_oka 1026 1 13000 = true := by decide +kernel
theorem qa_1027 : t_oka 1027 2 370000 = true := by decide +kernel
theorem qa_959 : t_oka 959 1 13000 = true := by decide +kernel
theorem qa_960 : t_oka 960 1 13000 = true := by decide +kernel
theorem qa_961 : t_oka 961 1 13000 = true := by decide +kernel
theorem qf_950_100 : t_okf 950 13 100 0 = true := by decide +kernel
theorem qf_950_101 : t_okf 950 13 101 0 = true := by decide +kernel
theorem qr_950_104 : t_okr 950 13 104 1009 = true := by decide +kernel
theorem qr_950_132 : t_okr 950 13 132 1026 = true := by decide +kernel
theorem qr_950_134 : t_okr 950 13 134 1027 = true := by decide +kernel
theorem qr_950_21 : t_okr 950 13 21 959 = true := by decide +kernel
theorem qr_950_22 : t_okr 950 13 22 960 = true := by decide +kernel
theorem qr_950_23 : t_okr 950 13 23 961 = true := by decide +kernel
theorem dX13_varOf_0 : decode cX13_varOf 0 = .ok (.iload_n 2, 1) := by decide +kernel
theorem dX13_varOf_1 : decode cX13_varOf 1 = .ok (.sipush 2000, 3) := by decide +kernel
theorem dX13_varOf_101 : decode cX13_varOf 101 = .ok (.ifCond .ge 7, 3) := by decide +kernel
theorem dX13_varOf_104 : decode cX13_varOf 104 = .ok (.iconst (-1), 1) := by decide +kernel
theorem dX13_varOf_105 : decode cX13_varOf 105 = .ok (.goto 8, 3) := by decide +kernel
theorem dX13_varOf_108 : decode cX13_varOf 108 = .ok (.bipush 100, 2) := by decide +kernel
theorem dX13_varOf_11 : decode cX13_varOf 11 = .ok (.if_icmp .ge 31, 3) := by decide +kernel
theorem dX13_varOf_110 : decode cX13_varOf 110 = .ok (.iload 5, 2) := by decide +kernel
theorem dX13_varOf_112 : decode cX13_varOf 112 = .ok (.iadd, 1) := by decide +kernel
theorem dX13_varOf_113 : decode cX13_varOf 113 = .ok (.ireturn, 1) := by decide +kernel
theorem dX13_varOf_14 : decode cX13_varOf 14 = .ok (.aload_n 0, 1) := by decide +kernel
theorem dX13_varOf_15 : decode cX13_varOf 15 = .ok (.aload_n 0, 1) := by decide +kernel
theorem dX13_varOf_16 : decode cX13_varOf 16 = .ok (.getfield 114, 3) := by decide +kernel
theorem dX13_varOf_19 : decode cX13_varOf 19 = .ok (.bipush 8, 2) := by decide +kernel
theorem dX13_varOf_21 : decode cX13_varOf 21 = .ok (.iload_n 2, 1) := by decide +kernel
theorem dX13_varOf_22 : decode cX13_varOf 22 = .ok (.sipush 2000, 3) := by decide +kernel
theorem dX13_varOf_25 : decode cX13_varOf 25 = .ok (.isub, 1) := by decide +kernel
theorem dX13_varOf_26 : decode cX13_varOf 26 = .ok (.imul, 1) := by decide +kernel
theorem dX13_varOf_27 : decode cX13_varOf 27 = .ok (.iload_n 3, 1) := by decide +kernel
theorem dX13_varOf_28 : decode cX13_varOf 28 = .ok (.iload_n 1, 1) := by decide +kernel
theorem dX13_varOf_29 : decode cX13_varOf 29 = .ok (.invokevirtual 788, 3) := by decide +kernel
theorem dX13_varOf_32 : decode cX13_varOf 32 = .ok (.istore 4, 2) := by decide +kernel
theorem dX13_varOf_34 : decode cX13_varOf 34 = .ok (.iload 4, 2) := by decide +kernel
theorem dX13_varOf_36 : decode cX13_varOf 36 = .ok (.ifCond .lt 6, 3) := by decide +kernel
theorem dX13_varOf_39 : decode cX13_varOf 39 = .ok (.iload 4, 2) := by decide +kernel
theorem dX13_varOf_4 : decode cX13_varOf 4 = .ok (.if_icmp .lt 38, 3) := by decide +kernel
theorem dX13_varOf_41 : decode cX13_varOf 41 = .ok (.ireturn, 1) := by decide +kernel
theorem dX13_varOf_42 : decode cX13_varOf 42 = .ok (.aload_n 0, 1) := by decide +kernel
theorem dX13_varOf_43 : decode cX13_varOf 43 = .ok (.iload_n 2, 1) := by decide +kernel
theorem dX13_varOf_44 : decode cX13_varOf 44 = .ok (.invokevirtual 792, 3) := by decide +kernel
theorem dX13_varOf_47 : decode cX13_varOf 47 = .ok (.istore 4, 2) := by decide +kernel
theorem dX13_varOf_49 : decode cX13_varOf 49 = .ok (.iload 4, 2) := by decide +kernel
theorem dX13_varOf_51 : decode cX13_varOf 51 = .ok (.ifCond .ge 7, 3) := by decide +kernel
theorem dX13_varOf_54 : decode cX13_varOf 54 = .ok (.iconst (-1), 1) := by decide +kernel
theorem dX13_varOf_55 : decode cX13_varOf 55 = .ok (.goto 42, 3) := by decide +kernel
theorem dX13_varOf_58 : decode cX13_varOf 58 = .ok (.aload_n 0, 1) := by decide +kernel
theorem dX13_varOf_59 : decode cX13_varOf 59 = .ok (.aload_n 0, 1) := by decide +kernel
theorem dX13_varOf_60 : decode cX13_varOf 60 = .ok (.getfield 87, 3) := by decide +kernel
theorem dX13_varOf_63 : decode cX13_varOf 63 = .ok (.bipush 8, 2) := by decide +kernel
theorem dX13_varOf_65 : decode cX13_varOf 65 = .ok (.iload 4, 2) := by decide +kernel
theorem dX13_varOf_67 : decode cX13_varOf 67 = .ok (.imul, 1) := by decide +kernel
theorem dX13_varOf_68 : decode cX13_varOf 68 = .ok (.iload_n 2, 1) := by decide +kernel
theorem dX13_varOf_69 : decode cX13_varOf 69 = .ok (.sipush 1000, 3) := by decide +kernel
theorem dX13_varOf_7 : decode cX13_varOf 7 = .ok (.iload_n 2, 1) := by decide +kernel
theorem dX13_varOf_72 : decode cX13_varOf 72 = .ok (.if_icmp .lt 14, 3) := by decide +kernel
theorem dX13_varOf_75 : decode cX13_varOf 75 = .ok (.iload_n 2, 1) := by decide +kernel
theorem dX13_varOf_76 : decode cX13_varOf 76 = .ok (.sipush 2000, 3) := by decide +kernel
theorem dX13_varOf_79 : decode cX13_varOf 79 = .ok (.if_icmp .ge 7, 3) := by decide +kernel
theorem dX13_varOf_8 : decode cX13_varOf 8 = .ok (.sipush 3000, 3) := by decide +kernel
theorem dX13_varOf_82 : decode cX13_varOf 82 = .ok (.iload_n 3, 1) := by decide +kernel
theorem dX13_varOf_83 : decode cX13_varOf 83 = .ok (.goto 10, 3) := by decide +kernel
theorem dX13_varOf_86 : decode cX13_varOf 86 = .ok (.aload_n 0, 1) := by decide +kernel
theorem dX13_varOf_87 : decode cX13_varOf 87 = .ok (.getfield 99, 3) := by decide +kernel
theorem dX13_varOf_90 : decode cX13_varOf 90 = .ok (.iload 4, 2) := by decide +kernel
theorem dX13_varOf_92 : decode cX13_varOf 92 = .ok (.iaload, 1) := by decide +kernel
theorem dX13_varOf_93 : decode cX13_varOf 93 = .ok (.iload_n 1, 1) := by decide +kernel
theorem dX13_varOf_94 : decode cX13_varOf 94 = .ok (.invokevirtual 788, 3) := by decide +kernel
theorem dX13_varOf_97 : decode cX13_varOf 97 = .ok (.istore 5, 2) := by decide +kernel
theorem dX13_varOf_99 : decode cX13_varOf 99 = .ok (.iload 5, 2) := by decide +kernel
noncomputable def k_X13_varOf_97 (k0 : Int32) (s : t_S) : Option (Int32) :=
 if (0 : Int32) ≤ k0 then (some ((100 : Int32) + k0))
 else (some (-1 : Int32))
set_option maxRecDepth 4000 in
set_option maxHeartbeats 1000000 in
theorem B_X13_varOf_97 {D : va_G} {cy : Nat → ClassId} {ad : Nat → Nat} {bs : Nat} {X : State → Heap → Prop} (k0 : Int32) (s : t_S) (Q : Int32 → Prop) (hk : t_hk (k_X13_varOf_97 k0 s) Q) : mj_G D cy ad bs X cX13_varOf 6 yX13_varOf.cls (some .int) yX13_varOf.name 2 0 0 1065 (t_P (fun v s' => s' = s ∧ ∃ x, v = some (.int x) ∧ Q (x))) 97 [] [.int k0] (t_m s) 1065 0 0 := by
  refine mj_istore (lv2 := [(5, .int k0)]) dX13_varOf_97 (by decide) rfl ?_
  refine mj_iload dX13_varOf_99 0 rfl ?_
  refine mj_if_ge 108 dX13_varOf_101 (by decide) (fun z => t_posK hk z (fun hk => ?_)) (fun z => t_negK hk z (fun hk => ?_))
  · refine mj_bipush (v := 100) dX13_varOf_108 (by decide) ?_
    refine mj_iload dX13_varOf_110 0 rfl ?_
    refine mj_iadd dX13_varOf_112 ?_
    exact t_somK hk (fun hf => t_iret dX13_varOf_113 rfl rfl ⟨rfl, _, rfl, hf⟩ (Nat.le_of_ble_eq_true rfl) (Nat.le_of_ble_eq_true rfl))
  · refine mj_iconst (v := (-1)) dX13_varOf_104 (by decide) ?_
    refine mj_goto 113 dX13_varOf_105 (by decide) ?_
    exact t_somK hk (fun hf => t_iret dX13_varOf_113 rfl rfl ⟨rfl, _, rfl, hf⟩ (Nat.le_of_ble_eq_true rfl) (Nat.le_of_ble_eq_true rfl))
noncomputable def k_X13_varOf_93 (l1 : Int32) (k0 : Int32) (k1 : Int32) (s : t_S) : Option (Int32) :=
 (f_X13_find 975 k1 k0 l1 s).bind (fun r1 =>
 k_X13_varOf_97 r1 s)
set_option maxRecDepth 4000 in
set_option maxHeartbeats 1000000 in
theorem B_X13_varOf_93 {D : va_G} {cy : Nat → ClassId} {ad : Nat → Nat} {bs : Nat} {X : State → Heap → Prop} (l1 : Int32) (k0 : Int32) (k1 : Int32) (s : t_S) (Q : Int32 → Prop) (hk : t_hk (k_X13_varOf_93 l1 k0 k1 s) Q) : mj_G D cy ad bs X cX13_varOf 6 yX13_varOf.cls (some .int) yX13_varOf.name 2 0 0 1065 (t_P (fun v s' => s' = s ∧ ∃ x, v = some (.int x) ∧ Q (x))) 93 [(1, .int l1)] [.int k0, .int k1, .ref 975, .ref 950] (t_m s) 1065 0 0 := by
  refine mj_iload_n dX13_varOf_93 0 rfl ?_
  refine t_bndK hk (fun r1 er1 hk => ?_)
  refine t_callViP dX13_varOf_94 M_X13_find (C_X13_find _ _ _ _ _ _ er1) ML_X13_788 IM_X13_find SE_X13_find qc_950 rfl (As := [.ref 975, .int k1, .int k0, .int l1]) rfl rfl (Nat.le_of_ble_eq_true rfl) (Nat.le_of_ble_eq_true rfl) (Nat.le_of_ble_eq_true rfl) (Nat.le_of_ble_eq_true rfl) ?_
  refine mj_sublv [] [] rfl ?_
  exact B_X13_varOf_97 _ _ _ hk
noncomputable def k_X13_varOf_86 (l1 : Int32) (l4 : Int32) (k0 : Int32) (s : t_S) : Option (Int32) :=
 if t_ix l4 8 = true then
  k_X13_varOf_93 l1 (s.1 979 (l4.toNatClampNeg)) k0 s
else none
set_option maxRecDepth 4000 in
set_option maxHeartbeats 1000000 in
theorem B_X13_varOf_86 {D : va_G} {cy : Nat → ClassId} {ad : Nat → Nat} {bs : Nat} {X : State → Heap → Prop} (l1 : Int32) (l4 : Int32) (k0 : Int32) (s : t_S) (Q : Int32 → Prop) (hk : t_hk (k_X13_varOf_86 l1 l4 k0 s) Q) : mj_G D cy ad bs X cX13_varOf 6 yX13_varOf.cls (some .int) yX13_varOf.name 2 0 0 1065 (t_P (fun v s' => s' = s ∧ ∃ x, v = some (.int x) ∧ Q (x))) 86 [(0, .ref 950), (1, .int l1), (4, .int l4)] [.int k0, .ref 975, .ref 950] (t_m s) 1065 0 0 := by
  refine mj_aload_n dX13_varOf_86 0 rfl ?_
  refine t_getR 979 dX13_varOf_87 F_X13_99 qr_950_54 ?_
  refine mj_iload dX13_varOf_90 2 rfl ?_
  refine t_chkK hk (fun c0 hk => ?_)
  refine t_iald dX13_varOf_92 qa_979 (t_ixv c0) ?_
  refine mj_sublv [(1, .int l1)] [1] rfl ?_
  exact B_X13_varOf_93 _ _ _ _ _ hk
noncomputable def k_X13_varOf_42 (l1 : Int32) (l2 : Int32) (l3 : Int32) (s : t_S) : Option (Int32) :=
 (f_X13_componentOf l2 s).bind (fun r1 =>
 if (0 : Int32) ≤ r1 then (if l2 < (1000 : Int32) then (k_X13_varOf_86 l1 r1 ((8 : Int32) * r1) s)
 else (if (2000 : Int32) ≤ l2 then (k_X13_varOf_86 l1 r1 ((8 : Int32) * r1) s)
 else (k_X13_varOf_93 l1 l3 ((8 : Int32) * r1) s)))
 else (k_X13_varOf_97 (-1) s))
set_option maxRecDepth 4000 in
set_option maxHeartbeats 1000000 in
theorem B_X13_varOf_42 {D : va_G} {cy : Nat → ClassId} {ad : Nat → Nat} {bs : Nat} {X : State → Heap → Prop} (l1 : Int32) (l2 : Int32) (l3 : Int32) (s : t_S) (Q : Int32 → Prop) (hk : t_hk (k_X13_varOf_42 l1 l2 l3 s) Q) : mj_G D cy ad bs X cX13_varOf 6 yX13_varOf.cls (some .int) yX13_varOf.name 2 0 0 1065 (t_P (fun v s' => s' = s ∧ ∃ x, v = some (.int x) ∧ Q (x))) 42 [(0, .ref 950), (1, .int l1), (2, .int l2), (3, .int l3)] [] (t_m s) 1065 0 0 := by
  refine mj_aload_n dX13_varOf_42 0 rfl ?_
  refine mj_iload_n dX13_varOf_43 2 rfl ?_
  refine t_bndK hk (fun r1 er1 hk => ?_)
  refine t_callViP dX13_varOf_44 M_X13_componentOf (C_X13_componentOf _ _ _ er1) ML_X13_792 IM_X13_componentOf SE_X13_componentOf qc_950 rfl (As := [.int l2]) rfl rfl (Nat.le_of_ble_eq_true rfl) (Nat.le_of_ble_eq_true rfl) (Nat.le_of_ble_eq_true rfl) (Nat.le_of_ble_eq_true rfl) ?_
  refine mj_istore (lv2 := [(4, .int r1), (0, .ref 950), (1, .int l1), (2, .int l2), (3, .int l3)]) dX13_varOf_47 (by decide) rfl ?_
  refine mj_iload dX13_varOf_49 0 rfl ?_
  refine mj_if_ge 58 dX13_varOf_51 (by decide) (fun z => t_posK hk z (fun hk => ?_)) (fun z => t_negK hk z (fun hk => ?_))
  · refine mj_aload_n dX13_varOf_58 1 rfl ?_
    refine mj_aload_n dX13_varOf_59 1 rfl ?_
    refine t_getR 975 dX13_varOf_60 F_X13_87 qr_950_50 ?_
    refine mj_bipush (v := 8) dX13_varOf_63 (by decide) ?_
    refine mj_iload dX13_varOf_65 0 rfl ?_
    refine mj_imul dX13_varOf_67 ?_
    refine mj_iload_n dX13_varOf_68 3 rfl ?_
    refine mj_sipush (v := 1000) dX13_varOf_69 (by decide) ?_
    refine mj_icmp_lt 86 dX13_varOf_72 (by decide) (fun z => t_posK hk z (fun hk => ?_)) (fun z => t_negK hk z (fun hk => ?_))
    · refine mj_sublv [(0, .ref 950), (1, .int l1), (4, .int r1)] [1, 2, 0] rfl ?_
      exact B_X13_varOf_86 _ _ _ _ _ hk
    · refine mj_iload_n dX13_varOf_75 3 rfl ?_
      refine mj_sipush (v := 2000) dX13_varOf_76 (by decide) ?_
      refine mj_icmp_ge 86 dX13_varOf_79 (by decide) (fun z => t_posK hk z (fun hk => ?_)) (fun z => t_negK hk z (fun hk => ?_))
      · refine mj_sublv [(0, .ref 950), (1, .int l1), (4, .int r1)] [1, 2, 0] rfl ?_
        exact B_X13_varOf_86 _ _ _ _ _ hk
      · refine mj_iload_n dX13_varOf_82 4 rfl ?_
        refine mj_goto 93 dX13_varOf_83 (by decide) ?_
        refine mj_sublv [(1, .int l1)] [2] rfl ?_
        exact B_X13_varOf_93 _ _ _ _ _ hk
  · refine mj_iconst (v := (-1)) dX13_varOf_54 (by decide) ?_
    refine mj_goto 97 dX13_varOf_55 (by decide) ?_
    refine mj_sublv [] [] rfl ?_
    exact B_X13_varOf_97 _ _ _ hk
noncomputable def f_X13_varOf (x1 : Int32) (x2 : Int32) (x3 : Int32) (s : t_S) : Option (Int32) :=
 if x2 < (2000 : Int32) then (k_X13_varOf_42 x1 x2 x3 s)
 else (if (3000 : Int32) ≤ x2 then (k_X13_varOf_42 x1 x2 x3 s)
 else ((f_X13_find 984 ((8 : Int32) * (x2 - (2000 : Int32))) x3 x1 s).bind (fun r1 =>
 if r1 < (0 : Int32) then (k_X13_varOf_42 x1 x2 x3 s)
 else (some (r1)))))
set_option maxRecDepth 4000 in
set_option maxHeartbeats 1000000 in
theorem C_X13_varOf (x1 : Int32) (x2 : Int32) (x3 : Int32) (s : t_S) (r : Int32) (hr : f_X13_varOf x1 x2 x3 s = some r) : t_C yX13_varOf cX13_varOf 6 (some .int) 2 [.ref 950, .int x1, .int x2, .int x3] s (fun v s' => v = some (.int r) ∧ s' = s) := by
  refine t_C.imp (P := fun v s' => s' = s ∧ ∃ x, v = some (.int x) ∧ (fun q => q = r) (x)) (t_C.of (by decide +kernel) (Nat.le_of_ble_eq_true rfl) ?_) (fun v s' hp => by obtain ⟨rfl, x, rfl, rfl⟩ := hp; exact ⟨rfl, rfl⟩)
  intro D cy ad bs X
  have hk : t_hk (f_X13_varOf x1 x2 x3 s) (fun q => q = r) := ⟨r, hr, rfl⟩
  show mj_G D cy ad bs X cX13_varOf 6 yX13_varOf.cls (some .int) yX13_varOf.name 2 0 0 1065 (t_P (fun v s' => s' = s ∧ ∃ x, v = some (.int x) ∧ (fun q => q = r) (x))) 0 [(0, .ref 950), (1, .int x1), (2, .int x2), (3, .int x3)] [] (t_m s) 1065 0 0
  refine mj_iload_n dX13_varOf_0 2 rfl ?_
  refine mj_sipush (v := 2000) dX13_varOf_1 (by decide) ?_
  refine mj_icmp_lt 42 dX13_varOf_4 (by decide) (fun z => t_posK hk z (fun hk => ?_)) (fun z => t_negK hk z (fun hk => ?_))
  · exact B_X13_varOf_42 _ _ _ _ _ hk
  · refine mj_iload_n dX13_varOf_7 2 rfl ?_
    refine mj_sipush (v := 3000) dX13_varOf_8 (by decide) ?_
    refine mj_icmp_ge 42 dX13_varOf_11 (by decide) (fun z => t_posK hk z (fun hk => ?_)) (fun z => t_negK hk z (fun hk => ?_))
    · exact B_X13_varOf_42 _ _ _ _ _ hk
    · refine mj_aload_n dX13_varOf_14 0 rfl ?_
      refine mj_aload_n dX13_varOf_15 0 rfl ?_
      refine t_getR 984 dX13_varOf_16 F_X13_114 qr_950_60 ?_
      refine mj_bipush (v := 8) dX13_varOf_19 (by decide) ?_
      refine mj_iload_n dX13_varOf_21 2 rfl ?_
      refine mj_sipush (v := 2000) dX13_varOf_22 (by decide) ?_
      refine mj_isub dX13_varOf_25 ?_
      refine mj_imul dX13_varOf_26 ?_
      refine mj_iload_n dX13_varOf_27 3 rfl ?_
      refine mj_iload_n dX13_varOf_28 1 rfl ?_
      refine t_bndK hk (fun r1 er1 hk => ?_)
      refine t_callViP dX13_varOf_29 M_X13_find (C_X13_find _ _ _ _ _ _ er1) ML_X13_788 IM_X13_find SE_X13_find qc_950 rfl (As := [.ref 984, .int ((8 : Int32) * (x2 - (2000 : Int32))), .int x3, .int x1]) rfl rfl (Nat.le_of_ble_eq_true rfl) (Nat.le_of_ble_eq_true rfl) (Nat.le_of_ble_eq_true rfl) (Nat.le_of_ble_eq_true rfl) ?_
      refine mj_istore (lv2 := [(4, .int r1), (0, .ref 950), (1, .int x1), (2, .int x2), (3, .int x3)]) dX13_varOf_32 (by decide) rfl ?_
      refine mj_iload dX13_varOf_34 0 rfl ?_
      refine mj_if_lt 42 dX13_varOf_36 (by decide) (fun z => t_posK hk z (fun hk => ?_)) (fun z => t_negK hk z (fun hk => ?_))
      · refine mj_sublv [(0, .ref 950), (1, .int x1), (2, .int x2), (3, .int x3)] [1, 2, 3, 4] rfl ?_
        exact B_X13_varOf_42 _ _ _ _ _ hk
      · refine mj_iload dX13_varOf_39 0 rfl ?_
        exact t_somK hk (fun hf => t_iret dX13_varOf_41 rfl rfl ⟨rfl, _, rfl, hf⟩ (Nat.le_of_ble_eq_true rfl) (Nat.le_of_ble_eq_true rfl))

theorem dX13_pushWord_0 : decode cX13_pushWord 0 = .ok (.aload_n 0, 1) := by decide +kernel
theorem dX13_pushWord_1 : decode cX13_pushWord 1 = .ok (.getfield 36, 3) := by decide +kernel
theorem dX13_pushWord_10 : decode cX13_pushWord 10 = .ok (.ifCond .ge 14, 3) := by decide +kernel
theorem dX13_pushWord_100 : decode cX13_pushWord 100 = .ok (.imul, 1) := by decide +kernel
theorem dX13_pushWord_101 : decode cX13_pushWord 101 = .ok (.invokevirtual 932, 3) := by decide +kernel
theorem dX13_pushWord_104 : decode cX13_pushWord 104 = .ok (.goto 15, 3) := by decide +kernel
theorem dX13_pushWord_107 : decode cX13_pushWord 107 = .ok (.aload_n 0, 1) := by decide +kernel
theorem dX13_pushWord_108 : decode cX13_pushWord 108 = .ok (.iconst 3, 1) := by decide +kernel
theorem dX13_pushWord_109 : decode cX13_pushWord 109 = .ok (.aload_n 0, 1) := by decide +kernel
theorem dX13_pushWord_110 : decode cX13_pushWord 110 = .ok (.getfield 32, 3) := by decide +kernel
theorem dX13_pushWord_113 : decode cX13_pushWord 113 = .ok (.iload_n 1, 1) := by decide +kernel
theorem dX13_pushWord_114 : decode cX13_pushWord 114 = .ok (.laload, 1) := by decide +kernel
theorem dX13_pushWord_115 : decode cX13_pushWord 115 = .ok (.invokevirtual 869, 3) := by decide +kernel
theorem dX13_pushWord_118 : decode cX13_pushWord 118 = .ok (.istore_n 3, 1) := by decide +kernel
theorem dX13_pushWord_119 : decode cX13_pushWord 119 = .ok (.return_, 1) := by decide +kernel
theorem dX13_pushWord_13 : decode cX13_pushWord 13 = .ok (.aload_n 0, 1) := by decide +kernel
theorem dX13_pushWord_14 : decode cX13_pushWord 14 = .ok (.getfield 36, 3) := by decide +kernel
theorem dX13_pushWord_17 : decode cX13_pushWord 17 = .ok (.iload_n 1, 1) := by decide +kernel
theorem dX13_pushWord_18 : decode cX13_pushWord 18 = .ok (.laload, 1) := by decide +kernel
theorem dX13_pushWord_19 : decode cX13_pushWord 19 = .ok (.lconst 0, 1) := by decide +kernel
theorem dX13_pushWord_20 : decode cX13_pushWord 20 = .ok (.lcmp, 1) := by decide +kernel
theorem dX13_pushWord_21 : decode cX13_pushWord 21 = .ok (.ifCond .ne 7, 3) := by decide +kernel
theorem dX13_pushWord_24 : decode cX13_pushWord 24 = .ok (.iconst (-1), 1) := by decide +kernel
theorem dX13_pushWord_25 : decode cX13_pushWord 25 = .ok (.goto 27, 3) := by decide +kernel
theorem dX13_pushWord_28 : decode cX13_pushWord 28 = .ok (.aload_n 0, 1) := by decide +kernel
theorem dX13_pushWord_29 : decode cX13_pushWord 29 = .ok (.aload_n 0, 1) := by decide +kernel
theorem dX13_pushWord_30 : decode cX13_pushWord 30 = .ok (.getfield 32, 3) := by decide +kernel
theorem dX13_pushWord_33 : decode cX13_pushWord 33 = .ok (.iload_n 1, 1) := by decide +kernel
theorem dX13_pushWord_34 : decode cX13_pushWord 34 = .ok (.laload, 1) := by decide +kernel
theorem dX13_pushWord_35 : decode cX13_pushWord 35 = .ok (.l2i, 1) := by decide +kernel
theorem dX13_pushWord_36 : decode cX13_pushWord 36 = .ok (.aload_n 0, 1) := by decide +kernel
theorem dX13_pushWord_37 : decode cX13_pushWord 37 = .ok (.getfield 36, 3) := by decide +kernel
theorem dX13_pushWord_4 : decode cX13_pushWord 4 = .ok (.iload_n 1, 1) := by decide +kernel
theorem dX13_pushWord_40 : decode cX13_pushWord 40 = .ok (.iload_n 1, 1) := by decide +kernel
theorem dX13_pushWord_41 : decode cX13_pushWord 41 = .ok (.laload, 1) := by decide +kernel
theorem dX13_pushWord_42 : decode cX13_pushWord 42 = .ok (.l2i, 1) := by decide +kernel
theorem dX13_pushWord_43 : decode cX13_pushWord 43 = .ok (.aload_n 0, 1) := by decide +kernel
theorem dX13_pushWord_44 : decode cX13_pushWord 44 = .ok (.getfield 45, 3) := by decide +kernel
theorem dX13_pushWord_47 : decode cX13_pushWord 47 = .ok (.iload_n 1, 1) := by decide +kernel
theorem dX13_pushWord_48 : decode cX13_pushWord 48 = .ok (.iaload, 1) := by decide +kernel
theorem dX13_pushWord_49 : decode cX13_pushWord 49 = .ok (.invokevirtual 804, 3) := by decide +kernel
theorem dX13_pushWord_5 : decode cX13_pushWord 5 = .ok (.laload, 1) := by decide +kernel
theorem dX13_pushWord_52 : decode cX13_pushWord 52 = .ok (.istore_n 2, 1) := by decide +kernel
theorem dX13_pushWord_53 : decode cX13_pushWord 53 = .ok (.iload_n 2, 1) := by decide +kernel
theorem dX13_pushWord_54 : decode cX13_pushWord 54 = .ok (.bipush 100, 2) := by decide +kernel
theorem dX13_pushWord_56 : decode cX13_pushWord 56 = .ok (.if_icmp .lt 30, 3) := by decide +kernel
theorem dX13_pushWord_59 : decode cX13_pushWord 59 = .ok (.aload_n 0, 1) := by decide +kernel
theorem dX13_pushWord_6 : decode cX13_pushWord 6 = .ok (.ldc2_w 807, 3) := by decide +kernel
theorem dX13_pushWord_60 : decode cX13_pushWord 60 = .ok (.sipush 260, 3) := by decide +kernel
theorem dX13_pushWord_63 : decode cX13_pushWord 63 = .ok (.sipush 840, 3) := by decide +kernel
theorem dX13_pushWord_66 : decode cX13_pushWord 66 = .ok (.bipush 8, 2) := by decide +kernel
theorem dX13_pushWord_68 : decode cX13_pushWord 68 = .ok (.aload_n 0, 1) := by decide +kernel
theorem dX13_pushWord_69 : decode cX13_pushWord 69 = .ok (.getfield 917, 3) := by decide +kernel
theorem dX13_pushWord_72 : decode cX13_pushWord 72 = .ok (.imul, 1) := by decide +kernel
theorem dX13_pushWord_73 : decode cX13_pushWord 73 = .ok (.iadd, 1) := by decide +kernel
theorem dX13_pushWord_74 : decode cX13_pushWord 74 = .ok (.iload_n 2, 1) := by decide +kernel
theorem dX13_pushWord_75 : decode cX13_pushWord 75 = .ok (.iadd, 1) := by decide +kernel
theorem dX13_pushWord_76 : decode cX13_pushWord 76 = .ok (.bipush 100, 2) := by decide +kernel
theorem dX13_pushWord_78 : decode cX13_pushWord 78 = .ok (.isub, 1) := by decide +kernel
theorem dX13_pushWord_79 : decode cX13_pushWord 79 = .ok (.imul, 1) := by decide +kernel
theorem dX13_pushWord_80 : decode cX13_pushWord 80 = .ok (.invokevirtual 932, 3) := by decide +kernel
theorem dX13_pushWord_83 : decode cX13_pushWord 83 = .ok (.goto 36, 3) := by decide +kernel
theorem dX13_pushWord_86 : decode cX13_pushWord 86 = .ok (.iload_n 2, 1) := by decide +kernel
theorem dX13_pushWord_87 : decode cX13_pushWord 87 = .ok (.ifCond .lt 20, 3) := by decide +kernel
theorem dX13_pushWord_9 : decode cX13_pushWord 9 = .ok (.lcmp, 1) := by decide +kernel
theorem dX13_pushWord_90 : decode cX13_pushWord 90 = .ok (.aload_n 0, 1) := by decide +kernel
theorem dX13_pushWord_91 : decode cX13_pushWord 91 = .ok (.sipush 260, 3) := by decide +kernel
theorem dX13_pushWord_94 : decode cX13_pushWord 94 = .ok (.aload_n 0, 1) := by decide +kernel
theorem dX13_pushWord_95 : decode cX13_pushWord 95 = .ok (.getfield 935, 3) := by decide +kernel
theorem dX13_pushWord_98 : decode cX13_pushWord 98 = .ok (.iload_n 2, 1) := by decide +kernel
theorem dX13_pushWord_99 : decode cX13_pushWord 99 = .ok (.iadd, 1) := by decide +kernel
noncomputable def k_X13_pushWord_52 (l1 : Int32) (k0 : Int32) (s : t_S) : Option (t_S) :=
 if k0 < (100 : Int32) then (if k0 < (0 : Int32) then (if t_ix l1 13000 = true then
  (f_X13_push (3 : Int32) (s.2.1 957 (l1.toNatClampNeg)) s).bind (fun r2 =>
 some (r2.2))
else none)
 else ((f_X13_pushCopy ((260 : Int32) * ((s.1 950 101) + k0)) s).bind (fun r3 =>
 some (r3))))
 else ((f_X13_pushCopy ((260 : Int32) * ((((840 : Int32) + ((8 : Int32) * (s.1 950 100))) + k0) - (100 : Int32))) s).bind (fun r4 =>
 some (r4)))
set_option maxRecDepth 4000 in
set_option maxHeartbeats 1000000 in
theorem B_X13_pushWord_52 {D : va_G} {cy : Nat → ClassId} {ad : Nat → Nat} {bs : Nat} {X : State → Heap → Prop} (l1 : Int32) (k0 : Int32) (s : t_S) (Q : t_S → Prop) (hk : t_hk (k_X13_pushWord_52 l1 k0 s) Q) : mj_G D cy ad bs X cX13_pushWord 4 yX13_pushWord.cls none yX13_pushWord.name 4 0 0 1065 (t_P (fun v s' => v = none ∧ Q (s'))) 52 [(0, .ref 950), (1, .int l1)] [.int k0] (t_m s) 1065 0 0 := by
  refine mj_istore_n 2 (lv2 := [(2, .int k0), (0, .ref 950), (1, .int l1)]) dX13_pushWord_52 rfl (by decide) rfl ?_
  refine mj_iload_n dX13_pushWord_53 0 rfl ?_
  refine mj_bipush (v := 100) dX13_pushWord_54 (by decide) ?_
  refine mj_icmp_lt 86 dX13_pushWord_56 (by decide) (fun z => t_posK hk z (fun hk => ?_)) (fun z => t_negK hk z (fun hk => ?_))
  · refine mj_iload_n dX13_pushWord_86 0 rfl ?_
    refine mj_if_lt 107 dX13_pushWord_87 (by decide) (fun z => t_posK hk z (fun hk => ?_)) (fun z => t_negK hk z (fun hk => ?_))
    · refine mj_aload_n dX13_pushWord_107 1 rfl ?_
      refine mj_iconst (v := 3) dX13_pushWord_108 (by decide) ?_
      refine mj_aload_n dX13_pushWord_109 1 rfl ?_
      refine t_getR 957 dX13_pushWord_110 F_X13_32 qr_950_19 ?_
      refine mj_iload_n dX13_pushWord_113 2 rfl ?_
      refine t_chkK hk (fun c0 hk => ?_)
      refine t_lald dX13_pushWord_114 qa_957 (t_ixv c0) ?_
      refine t_bndK hk (fun r2 er2 hk => ?_)
      refine t_callViE dX13_pushWord_115 M_X13_push (C_X13_push _ _ _ _ er2) ML_X13_869 IM_X13_push SE_X13_push qc_950 rfl (As := [.int 3, .long (s.2.1 957 (l1.toNatClampNeg))]) rfl rfl (Nat.le_of_ble_eq_true rfl) (Nat.le_of_ble_eq_true rfl) (Nat.le_of_ble_eq_true rfl) (Nat.le_of_ble_eq_true rfl) ?_
      refine mj_istore_n 3 (lv2 := [(3, .int r2.1), (2, .int k0), (0, .ref 950), (1, .int l1)]) dX13_pushWord_118 rfl (by decide) rfl ?_
      exact t_somK hk (fun hf => t_vret dX13_pushWord_119 rfl ⟨rfl, hf⟩ (Nat.le_of_ble_eq_true rfl) (Nat.le_of_ble_eq_true rfl))
    · refine mj_aload_n dX13_pushWord_90 1 rfl ?_
      refine mj_sipush (v := 260) dX13_pushWord_91 (by decide) ?_
      refine mj_aload_n dX13_pushWord_94 1 rfl ?_
      refine t_getI dX13_pushWord_95 F_X13_935 qf_950_101 ?_
      refine mj_iload_n dX13_pushWord_98 0 rfl ?_
      refine mj_iadd dX13_pushWord_99 ?_
      refine mj_imul dX13_pushWord_100 ?_
      refine t_bndK hk (fun r3 er3 hk => ?_)
      refine t_callVvE dX13_pushWord_101 M_X13_pushCopy (C_X13_pushCopy _ _ _ er3) ML_X13_932 IM_X13_pushCopy SE_X13_pushCopy qc_950 rfl (As := [.int ((260 : Int32) * ((s.1 950 101) + k0))]) rfl rfl (Nat.le_of_ble_eq_true rfl) (Nat.le_of_ble_eq_true rfl) (Nat.le_of_ble_eq_true rfl) (Nat.le_of_ble_eq_true rfl) ?_
      refine mj_goto 119 dX13_pushWord_104 (by decide) ?_
      exact t_somK hk (fun hf => t_vret dX13_pushWord_119 rfl ⟨rfl, hf⟩ (Nat.le_of_ble_eq_true rfl) (Nat.le_of_ble_eq_true rfl))
  · refine mj_aload_n dX13_pushWord_59 1 rfl ?_
    refine mj_sipush (v := 260) dX13_pushWord_60 (by decide) ?_
    refine mj_sipush (v := 840) dX13_pushWord_63 (by decide) ?_
    refine mj_bipush (v := 8) dX13_pushWord_66 (by decide) ?_
    refine mj_aload_n dX13_pushWord_68 1 rfl ?_
    refine t_getI dX13_pushWord_69 F_X13_917 qf_950_100 ?_
    refine mj_imul dX13_pushWord_72 ?_
    refine mj_iadd dX13_pushWord_73 ?_
    refine mj_iload_n dX13_pushWord_74 0 rfl ?_
    refine mj_iadd dX13_pushWord_75 ?_
    refine mj_bipush (v := 100) dX13_pushWord_76 (by decide) ?_
    refine mj_isub dX13_pushWord_78 ?_
    refine mj_imul dX13_pushWord_79 ?_
    refine t_bndK hk (fun r4 er4 hk => ?_)
    refine t_callVvE dX13_pushWord_80 M_X13_pushCopy (C_X13_pushCopy _ _ _ er4) ML_X13_932 IM_X13_pushCopy SE_X13_pushCopy qc_950 rfl (As := [.int ((260 : Int32) * ((((840 : Int32) + ((8 : Int32) * (s.1 950 100))) + k0) - (100 : Int32)))]) rfl rfl (Nat.le_of_ble_eq_true rfl) (Nat.le_of_ble_eq_true rfl) (Nat.le_of_ble_eq_true rfl) (Nat.le_of_ble_eq_true rfl) ?_
    refine mj_goto 119 dX13_pushWord_83 (by decide) ?_
    exact t_somK hk (fun hf => t_vret dX13_pushWord_119 rfl ⟨rfl, hf⟩ (Nat.le_of_ble_eq_true rfl) (Nat.le_of_ble_eq_true rfl))
noncomputable def k_X13_pushWord_24 (l1 : Int32) (s : t_S) : Option (t_S) :=
 k_X13_pushWord_52 l1 (-1) s
set_option maxRecDepth 4000 in
set_option maxHeartbeats 1000000 in
theorem B_X13_pushWord_24 {D : va_G} {cy : Nat → ClassId} {ad : Nat → Nat} {bs : Nat} {X : State → Heap → Prop} (l1 : Int32) (s : t_S) (Q : t_S → Prop) (hk : t_hk (k_X13_pushWord_24 l1 s) Q) : mj_G D cy ad bs X cX13_pushWord 4 yX13_pushWord.cls none yX13_pushWord.name 4 0 0 1065 (t_P (fun v s' => v = none ∧ Q (s'))) 24 [(0, .ref 950), (1, .int l1)] [] (t_m s) 1065 0 0 := by
  refine mj_iconst (v := (-1)) dX13_pushWord_24 (by decide) ?_
  refine mj_goto 52 dX13_pushWord_25 (by decide) ?_
  exact B_X13_pushWord_52 _ _ _ _ hk
noncomputable def f_X13_pushWord (x1 : Int32) (s : t_S) : Option (t_S) :=
 if t_ix x1 13000 = true then
  if (0 : Int32) ≤ (lg_cmp (s.2.1 958 (x1.toNatClampNeg)) (3000 : Int64)) then (k_X13_pushWord_24 x1 s)
 else (if (lg_cmp (s.2.1 958 (x1.toNatClampNeg)) (0 : Int64)) = (0 : Int32) then (k_X13_pushWord_24 x1 s)
 else ((f_X13_varOf ((s.2.1 957 (x1.toNatClampNeg)).toInt32) ((s.2.1 958 (x1.toNatClampNeg)).toInt32) (s.1 961 (x1.toNatClampNeg)) s).bind (fun r2 =>
 k_X13_pushWord_52 x1 r2 s)))
else none
set_option maxRecDepth 4000 in
set_option maxHeartbeats 1000000 in
theorem C_X13_pushWord (x1 : Int32) (s : t_S) (r : t_S) (hr : f_X13_pushWord x1 s = some r) : t_C yX13_pushWord cX13_pushWord 4 none 4 [.ref 950, .int x1] s (fun v s' => v = none ∧ s' = r) := by
  refine t_C.imp (P := fun v s' => v = none ∧ (fun q => q = r) (s')) (t_C.of (by decide +kernel) (Nat.le_of_ble_eq_true rfl) ?_) (fun v s' hp => hp)
  intro D cy ad bs X
  have hk : t_hk (f_X13_pushWord x1 s) (fun q => q = r) := ⟨r, hr, rfl⟩
  show mj_G D cy ad bs X cX13_pushWord 4 yX13_pushWord.cls none yX13_pushWord.name 4 0 0 1065 (t_P (fun v s' => v = none ∧ (fun q => q = r) (s'))) 0 [(0, .ref 950), (1, .int x1)] [] (t_m s) 1065 0 0
  refine mj_aload_n dX13_pushWord_0 0 rfl ?_
  refine t_getR 958 dX13_pushWord_1 F_X13_36 qr_950_20 ?_
  refine mj_iload_n dX13_pushWord_4 1 rfl ?_
  refine t_chkK hk (fun c0 hk => ?_)
  refine t_lald dX13_pushWord_5 qa_958 (t_ixv c0) ?_
  refine mj_ldc2 dX13_pushWord_6 K_X13_807 ?_
  refine mj_lcmp dX13_pushWord_9 ?_
  refine mj_if_ge 24 dX13_pushWord_10 (by decide) (fun z => t_posK hk z (fun hk => ?_)) (fun z => t_negK hk z (fun hk => ?_))
  · exact B_X13_pushWord_24 _ _ _ hk
  · refine mj_aload_n dX13_pushWord_13 0 rfl ?_
    refine t_getR 958 dX13_pushWord_14 F_X13_36 qr_950_20 ?_
    refine mj_iload_n dX13_pushWord_17 1 rfl ?_
    refine t_lald dX13_pushWord_18 qa_958 (t_ixv c0) ?_
    refine mj_lconst (v := 0) dX13_pushWord_19 (by decide) ?_
    refine mj_lcmp dX13_pushWord_20 ?_
    refine mj_if_ne 28 dX13_pushWord_21 (by decide) (fun z => t_negK hk z (fun hk => ?_)) (fun z => t_posK hk z (fun hk => ?_))
    · refine mj_aload_n dX13_pushWord_28 0 rfl ?_
      refine mj_aload_n dX13_pushWord_29 0 rfl ?_
      refine t_getR 957 dX13_pushWord_30 F_X13_32 qr_950_19 ?_
      refine mj_iload_n dX13_pushWord_33 1 rfl ?_
      refine t_lald dX13_pushWord_34 qa_957 (t_ixv c0) ?_
      refine mj_l2i (v := (s.2.1 957 (x1.toNatClampNeg)).toInt32) dX13_pushWord_35 rfl ?_
      refine mj_aload_n dX13_pushWord_36 0 rfl ?_
      refine t_getR 958 dX13_pushWord_37 F_X13_36 qr_950_20 ?_
      refine mj_iload_n dX13_pushWord_40 1 rfl ?_
      refine t_lald dX13_pushWord_41 qa_958 (t_ixv c0) ?_
      refine mj_l2i (v := (s.2.1 958 (x1.toNatClampNeg)).toInt32) dX13_pushWord_42 rfl ?_
      refine mj_aload_n dX13_pushWord_43 0 rfl ?_
      refine t_getR 961 dX13_pushWord_44 F_X13_45 qr_950_23 ?_
      refine mj_iload_n dX13_pushWord_47 1 rfl ?_
      refine t_iald dX13_pushWord_48 qa_961 (t_ixv c0) ?_
      refine t_bndK hk (fun r2 er2 hk => ?_)
      refine t_callViP dX13_pushWord_49 M_X13_varOf (C_X13_varOf _ _ _ _ _ er2) ML_X13_804 IM_X13_varOf SE_X13_varOf qc_950 rfl (As := [.int ((s.2.1 957 (x1.toNatClampNeg)).toInt32), .int ((s.2.1 958 (x1.toNatClampNeg)).toInt32), .int (s.1 961 (x1.toNatClampNeg))]) rfl rfl (Nat.le_of_ble_eq_true rfl) (Nat.le_of_ble_eq_true rfl) (Nat.le_of_ble_eq_true rfl) (Nat.le_of_ble_eq_true rfl) ?_
      exact B_X13_pushWord_52 _ _ _ _ hk
    · exact B_X13_pushWord_24 _ _ _ hk

theorem dX13_part_0 : decode cX13_part 0 = .ok (.aload_n 0, 1) := by decide +kernel
theorem dX13_part_1 : decode cX13_part 1 = .ok (.getfield 39, 3) := by decide +kernel
theorem dX13_part_10 : decode cX13_part 10 = .ok (.iload 4, 2) := by decide +kernel
theorem dX13_part_12 : decode cX13_part 12 = .ok (.iload_n 2, 1) := by decide +kernel
theorem dX13_part_13 : decode cX13_part 13 = .ok (.if_icmp .ge 20, 3) := by decide +kernel
theorem dX13_part_16 : decode cX13_part 16 = .ok (.iload_n 3, 1) := by decide +kernel
theorem dX13_part_17 : decode cX13_part 17 = .ok (.ifCond .lt 16, 3) := by decide +kernel
theorem dX13_part_20 : decode cX13_part 20 = .ok (.aload_n 0, 1) := by decide +kernel
theorem dX13_part_21 : decode cX13_part 21 = .ok (.getfield 42, 3) := by decide +kernel
theorem dX13_part_24 : decode cX13_part 24 = .ok (.iload_n 3, 1) := by decide +kernel
theorem dX13_part_25 : decode cX13_part 25 = .ok (.iaload, 1) := by decide +kernel
theorem dX13_part_26 : decode cX13_part 26 = .ok (.istore_n 3, 1) := by decide +kernel
theorem dX13_part_27 : decode cX13_part 27 = .ok (.iinc 4 1, 3) := by decide +kernel
theorem dX13_part_30 : decode cX13_part 30 = .ok (.goto (-20), 3) := by decide +kernel
theorem dX13_part_33 : decode cX13_part 33 = .ok (.iload_n 3, 1) := by decide +kernel
theorem dX13_part_34 : decode cX13_part 34 = .ok (.ireturn, 1) := by decide +kernel
theorem dX13_part_4 : decode cX13_part 4 = .ok (.iload_n 1, 1) := by decide +kernel
theorem dX13_part_5 : decode cX13_part 5 = .ok (.iaload, 1) := by decide +kernel
theorem dX13_part_6 : decode cX13_part 6 = .ok (.istore_n 3, 1) := by decide +kernel
theorem dX13_part_7 : decode cX13_part 7 = .ok (.iconst 0, 1) := by decide +kernel
theorem dX13_part_8 : decode cX13_part 8 = .ok (.istore 4, 2) := by decide +kernel
noncomputable def k_X13_part_10 (l2 : Int32) (l3 : Int32) (l4 : Int32) (s : t_S) : Option ((Int32 × Int32 × Int32) ⊕ (Int32)) :=
 if l2 ≤ l4 then ((some (l3)).map Sum.inr)
 else (if l3 < (0 : Int32) then ((some (l3)).map Sum.inr)
 else (if t_ix l3 13000 = true then
  some (.inl (l2, (s.1 960 (l3.toNatClampNeg)), (l4 + 1)))
else none))
set_option maxRecDepth 4000 in
set_option maxHeartbeats 1000000 in
theorem B_X13_part_10 {D : va_G} {cy : Nat → ClassId} {ad : Nat → Nat} {bs : Nat} {X : State → Heap → Prop} (l2 : Int32) (l3 : Int32) (l4 : Int32) (s : t_S) (Q : (Int32 × Int32 × Int32) ⊕ (Int32) → Prop) (Hb10 : ∀ (y0 : Int32) (y1 : Int32) (y2 : Int32), Q (.inl (y0, y1, y2)) → mj_G D cy ad bs X cX13_part 5 yX13_part.cls (some .int) yX13_part.name 0 0 0 1065 (t_P (fun v s' => s' = s ∧ ∃ x, v = some (.int x) ∧ Q (.inr (x)))) 10 [(0, .ref 950), (2, .int (y0)), (3, .int (y1)), (4, .int (y2))] [] (t_m s) 1065 0 0) (hk : t_hk (k_X13_part_10 l2 l3 l4 s) Q) : mj_G D cy ad bs X cX13_part 5 yX13_part.cls (some .int) yX13_part.name 0 0 0 1065 (t_P (fun v s' => s' = s ∧ ∃ x, v = some (.int x) ∧ Q (.inr (x)))) 10 [(0, .ref 950), (2, .int l2), (3, .int l3), (4, .int l4)] [] (t_m s) 1065 0 0 := by
  refine mj_iload dX13_part_10 3 rfl ?_
  refine mj_iload_n dX13_part_12 1 rfl ?_
  refine mj_icmp_ge 33 dX13_part_13 (by decide) (fun z => t_posK hk z (fun hk => ?_)) (fun z => t_negK hk z (fun hk => ?_))
  · refine t_mapK hk (fun hk => ?_)
    refine mj_iload_n dX13_part_33 2 rfl ?_
    exact t_somK hk (fun hf => t_iret dX13_part_34 rfl rfl ⟨rfl, _, rfl, hf⟩ (Nat.le_of_ble_eq_true rfl) (Nat.le_of_ble_eq_true rfl))
  · refine mj_iload_n dX13_part_16 2 rfl ?_
    refine mj_if_lt 33 dX13_part_17 (by decide) (fun z => t_posK hk z (fun hk => ?_)) (fun z => t_negK hk z (fun hk => ?_))
    · refine t_mapK hk (fun hk => ?_)
      refine mj_iload_n dX13_part_33 2 rfl ?_
      exact t_somK hk (fun hf => t_iret dX13_part_34 rfl rfl ⟨rfl, _, rfl, hf⟩ (Nat.le_of_ble_eq_true rfl) (Nat.le_of_ble_eq_true rfl))
    · refine mj_aload_n dX13_part_20 0 rfl ?_
      refine t_getR 960 dX13_part_21 F_X13_42 qr_950_22 ?_
      refine mj_iload_n dX13_part_24 2 rfl ?_
      refine t_chkK hk (fun c0 hk => ?_)
      refine t_iald dX13_part_25 qa_960 (t_ixv c0) ?_
      refine mj_istore_n 3 (lv2 := [(3, .int (s.1 960 (l3.toNatClampNeg))), (0, .ref 950), (2, .int l2), (4, .int l4)]) dX13_part_26 rfl (by decide) rfl ?_
      refine mj_iinc (k := 3) (v := (l4 + 1)) (lv2 := [(4, .int (l4 + 1)), (3, .int (s.1 960 (l3.toNatClampNeg))), (0, .ref 950), (2, .int l2)]) dX13_part_27 rfl rfl (by decide) rfl ?_
      refine mj_goto 10 dX13_part_30 (by decide) ?_
      refine mj_sublv [(0, .ref 950), (2, .int l2), (3, .int (s.1 960 (l3.toNatClampNeg))), (4, .int (l4 + 1))] [2, 3, 1, 0] rfl ?_
      exact t_somK hk (fun hf => Hb10 l2 (s.1 960 (l3.toNatClampNeg)) (l4 + 1) hf)
noncomputable def b_X13_part_10 (s : t_S) (x : Int32 × Int32 × Int32) : Option ((Int32 × Int32 × Int32) ⊕ (Int32)) := k_X13_part_10 x.1 x.2.1 x.2.2 s
set_option maxRecDepth 4000 in
set_option maxHeartbeats 1000000 in
theorem LH_X13_part_10 {D : va_G} {cy : Nat → ClassId} {ad : Nat → Nat} {bs : Nat} {X : State → Heap → Prop} (s : t_S) : ∀ (n : Nat) (y0 : Int32) (y1 : Int32) (y2 : Int32) (Q : Int32 → Prop) (hk : t_hk (t_loop (b_X13_part_10 s) n (y0, y1, y2)) Q), mj_G D cy ad bs X cX13_part 5 yX13_part.cls (some .int) yX13_part.name 0 0 0 1065 (t_P (fun v s' => s' = s ∧ ∃ x, v = some (.int x) ∧ Q (x))) 10 [(0, .ref 950), (2, .int (y0)), (3, .int (y1)), (4, .int (y2))] [] (t_m s) 1065 0 0 := by
  intro n
  induction n with
  | zero => intro y0 y1 y2 Q hk; obtain ⟨r, hr, _⟩ := hk; cases hr
  | succ n ih =>
    intro y0 y1 y2 Q hk
    exact B_X13_part_10 y0 y1 y2 s (fun y => t_lq (b_X13_part_10 s) n Q y) (fun y0' y1' y2' hy => ih y0' y1' y2' Q hy) (t_lp hk)
noncomputable def f_X13_part (x1 : Int32) (x2 : Int32) (s : t_S) : Option (Int32) :=
 if t_ix x1 13000 = true then
  t_loop (b_X13_part_10 s) t_N (x2, (s.1 959 (x1.toNatClampNeg)), 0)
else none
set_option maxRecDepth 4000 in
set_option maxHeartbeats 1000000 in
theorem C_X13_part (x1 : Int32) (x2 : Int32) (s : t_S) (r : Int32) (hr : f_X13_part x1 x2 s = some r) : t_C yX13_part cX13_part 5 (some .int) 0 [.ref 950, .int x1, .int x2] s (fun v s' => v = some (.int r) ∧ s' = s) := by
  refine t_C.imp (P := fun v s' => s' = s ∧ ∃ x, v = some (.int x) ∧ (fun q => q = r) (x)) (t_C.of (by decide +kernel) (Nat.le_of_ble_eq_true rfl) ?_) (fun v s' hp => by obtain ⟨rfl, x, rfl, rfl⟩ := hp; exact ⟨rfl, rfl⟩)
  intro D cy ad bs X
  have hk : t_hk (f_X13_part x1 x2 s) (fun q => q = r) := ⟨r, hr, rfl⟩
  show mj_G D cy ad bs X cX13_part 5 yX13_part.cls (some .int) yX13_part.name 0 0 0 1065 (t_P (fun v s' => s' = s ∧ ∃ x, v = some (.int x) ∧ (fun q => q = r) (x))) 0 [(0, .ref 950), (1, .int x1), (2, .int x2)] [] (t_m s) 1065 0 0
  refine mj_aload_n dX13_part_0 0 rfl ?_
  refine t_getR 959 dX13_part_1 F_X13_39 qr_950_21 ?_
  refine mj_iload_n dX13_part_4 1 rfl ?_
  refine t_chkK hk (fun c0 hk => ?_)
  refine t_iald dX13_part_5 qa_959 (t_ixv c0) ?_
  refine mj_istore_n 3 (lv2 := [(3, .int (s.1 959 (x1.toNatClampNeg))), (0, .ref 950), (1, .int x1), (2, .int x2)]) dX13_part_6 rfl (by decide) rfl ?_
  refine mj_iconst (v := 0) dX13_part_7 (by decide) ?_
  refine mj_istore (lv2 := [(4, .int 0), (3, .int (s.1 959 (x1.toNatClampNeg))), (0, .ref 950), (1, .int x1), (2, .int x2)]) dX13_part_8 (by decide) rfl ?_
  refine mj_sublv [(0, .ref 950), (2, .int x2), (3, .int (s.1 959 (x1.toNatClampNeg))), (4, .int 0)] [2, 4, 1, 0] rfl ?_
  exact LH_X13_part_10 _ _ x2 (s.1 959 (x1.toNatClampNeg)) 0 _ hk

theorem dX13_recordRow_0 : decode cX13_recordRow 0 = .ok (.iconst 0, 1) := by decide +kernel
theorem dX13_recordRow_1 : decode cX13_recordRow 1 = .ok (.istore 4, 2) := by decide +kernel
theorem dX13_recordRow_102 : decode cX13_recordRow 102 = .ok (.goto (-49), 3) := by decide +kernel
theorem dX13_recordRow_105 : decode cX13_recordRow 105 = .ok (.aload_n 0, 1) := by decide +kernel
theorem dX13_recordRow_106 : decode cX13_recordRow 106 = .ok (.getfield 191, 3) := by decide +kernel
theorem dX13_recordRow_109 : decode cX13_recordRow 109 = .ok (.iload 6, 2) := by decide +kernel
theorem dX13_recordRow_111 : decode cX13_recordRow 111 = .ok (.iload 5, 2) := by decide +kernel
theorem dX13_recordRow_113 : decode cX13_recordRow 113 = .ok (.iastore, 1) := by decide +kernel
theorem dX13_recordRow_114 : decode cX13_recordRow 114 = .ok (.iinc 4 1, 3) := by decide +kernel
theorem dX13_recordRow_117 : decode cX13_recordRow 117 = .ok (.iinc 5 1, 3) := by decide +kernel
theorem dX13_recordRow_12 : decode cX13_recordRow 12 = .ok (.aload_n 0, 1) := by decide +kernel
theorem dX13_recordRow_120 : decode cX13_recordRow 120 = .ok (.goto (-114), 3) := by decide +kernel
theorem dX13_recordRow_123 : decode cX13_recordRow 123 = .ok (.aload_n 0, 1) := by decide +kernel
theorem dX13_recordRow_124 : decode cX13_recordRow 124 = .ok (.getfield 185, 3) := by decide +kernel
theorem dX13_recordRow_127 : decode cX13_recordRow 127 = .ok (.iconst 0, 1) := by decide +kernel
theorem dX13_recordRow_128 : decode cX13_recordRow 128 = .ok (.ldc2_w 853, 3) := by decide +kernel
theorem dX13_recordRow_13 : decode cX13_recordRow 13 = .ok (.getfield 182, 3) := by decide +kernel
theorem dX13_recordRow_131 : decode cX13_recordRow 131 = .ok (.lastore, 1) := by decide +kernel
theorem dX13_recordRow_132 : decode cX13_recordRow 132 = .ok (.aload_n 0, 1) := by decide +kernel
theorem dX13_recordRow_133 : decode cX13_recordRow 133 = .ok (.getfield 185, 3) := by decide +kernel
theorem dX13_recordRow_136 : decode cX13_recordRow 136 = .ok (.iconst 1, 1) := by decide +kernel
theorem dX13_recordRow_137 : decode cX13_recordRow 137 = .ok (.iload 4, 2) := by decide +kernel
theorem dX13_recordRow_139 : decode cX13_recordRow 139 = .ok (.i2l, 1) := by decide +kernel
theorem dX13_recordRow_140 : decode cX13_recordRow 140 = .ok (.lastore, 1) := by decide +kernel
theorem dX13_recordRow_141 : decode cX13_recordRow 141 = .ok (.iconst 2, 1) := by decide +kernel
theorem dX13_recordRow_142 : decode cX13_recordRow 142 = .ok (.iload 4, 2) := by decide +kernel
theorem dX13_recordRow_144 : decode cX13_recordRow 144 = .ok (.iadd, 1) := by decide +kernel
theorem dX13_recordRow_145 : decode cX13_recordRow 145 = .ok (.istore 5, 2) := by decide +kernel
theorem dX13_recordRow_147 : decode cX13_recordRow 147 = .ok (.iconst 0, 1) := by decide +kernel
theorem dX13_recordRow_148 : decode cX13_recordRow 148 = .ok (.istore 6, 2) := by decide +kernel
theorem dX13_recordRow_150 : decode cX13_recordRow 150 = .ok (.iload 6, 2) := by decide +kernel
theorem dX13_recordRow_152 : decode cX13_recordRow 152 = .ok (.iload 4, 2) := by decide +kernel
theorem dX13_recordRow_154 : decode cX13_recordRow 154 = .ok (.if_icmp .ge 59, 3) := by decide +kernel
theorem dX13_recordRow_157 : decode cX13_recordRow 157 = .ok (.aload_n 0, 1) := by decide +kernel
theorem dX13_recordRow_158 : decode cX13_recordRow 158 = .ok (.getfield 185, 3) := by decide +kernel
theorem dX13_recordRow_16 : decode cX13_recordRow 16 = .ok (.sipush 260, 3) := by decide +kernel
theorem dX13_recordRow_161 : decode cX13_recordRow 161 = .ok (.iconst 2, 1) := by decide +kernel
theorem dX13_recordRow_162 : decode cX13_recordRow 162 = .ok (.iload 6, 2) := by decide +kernel
theorem dX13_recordRow_164 : decode cX13_recordRow 164 = .ok (.iadd, 1) := by decide +kernel
theorem dX13_recordRow_165 : decode cX13_recordRow 165 = .ok (.aload_n 0, 1) := by decide +kernel
theorem dX13_recordRow_166 : decode cX13_recordRow 166 = .ok (.getfield 32, 3) := by decide +kernel
theorem dX13_recordRow_169 : decode cX13_recordRow 169 = .ok (.aload_n 0, 1) := by decide +kernel
theorem dX13_recordRow_170 : decode cX13_recordRow 170 = .ok (.iload_n 1, 1) := by decide +kernel
theorem dX13_recordRow_171 : decode cX13_recordRow 171 = .ok (.aload_n 0, 1) := by decide +kernel
theorem dX13_recordRow_172 : decode cX13_recordRow 172 = .ok (.getfield 191, 3) := by decide +kernel
theorem dX13_recordRow_175 : decode cX13_recordRow 175 = .ok (.iload 6, 2) := by decide +kernel
theorem dX13_recordRow_177 : decode cX13_recordRow 177 = .ok (.iaload, 1) := by decide +kernel
theorem dX13_recordRow_178 : decode cX13_recordRow 178 = .ok (.invokevirtual 974, 3) := by decide +kernel
theorem dX13_recordRow_181 : decode cX13_recordRow 181 = .ok (.laload, 1) := by decide +kernel
theorem dX13_recordRow_182 : decode cX13_recordRow 182 = .ok (.lastore, 1) := by decide +kernel
theorem dX13_recordRow_183 : decode cX13_recordRow 183 = .ok (.aload_n 0, 1) := by decide +kernel
theorem dX13_recordRow_184 : decode cX13_recordRow 184 = .ok (.iload 5, 2) := by decide +kernel
theorem dX13_recordRow_186 : decode cX13_recordRow 186 = .ok (.sipush 260, 3) := by decide +kernel
theorem dX13_recordRow_189 : decode cX13_recordRow 189 = .ok (.bipush 40, 2) := by decide +kernel
theorem dX13_recordRow_19 : decode cX13_recordRow 19 = .ok (.bipush 40, 2) := by decide +kernel
theorem dX13_recordRow_191 : decode cX13_recordRow 191 = .ok (.iload_n 2, 1) := by decide +kernel
theorem dX13_recordRow_192 : decode cX13_recordRow 192 = .ok (.iadd, 1) := by decide +kernel
theorem dX13_recordRow_193 : decode cX13_recordRow 193 = .ok (.aload_n 0, 1) := by decide +kernel
theorem dX13_recordRow_194 : decode cX13_recordRow 194 = .ok (.getfield 191, 3) := by decide +kernel
theorem dX13_recordRow_197 : decode cX13_recordRow 197 = .ok (.iload 6, 2) := by decide +kernel
theorem dX13_recordRow_199 : decode cX13_recordRow 199 = .ok (.iaload, 1) := by decide +kernel
theorem dX13_recordRow_200 : decode cX13_recordRow 200 = .ok (.iadd, 1) := by decide +kernel
theorem dX13_recordRow_201 : decode cX13_recordRow 201 = .ok (.imul, 1) := by decide +kernel
theorem dX13_recordRow_202 : decode cX13_recordRow 202 = .ok (.invokevirtual 956, 3) := by decide +kernel
theorem dX13_recordRow_205 : decode cX13_recordRow 205 = .ok (.istore 5, 2) := by decide +kernel
theorem dX13_recordRow_207 : decode cX13_recordRow 207 = .ok (.iinc 6 1, 3) := by decide +kernel
theorem dX13_recordRow_21 : decode cX13_recordRow 21 = .ok (.iload_n 2, 1) := by decide +kernel
theorem dX13_recordRow_210 : decode cX13_recordRow 210 = .ok (.goto (-60), 3) := by decide +kernel
theorem dX13_recordRow_213 : decode cX13_recordRow 213 = .ok (.iload 5, 2) := by decide +kernel
theorem dX13_recordRow_215 : decode cX13_recordRow 215 = .ok (.ireturn, 1) := by decide +kernel
theorem dX13_recordRow_22 : decode cX13_recordRow 22 = .ok (.iadd, 1) := by decide +kernel
theorem dX13_recordRow_23 : decode cX13_recordRow 23 = .ok (.iload 5, 2) := by decide +kernel
theorem dX13_recordRow_25 : decode cX13_recordRow 25 = .ok (.iadd, 1) := by decide +kernel
theorem dX13_recordRow_26 : decode cX13_recordRow 26 = .ok (.imul, 1) := by decide +kernel
theorem dX13_recordRow_27 : decode cX13_recordRow 27 = .ok (.laload, 1) := by decide +kernel
theorem dX13_recordRow_28 : decode cX13_recordRow 28 = .ok (.ldc2_w 969, 3) := by decide +kernel
theorem dX13_recordRow_3 : decode cX13_recordRow 3 = .ok (.iconst 0, 1) := by decide +kernel
theorem dX13_recordRow_31 : decode cX13_recordRow 31 = .ok (.lcmp, 1) := by decide +kernel
theorem dX13_recordRow_32 : decode cX13_recordRow 32 = .ok (.ifCond .eq 85, 3) := by decide +kernel
theorem dX13_recordRow_35 : decode cX13_recordRow 35 = .ok (.iload 4, 2) := by decide +kernel
theorem dX13_recordRow_37 : decode cX13_recordRow 37 = .ok (.istore 6, 2) := by decide +kernel
theorem dX13_recordRow_39 : decode cX13_recordRow 39 = .ok (.aload_n 0, 1) := by decide +kernel
theorem dX13_recordRow_4 : decode cX13_recordRow 4 = .ok (.istore 5, 2) := by decide +kernel
theorem dX13_recordRow_40 : decode cX13_recordRow 40 = .ok (.getfield 32, 3) := by decide +kernel
theorem dX13_recordRow_43 : decode cX13_recordRow 43 = .ok (.aload_n 0, 1) := by decide +kernel
theorem dX13_recordRow_44 : decode cX13_recordRow 44 = .ok (.iload_n 1, 1) := by decide +kernel
theorem dX13_recordRow_45 : decode cX13_recordRow 45 = .ok (.iload 5, 2) := by decide +kernel
theorem dX13_recordRow_47 : decode cX13_recordRow 47 = .ok (.invokevirtual 974, 3) := by decide +kernel
theorem dX13_recordRow_50 : decode cX13_recordRow 50 = .ok (.laload, 1) := by decide +kernel
theorem dX13_recordRow_51 : decode cX13_recordRow 51 = .ok (.lstore 7, 2) := by decide +kernel
theorem dX13_recordRow_53 : decode cX13_recordRow 53 = .ok (.iload 6, 2) := by decide +kernel
theorem dX13_recordRow_55 : decode cX13_recordRow 55 = .ok (.ifCond .le 50, 3) := by decide +kernel
theorem dX13_recordRow_58 : decode cX13_recordRow 58 = .ok (.aload_n 0, 1) := by decide +kernel
theorem dX13_recordRow_59 : decode cX13_recordRow 59 = .ok (.getfield 32, 3) := by decide +kernel
theorem dX13_recordRow_6 : decode cX13_recordRow 6 = .ok (.iload 5, 2) := by decide +kernel
theorem dX13_recordRow_62 : decode cX13_recordRow 62 = .ok (.aload_n 0, 1) := by decide +kernel
theorem dX13_recordRow_63 : decode cX13_recordRow 63 = .ok (.iload_n 1, 1) := by decide +kernel
theorem dX13_recordRow_64 : decode cX13_recordRow 64 = .ok (.aload_n 0, 1) := by decide +kernel
theorem dX13_recordRow_65 : decode cX13_recordRow 65 = .ok (.getfield 191, 3) := by decide +kernel
theorem dX13_recordRow_68 : decode cX13_recordRow 68 = .ok (.iload 6, 2) := by decide +kernel
theorem dX13_recordRow_70 : decode cX13_recordRow 70 = .ok (.iconst 1, 1) := by decide +kernel
theorem dX13_recordRow_71 : decode cX13_recordRow 71 = .ok (.isub, 1) := by decide +kernel
theorem dX13_recordRow_72 : decode cX13_recordRow 72 = .ok (.iaload, 1) := by decide +kernel
theorem dX13_recordRow_73 : decode cX13_recordRow 73 = .ok (.invokevirtual 974, 3) := by decide +kernel
theorem dX13_recordRow_76 : decode cX13_recordRow 76 = .ok (.laload, 1) := by decide +kernel
theorem dX13_recordRow_77 : decode cX13_recordRow 77 = .ok (.lload 7, 2) := by decide +kernel
theorem dX13_recordRow_79 : decode cX13_recordRow 79 = .ok (.lcmp, 1) := by decide +kernel
theorem dX13_recordRow_8 : decode cX13_recordRow 8 = .ok (.iload_n 3, 1) := by decide +kernel
theorem dX13_recordRow_80 : decode cX13_recordRow 80 = .ok (.ifCond .le 25, 3) := by decide +kernel
theorem dX13_recordRow_83 : decode cX13_recordRow 83 = .ok (.aload_n 0, 1) := by decide +kernel
theorem dX13_recordRow_84 : decode cX13_recordRow 84 = .ok (.getfield 191, 3) := by decide +kernel
theorem dX13_recordRow_87 : decode cX13_recordRow 87 = .ok (.iload 6, 2) := by decide +kernel
theorem dX13_recordRow_89 : decode cX13_recordRow 89 = .ok (.aload_n 0, 1) := by decide +kernel
theorem dX13_recordRow_9 : decode cX13_recordRow 9 = .ok (.if_icmp .ge 114, 3) := by decide +kernel
theorem dX13_recordRow_90 : decode cX13_recordRow 90 = .ok (.getfield 191, 3) := by decide +kernel
theorem dX13_recordRow_93 : decode cX13_recordRow 93 = .ok (.iload 6, 2) := by decide +kernel
theorem dX13_recordRow_95 : decode cX13_recordRow 95 = .ok (.iconst 1, 1) := by decide +kernel
theorem dX13_recordRow_96 : decode cX13_recordRow 96 = .ok (.isub, 1) := by decide +kernel
theorem dX13_recordRow_97 : decode cX13_recordRow 97 = .ok (.iaload, 1) := by decide +kernel
theorem dX13_recordRow_98 : decode cX13_recordRow 98 = .ok (.iastore, 1) := by decide +kernel
theorem dX13_recordRow_99 : decode cX13_recordRow 99 = .ok (.iinc 6 (-1), 3) := by decide +kernel
noncomputable def k_X13_recordRow_117 (l1 : Int32) (l2 : Int32) (l3 : Int32) (l4 : Int32) (l5 : Int32) (s : t_S) : Option ((Int32 × Int32 × Int32 × Int32 × Int32 × t_S) ⊕ (Int32 × t_S)) :=
 some (.inl (l1, l2, l3, l4, (l5 + 1), s))
set_option maxRecDepth 4000 in
set_option maxHeartbeats 1000000 in
theorem B_X13_recordRow_117 {D : va_G} {cy : Nat → ClassId} {ad : Nat → Nat} {bs : Nat} {X : State → Heap → Prop} (l1 : Int32) (l2 : Int32) (l3 : Int32) (l4 : Int32) (l5 : Int32) (s : t_S) (Q : (Int32 × Int32 × Int32 × Int32 × Int32 × t_S) ⊕ (Int32 × t_S) → Prop) (Hb6 : ∀ (y0 : Int32) (y1 : Int32) (y2 : Int32) (y3 : Int32) (y4 : Int32) (y5 : t_S), Q (.inl (y0, y1, y2, y3, y4, y5)) → mj_G D cy ad bs X cX13_recordRow 9 yX13_recordRow.cls (some .int) yX13_recordRow.name 3 0 0 1065 (t_P (fun v s' => ∃ x, v = some (.int x) ∧ Q (.inr ((x, s'))))) 6 [(0, .ref 950), (1, .int (y0)), (2, .int (y1)), (3, .int (y2)), (4, .int (y3)), (5, .int (y4))] [] (t_m y5) 1065 0 0) (hk : t_hk (k_X13_recordRow_117 l1 l2 l3 l4 l5 s) Q) : mj_G D cy ad bs X cX13_recordRow 9 yX13_recordRow.cls (some .int) yX13_recordRow.name 3 0 0 1065 (t_P (fun v s' => ∃ x, v = some (.int x) ∧ Q (.inr ((x, s'))))) 117 [(0, .ref 950), (1, .int l1), (2, .int l2), (3, .int l3), (4, .int l4), (5, .int l5)] [] (t_m s) 1065 0 0 := by
  refine mj_iinc (k := 5) (v := (l5 + 1)) (lv2 := [(5, .int (l5 + 1)), (0, .ref 950), (1, .int l1), (2, .int l2), (3, .int l3), (4, .int l4)]) dX13_recordRow_117 rfl rfl (by decide) rfl ?_
  refine mj_goto 6 dX13_recordRow_120 (by decide) ?_
  refine mj_sublv [(0, .ref 950), (1, .int l1), (2, .int l2), (3, .int l3), (4, .int l4), (5, .int (l5 + 1))] [1, 2, 3, 4, 5, 0] rfl ?_
  exact t_somK hk (fun hf => Hb6 l1 l2 l3 l4 (l5 + 1) s hf)
noncomputable def k_X13_recordRow_105 (l1 : Int32) (l2 : Int32) (l3 : Int32) (l4 : Int32) (l5 : Int32) (l6 : Int32) (s : t_S) : Option ((Int32 × Int32 × Int32 × Int32 × Int32 × t_S) ⊕ (Int32 × t_S)) :=
 if t_ix l6 20 = true then
  t_let (t_setI s 1009 (l6.toNatClampNeg) l5) (fun s1 =>
 k_X13_recordRow_117 l1 l2 l3 (l4 + 1) l5 s1)
else none
set_option maxRecDepth 4000 in
set_option maxHeartbeats 1000000 in
theorem B_X13_recordRow_105 {D : va_G} {cy : Nat → ClassId} {ad : Nat → Nat} {bs : Nat} {X : State → Heap → Prop} (l1 : Int32) (l2 : Int32) (l3 : Int32) (l4 : Int32) (l5 : Int32) (l6 : Int32) (s : t_S) (Q : (Int32 × Int32 × Int32 × Int32 × Int32 × t_S) ⊕ (Int32 × t_S) → Prop) (Hb6 : ∀ (y0 : Int32) (y1 : Int32) (y2 : Int32) (y3 : Int32) (y4 : Int32) (y5 : t_S), Q (.inl (y0, y1, y2, y3, y4, y5)) → mj_G D cy ad bs X cX13_recordRow 9 yX13_recordRow.cls (some .int) yX13_recordRow.name 3 0 0 1065 (t_P (fun v s' => ∃ x, v = some (.int x) ∧ Q (.inr ((x, s'))))) 6 [(0, .ref 950), (1, .int (y0)), (2, .int (y1)), (3, .int (y2)), (4, .int (y3)), (5, .int (y4))] [] (t_m y5) 1065 0 0) (hk : t_hk (k_X13_recordRow_105 l1 l2 l3 l4 l5 l6 s) Q) : mj_G D cy ad bs X cX13_recordRow 9 yX13_recordRow.cls (some .int) yX13_recordRow.name 3 0 0 1065 (t_P (fun v s' => ∃ x, v = some (.int x) ∧ Q (.inr ((x, s'))))) 105 [(0, .ref 950), (1, .int l1), (2, .int l2), (3, .int l3), (4, .int l4), (5, .int l5), (6, .int l6)] [] (t_m s) 1065 0 0 := by
  refine mj_aload_n dX13_recordRow_105 0 rfl ?_
  refine t_getR 1009 dX13_recordRow_106 F_X13_191 qr_950_104 ?_
  refine mj_iload dX13_recordRow_109 6 rfl ?_
  refine mj_iload dX13_recordRow_111 5 rfl ?_
  refine t_chkK hk (fun c0 hk => ?_)
  refine t_iastK dX13_recordRow_113 qa_1009 (t_ixv c0) (fun s1 ws1 => t_letE hk ws1 (fun hk => ?_))
  refine mj_iinc (k := 4) (v := (l4 + 1)) (lv2 := [(4, .int (l4 + 1)), (0, .ref 950), (1, .int l1), (2, .int l2), (3, .int l3), (5, .int l5), (6, .int l6)]) dX13_recordRow_114 rfl rfl (by decide) rfl ?_
  refine mj_sublv [(0, .ref 950), (1, .int l1), (2, .int l2), (3, .int l3), (4, .int (l4 + 1)), (5, .int l5)] [1, 2, 3, 4, 0, 5] rfl ?_
  exact B_X13_recordRow_117 _ _ _ _ _ _ _ (fun y0 y1 y2 y3 y4 y5 hx => Hb6 y0 y1 y2 y3 y4 y5 hx) hk
noncomputable def k_X13_recordRow_53 (l1 : Int32) (l2 : Int32) (l3 : Int32) (l4 : Int32) (l5 : Int32) (l6 : Int32) (l7 : Int64) (s : t_S) : Option ((Int32 × Int32 × Int32 × Int32 × Int32 × Int32 × Int64 × t_S) ⊕ ((Int32 × Int32 × Int32 × Int32 × Int32 × t_S) ⊕ (Int32 × t_S))) :=
 if l6 ≤ (0 : Int32) then ((k_X13_recordRow_105 l1 l2 l3 l4 l5 l6 s).map Sum.inr)
 else (if t_ix (l6 - (1 : Int32)) 20 = true then
  (f_X13_part l1 (s.1 1009 ((l6 - (1 : Int32)).toNatClampNeg)) s).bind (fun r2 =>
 if t_ix r2 13000 = true then
  if (lg_cmp (s.2.1 957 (r2.toNatClampNeg)) l7) ≤ (0 : Int32) then ((k_X13_recordRow_105 l1 l2 l3 l4 l5 l6 s).map Sum.inr)
 else (if t_ix l6 20 = true then
  t_let (t_setI s 1009 (l6.toNatClampNeg) (s.1 1009 ((l6 - (1 : Int32)).toNatClampNeg))) (fun s1 =>
 some (.inl (l1, l2, l3, l4, l5, (l6 + (-1)), l7, s1)))
else none)
else none)
else none)
set_option maxRecDepth 4000 in
set_option maxHeartbeats 1000000 in
theorem B_X13_recordRow_53 {D : va_G} {cy : Nat → ClassId} {ad : Nat → Nat} {bs : Nat} {X : State → Heap → Prop} (l1 : Int32) (l2 : Int32) (l3 : Int32) (l4 : Int32) (l5 : Int32) (l6 : Int32) (l7 : Int64) (s : t_S) (Q : (Int32 × Int32 × Int32 × Int32 × Int32 × Int32 × Int64 × t_S) ⊕ ((Int32 × Int32 × Int32 × Int32 × Int32 × t_S) ⊕ (Int32 × t_S)) → Prop) (Hb6 : ∀ (y0 : Int32) (y1 : Int32) (y2 : Int32) (y3 : Int32) (y4 : Int32) (y5 : t_S), Q (.inr (.inl (y0, y1, y2, y3, y4, y5))) → mj_G D cy ad bs X cX13_recordRow 9 yX13_recordRow.cls (some .int) yX13_recordRow.name 3 0 0 1065 (t_P (fun v s' => ∃ x, v = some (.int x) ∧ Q (.inr (.inr ((x, s')))))) 6 [(0, .ref 950), (1, .int (y0)), (2, .int (y1)), (3, .int (y2)), (4, .int (y3)), (5, .int (y4))] [] (t_m y5) 1065 0 0) (Hb53 : ∀ (y0 : Int32) (y1 : Int32) (y2 : Int32) (y3 : Int32) (y4 : Int32) (y5 : Int32) (y6 : Int64) (y7 : t_S), Q (.inl (y0, y1, y2, y3, y4, y5, y6, y7)) → mj_G D cy ad bs X cX13_recordRow 9 yX13_recordRow.cls (some .int) yX13_recordRow.name 3 0 0 1065 (t_P (fun v s' => ∃ x, v = some (.int x) ∧ Q (.inr (.inr ((x, s')))))) 53 [(0, .ref 950), (1, .int (y0)), (2, .int (y1)), (3, .int (y2)), (4, .int (y3)), (5, .int (y4)), (6, .int (y5)), (7, .long (y6))] [] (t_m y7) 1065 0 0) (hk : t_hk (k_X13_recordRow_53 l1 l2 l3 l4 l5 l6 l7 s) Q) : mj_G D cy ad bs X cX13_recordRow 9 yX13_recordRow.cls (some .int) yX13_recordRow.name 3 0 0 1065 (t_P (fun v s' => ∃ x, v = some (.int x) ∧ Q (.inr (.inr ((x, s')))))) 53 [(0, .ref 950), (1, .int l1), (2, .int l2), (3, .int l3), (4, .int l4), (5, .int l5), (6, .int l6), (7, .long l7)] [] (t_m s) 1065 0 0 := by
  refine mj_iload dX13_recordRow_53 6 rfl ?_
  refine mj_if_le 105 dX13_recordRow_55 (by decide) (fun z => t_posK hk z (fun hk => ?_)) (fun z => t_negK hk z (fun hk => ?_))
  · refine mj_sublv [(0, .ref 950), (1, .int l1), (2, .int l2), (3, .int l3), (4, .int l4), (5, .int l5), (6, .int l6)] [0, 1, 2, 3, 4, 5, 6] rfl ?_
    refine t_mapK hk (fun hk => ?_)
    exact B_X13_recordRow_105 _ _ _ _ _ _ _ _ (fun y0 y1 y2 y3 y4 y5 hx => Hb6 y0 y1 y2 y3 y4 y5 hx) hk
  · refine mj_aload_n dX13_recordRow_58 0 rfl ?_
    refine t_getR 957 dX13_recordRow_59 F_X13_32 qr_950_19 ?_
    refine mj_aload_n dX13_recordRow_62 0 rfl ?_
    refine mj_iload_n dX13_recordRow_63 1 rfl ?_
    refine mj_aload_n dX13_recordRow_64 0 rfl ?_
    refine t_getR 1009 dX13_recordRow_65 F_X13_191 qr_950_104 ?_
    refine mj_iload dX13_recordRow_68 6 rfl ?_
    refine mj_iconst (v := 1) dX13_recordRow_70 (by decide) ?_
    refine mj_isub dX13_recordRow_71 ?_
    refine t_chkK hk (fun c0 hk => ?_)
    refine t_iald dX13_recordRow_72 qa_1009 (t_ixv c0) ?_
    refine t_bndK hk (fun r2 er2 hk => ?_)
    refine t_callViP dX13_recordRow_73 M_X13_part (C_X13_part _ _ _ _ er2) ML_X13_974 IM_X13_part SE_X13_part qc_950 rfl (As := [.int l1, .int (s.1 1009 ((l6 - (1 : Int32)).toNatClampNeg))]) rfl rfl (Nat.le_of_ble_eq_true rfl) (Nat.le_of_ble_eq_true rfl) (Nat.le_of_ble_eq_true rfl) (Nat.le_of_ble_eq_true rfl) ?_
    refine t_chkK hk (fun c2 hk => ?_)
    refine t_lald dX13_recordRow_76 qa_957 (t_ixv c2) ?_
    refine mj_lload dX13_recordRow_77 7 rfl ?_
    refine mj_lcmp dX13_recordRow_79 ?_
    refine mj_if_le 105 dX13_recordRow_80 (by decide) (fun z => t_posK hk z (fun hk => ?_)) (fun z => t_negK hk z (fun hk => ?_))
    · refine mj_sublv [(0, .ref 950), (1, .int l1), (2, .int l2), (3, .int l3), (4, .int l4), (5, .int l5), (6, .int l6)] [0, 1, 2, 3, 4, 5, 6] rfl ?_
      refine t_mapK hk (fun hk => ?_)
      exact B_X13_recordRow_105 _ _ _ _ _ _ _ _ (fun y0 y1 y2 y3 y4 y5 hx => Hb6 y0 y1 y2 y3 y4 y5 hx) hk
    · refine mj_aload_n dX13_recordRow_83 0 rfl ?_
      refine t_getR 1009 dX13_recordRow_84 F_X13_191 qr_950_104 ?_
      refine mj_iload dX13_recordRow_87 6 rfl ?_
      refine mj_aload_n dX13_recordRow_89 0 rfl ?_
      refine t_getR 1009 dX13_recordRow_90 F_X13_191 qr_950_104 ?_
      refine mj_iload dX13_recordRow_93 6 rfl ?_
      refine mj_iconst (v := 1) dX13_recordRow_95 (by decide) ?_
      refine mj_isub dX13_recordRow_96 ?_
      refine t_iald dX13_recordRow_97 qa_1009 (t_ixv c0) ?_
      refine t_chkK hk (fun c3 hk => ?_)
      refine t_iastK dX13_recordRow_98 qa_1009 (t_ixv c3) (fun s1 ws1 => t_letE hk ws1 (fun hk => ?_))
      refine mj_iinc (k := 6) (v := (l6 + (-1))) (lv2 := [(6, .int (l6 + (-1))), (0, .ref 950), (1, .int l1), (2, .int l2), (3, .int l3), (4, .int l4), (5, .int l5), (7, .long l7)]) dX13_recordRow_99 rfl rfl (by decide) rfl ?_
      refine mj_goto 53 dX13_recordRow_102 (by decide) ?_
      refine mj_sublv [(0, .ref 950), (1, .int l1), (2, .int l2), (3, .int l3), (4, .int l4), (5, .int l5), (6, .int (l6 + (-1))), (7, .long l7)] [1, 2, 3, 4, 5, 6, 0, 7] rfl ?_
      exact t_somK hk (fun hf => Hb53 l1 l2 l3 l4 l5 (l6 + (-1)) l7 s1 hf)
noncomputable def b_X13_recordRow_53 (x : Int32 × Int32 × Int32 × Int32 × Int32 × Int32 × Int64 × t_S) : Option ((Int32 × Int32 × Int32 × Int32 × Int32 × Int32 × Int64 × t_S) ⊕ ((Int32 × Int32 × Int32 × Int32 × Int32 × t_S) ⊕ (Int32 × t_S))) := k_X13_recordRow_53 x.1 x.2.1 x.2.2.1 x.2.2.2.1 x.2.2.2.2.1 x.2.2.2.2.2.1 x.2.2.2.2.2.2.1 x.2.2.2.2.2.2.2
set_option maxRecDepth 4000 in
set_option maxHeartbeats 1000000 in
theorem LH_X13_recordRow_53 {D : va_G} {cy : Nat → ClassId} {ad : Nat → Nat} {bs : Nat} {X : State → Heap → Prop} : ∀ (n : Nat) (y0 : Int32) (y1 : Int32) (y2 : Int32) (y3 : Int32) (y4 : Int32) (y5 : Int32) (y6 : Int64) (y7 : t_S) (Q : (Int32 × Int32 × Int32 × Int32 × Int32 × t_S) ⊕ (Int32 × t_S) → Prop) (Hb6 : ∀ (y0 : Int32) (y1 : Int32) (y2 : Int32) (y3 : Int32) (y4 : Int32) (y5 : t_S), Q (.inl (y0, y1, y2, y3, y4, y5)) → mj_G D cy ad bs X cX13_recordRow 9 yX13_recordRow.cls (some .int) yX13_recordRow.name 3 0 0 1065 (t_P (fun v s' => ∃ x, v = some (.int x) ∧ Q (.inr ((x, s'))))) 6 [(0, .ref 950), (1, .int (y0)), (2, .int (y1)), (3, .int (y2)), (4, .int (y3)), (5, .int (y4))] [] (t_m y5) 1065 0 0) (hk : t_hk (t_loop (b_X13_recordRow_53) n (y0, y1, y2, y3, y4, y5, y6, y7)) Q), mj_G D cy ad bs X cX13_recordRow 9 yX13_recordRow.cls (some .int) yX13_recordRow.name 3 0 0 1065 (t_P (fun v s' => ∃ x, v = some (.int x) ∧ Q (.inr ((x, s'))))) 53 [(0, .ref 950), (1, .int (y0)), (2, .int (y1)), (3, .int (y2)), (4, .int (y3)), (5, .int (y4)), (6, .int (y5)), (7, .long (y6))] [] (t_m y7) 1065 0 0 := by
  intro n
  induction n with
  | zero => intro y0 y1 y2 y3 y4 y5 y6 y7 Q Hb6 hk; obtain ⟨r, hr, _⟩ := hk; cases hr
  | succ n ih =>
    intro y0 y1 y2 y3 y4 y5 y6 y7 Q Hb6 hk
    exact B_X13_recordRow_53 y0 y1 y2 y3 y4 y5 y6 y7 (fun y => t_lq (b_X13_recordRow_53) n Q y) (fun y0' y1' y2' y3' y4' y5' hy => Hb6 y0' y1' y2' y3' y4' y5' hy) (fun y0' y1' y2' y3' y4' y5' y6' y7' hy => ih y0' y1' y2' y3' y4' y5' y6' y7' Q Hb6 hy) (t_lp hk)
noncomputable def k_X13_recordRow_150 (l1 : Int32) (l2 : Int32) (l4 : Int32) (l5 : Int32) (l6 : Int32) (s : t_S) : Option ((Int32 × Int32 × Int32 × Int32 × Int32 × t_S) ⊕ (Int32 × t_S)) :=
 if l4 ≤ l6 then ((some (l5, s)).map Sum.inr)
 else (if t_ix l6 20 = true then
  (f_X13_part l1 (s.1 1009 (l6.toNatClampNeg)) s).bind (fun r2 =>
 if t_ix r2 13000 = true then
  if t_ix ((2 : Int32) + l6) 8600 = true then
  t_let (t_setJ s 1007 (((2 : Int32) + l6).toNatClampNeg) (s.2.1 957 (r2.toNatClampNeg))) (fun s1 =>
 (f_X13_putMade l5 ((260 : Int32) * (((40 : Int32) + l2) + (s1.1 1009 (l6.toNatClampNeg)))) s1).bind (fun r5 =>
 some (.inl (l1, l2, l4, r5.1, (l6 + 1), r5.2))))
else none
else none)
else none)
set_option maxRecDepth 4000 in
set_option maxHeartbeats 1000000 in
theorem B_X13_recordRow_150 {D : va_G} {cy : Nat → ClassId} {ad : Nat → Nat} {bs : Nat} {X : State → Heap → Prop} (l1 : Int32) (l2 : Int32) (l4 : Int32) (l5 : Int32) (l6 : Int32) (s : t_S) (Q : (Int32 × Int32 × Int32 × Int32 × Int32 × t_S) ⊕ (Int32 × t_S) → Prop) (Hb150 : ∀ (y0 : Int32) (y1 : Int32) (y2 : Int32) (y3 : Int32) (y4 : Int32) (y5 : t_S), Q (.inl (y0, y1, y2, y3, y4, y5)) → mj_G D cy ad bs X cX13_recordRow 9 yX13_recordRow.cls (some .int) yX13_recordRow.name 3 0 0 1065 (t_P (fun v s' => ∃ x, v = some (.int x) ∧ Q (.inr ((x, s'))))) 150 [(0, .ref 950), (1, .int (y0)), (2, .int (y1)), (4, .int (y2)), (5, .int (y3)), (6, .int (y4))] [] (t_m y5) 1065 0 0) (hk : t_hk (k_X13_recordRow_150 l1 l2 l4 l5 l6 s) Q) : mj_G D cy ad bs X cX13_recordRow 9 yX13_recordRow.cls (some .int) yX13_recordRow.name 3 0 0 1065 (t_P (fun v s' => ∃ x, v = some (.int x) ∧ Q (.inr ((x, s'))))) 150 [(0, .ref 950), (1, .int l1), (2, .int l2), (4, .int l4), (5, .int l5), (6, .int l6)] [] (t_m s) 1065 0 0 := by
  refine mj_iload dX13_recordRow_150 5 rfl ?_
  refine mj_iload dX13_recordRow_152 3 rfl ?_
  refine mj_icmp_ge 213 dX13_recordRow_154 (by decide) (fun z => t_posK hk z (fun hk => ?_)) (fun z => t_negK hk z (fun hk => ?_))
  · refine t_mapK hk (fun hk => ?_)
    refine mj_iload dX13_recordRow_213 4 rfl ?_
    exact t_somK hk (fun hf => t_iret dX13_recordRow_215 rfl rfl ⟨_, rfl, hf⟩ (Nat.le_of_ble_eq_true rfl) (Nat.le_of_ble_eq_true rfl))
  · refine mj_aload_n dX13_recordRow_157 0 rfl ?_
    refine t_getR 1007 dX13_recordRow_158 F_X13_185 qr_950_99 ?_
    refine mj_iconst (v := 2) dX13_recordRow_161 (by decide) ?_
    refine mj_iload dX13_recordRow_162 5 rfl ?_
    refine mj_iadd dX13_recordRow_164 ?_
    refine mj_aload_n dX13_recordRow_165 0 rfl ?_
    refine t_getR 957 dX13_recordRow_166 F_X13_32 qr_950_19 ?_
    refine mj_aload_n dX13_recordRow_169 0 rfl ?_
    refine mj_iload_n dX13_recordRow_170 1 rfl ?_
    refine mj_aload_n dX13_recordRow_171 0 rfl ?_
    refine t_getR 1009 dX13_recordRow_172 F_X13_191 qr_950_104 ?_
    refine mj_iload dX13_recordRow_175 5 rfl ?_
    refine t_chkK hk (fun c0 hk => ?_)
    refine t_iald dX13_recordRow_177 qa_1009 (t_ixv c0) ?_
    refine t_bndK hk (fun r2 er2 hk => ?_)
    refine t_callViP dX13_recordRow_178 M_X13_part (C_X13_part _ _ _ _ er2) ML_X13_974 IM_X13_part SE_X13_part qc_950 rfl (As := [.int l1, .int (s.1 1009 (l6.toNatClampNeg))]) rfl rfl (Nat.le_of_ble_eq_true rfl) (Nat.le_of_ble_eq_true rfl) (Nat.le_of_ble_eq_true rfl) (Nat.le_of_ble_eq_true rfl) ?_
    refine t_chkK hk (fun c2 hk => ?_)
    refine t_lald dX13_recordRow_181 qa_957 (t_ixv c2) ?_
    refine t_chkK hk (fun c3 hk => ?_)
    refine t_lastK dX13_recordRow_182 qa_1007 (t_ixv c3) (fun s1 ws1 => t_letE hk ws1 (fun hk => ?_))
    refine mj_aload_n dX13_recordRow_183 0 rfl ?_
    refine mj_iload dX13_recordRow_184 4 rfl ?_
    refine mj_sipush (v := 260) dX13_recordRow_186 (by decide) ?_
    refine mj_bipush (v := 40) dX13_recordRow_189 (by decide) ?_
    refine mj_iload_n dX13_recordRow_191 2 rfl ?_
    refine mj_iadd dX13_recordRow_192 ?_
    refine mj_aload_n dX13_recordRow_193 0 rfl ?_
    refine t_getR 1009 dX13_recordRow_194 F_X13_191 qr_950_104 ?_
    refine mj_iload dX13_recordRow_197 5 rfl ?_
    refine t_iald dX13_recordRow_199 qa_1009 (t_ixv c0) ?_
    refine mj_iadd dX13_recordRow_200 ?_
    refine mj_imul dX13_recordRow_201 ?_
    refine t_bndK hk (fun r5 er5 hk => ?_)
    refine t_callViE dX13_recordRow_202 M_X13_putMade (C_X13_putMade _ _ _ _ er5) ML_X13_956 IM_X13_putMade SE_X13_putMade qc_950 rfl (As := [.int l5, .int ((260 : Int32) * (((40 : Int32) + l2) + (s1.1 1009 (l6.toNatClampNeg))))]) rfl rfl (Nat.le_of_ble_eq_true rfl) (Nat.le_of_ble_eq_true rfl) (Nat.le_of_ble_eq_true rfl) (Nat.le_of_ble_eq_true rfl) ?_
    refine mj_istore (lv2 := [(5, .int r5.1), (0, .ref 950), (1, .int l1), (2, .int l2), (4, .int l4), (6, .int l6)]) dX13_recordRow_205 (by decide) rfl ?_
    refine mj_iinc (k := 5) (v := (l6 + 1)) (lv2 := [(6, .int (l6 + 1)), (5, .int r5.1), (0, .ref 950), (1, .int l1), (2, .int l2), (4, .int l4)]) dX13_recordRow_207 rfl rfl (by decide) rfl ?_
    refine mj_goto 150 dX13_recordRow_210 (by decide) ?_
    refine mj_sublv [(0, .ref 950), (1, .int l1), (2, .int l2), (4, .int l4), (5, .int r5.1), (6, .int (l6 + 1))] [2, 3, 4, 5, 1, 0] rfl ?_
    exact t_somK hk (fun hf => Hb150 l1 l2 l4 r5.1 (l6 + 1) r5.2 hf)
noncomputable def b_X13_recordRow_150 (x : Int32 × Int32 × Int32 × Int32 × Int32 × t_S) : Option ((Int32 × Int32 × Int32 × Int32 × Int32 × t_S) ⊕ (Int32 × t_S)) := k_X13_recordRow_150 x.1 x.2.1 x.2.2.1 x.2.2.2.1 x.2.2.2.2.1 x.2.2.2.2.2
set_option maxRecDepth 4000 in
set_option maxHeartbeats 1000000 in
theorem LH_X13_recordRow_150 {D : va_G} {cy : Nat → ClassId} {ad : Nat → Nat} {bs : Nat} {X : State → Heap → Prop} : ∀ (n : Nat) (y0 : Int32) (y1 : Int32) (y2 : Int32) (y3 : Int32) (y4 : Int32) (y5 : t_S) (Q : Int32 × t_S → Prop) (hk : t_hk (t_loop (b_X13_recordRow_150) n (y0, y1, y2, y3, y4, y5)) Q), mj_G D cy ad bs X cX13_recordRow 9 yX13_recordRow.cls (some .int) yX13_recordRow.name 3 0 0 1065 (t_P (fun v s' => ∃ x, v = some (.int x) ∧ Q ((x, s')))) 150 [(0, .ref 950), (1, .int (y0)), (2, .int (y1)), (4, .int (y2)), (5, .int (y3)), (6, .int (y4))] [] (t_m y5) 1065 0 0 := by
  intro n
  induction n with
  | zero => intro y0 y1 y2 y3 y4 y5 Q hk; obtain ⟨r, hr, _⟩ := hk; cases hr
  | succ n ih =>
    intro y0 y1 y2 y3 y4 y5 Q hk
    exact B_X13_recordRow_150 y0 y1 y2 y3 y4 y5 (fun y => t_lq (b_X13_recordRow_150) n Q y) (fun y0' y1' y2' y3' y4' y5' hy => ih y0' y1' y2' y3' y4' y5' Q hy) (t_lp hk)
noncomputable def k_X13_recordRow_6 (l1 : Int32) (l2 : Int32) (l3 : Int32) (l4 : Int32) (l5 : Int32) (s : t_S) : Option ((Int32 × Int32 × Int32 × Int32 × Int32 × t_S) ⊕ (Int32 × t_S)) :=
 if l3 ≤ l5 then ((t_let (t_setJ s 1007 ((0 : Int32).toNatClampNeg) (6 : Int64)) (fun s1 =>
 t_let (t_setJ s1 1007 ((1 : Int32).toNatClampNeg) l4.toInt64) (fun s2 =>
 t_loop (b_X13_recordRow_150) t_N (l1, l2, l4, ((2 : Int32) + l4), 0, s2)))).map Sum.inr)
 else (if t_ix ((260 : Int32) * (((40 : Int32) + l2) + l5)) 626600 = true then
  if (lg_cmp (s.2.1 1006 (((260 : Int32) * (((40 : Int32) + l2) + l5)).toNatClampNeg)) (4 : Int64)) = (0 : Int32) then (k_X13_recordRow_117 l1 l2 l3 l4 l5 s)
 else ((f_X13_part l1 l5 s).bind (fun r2 =>
 if t_ix r2 13000 = true then
  t_loop (b_X13_recordRow_53) t_N (l1, l2, l3, l4, l5, l4, (s.2.1 957 (r2.toNatClampNeg)), s)
else none))
else none)
set_option maxRecDepth 4000 in
set_option maxHeartbeats 1000000 in
theorem B_X13_recordRow_6 {D : va_G} {cy : Nat → ClassId} {ad : Nat → Nat} {bs : Nat} {X : State → Heap → Prop} (l1 : Int32) (l2 : Int32) (l3 : Int32) (l4 : Int32) (l5 : Int32) (s : t_S) (Q : (Int32 × Int32 × Int32 × Int32 × Int32 × t_S) ⊕ (Int32 × t_S) → Prop) (Hb6 : ∀ (y0 : Int32) (y1 : Int32) (y2 : Int32) (y3 : Int32) (y4 : Int32) (y5 : t_S), Q (.inl (y0, y1, y2, y3, y4, y5)) → mj_G D cy ad bs X cX13_recordRow 9 yX13_recordRow.cls (some .int) yX13_recordRow.name 3 0 0 1065 (t_P (fun v s' => ∃ x, v = some (.int x) ∧ Q (.inr ((x, s'))))) 6 [(0, .ref 950), (1, .int (y0)), (2, .int (y1)), (3, .int (y2)), (4, .int (y3)), (5, .int (y4))] [] (t_m y5) 1065 0 0) (hk : t_hk (k_X13_recordRow_6 l1 l2 l3 l4 l5 s) Q) : mj_G D cy ad bs X cX13_recordRow 9 yX13_recordRow.cls (some .int) yX13_recordRow.name 3 0 0 1065 (t_P (fun v s' => ∃ x, v = some (.int x) ∧ Q (.inr ((x, s'))))) 6 [(0, .ref 950), (1, .int l1), (2, .int l2), (3, .int l3), (4, .int l4), (5, .int l5)] [] (t_m s) 1065 0 0 := by
  refine mj_iload dX13_recordRow_6 5 rfl ?_
  refine mj_iload_n dX13_recordRow_8 3 rfl ?_
  refine mj_icmp_ge 123 dX13_recordRow_9 (by decide) (fun z => t_posK hk z (fun hk => ?_)) (fun z => t_negK hk z (fun hk => ?_))
  · refine t_mapK hk (fun hk => ?_)
    refine mj_aload_n dX13_recordRow_123 0 rfl ?_
    refine t_getR 1007 dX13_recordRow_124 F_X13_185 qr_950_99 ?_
    refine mj_iconst (v := 0) dX13_recordRow_127 (by decide) ?_
    refine mj_ldc2 dX13_recordRow_128 K_X13_853 ?_
    refine t_lastK dX13_recordRow_131 qa_1007 (by unfold vp_in; decide) (fun s1 ws1 => t_letE hk ws1 (fun hk => ?_))
    refine mj_aload_n dX13_recordRow_132 0 rfl ?_
    refine t_getR 1007 dX13_recordRow_133 F_X13_185 qr_950_99 ?_
    refine mj_iconst (v := 1) dX13_recordRow_136 (by decide) ?_
    refine mj_iload dX13_recordRow_137 4 rfl ?_
    refine mj_i2l (v := l4.toInt64) dX13_recordRow_139 rfl ?_
    refine t_lastK dX13_recordRow_140 qa_1007 (by unfold vp_in; decide) (fun s2 ws2 => t_letE hk ws2 (fun hk => ?_))
    refine mj_iconst (v := 2) dX13_recordRow_141 (by decide) ?_
    refine mj_iload dX13_recordRow_142 4 rfl ?_
    refine mj_iadd dX13_recordRow_144 ?_
    refine mj_istore (lv2 := [(5, .int ((2 : Int32) + l4)), (0, .ref 950), (1, .int l1), (2, .int l2), (3, .int l3), (4, .int l4)]) dX13_recordRow_145 (by decide) rfl ?_
    refine mj_iconst (v := 0) dX13_recordRow_147 (by decide) ?_
    refine mj_istore (lv2 := [(6, .int 0), (5, .int ((2 : Int32) + l4)), (0, .ref 950), (1, .int l1), (2, .int l2), (3, .int l3), (4, .int l4)]) dX13_recordRow_148 (by decide) rfl ?_
    refine mj_sublv [(0, .ref 950), (1, .int l1), (2, .int l2), (4, .int l4), (5, .int ((2 : Int32) + l4)), (6, .int 0)] [2, 3, 4, 6, 1, 0] rfl ?_
    exact LH_X13_recordRow_150 _ l1 l2 l4 ((2 : Int32) + l4) 0 s2 _ hk
  · refine mj_aload_n dX13_recordRow_12 0 rfl ?_
    refine t_getR 1006 dX13_recordRow_13 F_X13_182 qr_950_95 ?_
    refine mj_sipush (v := 260) dX13_recordRow_16 (by decide) ?_
    refine mj_bipush (v := 40) dX13_recordRow_19 (by decide) ?_
    refine mj_iload_n dX13_recordRow_21 2 rfl ?_
    refine mj_iadd dX13_recordRow_22 ?_
    refine mj_iload dX13_recordRow_23 5 rfl ?_
    refine mj_iadd dX13_recordRow_25 ?_
    refine mj_imul dX13_recordRow_26 ?_
    refine t_chkK hk (fun c0 hk => ?_)
    refine t_lald dX13_recordRow_27 qa_1006 (t_ixv c0) ?_
    refine mj_ldc2 dX13_recordRow_28 K_X13_969 ?_
    refine mj_lcmp dX13_recordRow_31 ?_
    refine mj_if_eq 117 dX13_recordRow_32 (by decide) (fun z => t_posK hk z (fun hk => ?_)) (fun z => t_negK hk z (fun hk => ?_))
    · exact B_X13_recordRow_117 _ _ _ _ _ _ _ (fun y0 y1 y2 y3 y4 y5 hx => Hb6 y0 y1 y2 y3 y4 y5 hx) hk
    · refine mj_iload dX13_recordRow_35 4 rfl ?_
      refine mj_istore (lv2 := [(6, .int l4), (0, .ref 950), (1, .int l1), (2, .int l2), (3, .int l3), (4, .int l4), (5, .int l5)]) dX13_recordRow_37 (by decide) rfl ?_
      refine mj_aload_n dX13_recordRow_39 1 rfl ?_
      refine t_getR 957 dX13_recordRow_40 F_X13_32 qr_950_19 ?_
      refine mj_aload_n dX13_recordRow_43 1 rfl ?_
      refine mj_iload_n dX13_recordRow_44 2 rfl ?_
      refine mj_iload dX13_recordRow_45 6 rfl ?_
      refine t_bndK hk (fun r2 er2 hk => ?_)
      refine t_callViP dX13_recordRow_47 M_X13_part (C_X13_part _ _ _ _ er2) ML_X13_974 IM_X13_part SE_X13_part qc_950 rfl (As := [.int l1, .int l5]) rfl rfl (Nat.le_of_ble_eq_true rfl) (Nat.le_of_ble_eq_true rfl) (Nat.le_of_ble_eq_true rfl) (Nat.le_of_ble_eq_true rfl) ?_
      refine t_chkK hk (fun c2 hk => ?_)
      refine t_lald dX13_recordRow_50 qa_957 (t_ixv c2) ?_
      refine mj_lstore (lv2 := [(7, .long (s.2.1 957 (r2.toNatClampNeg))), (6, .int l4), (0, .ref 950), (1, .int l1), (2, .int l2), (3, .int l3), (4, .int l4), (5, .int l5)]) dX13_recordRow_51 (by decide) rfl ?_
      refine mj_sublv [(0, .ref 950), (1, .int l1), (2, .int l2), (3, .int l3), (4, .int l4), (5, .int l5), (6, .int l4), (7, .long (s.2.1 957 (r2.toNatClampNeg)))] [2, 3, 4, 5, 6, 7, 1, 0] rfl ?_
      exact LH_X13_recordRow_53 _ l1 l2 l3 l4 l5 l4 (s.2.1 957 (r2.toNatClampNeg)) s _ (fun y0 y1 y2 y3 y4 y5 hx => Hb6 y0 y1 y2 y3 y4 y5 hx) hk
noncomputable def b_X13_recordRow_6 (x : Int32 × Int32 × Int32 × Int32 × Int32 × t_S) : Option ((Int32 × Int32 × Int32 × Int32 × Int32 × t_S) ⊕ (Int32 × t_S)) := k_X13_recordRow_6 x.1 x.2.1 x.2.2.1 x.2.2.2.1 x.2.2.2.2.1 x.2.2.2.2.2
set_option maxRecDepth 4000 in
set_option maxHeartbeats 1000000 in
theorem LH_X13_recordRow_6 {D : va_G} {cy : Nat → ClassId} {ad : Nat → Nat} {bs : Nat} {X : State → Heap → Prop} : ∀ (n : Nat) (y0 : Int32) (y1 : Int32) (y2 : Int32) (y3 : Int32) (y4 : Int32) (y5 : t_S) (Q : Int32 × t_S → Prop) (hk : t_hk (t_loop (b_X13_recordRow_6) n (y0, y1, y2, y3, y4, y5)) Q), mj_G D cy ad bs X cX13_recordRow 9 yX13_recordRow.cls (some .int) yX13_recordRow.name 3 0 0 1065 (t_P (fun v s' => ∃ x, v = some (.int x) ∧ Q ((x, s')))) 6 [(0, .ref 950), (1, .int (y0)), (2, .int (y1)), (3, .int (y2)), (4, .int (y3)), (5, .int (y4))] [] (t_m y5) 1065 0 0 := by
  intro n
  induction n with
  | zero => intro y0 y1 y2 y3 y4 y5 Q hk; obtain ⟨r, hr, _⟩ := hk; cases hr
  | succ n ih =>
    intro y0 y1 y2 y3 y4 y5 Q hk
    exact B_X13_recordRow_6 y0 y1 y2 y3 y4 y5 (fun y => t_lq (b_X13_recordRow_6) n Q y) (fun y0' y1' y2' y3' y4' y5' hy => ih y0' y1' y2' y3' y4' y5' Q hy) (t_lp hk)
noncomputable def f_X13_recordRow (x1 : Int32) (x2 : Int32) (x3 : Int32) (s : t_S) : Option (Int32 × t_S) :=
 t_loop (b_X13_recordRow_6) t_N (x1, x2, x3, 0, 0, s)
set_option maxRecDepth 4000 in
set_option maxHeartbeats 1000000 in
theorem C_X13_recordRow (x1 : Int32) (x2 : Int32) (x3 : Int32) (s : t_S) (r : Int32 × t_S) (hr : f_X13_recordRow x1 x2 x3 s = some r) : t_C yX13_recordRow cX13_recordRow 9 (some .int) 3 [.ref 950, .int x1, .int x2, .int x3] s (fun v s' => v = some (.int r.1) ∧ s' = r.2) := by
  refine t_C.imp (P := fun v s' => ∃ x, v = some (.int x) ∧ (fun q => q = r) ((x, s'))) (t_C.of (by decide +kernel) (Nat.le_of_ble_eq_true rfl) ?_) (fun v s' hp => by obtain ⟨x, rfl, rfl⟩ := hp; exact ⟨rfl, rfl⟩)
  intro D cy ad bs X
  have hk : t_hk (f_X13_recordRow x1 x2 x3 s) (fun q => q = r) := ⟨r, hr, rfl⟩
  show mj_G D cy ad bs X cX13_recordRow 9 yX13_recordRow.cls (some .int) yX13_recordRow.name 3 0 0 1065 (t_P (fun v s' => ∃ x, v = some (.int x) ∧ (fun q => q = r) ((x, s')))) 0 [(0, .ref 950), (1, .int x1), (2, .int x2), (3, .int x3)] [] (t_m s) 1065 0 0
  refine mj_iconst (v := 0) dX13_recordRow_0 (by decide) ?_
  refine mj_istore (lv2 := [(4, .int 0), (0, .ref 950), (1, .int x1), (2, .int x2), (3, .int x3)]) dX13_recordRow_1 (by decide) rfl ?_
  refine mj_iconst (v := 0) dX13_recordRow_3 (by decide) ?_
  refine mj_istore (lv2 := [(5, .int 0), (4, .int 0), (0, .ref 950), (1, .int x1), (2, .int x2), (3, .int x3)]) dX13_recordRow_4 (by decide) rfl ?_
  refine mj_sublv [(0, .ref 950), (1, .int x1), (2, .int x2), (3, .int x3), (4, .int 0), (5, .int 0)] [2, 3, 4, 5, 1, 0] rfl ?_
  exact LH_X13_recordRow_6 _ x1 x2 x3 0 0 s _ hk

theorem dX13_isPattern_0 : decode cX13_isPattern 0 = .ok (.aload_n 0, 1) := by decide +kernel
theorem dX13_isPattern_1 : decode cX13_isPattern 1 = .ok (.getfield 182, 3) := by decide +kernel
theorem dX13_isPattern_10 : decode cX13_isPattern 10 = .ok (.aload_n 0, 1) := by decide +kernel
theorem dX13_isPattern_100 : decode cX13_isPattern 100 = .ok (.iload 9, 2) := by decide +kernel
theorem dX13_isPattern_102 : decode cX13_isPattern 102 = .ok (.aload_n 0, 1) := by decide +kernel
theorem dX13_isPattern_103 : decode cX13_isPattern 103 = .ok (.iload_n 2, 1) := by decide +kernel
theorem dX13_isPattern_104 : decode cX13_isPattern 104 = .ok (.iload 5, 2) := by decide +kernel
theorem dX13_isPattern_106 : decode cX13_isPattern 106 = .ok (.invokevirtual 996, 3) := by decide +kernel
theorem dX13_isPattern_109 : decode cX13_isPattern 109 = .ok (.if_icmp .ne 12, 3) := by decide +kernel
theorem dX13_isPattern_11 : decode cX13_isPattern 11 = .ok (.getfield 36, 3) := by decide +kernel
theorem dX13_isPattern_112 : decode cX13_isPattern 112 = .ok (.iinc 5 1, 3) := by decide +kernel
theorem dX13_isPattern_115 : decode cX13_isPattern 115 = .ok (.iinc 6 1, 3) := by decide +kernel
theorem dX13_isPattern_118 : decode cX13_isPattern 118 = .ok (.goto 26, 3) := by decide +kernel
theorem dX13_isPattern_121 : decode cX13_isPattern 121 = .ok (.iload 7, 2) := by decide +kernel
theorem dX13_isPattern_123 : decode cX13_isPattern 123 = .ok (.ifCond .lt 19, 3) := by decide +kernel
theorem dX13_isPattern_126 : decode cX13_isPattern 126 = .ok (.iinc 8 1, 3) := by decide +kernel
theorem dX13_isPattern_129 : decode cX13_isPattern 129 = .ok (.iload 8, 2) := by decide +kernel
theorem dX13_isPattern_131 : decode cX13_isPattern 131 = .ok (.istore 5, 2) := by decide +kernel
theorem dX13_isPattern_133 : decode cX13_isPattern 133 = .ok (.iload 7, 2) := by decide +kernel
theorem dX13_isPattern_135 : decode cX13_isPattern 135 = .ok (.iconst 1, 1) := by decide +kernel
theorem dX13_isPattern_136 : decode cX13_isPattern 136 = .ok (.iadd, 1) := by decide +kernel
theorem dX13_isPattern_137 : decode cX13_isPattern 137 = .ok (.istore 6, 2) := by decide +kernel
theorem dX13_isPattern_139 : decode cX13_isPattern 139 = .ok (.goto 5, 3) := by decide +kernel
theorem dX13_isPattern_14 : decode cX13_isPattern 14 = .ok (.iload_n 1, 1) := by decide +kernel
theorem dX13_isPattern_142 : decode cX13_isPattern 142 = .ok (.iconst 0, 1) := by decide +kernel
theorem dX13_isPattern_143 : decode cX13_isPattern 143 = .ok (.ireturn, 1) := by decide +kernel
theorem dX13_isPattern_144 : decode cX13_isPattern 144 = .ok (.goto (-113), 3) := by decide +kernel
theorem dX13_isPattern_147 : decode cX13_isPattern 147 = .ok (.iload 6, 2) := by decide +kernel
theorem dX13_isPattern_149 : decode cX13_isPattern 149 = .ok (.iload 4, 2) := by decide +kernel
theorem dX13_isPattern_15 : decode cX13_isPattern 15 = .ok (.laload, 1) := by decide +kernel
theorem dX13_isPattern_151 : decode cX13_isPattern 151 = .ok (.if_icmp .ge 29, 3) := by decide +kernel
theorem dX13_isPattern_154 : decode cX13_isPattern 154 = .ok (.aload_n 0, 1) := by decide +kernel
theorem dX13_isPattern_155 : decode cX13_isPattern 155 = .ok (.getfield 51, 3) := by decide +kernel
theorem dX13_isPattern_158 : decode cX13_isPattern 158 = .ok (.aload_n 0, 1) := by decide +kernel
theorem dX13_isPattern_159 : decode cX13_isPattern 159 = .ok (.getfield 32, 3) := by decide +kernel
theorem dX13_isPattern_16 : decode cX13_isPattern 16 = .ok (.l2i, 1) := by decide +kernel
theorem dX13_isPattern_162 : decode cX13_isPattern 162 = .ok (.iload_n 1, 1) := by decide +kernel
theorem dX13_isPattern_163 : decode cX13_isPattern 163 = .ok (.laload, 1) := by decide +kernel
theorem dX13_isPattern_164 : decode cX13_isPattern 164 = .ok (.l2i, 1) := by decide +kernel
theorem dX13_isPattern_165 : decode cX13_isPattern 165 = .ok (.iload 6, 2) := by decide +kernel
theorem dX13_isPattern_167 : decode cX13_isPattern 167 = .ok (.iadd, 1) := by decide +kernel
theorem dX13_isPattern_168 : decode cX13_isPattern 168 = .ok (.iaload, 1) := by decide +kernel
theorem dX13_isPattern_169 : decode cX13_isPattern 169 = .ok (.bipush 42, 2) := by decide +kernel
theorem dX13_isPattern_17 : decode cX13_isPattern 17 = .ok (.istore 4, 2) := by decide +kernel
theorem dX13_isPattern_171 : decode cX13_isPattern 171 = .ok (.if_icmp .ne 9, 3) := by decide +kernel
theorem dX13_isPattern_174 : decode cX13_isPattern 174 = .ok (.iinc 6 1, 3) := by decide +kernel
theorem dX13_isPattern_177 : decode cX13_isPattern 177 = .ok (.goto (-30), 3) := by decide +kernel
theorem dX13_isPattern_180 : decode cX13_isPattern 180 = .ok (.iload 6, 2) := by decide +kernel
theorem dX13_isPattern_182 : decode cX13_isPattern 182 = .ok (.iload 4, 2) := by decide +kernel
theorem dX13_isPattern_184 : decode cX13_isPattern 184 = .ok (.if_icmp .ne 7, 3) := by decide +kernel
theorem dX13_isPattern_187 : decode cX13_isPattern 187 = .ok (.iconst 1, 1) := by decide +kernel
theorem dX13_isPattern_188 : decode cX13_isPattern 188 = .ok (.goto 4, 3) := by decide +kernel
theorem dX13_isPattern_19 : decode cX13_isPattern 19 = .ok (.iconst 0, 1) := by decide +kernel
theorem dX13_isPattern_191 : decode cX13_isPattern 191 = .ok (.iconst 0, 1) := by decide +kernel
theorem dX13_isPattern_192 : decode cX13_isPattern 192 = .ok (.ireturn, 1) := by decide +kernel
theorem dX13_isPattern_20 : decode cX13_isPattern 20 = .ok (.istore 5, 2) := by decide +kernel
theorem dX13_isPattern_22 : decode cX13_isPattern 22 = .ok (.iconst 0, 1) := by decide +kernel
theorem dX13_isPattern_23 : decode cX13_isPattern 23 = .ok (.istore 6, 2) := by decide +kernel
theorem dX13_isPattern_25 : decode cX13_isPattern 25 = .ok (.iconst (-1), 1) := by decide +kernel
theorem dX13_isPattern_26 : decode cX13_isPattern 26 = .ok (.istore 7, 2) := by decide +kernel
theorem dX13_isPattern_28 : decode cX13_isPattern 28 = .ok (.iconst 0, 1) := by decide +kernel
theorem dX13_isPattern_29 : decode cX13_isPattern 29 = .ok (.istore 8, 2) := by decide +kernel
theorem dX13_isPattern_31 : decode cX13_isPattern 31 = .ok (.iload 5, 2) := by decide +kernel
theorem dX13_isPattern_33 : decode cX13_isPattern 33 = .ok (.iload_n 3, 1) := by decide +kernel
theorem dX13_isPattern_34 : decode cX13_isPattern 34 = .ok (.if_icmp .ge 113, 3) := by decide +kernel
theorem dX13_isPattern_37 : decode cX13_isPattern 37 = .ok (.iload 6, 2) := by decide +kernel
theorem dX13_isPattern_39 : decode cX13_isPattern 39 = .ok (.iload 4, 2) := by decide +kernel
theorem dX13_isPattern_4 : decode cX13_isPattern 4 = .ok (.iload_n 2, 1) := by decide +kernel
theorem dX13_isPattern_41 : decode cX13_isPattern 41 = .ok (.if_icmp .ge 21, 3) := by decide +kernel
theorem dX13_isPattern_44 : decode cX13_isPattern 44 = .ok (.aload_n 0, 1) := by decide +kernel
theorem dX13_isPattern_45 : decode cX13_isPattern 45 = .ok (.getfield 51, 3) := by decide +kernel
theorem dX13_isPattern_48 : decode cX13_isPattern 48 = .ok (.aload_n 0, 1) := by decide +kernel
theorem dX13_isPattern_49 : decode cX13_isPattern 49 = .ok (.getfield 32, 3) := by decide +kernel
theorem dX13_isPattern_5 : decode cX13_isPattern 5 = .ok (.iconst 1, 1) := by decide +kernel
theorem dX13_isPattern_52 : decode cX13_isPattern 52 = .ok (.iload_n 1, 1) := by decide +kernel
theorem dX13_isPattern_53 : decode cX13_isPattern 53 = .ok (.laload, 1) := by decide +kernel
theorem dX13_isPattern_54 : decode cX13_isPattern 54 = .ok (.l2i, 1) := by decide +kernel
theorem dX13_isPattern_55 : decode cX13_isPattern 55 = .ok (.iload 6, 2) := by decide +kernel
theorem dX13_isPattern_57 : decode cX13_isPattern 57 = .ok (.iadd, 1) := by decide +kernel
theorem dX13_isPattern_58 : decode cX13_isPattern 58 = .ok (.iaload, 1) := by decide +kernel
theorem dX13_isPattern_59 : decode cX13_isPattern 59 = .ok (.goto 4, 3) := by decide +kernel
theorem dX13_isPattern_6 : decode cX13_isPattern 6 = .ok (.iadd, 1) := by decide +kernel
theorem dX13_isPattern_62 : decode cX13_isPattern 62 = .ok (.iconst (-1), 1) := by decide +kernel
theorem dX13_isPattern_63 : decode cX13_isPattern 63 = .ok (.istore 9, 2) := by decide +kernel
theorem dX13_isPattern_65 : decode cX13_isPattern 65 = .ok (.iload 9, 2) := by decide +kernel
theorem dX13_isPattern_67 : decode cX13_isPattern 67 = .ok (.bipush 42, 2) := by decide +kernel
theorem dX13_isPattern_69 : decode cX13_isPattern 69 = .ok (.if_icmp .ne 17, 3) := by decide +kernel
theorem dX13_isPattern_7 : decode cX13_isPattern 7 = .ok (.laload, 1) := by decide +kernel
theorem dX13_isPattern_72 : decode cX13_isPattern 72 = .ok (.iload 6, 2) := by decide +kernel
theorem dX13_isPattern_74 : decode cX13_isPattern 74 = .ok (.istore 7, 2) := by decide +kernel
theorem dX13_isPattern_76 : decode cX13_isPattern 76 = .ok (.iload 5, 2) := by decide +kernel
theorem dX13_isPattern_78 : decode cX13_isPattern 78 = .ok (.istore 8, 2) := by decide +kernel
theorem dX13_isPattern_8 : decode cX13_isPattern 8 = .ok (.l2i, 1) := by decide +kernel
theorem dX13_isPattern_80 : decode cX13_isPattern 80 = .ok (.iinc 6 1, 3) := by decide +kernel
theorem dX13_isPattern_83 : decode cX13_isPattern 83 = .ok (.goto 61, 3) := by decide +kernel
theorem dX13_isPattern_86 : decode cX13_isPattern 86 = .ok (.iload 6, 2) := by decide +kernel
theorem dX13_isPattern_88 : decode cX13_isPattern 88 = .ok (.iload 4, 2) := by decide +kernel
theorem dX13_isPattern_9 : decode cX13_isPattern 9 = .ok (.istore_n 3, 1) := by decide +kernel
theorem dX13_isPattern_90 : decode cX13_isPattern 90 = .ok (.if_icmp .ge 31, 3) := by decide +kernel
theorem dX13_isPattern_93 : decode cX13_isPattern 93 = .ok (.iload 9, 2) := by decide +kernel
theorem dX13_isPattern_95 : decode cX13_isPattern 95 = .ok (.bipush 63, 2) := by decide +kernel
theorem dX13_isPattern_97 : decode cX13_isPattern 97 = .ok (.if_icmp .eq 15, 3) := by decide +kernel
noncomputable def k_X13_isPattern_180 (l4 : Int32) (l6 : Int32) (s : t_S) : Option (Int32) :=
 if l6 = l4 then (some (1 : Int32))
 else (some (0 : Int32))
set_option maxRecDepth 4000 in
set_option maxHeartbeats 1000000 in
theorem B_X13_isPattern_180 {D : va_G} {cy : Nat → ClassId} {ad : Nat → Nat} {bs : Nat} {X : State → Heap → Prop} (l4 : Int32) (l6 : Int32) (s : t_S) (Q : Int32 → Prop) (hk : t_hk (k_X13_isPattern_180 l4 l6 s) Q) : mj_G D cy ad bs X cX13_isPattern 10 yX13_isPattern.cls (some .boolean) yX13_isPattern.name 1 0 0 1065 (t_P (fun v s' => s' = s ∧ ∃ x, v = some (.int x) ∧ Q (x))) 180 [(4, .int l4), (6, .int l6)] [] (t_m s) 1065 0 0 := by
  refine mj_iload dX13_isPattern_180 1 rfl ?_
  refine mj_iload dX13_isPattern_182 0 rfl ?_
  refine mj_icmp_ne 191 dX13_isPattern_184 (by decide) (fun z => t_negK hk z (fun hk => ?_)) (fun z => t_posK hk z (fun hk => ?_))
  · refine mj_iconst (v := 0) dX13_isPattern_191 (by decide) ?_
    exact t_somK hk (fun hf => t_iret dX13_isPattern_192 rfl (by decide) ⟨rfl, _, rfl, hf⟩ (Nat.le_of_ble_eq_true rfl) (Nat.le_of_ble_eq_true rfl))
  · refine mj_iconst (v := 1) dX13_isPattern_187 (by decide) ?_
    refine mj_goto 192 dX13_isPattern_188 (by decide) ?_
    exact t_somK hk (fun hf => t_iret dX13_isPattern_192 rfl (by decide) ⟨rfl, _, rfl, hf⟩ (Nat.le_of_ble_eq_true rfl) (Nat.le_of_ble_eq_true rfl))
noncomputable def k_X13_isPattern_147 (l1 : Int32) (l4 : Int32) (l6 : Int32) (s : t_S) : Option ((Int32 × Int32 × Int32) ⊕ (Int32)) :=
 if l4 ≤ l6 then ((k_X13_isPattern_180 l4 l6 s).map Sum.inr)
 else (if t_ix l1 13000 = true then
  if t_ix (((s.2.1 957 (l1.toNatClampNeg)).toInt32) + l6) 24300 = true then
  if (s.1 963 ((((s.2.1 957 (l1.toNatClampNeg)).toInt32) + l6).toNatClampNeg)) = (42 : Int32) then (some (.inl (l1, l4, (l6 + 1))))
 else ((k_X13_isPattern_180 l4 l6 s).map Sum.inr)
else none
else none)
set_option maxRecDepth 4000 in
set_option maxHeartbeats 1000000 in
theorem B_X13_isPattern_147 {D : va_G} {cy : Nat → ClassId} {ad : Nat → Nat} {bs : Nat} {X : State → Heap → Prop} (l1 : Int32) (l4 : Int32) (l6 : Int32) (s : t_S) (Q : (Int32 × Int32 × Int32) ⊕ (Int32) → Prop) (Hb147 : ∀ (y0 : Int32) (y1 : Int32) (y2 : Int32), Q (.inl (y0, y1, y2)) → mj_G D cy ad bs X cX13_isPattern 10 yX13_isPattern.cls (some .boolean) yX13_isPattern.name 1 0 0 1065 (t_P (fun v s' => s' = s ∧ ∃ x, v = some (.int x) ∧ Q (.inr (x)))) 147 [(0, .ref 950), (1, .int (y0)), (4, .int (y1)), (6, .int (y2))] [] (t_m s) 1065 0 0) (hk : t_hk (k_X13_isPattern_147 l1 l4 l6 s) Q) : mj_G D cy ad bs X cX13_isPattern 10 yX13_isPattern.cls (some .boolean) yX13_isPattern.name 1 0 0 1065 (t_P (fun v s' => s' = s ∧ ∃ x, v = some (.int x) ∧ Q (.inr (x)))) 147 [(0, .ref 950), (1, .int l1), (4, .int l4), (6, .int l6)] [] (t_m s) 1065 0 0 := by
  refine mj_iload dX13_isPattern_147 3 rfl ?_
  refine mj_iload dX13_isPattern_149 2 rfl ?_
  refine mj_icmp_ge 180 dX13_isPattern_151 (by decide) (fun z => t_posK hk z (fun hk => ?_)) (fun z => t_negK hk z (fun hk => ?_))
  · refine mj_sublv [(4, .int l4), (6, .int l6)] [2, 3] rfl ?_
    refine t_mapK hk (fun hk => ?_)
    exact B_X13_isPattern_180 _ _ _ _ hk
  · refine mj_aload_n dX13_isPattern_154 0 rfl ?_
    refine t_getR 963 dX13_isPattern_155 F_X13_51 qr_950_35 ?_
    refine mj_aload_n dX13_isPattern_158 0 rfl ?_
    refine t_getR 957 dX13_isPattern_159 F_X13_32 qr_950_19 ?_
    refine mj_iload_n dX13_isPattern_162 1 rfl ?_
    refine t_chkK hk (fun c0 hk => ?_)
    refine t_lald dX13_isPattern_163 qa_957 (t_ixv c0) ?_
    refine mj_l2i (v := (s.2.1 957 (l1.toNatClampNeg)).toInt32) dX13_isPattern_164 rfl ?_
    refine mj_iload dX13_isPattern_165 3 rfl ?_
    refine mj_iadd dX13_isPattern_167 ?_
    refine t_chkK hk (fun c1 hk => ?_)
    refine t_iald dX13_isPattern_168 qa_963 (t_ixv c1) ?_
    refine mj_bipush (v := 42) dX13_isPattern_169 (by decide) ?_
    refine mj_icmp_ne 180 dX13_isPattern_171 (by decide) (fun z => t_negK hk z (fun hk => ?_)) (fun z => t_posK hk z (fun hk => ?_))
    · refine mj_sublv [(4, .int l4), (6, .int l6)] [2, 3] rfl ?_
      refine t_mapK hk (fun hk => ?_)
      exact B_X13_isPattern_180 _ _ _ _ hk
    · refine mj_iinc (k := 3) (v := (l6 + 1)) (lv2 := [(6, .int (l6 + 1)), (0, .ref 950), (1, .int l1), (4, .int l4)]) dX13_isPattern_174 rfl rfl (by decide) rfl ?_
      refine mj_goto 147 dX13_isPattern_177 (by decide) ?_
      refine mj_sublv [(0, .ref 950), (1, .int l1), (4, .int l4), (6, .int (l6 + 1))] [1, 2, 3, 0] rfl ?_
      exact t_somK hk (fun hf => Hb147 l1 l4 (l6 + 1) hf)
noncomputable def b_X13_isPattern_147 (s : t_S) (x : Int32 × Int32 × Int32) : Option ((Int32 × Int32 × Int32) ⊕ (Int32)) := k_X13_isPattern_147 x.1 x.2.1 x.2.2 s
set_option maxRecDepth 4000 in
set_option maxHeartbeats 1000000 in
theorem LH_X13_isPattern_147 {D : va_G} {cy : Nat → ClassId} {ad : Nat → Nat} {bs : Nat} {X : State → Heap → Prop} (s : t_S) : ∀ (n : Nat) (y0 : Int32) (y1 : Int32) (y2 : Int32) (Q : Int32 → Prop) (hk : t_hk (t_loop (b_X13_isPattern_147 s) n (y0, y1, y2)) Q), mj_G D cy ad bs X cX13_isPattern 10 yX13_isPattern.cls (some .boolean) yX13_isPattern.name 1 0 0 1065 (t_P (fun v s' => s' = s ∧ ∃ x, v = some (.int x) ∧ Q (x))) 147 [(0, .ref 950), (1, .int (y0)), (4, .int (y1)), (6, .int (y2))] [] (t_m s) 1065 0 0 := by
  intro n
  induction n with
  | zero => intro y0 y1 y2 Q hk; obtain ⟨r, hr, _⟩ := hk; cases hr
  | succ n ih =>
    intro y0 y1 y2 Q hk
    exact B_X13_isPattern_147 y0 y1 y2 s (fun y => t_lq (b_X13_isPattern_147 s) n Q y) (fun y0' y1' y2' hy => ih y0' y1' y2' Q hy) (t_lp hk)
noncomputable def k_X13_isPattern_112 (l1 : Int32) (l2 : Int32) (l3 : Int32) (l4 : Int32) (l5 : Int32) (l6 : Int32) (l7 : Int32) (l8 : Int32) (s : t_S) : Option ((Int32 × Int32 × Int32 × Int32 × Int32 × Int32 × Int32 × Int32) ⊕ (Int32)) :=
 some (.inl (l1, l2, l3, l4, (l5 + 1), (l6 + 1), l7, l8))
set_option maxRecDepth 4000 in
set_option maxHeartbeats 1000000 in
theorem B_X13_isPattern_112 {D : va_G} {cy : Nat → ClassId} {ad : Nat → Nat} {bs : Nat} {X : State → Heap → Prop} (l1 : Int32) (l2 : Int32) (l3 : Int32) (l4 : Int32) (l5 : Int32) (l6 : Int32) (l7 : Int32) (l8 : Int32) (s : t_S) (Q : (Int32 × Int32 × Int32 × Int32 × Int32 × Int32 × Int32 × Int32) ⊕ (Int32) → Prop) (Hb31 : ∀ (y0 : Int32) (y1 : Int32) (y2 : Int32) (y3 : Int32) (y4 : Int32) (y5 : Int32) (y6 : Int32) (y7 : Int32), Q (.inl (y0, y1, y2, y3, y4, y5, y6, y7)) → mj_G D cy ad bs X cX13_isPattern 10 yX13_isPattern.cls (some .boolean) yX13_isPattern.name 1 0 0 1065 (t_P (fun v s' => s' = s ∧ ∃ x, v = some (.int x) ∧ Q (.inr (x)))) 31 [(0, .ref 950), (1, .int (y0)), (2, .int (y1)), (3, .int (y2)), (4, .int (y3)), (5, .int (y4)), (6, .int (y5)), (7, .int (y6)), (8, .int (y7))] [] (t_m s) 1065 0 0) (hk : t_hk (k_X13_isPattern_112 l1 l2 l3 l4 l5 l6 l7 l8 s) Q) : mj_G D cy ad bs X cX13_isPattern 10 yX13_isPattern.cls (some .boolean) yX13_isPattern.name 1 0 0 1065 (t_P (fun v s' => s' = s ∧ ∃ x, v = some (.int x) ∧ Q (.inr (x)))) 112 [(0, .ref 950), (1, .int l1), (2, .int l2), (3, .int l3), (4, .int l4), (5, .int l5), (6, .int l6), (7, .int l7), (8, .int l8)] [] (t_m s) 1065 0 0 := by
  refine mj_iinc (k := 5) (v := (l5 + 1)) (lv2 := [(5, .int (l5 + 1)), (0, .ref 950), (1, .int l1), (2, .int l2), (3, .int l3), (4, .int l4), (6, .int l6), (7, .int l7), (8, .int l8)]) dX13_isPattern_112 rfl rfl (by decide) rfl ?_
  refine mj_iinc (k := 6) (v := (l6 + 1)) (lv2 := [(6, .int (l6 + 1)), (5, .int (l5 + 1)), (0, .ref 950), (1, .int l1), (2, .int l2), (3, .int l3), (4, .int l4), (7, .int l7), (8, .int l8)]) dX13_isPattern_115 rfl rfl (by decide) rfl ?_
  refine mj_goto 144 dX13_isPattern_118 (by decide) ?_
  refine mj_goto 31 dX13_isPattern_144 (by decide) ?_
  refine mj_sublv [(0, .ref 950), (1, .int l1), (2, .int l2), (3, .int l3), (4, .int l4), (5, .int (l5 + 1)), (6, .int (l6 + 1)), (7, .int l7), (8, .int l8)] [2, 3, 4, 5, 6, 1, 0, 7, 8] rfl ?_
  exact t_somK hk (fun hf => Hb31 l1 l2 l3 l4 (l5 + 1) (l6 + 1) l7 l8 hf)
noncomputable def k_X13_isPattern_121 (l1 : Int32) (l2 : Int32) (l3 : Int32) (l4 : Int32) (l7 : Int32) (l8 : Int32) (s : t_S) : Option ((Int32 × Int32 × Int32 × Int32 × Int32 × Int32 × Int32 × Int32) ⊕ (Int32)) :=
 if l7 < (0 : Int32) then ((some (0 : Int32)).map Sum.inr)
 else (some (.inl (l1, l2, l3, l4, (l8 + 1), (l7 + (1 : Int32)), l7, (l8 + 1))))
set_option maxRecDepth 4000 in
set_option maxHeartbeats 1000000 in
theorem B_X13_isPattern_121 {D : va_G} {cy : Nat → ClassId} {ad : Nat → Nat} {bs : Nat} {X : State → Heap → Prop} (l1 : Int32) (l2 : Int32) (l3 : Int32) (l4 : Int32) (l7 : Int32) (l8 : Int32) (s : t_S) (Q : (Int32 × Int32 × Int32 × Int32 × Int32 × Int32 × Int32 × Int32) ⊕ (Int32) → Prop) (Hb31 : ∀ (y0 : Int32) (y1 : Int32) (y2 : Int32) (y3 : Int32) (y4 : Int32) (y5 : Int32) (y6 : Int32) (y7 : Int32), Q (.inl (y0, y1, y2, y3, y4, y5, y6, y7)) → mj_G D cy ad bs X cX13_isPattern 10 yX13_isPattern.cls (some .boolean) yX13_isPattern.name 1 0 0 1065 (t_P (fun v s' => s' = s ∧ ∃ x, v = some (.int x) ∧ Q (.inr (x)))) 31 [(0, .ref 950), (1, .int (y0)), (2, .int (y1)), (3, .int (y2)), (4, .int (y3)), (5, .int (y4)), (6, .int (y5)), (7, .int (y6)), (8, .int (y7))] [] (t_m s) 1065 0 0) (hk : t_hk (k_X13_isPattern_121 l1 l2 l3 l4 l7 l8 s) Q) : mj_G D cy ad bs X cX13_isPattern 10 yX13_isPattern.cls (some .boolean) yX13_isPattern.name 1 0 0 1065 (t_P (fun v s' => s' = s ∧ ∃ x, v = some (.int x) ∧ Q (.inr (x)))) 121 [(0, .ref 950), (1, .int l1), (2, .int l2), (3, .int l3), (4, .int l4), (7, .int l7), (8, .int l8)] [] (t_m s) 1065 0 0 := by
  refine mj_iload dX13_isPattern_121 5 rfl ?_
  refine mj_if_lt 142 dX13_isPattern_123 (by decide) (fun z => t_posK hk z (fun hk => ?_)) (fun z => t_negK hk z (fun hk => ?_))
  · refine t_mapK hk (fun hk => ?_)
    refine mj_iconst (v := 0) dX13_isPattern_142 (by decide) ?_
    exact t_somK hk (fun hf => t_iret dX13_isPattern_143 rfl (by decide) ⟨rfl, _, rfl, hf⟩ (Nat.le_of_ble_eq_true rfl) (Nat.le_of_ble_eq_true rfl))
  · refine mj_iinc (k := 6) (v := (l8 + 1)) (lv2 := [(8, .int (l8 + 1)), (0, .ref 950), (1, .int l1), (2, .int l2), (3, .int l3), (4, .int l4), (7, .int l7)]) dX13_isPattern_126 rfl rfl (by decide) rfl ?_
    refine mj_iload dX13_isPattern_129 0 rfl ?_
    refine mj_istore (lv2 := [(5, .int (l8 + 1)), (8, .int (l8 + 1)), (0, .ref 950), (1, .int l1), (2, .int l2), (3, .int l3), (4, .int l4), (7, .int l7)]) dX13_isPattern_131 (by decide) rfl ?_
    refine mj_iload dX13_isPattern_133 7 rfl ?_
    refine mj_iconst (v := 1) dX13_isPattern_135 (by decide) ?_
    refine mj_iadd dX13_isPattern_136 ?_
    refine mj_istore (lv2 := [(6, .int (l7 + (1 : Int32))), (5, .int (l8 + 1)), (8, .int (l8 + 1)), (0, .ref 950), (1, .int l1), (2, .int l2), (3, .int l3), (4, .int l4), (7, .int l7)]) dX13_isPattern_137 (by decide) rfl ?_
    refine mj_goto 144 dX13_isPattern_139 (by decide) ?_
    refine mj_goto 31 dX13_isPattern_144 (by decide) ?_
    refine mj_sublv [(0, .ref 950), (1, .int l1), (2, .int l2), (3, .int l3), (4, .int l4), (5, .int (l8 + 1)), (6, .int (l7 + (1 : Int32))), (7, .int l7), (8, .int (l8 + 1))] [3, 4, 5, 6, 7, 1, 0, 8, 2] rfl ?_
    exact t_somK hk (fun hf => Hb31 l1 l2 l3 l4 (l8 + 1) (l7 + (1 : Int32)) l7 (l8 + 1) hf)
noncomputable def k_X13_isPattern_63 (l1 : Int32) (l2 : Int32) (l3 : Int32) (l4 : Int32) (l5 : Int32) (l6 : Int32) (l7 : Int32) (l8 : Int32) (k0 : Int32) (s : t_S) : Option ((Int32 × Int32 × Int32 × Int32 × Int32 × Int32 × Int32 × Int32) ⊕ (Int32)) :=
 if k0 = (42 : Int32) then (some (.inl (l1, l2, l3, l4, l5, (l6 + 1), l6, l5)))
 else (if l4 ≤ l6 then (k_X13_isPattern_121 l1 l2 l3 l4 l7 l8 s)
 else (if k0 = (63 : Int32) then (k_X13_isPattern_112 l1 l2 l3 l4 l5 l6 l7 l8 s)
 else ((f_X13_signOf l2 l5 s).bind (fun r1 =>
 if k0 = r1 then (k_X13_isPattern_112 l1 l2 l3 l4 l5 l6 l7 l8 s)
 else (k_X13_isPattern_121 l1 l2 l3 l4 l7 l8 s)))))
set_option maxRecDepth 4000 in
set_option maxHeartbeats 1000000 in
theorem B_X13_isPattern_63 {D : va_G} {cy : Nat → ClassId} {ad : Nat → Nat} {bs : Nat} {X : State → Heap → Prop} (l1 : Int32) (l2 : Int32) (l3 : Int32) (l4 : Int32) (l5 : Int32) (l6 : Int32) (l7 : Int32) (l8 : Int32) (k0 : Int32) (s : t_S) (Q : (Int32 × Int32 × Int32 × Int32 × Int32 × Int32 × Int32 × Int32) ⊕ (Int32) → Prop) (Hb31 : ∀ (y0 : Int32) (y1 : Int32) (y2 : Int32) (y3 : Int32) (y4 : Int32) (y5 : Int32) (y6 : Int32) (y7 : Int32), Q (.inl (y0, y1, y2, y3, y4, y5, y6, y7)) → mj_G D cy ad bs X cX13_isPattern 10 yX13_isPattern.cls (some .boolean) yX13_isPattern.name 1 0 0 1065 (t_P (fun v s' => s' = s ∧ ∃ x, v = some (.int x) ∧ Q (.inr (x)))) 31 [(0, .ref 950), (1, .int (y0)), (2, .int (y1)), (3, .int (y2)), (4, .int (y3)), (5, .int (y4)), (6, .int (y5)), (7, .int (y6)), (8, .int (y7))] [] (t_m s) 1065 0 0) (hk : t_hk (k_X13_isPattern_63 l1 l2 l3 l4 l5 l6 l7 l8 k0 s) Q) : mj_G D cy ad bs X cX13_isPattern 10 yX13_isPattern.cls (some .boolean) yX13_isPattern.name 1 0 0 1065 (t_P (fun v s' => s' = s ∧ ∃ x, v = some (.int x) ∧ Q (.inr (x)))) 63 [(0, .ref 950), (1, .int l1), (2, .int l2), (3, .int l3), (4, .int l4), (5, .int l5), (6, .int l6), (7, .int l7), (8, .int l8)] [.int k0] (t_m s) 1065 0 0 := by
  refine mj_istore (lv2 := [(9, .int k0), (0, .ref 950), (1, .int l1), (2, .int l2), (3, .int l3), (4, .int l4), (5, .int l5), (6, .int l6), (7, .int l7), (8, .int l8)]) dX13_isPattern_63 (by decide) rfl ?_
  refine mj_iload dX13_isPattern_65 0 rfl ?_
  refine mj_bipush (v := 42) dX13_isPattern_67 (by decide) ?_
  refine mj_icmp_ne 86 dX13_isPattern_69 (by decide) (fun z => t_negK hk z (fun hk => ?_)) (fun z => t_posK hk z (fun hk => ?_))
  · refine mj_iload dX13_isPattern_86 7 rfl ?_
    refine mj_iload dX13_isPattern_88 5 rfl ?_
    refine mj_icmp_ge 121 dX13_isPattern_90 (by decide) (fun z => t_posK hk z (fun hk => ?_)) (fun z => t_negK hk z (fun hk => ?_))
    · refine mj_sublv [(0, .ref 950), (1, .int l1), (2, .int l2), (3, .int l3), (4, .int l4), (7, .int l7), (8, .int l8)] [1, 2, 3, 4, 5, 8, 9] rfl ?_
      exact B_X13_isPattern_121 _ _ _ _ _ _ _ _ (fun y0 y1 y2 y3 y4 y5 y6 y7 hx => Hb31 y0 y1 y2 y3 y4 y5 y6 y7 hx) hk
    · refine mj_iload dX13_isPattern_93 0 rfl ?_
      refine mj_bipush (v := 63) dX13_isPattern_95 (by decide) ?_
      refine mj_icmp_eq 112 dX13_isPattern_97 (by decide) (fun z => t_posK hk z (fun hk => ?_)) (fun z => t_negK hk z (fun hk => ?_))
      · refine mj_sublv [(0, .ref 950), (1, .int l1), (2, .int l2), (3, .int l3), (4, .int l4), (5, .int l5), (6, .int l6), (7, .int l7), (8, .int l8)] [1, 2, 3, 4, 5, 6, 7, 8, 9] rfl ?_
        exact B_X13_isPattern_112 _ _ _ _ _ _ _ _ _ _ (fun y0 y1 y2 y3 y4 y5 y6 y7 hx => Hb31 y0 y1 y2 y3 y4 y5 y6 y7 hx) hk
      · refine mj_iload dX13_isPattern_100 0 rfl ?_
        refine mj_aload_n dX13_isPattern_102 1 rfl ?_
        refine mj_iload_n dX13_isPattern_103 3 rfl ?_
        refine mj_iload dX13_isPattern_104 6 rfl ?_
        refine t_bndK hk (fun r1 er1 hk => ?_)
        refine t_callViP dX13_isPattern_106 M_X13_signOf (C_X13_signOf _ _ _ _ er1) ML_X13_996 IM_X13_signOf SE_X13_signOf qc_950 rfl (As := [.int l2, .int l5]) rfl rfl (Nat.le_of_ble_eq_true rfl) (Nat.le_of_ble_eq_true rfl) (Nat.le_of_ble_eq_true rfl) (Nat.le_of_ble_eq_true rfl) ?_
        refine mj_icmp_ne 121 dX13_isPattern_109 (by decide) (fun z => t_negK hk z (fun hk => ?_)) (fun z => t_posK hk z (fun hk => ?_))
        · refine mj_sublv [(0, .ref 950), (1, .int l1), (2, .int l2), (3, .int l3), (4, .int l4), (7, .int l7), (8, .int l8)] [1, 2, 3, 4, 5, 8, 9] rfl ?_
          exact B_X13_isPattern_121 _ _ _ _ _ _ _ _ (fun y0 y1 y2 y3 y4 y5 y6 y7 hx => Hb31 y0 y1 y2 y3 y4 y5 y6 y7 hx) hk
        · refine mj_sublv [(0, .ref 950), (1, .int l1), (2, .int l2), (3, .int l3), (4, .int l4), (5, .int l5), (6, .int l6), (7, .int l7), (8, .int l8)] [1, 2, 3, 4, 5, 6, 7, 8, 9] rfl ?_
          exact B_X13_isPattern_112 _ _ _ _ _ _ _ _ _ _ (fun y0 y1 y2 y3 y4 y5 y6 y7 hx => Hb31 y0 y1 y2 y3 y4 y5 y6 y7 hx) hk
  · refine mj_iload dX13_isPattern_72 7 rfl ?_
    refine mj_istore (lv2 := [(7, .int l6), (9, .int k0), (0, .ref 950), (1, .int l1), (2, .int l2), (3, .int l3), (4, .int l4), (5, .int l5), (6, .int l6), (8, .int l8)]) dX13_isPattern_74 (by decide) rfl ?_
    refine mj_iload dX13_isPattern_76 7 rfl ?_
    refine mj_istore (lv2 := [(8, .int l5), (7, .int l6), (9, .int k0), (0, .ref 950), (1, .int l1), (2, .int l2), (3, .int l3), (4, .int l4), (5, .int l5), (6, .int l6)]) dX13_isPattern_78 (by decide) rfl ?_
    refine mj_iinc (k := 9) (v := (l6 + 1)) (lv2 := [(6, .int (l6 + 1)), (8, .int l5), (7, .int l6), (9, .int k0), (0, .ref 950), (1, .int l1), (2, .int l2), (3, .int l3), (4, .int l4), (5, .int l5)]) dX13_isPattern_80 rfl rfl (by decide) rfl ?_
    refine mj_goto 144 dX13_isPattern_83 (by decide) ?_
    refine mj_goto 31 dX13_isPattern_144 (by decide) ?_
    refine mj_sublv [(0, .ref 950), (1, .int l1), (2, .int l2), (3, .int l3), (4, .int l4), (5, .int l5), (6, .int (l6 + 1)), (7, .int l6), (8, .int l5)] [4, 5, 6, 7, 8, 9, 0, 2, 1] rfl ?_
    exact t_somK hk (fun hf => Hb31 l1 l2 l3 l4 l5 (l6 + 1) l6 l5 hf)
noncomputable def k_X13_isPattern_31 (l1 : Int32) (l2 : Int32) (l3 : Int32) (l4 : Int32) (l5 : Int32) (l6 : Int32) (l7 : Int32) (l8 : Int32) (s : t_S) : Option ((Int32 × Int32 × Int32 × Int32 × Int32 × Int32 × Int32 × Int32) ⊕ (Int32)) :=
 if l3 ≤ l5 then ((t_loop (b_X13_isPattern_147 s) t_N (l1, l4, l6)).map Sum.inr)
 else (if l4 ≤ l6 then (k_X13_isPattern_63 l1 l2 l3 l4 l5 l6 l7 l8 (-1) s)
 else (if t_ix l1 13000 = true then
  if t_ix (((s.2.1 957 (l1.toNatClampNeg)).toInt32) + l6) 24300 = true then
  k_X13_isPattern_63 l1 l2 l3 l4 l5 l6 l7 l8 (s.1 963 ((((s.2.1 957 (l1.toNatClampNeg)).toInt32) + l6).toNatClampNeg)) s
else none
else none))
set_option maxRecDepth 4000 in
set_option maxHeartbeats 1000000 in
theorem B_X13_isPattern_31 {D : va_G} {cy : Nat → ClassId} {ad : Nat → Nat} {bs : Nat} {X : State → Heap → Prop} (l1 : Int32) (l2 : Int32) (l3 : Int32) (l4 : Int32) (l5 : Int32) (l6 : Int32) (l7 : Int32) (l8 : Int32) (s : t_S) (Q : (Int32 × Int32 × Int32 × Int32 × Int32 × Int32 × Int32 × Int32) ⊕ (Int32) → Prop) (Hb31 : ∀ (y0 : Int32) (y1 : Int32) (y2 : Int32) (y3 : Int32) (y4 : Int32) (y5 : Int32) (y6 : Int32) (y7 : Int32), Q (.inl (y0, y1, y2, y3, y4, y5, y6, y7)) → mj_G D cy ad bs X cX13_isPattern 10 yX13_isPattern.cls (some .boolean) yX13_isPattern.name 1 0 0 1065 (t_P (fun v s' => s' = s ∧ ∃ x, v = some (.int x) ∧ Q (.inr (x)))) 31 [(0, .ref 950), (1, .int (y0)), (2, .int (y1)), (3, .int (y2)), (4, .int (y3)), (5, .int (y4)), (6, .int (y5)), (7, .int (y6)), (8, .int (y7))] [] (t_m s) 1065 0 0) (hk : t_hk (k_X13_isPattern_31 l1 l2 l3 l4 l5 l6 l7 l8 s) Q) : mj_G D cy ad bs X cX13_isPattern 10 yX13_isPattern.cls (some .boolean) yX13_isPattern.name 1 0 0 1065 (t_P (fun v s' => s' = s ∧ ∃ x, v = some (.int x) ∧ Q (.inr (x)))) 31 [(0, .ref 950), (1, .int l1), (2, .int l2), (3, .int l3), (4, .int l4), (5, .int l5), (6, .int l6), (7, .int l7), (8, .int l8)] [] (t_m s) 1065 0 0 := by
  refine mj_iload dX13_isPattern_31 5 rfl ?_
  refine mj_iload_n dX13_isPattern_33 3 rfl ?_
  refine mj_icmp_ge 147 dX13_isPattern_34 (by decide) (fun z => t_posK hk z (fun hk => ?_)) (fun z => t_negK hk z (fun hk => ?_))
  · refine mj_sublv [(0, .ref 950), (1, .int l1), (4, .int l4), (6, .int l6)] [0, 1, 4, 6] rfl ?_
    refine t_mapK hk (fun hk => ?_)
    exact LH_X13_isPattern_147 _ _ l1 l4 l6 _ hk
  · refine mj_iload dX13_isPattern_37 6 rfl ?_
    refine mj_iload dX13_isPattern_39 4 rfl ?_
    refine mj_icmp_ge 62 dX13_isPattern_41 (by decide) (fun z => t_posK hk z (fun hk => ?_)) (fun z => t_negK hk z (fun hk => ?_))
    · refine mj_iconst (v := (-1)) dX13_isPattern_62 (by decide) ?_
      exact B_X13_isPattern_63 _ _ _ _ _ _ _ _ _ _ _ (fun y0 y1 y2 y3 y4 y5 y6 y7 hx => Hb31 y0 y1 y2 y3 y4 y5 y6 y7 hx) hk
    · refine mj_aload_n dX13_isPattern_44 0 rfl ?_
      refine t_getR 963 dX13_isPattern_45 F_X13_51 qr_950_35 ?_
      refine mj_aload_n dX13_isPattern_48 0 rfl ?_
      refine t_getR 957 dX13_isPattern_49 F_X13_32 qr_950_19 ?_
      refine mj_iload_n dX13_isPattern_52 1 rfl ?_
      refine t_chkK hk (fun c0 hk => ?_)
      refine t_lald dX13_isPattern_53 qa_957 (t_ixv c0) ?_
      refine mj_l2i (v := (s.2.1 957 (l1.toNatClampNeg)).toInt32) dX13_isPattern_54 rfl ?_
      refine mj_iload dX13_isPattern_55 6 rfl ?_
      refine mj_iadd dX13_isPattern_57 ?_
      refine t_chkK hk (fun c1 hk => ?_)
      refine t_iald dX13_isPattern_58 qa_963 (t_ixv c1) ?_
      refine mj_goto 63 dX13_isPattern_59 (by decide) ?_
      exact B_X13_isPattern_63 _ _ _ _ _ _ _ _ _ _ _ (fun y0 y1 y2 y3 y4 y5 y6 y7 hx => Hb31 y0 y1 y2 y3 y4 y5 y6 y7 hx) hk
noncomputable def b_X13_isPattern_31 (s : t_S) (x : Int32 × Int32 × Int32 × Int32 × Int32 × Int32 × Int32 × Int32) : Option ((Int32 × Int32 × Int32 × Int32 × Int32 × Int32 × Int32 × Int32) ⊕ (Int32)) := k_X13_isPattern_31 x.1 x.2.1 x.2.2.1 x.2.2.2.1 x.2.2.2.2.1 x.2.2.2.2.2.1 x.2.2.2.2.2.2.1 x.2.2.2.2.2.2.2 s
set_option maxRecDepth 4000 in
set_option maxHeartbeats 1000000 in
theorem LH_X13_isPattern_31 {D : va_G} {cy : Nat → ClassId} {ad : Nat → Nat} {bs : Nat} {X : State → Heap → Prop} (s : t_S) : ∀ (n : Nat) (y0 : Int32) (y1 : Int32) (y2 : Int32) (y3 : Int32) (y4 : Int32) (y5 : Int32) (y6 : Int32) (y7 : Int32) (Q : Int32 → Prop) (hk : t_hk (t_loop (b_X13_isPattern_31 s) n (y0, y1, y2, y3, y4, y5, y6, y7)) Q), mj_G D cy ad bs X cX13_isPattern 10 yX13_isPattern.cls (some .boolean) yX13_isPattern.name 1 0 0 1065 (t_P (fun v s' => s' = s ∧ ∃ x, v = some (.int x) ∧ Q (x))) 31 [(0, .ref 950), (1, .int (y0)), (2, .int (y1)), (3, .int (y2)), (4, .int (y3)), (5, .int (y4)), (6, .int (y5)), (7, .int (y6)), (8, .int (y7))] [] (t_m s) 1065 0 0 := by
  intro n
  induction n with
  | zero => intro y0 y1 y2 y3 y4 y5 y6 y7 Q hk; obtain ⟨r, hr, _⟩ := hk; cases hr
  | succ n ih =>
    intro y0 y1 y2 y3 y4 y5 y6 y7 Q hk
    exact B_X13_isPattern_31 y0 y1 y2 y3 y4 y5 y6 y7 s (fun y => t_lq (b_X13_isPattern_31 s) n Q y) (fun y0' y1' y2' y3' y4' y5' y6' y7' hy => ih y0' y1' y2' y3' y4' y5' y6' y7' Q hy) (t_lp hk)
noncomputable def f_X13_isPattern (x1 : Int32) (x2 : Int32) (s : t_S) : Option (Int32) :=
 if t_ix (x2 + (1 : Int32)) 626600 = true then
  if t_ix x1 13000 = true then
  t_loop (b_X13_isPattern_31 s) t_N (x1, x2, ((s.2.1 1006 ((x2 + (1 : Int32)).toNatClampNeg)).toInt32), ((s.2.1 958 (x1.toNatClampNeg)).toInt32), 0, 0, (-1), 0)
else none
else none
set_option maxRecDepth 4000 in
set_option maxHeartbeats 1000000 in
theorem C_X13_isPattern (x1 : Int32) (x2 : Int32) (s : t_S) (r : Int32) (hr : f_X13_isPattern x1 x2 s = some r) : t_C yX13_isPattern cX13_isPattern 10 (some .boolean) 1 [.ref 950, .int x1, .int x2] s (fun v s' => v = some (.int r) ∧ s' = s) := by
  refine t_C.imp (P := fun v s' => s' = s ∧ ∃ x, v = some (.int x) ∧ (fun q => q = r) (x)) (t_C.of (by decide +kernel) (Nat.le_of_ble_eq_true rfl) ?_) (fun v s' hp => by obtain ⟨rfl, x, rfl, rfl⟩ := hp; exact ⟨rfl, rfl⟩)
  intro D cy ad bs X
  have hk : t_hk (f_X13_isPattern x1 x2 s) (fun q => q = r) := ⟨r, hr, rfl⟩
  show mj_G D cy ad bs X cX13_isPattern 10 yX13_isPattern.cls (some .boolean) yX13_isPattern.name 1 0 0 1065 (t_P (fun v s' => s' = s ∧ ∃ x, v = some (.int x) ∧ (fun q => q = r) (x))) 0 [(0, .ref 950), (1, .int x1), (2, .int x2)] [] (t_m s) 1065 0 0
  refine mj_aload_n dX13_isPattern_0 0 rfl ?_
  refine t_getR 1006 dX13_isPattern_1 F_X13_182 qr_950_95 ?_
  refine mj_iload_n dX13_isPattern_4 2 rfl ?_
  refine mj_iconst (v := 1) dX13_isPattern_5 (by decide) ?_
  refine mj_iadd dX13_isPattern_6 ?_
  refine t_chkK hk (fun c0 hk => ?_)
  refine t_lald dX13_isPattern_7 qa_1006 (t_ixv c0) ?_
  refine mj_l2i (v := (s.2.1 1006 ((x2 + (1 : Int32)).toNatClampNeg)).toInt32) dX13_isPattern_8 rfl ?_
  refine mj_istore_n 3 (lv2 := [(3, .int ((s.2.1 1006 ((x2 + (1 : Int32)).toNatClampNeg)).toInt32)), (0, .ref 950), (1, .int x1), (2, .int x2)]) dX13_isPattern_9 rfl (by decide) rfl ?_
  refine mj_aload_n dX13_isPattern_10 1 rfl ?_
  refine t_getR 958 dX13_isPattern_11 F_X13_36 qr_950_20 ?_
  refine mj_iload_n dX13_isPattern_14 2 rfl ?_
  refine t_chkK hk (fun c1 hk => ?_)
  refine t_lald dX13_isPattern_15 qa_958 (t_ixv c1) ?_
  refine mj_l2i (v := (s.2.1 958 (x1.toNatClampNeg)).toInt32) dX13_isPattern_16 rfl ?_
  refine mj_istore (lv2 := [(4, .int ((s.2.1 958 (x1.toNatClampNeg)).toInt32)), (3, .int ((s.2.1 1006 ((x2 + (1 : Int32)).toNatClampNeg)).toInt32)), (0, .ref 950), (1, .int x1), (2, .int x2)]) dX13_isPattern_17 (by decide) rfl ?_
  refine mj_iconst (v := 0) dX13_isPattern_19 (by decide) ?_
  refine mj_istore (lv2 := [(5, .int 0), (4, .int ((s.2.1 958 (x1.toNatClampNeg)).toInt32)), (3, .int ((s.2.1 1006 ((x2 + (1 : Int32)).toNatClampNeg)).toInt32)), (0, .ref 950), (1, .int x1), (2, .int x2)]) dX13_isPattern_20 (by decide) rfl ?_
  refine mj_iconst (v := 0) dX13_isPattern_22 (by decide) ?_
  refine mj_istore (lv2 := [(6, .int 0), (5, .int 0), (4, .int ((s.2.1 958 (x1.toNatClampNeg)).toInt32)), (3, .int ((s.2.1 1006 ((x2 + (1 : Int32)).toNatClampNeg)).toInt32)), (0, .ref 950), (1, .int x1), (2, .int x2)]) dX13_isPattern_23 (by decide) rfl ?_
  refine mj_iconst (v := (-1)) dX13_isPattern_25 (by decide) ?_
  refine mj_istore (lv2 := [(7, .int (-1)), (6, .int 0), (5, .int 0), (4, .int ((s.2.1 958 (x1.toNatClampNeg)).toInt32)), (3, .int ((s.2.1 1006 ((x2 + (1 : Int32)).toNatClampNeg)).toInt32)), (0, .ref 950), (1, .int x1), (2, .int x2)]) dX13_isPattern_26 (by decide) rfl ?_
  refine mj_iconst (v := 0) dX13_isPattern_28 (by decide) ?_
  refine mj_istore (lv2 := [(8, .int 0), (7, .int (-1)), (6, .int 0), (5, .int 0), (4, .int ((s.2.1 958 (x1.toNatClampNeg)).toInt32)), (3, .int ((s.2.1 1006 ((x2 + (1 : Int32)).toNatClampNeg)).toInt32)), (0, .ref 950), (1, .int x1), (2, .int x2)]) dX13_isPattern_29 (by decide) rfl ?_
  refine mj_sublv [(0, .ref 950), (1, .int x1), (2, .int x2), (3, .int ((s.2.1 1006 ((x2 + (1 : Int32)).toNatClampNeg)).toInt32)), (4, .int ((s.2.1 958 (x1.toNatClampNeg)).toInt32)), (5, .int 0), (6, .int 0), (7, .int (-1)), (8, .int 0)] [6, 7, 8, 5, 4, 3, 2, 1, 0] rfl ?_
  exact LH_X13_isPattern_31 _ _ x1 x2 ((s.2.1 1006 ((x2 + (1 : Int32)).toNatClampNeg)).toInt32) ((s.2.1 958 (x1.toNatClampNeg)).toInt32) 0 0 (-1) 0 _ hk

