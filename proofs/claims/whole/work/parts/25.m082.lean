/-! Methods as functions, 82: X13_isToldOutside, X13_outside, X13_ownVar, X13_own, X13_component -/
theorem qa_1050 : t_oka 1050 1 48 = true := by decide +kernel
theorem qr_950_165 : t_okr 950 13 165 1050 = true := by decide +kernel
theorem dX13_isToldOutside_0 : decode cX13_isToldOutside 0 = .ok (.iconst 0, 1) := by decide +kernel
theorem dX13_isToldOutside_1 : decode cX13_isToldOutside 1 = .ok (.istore_n 2, 1) := by decide +kernel
theorem dX13_isToldOutside_102 : decode cX13_isToldOutside 102 = .ok (.iconst 0, 1) := by decide +kernel
theorem dX13_isToldOutside_103 : decode cX13_isToldOutside 103 = .ok (.istore_n 2, 1) := by decide +kernel
theorem dX13_isToldOutside_104 : decode cX13_isToldOutside 104 = .ok (.iinc 3 1, 3) := by decide +kernel
theorem dX13_isToldOutside_107 : decode cX13_isToldOutside 107 = .ok (.goto (-31), 3) := by decide +kernel
theorem dX13_isToldOutside_110 : decode cX13_isToldOutside 110 = .ok (.iconst 0, 1) := by decide +kernel
theorem dX13_isToldOutside_111 : decode cX13_isToldOutside 111 = .ok (.istore_n 3, 1) := by decide +kernel
theorem dX13_isToldOutside_112 : decode cX13_isToldOutside 112 = .ok (.iload_n 3, 1) := by decide +kernel
theorem dX13_isToldOutside_113 : decode cX13_isToldOutside 113 = .ok (.aload_n 0, 1) := by decide +kernel
theorem dX13_isToldOutside_114 : decode cX13_isToldOutside 114 = .ok (.getfield 633, 3) := by decide +kernel
theorem dX13_isToldOutside_117 : decode cX13_isToldOutside 117 = .ok (.if_icmp .ge 29, 3) := by decide +kernel
theorem dX13_isToldOutside_12 : decode cX13_isToldOutside 12 = .ok (.iload_n 2, 1) := by decide +kernel
theorem dX13_isToldOutside_120 : decode cX13_isToldOutside 120 = .ok (.iload_n 2, 1) := by decide +kernel
theorem dX13_isToldOutside_121 : decode cX13_isToldOutside 121 = .ok (.ifCond .ne 13, 3) := by decide +kernel
theorem dX13_isToldOutside_124 : decode cX13_isToldOutside 124 = .ok (.aload_n 0, 1) := by decide +kernel
theorem dX13_isToldOutside_125 : decode cX13_isToldOutside 125 = .ok (.getfield 102, 3) := by decide +kernel
theorem dX13_isToldOutside_128 : decode cX13_isToldOutside 128 = .ok (.iload_n 3, 1) := by decide +kernel
theorem dX13_isToldOutside_129 : decode cX13_isToldOutside 129 = .ok (.iaload, 1) := by decide +kernel
theorem dX13_isToldOutside_13 : decode cX13_isToldOutside 13 = .ok (.ifCond .ne 13, 3) := by decide +kernel
theorem dX13_isToldOutside_130 : decode cX13_isToldOutside 130 = .ok (.iload_n 1, 1) := by decide +kernel
theorem dX13_isToldOutside_131 : decode cX13_isToldOutside 131 = .ok (.if_icmp .ne 7, 3) := by decide +kernel
theorem dX13_isToldOutside_134 : decode cX13_isToldOutside 134 = .ok (.iconst 1, 1) := by decide +kernel
theorem dX13_isToldOutside_135 : decode cX13_isToldOutside 135 = .ok (.goto 4, 3) := by decide +kernel
theorem dX13_isToldOutside_138 : decode cX13_isToldOutside 138 = .ok (.iconst 0, 1) := by decide +kernel
theorem dX13_isToldOutside_139 : decode cX13_isToldOutside 139 = .ok (.istore_n 2, 1) := by decide +kernel
theorem dX13_isToldOutside_140 : decode cX13_isToldOutside 140 = .ok (.iinc 3 1, 3) := by decide +kernel
theorem dX13_isToldOutside_143 : decode cX13_isToldOutside 143 = .ok (.goto (-31), 3) := by decide +kernel
theorem dX13_isToldOutside_146 : decode cX13_isToldOutside 146 = .ok (.iload_n 2, 1) := by decide +kernel
theorem dX13_isToldOutside_147 : decode cX13_isToldOutside 147 = .ok (.ireturn, 1) := by decide +kernel
theorem dX13_isToldOutside_16 : decode cX13_isToldOutside 16 = .ok (.aload_n 0, 1) := by decide +kernel
theorem dX13_isToldOutside_17 : decode cX13_isToldOutside 17 = .ok (.getfield 54, 3) := by decide +kernel
theorem dX13_isToldOutside_2 : decode cX13_isToldOutside 2 = .ok (.iconst 0, 1) := by decide +kernel
theorem dX13_isToldOutside_20 : decode cX13_isToldOutside 20 = .ok (.iload_n 3, 1) := by decide +kernel
theorem dX13_isToldOutside_21 : decode cX13_isToldOutside 21 = .ok (.iaload, 1) := by decide +kernel
theorem dX13_isToldOutside_22 : decode cX13_isToldOutside 22 = .ok (.iload_n 1, 1) := by decide +kernel
theorem dX13_isToldOutside_23 : decode cX13_isToldOutside 23 = .ok (.if_icmp .ne 7, 3) := by decide +kernel
theorem dX13_isToldOutside_26 : decode cX13_isToldOutside 26 = .ok (.iconst 1, 1) := by decide +kernel
theorem dX13_isToldOutside_27 : decode cX13_isToldOutside 27 = .ok (.goto 4, 3) := by decide +kernel
theorem dX13_isToldOutside_3 : decode cX13_isToldOutside 3 = .ok (.istore_n 3, 1) := by decide +kernel
theorem dX13_isToldOutside_30 : decode cX13_isToldOutside 30 = .ok (.iconst 0, 1) := by decide +kernel
theorem dX13_isToldOutside_31 : decode cX13_isToldOutside 31 = .ok (.istore_n 2, 1) := by decide +kernel
theorem dX13_isToldOutside_32 : decode cX13_isToldOutside 32 = .ok (.iinc 3 1, 3) := by decide +kernel
theorem dX13_isToldOutside_35 : decode cX13_isToldOutside 35 = .ok (.goto (-31), 3) := by decide +kernel
theorem dX13_isToldOutside_38 : decode cX13_isToldOutside 38 = .ok (.iconst 0, 1) := by decide +kernel
theorem dX13_isToldOutside_39 : decode cX13_isToldOutside 39 = .ok (.istore_n 3, 1) := by decide +kernel
theorem dX13_isToldOutside_4 : decode cX13_isToldOutside 4 = .ok (.iload_n 3, 1) := by decide +kernel
theorem dX13_isToldOutside_40 : decode cX13_isToldOutside 40 = .ok (.iload_n 3, 1) := by decide +kernel
theorem dX13_isToldOutside_41 : decode cX13_isToldOutside 41 = .ok (.aload_n 0, 1) := by decide +kernel
theorem dX13_isToldOutside_42 : decode cX13_isToldOutside 42 = .ok (.getfield 627, 3) := by decide +kernel
theorem dX13_isToldOutside_45 : decode cX13_isToldOutside 45 = .ok (.if_icmp .ge 29, 3) := by decide +kernel
theorem dX13_isToldOutside_48 : decode cX13_isToldOutside 48 = .ok (.iload_n 2, 1) := by decide +kernel
theorem dX13_isToldOutside_49 : decode cX13_isToldOutside 49 = .ok (.ifCond .ne 13, 3) := by decide +kernel
theorem dX13_isToldOutside_5 : decode cX13_isToldOutside 5 = .ok (.aload_n 0, 1) := by decide +kernel
theorem dX13_isToldOutside_52 : decode cX13_isToldOutside 52 = .ok (.aload_n 0, 1) := by decide +kernel
theorem dX13_isToldOutside_53 : decode cX13_isToldOutside 53 = .ok (.getfield 63, 3) := by decide +kernel
theorem dX13_isToldOutside_56 : decode cX13_isToldOutside 56 = .ok (.iload_n 3, 1) := by decide +kernel
theorem dX13_isToldOutside_57 : decode cX13_isToldOutside 57 = .ok (.iaload, 1) := by decide +kernel
theorem dX13_isToldOutside_58 : decode cX13_isToldOutside 58 = .ok (.iload_n 1, 1) := by decide +kernel
theorem dX13_isToldOutside_59 : decode cX13_isToldOutside 59 = .ok (.if_icmp .ne 7, 3) := by decide +kernel
theorem dX13_isToldOutside_6 : decode cX13_isToldOutside 6 = .ok (.getfield 624, 3) := by decide +kernel
theorem dX13_isToldOutside_62 : decode cX13_isToldOutside 62 = .ok (.iconst 1, 1) := by decide +kernel
theorem dX13_isToldOutside_63 : decode cX13_isToldOutside 63 = .ok (.goto 4, 3) := by decide +kernel
theorem dX13_isToldOutside_66 : decode cX13_isToldOutside 66 = .ok (.iconst 0, 1) := by decide +kernel
theorem dX13_isToldOutside_67 : decode cX13_isToldOutside 67 = .ok (.istore_n 2, 1) := by decide +kernel
theorem dX13_isToldOutside_68 : decode cX13_isToldOutside 68 = .ok (.iinc 3 1, 3) := by decide +kernel
theorem dX13_isToldOutside_71 : decode cX13_isToldOutside 71 = .ok (.goto (-31), 3) := by decide +kernel
theorem dX13_isToldOutside_74 : decode cX13_isToldOutside 74 = .ok (.iconst 0, 1) := by decide +kernel
theorem dX13_isToldOutside_75 : decode cX13_isToldOutside 75 = .ok (.istore_n 3, 1) := by decide +kernel
theorem dX13_isToldOutside_76 : decode cX13_isToldOutside 76 = .ok (.iload_n 3, 1) := by decide +kernel
theorem dX13_isToldOutside_77 : decode cX13_isToldOutside 77 = .ok (.aload_n 0, 1) := by decide +kernel
theorem dX13_isToldOutside_78 : decode cX13_isToldOutside 78 = .ok (.getfield 630, 3) := by decide +kernel
theorem dX13_isToldOutside_81 : decode cX13_isToldOutside 81 = .ok (.if_icmp .ge 29, 3) := by decide +kernel
theorem dX13_isToldOutside_84 : decode cX13_isToldOutside 84 = .ok (.iload_n 2, 1) := by decide +kernel
theorem dX13_isToldOutside_85 : decode cX13_isToldOutside 85 = .ok (.ifCond .ne 13, 3) := by decide +kernel
theorem dX13_isToldOutside_88 : decode cX13_isToldOutside 88 = .ok (.aload_n 0, 1) := by decide +kernel
theorem dX13_isToldOutside_89 : decode cX13_isToldOutside 89 = .ok (.getfield 72, 3) := by decide +kernel
theorem dX13_isToldOutside_9 : decode cX13_isToldOutside 9 = .ok (.if_icmp .ge 29, 3) := by decide +kernel
theorem dX13_isToldOutside_92 : decode cX13_isToldOutside 92 = .ok (.iload_n 3, 1) := by decide +kernel
theorem dX13_isToldOutside_93 : decode cX13_isToldOutside 93 = .ok (.iaload, 1) := by decide +kernel
theorem dX13_isToldOutside_94 : decode cX13_isToldOutside 94 = .ok (.iload_n 1, 1) := by decide +kernel
theorem dX13_isToldOutside_95 : decode cX13_isToldOutside 95 = .ok (.if_icmp .ne 7, 3) := by decide +kernel
theorem dX13_isToldOutside_98 : decode cX13_isToldOutside 98 = .ok (.iconst 1, 1) := by decide +kernel
theorem dX13_isToldOutside_99 : decode cX13_isToldOutside 99 = .ok (.goto 4, 3) := by decide +kernel
noncomputable def k_X13_isToldOutside_67 (l1 : Int32) (l3 : Int32) (k0 : Int32) (s : t_S) : Option ((Int32 × Int32 × Int32) ⊕ (Int32)) :=
 some (.inl (l1, k0, (l3 + 1)))
set_option maxRecDepth 4000 in
set_option maxHeartbeats 1000000 in
theorem B_X13_isToldOutside_67 {D : va_G} {cy : Nat → ClassId} {ad : Nat → Nat} {bs : Nat} {X : State → Heap → Prop} (l1 : Int32) (l3 : Int32) (k0 : Int32) (s : t_S) (Q : (Int32 × Int32 × Int32) ⊕ (Int32) → Prop) (Hb40 : ∀ (y0 : Int32) (y1 : Int32) (y2 : Int32), Q (.inl (y0, y1, y2)) → mj_G D cy ad bs X cX13_isToldOutside 4 yX13_isToldOutside.cls (some .boolean) yX13_isToldOutside.name 0 0 0 1065 (t_P (fun v s' => s' = s ∧ ∃ x, v = some (.int x) ∧ Q (.inr (x)))) 40 [(0, .ref 950), (1, .int (y0)), (2, .int (y1)), (3, .int (y2))] [] (t_m s) 1065 0 0) (hk : t_hk (k_X13_isToldOutside_67 l1 l3 k0 s) Q) : mj_G D cy ad bs X cX13_isToldOutside 4 yX13_isToldOutside.cls (some .boolean) yX13_isToldOutside.name 0 0 0 1065 (t_P (fun v s' => s' = s ∧ ∃ x, v = some (.int x) ∧ Q (.inr (x)))) 67 [(0, .ref 950), (1, .int l1), (3, .int l3)] [.int k0] (t_m s) 1065 0 0 := by
  refine mj_istore_n 2 (lv2 := [(2, .int k0), (0, .ref 950), (1, .int l1), (3, .int l3)]) dX13_isToldOutside_67 rfl (by decide) rfl ?_
  refine mj_iinc (k := 3) (v := (l3 + 1)) (lv2 := [(3, .int (l3 + 1)), (2, .int k0), (0, .ref 950), (1, .int l1)]) dX13_isToldOutside_68 rfl rfl (by decide) rfl ?_
  refine mj_goto 40 dX13_isToldOutside_71 (by decide) ?_
  refine mj_sublv [(0, .ref 950), (1, .int l1), (2, .int k0), (3, .int (l3 + 1))] [2, 3, 1, 0] rfl ?_
  exact t_somK hk (fun hf => Hb40 l1 k0 (l3 + 1) hf)
noncomputable def k_X13_isToldOutside_139 (l1 : Int32) (l3 : Int32) (k0 : Int32) (s : t_S) : Option ((Int32 × Int32 × Int32) ⊕ (Int32)) :=
 some (.inl (l1, k0, (l3 + 1)))
set_option maxRecDepth 4000 in
set_option maxHeartbeats 1000000 in
theorem B_X13_isToldOutside_139 {D : va_G} {cy : Nat → ClassId} {ad : Nat → Nat} {bs : Nat} {X : State → Heap → Prop} (l1 : Int32) (l3 : Int32) (k0 : Int32) (s : t_S) (Q : (Int32 × Int32 × Int32) ⊕ (Int32) → Prop) (Hb112 : ∀ (y0 : Int32) (y1 : Int32) (y2 : Int32), Q (.inl (y0, y1, y2)) → mj_G D cy ad bs X cX13_isToldOutside 4 yX13_isToldOutside.cls (some .boolean) yX13_isToldOutside.name 0 0 0 1065 (t_P (fun v s' => s' = s ∧ ∃ x, v = some (.int x) ∧ Q (.inr (x)))) 112 [(0, .ref 950), (1, .int (y0)), (2, .int (y1)), (3, .int (y2))] [] (t_m s) 1065 0 0) (hk : t_hk (k_X13_isToldOutside_139 l1 l3 k0 s) Q) : mj_G D cy ad bs X cX13_isToldOutside 4 yX13_isToldOutside.cls (some .boolean) yX13_isToldOutside.name 0 0 0 1065 (t_P (fun v s' => s' = s ∧ ∃ x, v = some (.int x) ∧ Q (.inr (x)))) 139 [(0, .ref 950), (1, .int l1), (3, .int l3)] [.int k0] (t_m s) 1065 0 0 := by
  refine mj_istore_n 2 (lv2 := [(2, .int k0), (0, .ref 950), (1, .int l1), (3, .int l3)]) dX13_isToldOutside_139 rfl (by decide) rfl ?_
  refine mj_iinc (k := 3) (v := (l3 + 1)) (lv2 := [(3, .int (l3 + 1)), (2, .int k0), (0, .ref 950), (1, .int l1)]) dX13_isToldOutside_140 rfl rfl (by decide) rfl ?_
  refine mj_goto 112 dX13_isToldOutside_143 (by decide) ?_
  refine mj_sublv [(0, .ref 950), (1, .int l1), (2, .int k0), (3, .int (l3 + 1))] [2, 3, 1, 0] rfl ?_
  exact t_somK hk (fun hf => Hb112 l1 k0 (l3 + 1) hf)
noncomputable def k_X13_isToldOutside_134 (l1 : Int32) (l3 : Int32) (s : t_S) : Option ((Int32 × Int32 × Int32) ⊕ (Int32)) :=
 k_X13_isToldOutside_139 l1 l3 1 s
set_option maxRecDepth 4000 in
set_option maxHeartbeats 1000000 in
theorem B_X13_isToldOutside_134 {D : va_G} {cy : Nat → ClassId} {ad : Nat → Nat} {bs : Nat} {X : State → Heap → Prop} (l1 : Int32) (l3 : Int32) (s : t_S) (Q : (Int32 × Int32 × Int32) ⊕ (Int32) → Prop) (Hb112 : ∀ (y0 : Int32) (y1 : Int32) (y2 : Int32), Q (.inl (y0, y1, y2)) → mj_G D cy ad bs X cX13_isToldOutside 4 yX13_isToldOutside.cls (some .boolean) yX13_isToldOutside.name 0 0 0 1065 (t_P (fun v s' => s' = s ∧ ∃ x, v = some (.int x) ∧ Q (.inr (x)))) 112 [(0, .ref 950), (1, .int (y0)), (2, .int (y1)), (3, .int (y2))] [] (t_m s) 1065 0 0) (hk : t_hk (k_X13_isToldOutside_134 l1 l3 s) Q) : mj_G D cy ad bs X cX13_isToldOutside 4 yX13_isToldOutside.cls (some .boolean) yX13_isToldOutside.name 0 0 0 1065 (t_P (fun v s' => s' = s ∧ ∃ x, v = some (.int x) ∧ Q (.inr (x)))) 134 [(0, .ref 950), (1, .int l1), (3, .int l3)] [] (t_m s) 1065 0 0 := by
  refine mj_iconst (v := 1) dX13_isToldOutside_134 (by decide) ?_
  refine mj_goto 139 dX13_isToldOutside_135 (by decide) ?_
  exact B_X13_isToldOutside_139 _ _ _ _ _ (fun y0 y1 y2 hx => Hb112 y0 y1 y2 hx) hk
noncomputable def k_X13_isToldOutside_112 (l1 : Int32) (l2 : Int32) (l3 : Int32) (s : t_S) : Option ((Int32 × Int32 × Int32) ⊕ (Int32)) :=
 if (s.1 950 64) ≤ l3 then ((if l2 = 0 ∨ l2 = 1 then
  some (l2)
else none).map Sum.inr)
 else (if l2 = (0 : Int32) then (if t_ix l3 40 = true then
  if (s.1 980 (l3.toNatClampNeg)) = l1 then (k_X13_isToldOutside_134 l1 l3 s)
 else (k_X13_isToldOutside_139 l1 l3 0 s)
else none)
 else (k_X13_isToldOutside_134 l1 l3 s))
set_option maxRecDepth 4000 in
set_option maxHeartbeats 1000000 in
theorem B_X13_isToldOutside_112 {D : va_G} {cy : Nat → ClassId} {ad : Nat → Nat} {bs : Nat} {X : State → Heap → Prop} (l1 : Int32) (l2 : Int32) (l3 : Int32) (s : t_S) (Q : (Int32 × Int32 × Int32) ⊕ (Int32) → Prop) (Hb112 : ∀ (y0 : Int32) (y1 : Int32) (y2 : Int32), Q (.inl (y0, y1, y2)) → mj_G D cy ad bs X cX13_isToldOutside 4 yX13_isToldOutside.cls (some .boolean) yX13_isToldOutside.name 0 0 0 1065 (t_P (fun v s' => s' = s ∧ ∃ x, v = some (.int x) ∧ Q (.inr (x)))) 112 [(0, .ref 950), (1, .int (y0)), (2, .int (y1)), (3, .int (y2))] [] (t_m s) 1065 0 0) (hk : t_hk (k_X13_isToldOutside_112 l1 l2 l3 s) Q) : mj_G D cy ad bs X cX13_isToldOutside 4 yX13_isToldOutside.cls (some .boolean) yX13_isToldOutside.name 0 0 0 1065 (t_P (fun v s' => s' = s ∧ ∃ x, v = some (.int x) ∧ Q (.inr (x)))) 112 [(0, .ref 950), (1, .int l1), (2, .int l2), (3, .int l3)] [] (t_m s) 1065 0 0 := by
  refine mj_iload_n dX13_isToldOutside_112 3 rfl ?_
  refine mj_aload_n dX13_isToldOutside_113 0 rfl ?_
  refine t_getI dX13_isToldOutside_114 F_X13_633 qf_950_64 ?_
  refine mj_icmp_ge 146 dX13_isToldOutside_117 (by decide) (fun z => t_posK hk z (fun hk => ?_)) (fun z => t_negK hk z (fun hk => ?_))
  · refine t_mapK hk (fun hk => ?_)
    refine mj_iload_n dX13_isToldOutside_146 2 rfl ?_
    refine t_chkK hk (fun c0 hk => ?_)
    exact t_somK hk (fun hf => t_iret dX13_isToldOutside_147 rfl (t_zfit c0) ⟨rfl, _, rfl, hf⟩ (Nat.le_of_ble_eq_true rfl) (Nat.le_of_ble_eq_true rfl))
  · refine mj_iload_n dX13_isToldOutside_120 2 rfl ?_
    refine mj_if_ne 134 dX13_isToldOutside_121 (by decide) (fun z => t_negK hk z (fun hk => ?_)) (fun z => t_posK hk z (fun hk => ?_))
    · refine mj_sublv [(0, .ref 950), (1, .int l1), (3, .int l3)] [0, 1, 3] rfl ?_
      exact B_X13_isToldOutside_134 _ _ _ _ (fun y0 y1 y2 hx => Hb112 y0 y1 y2 hx) hk
    · refine mj_aload_n dX13_isToldOutside_124 0 rfl ?_
      refine t_getR 980 dX13_isToldOutside_125 F_X13_102 qr_950_56 ?_
      refine mj_iload_n dX13_isToldOutside_128 3 rfl ?_
      refine t_chkK hk (fun c1 hk => ?_)
      refine t_iald dX13_isToldOutside_129 qa_980 (t_ixv c1) ?_
      refine mj_iload_n dX13_isToldOutside_130 1 rfl ?_
      refine mj_icmp_ne 138 dX13_isToldOutside_131 (by decide) (fun z => t_negK hk z (fun hk => ?_)) (fun z => t_posK hk z (fun hk => ?_))
      · refine mj_iconst (v := 0) dX13_isToldOutside_138 (by decide) ?_
        refine mj_sublv [(0, .ref 950), (1, .int l1), (3, .int l3)] [0, 1, 3] rfl ?_
        exact B_X13_isToldOutside_139 _ _ _ _ _ (fun y0 y1 y2 hx => Hb112 y0 y1 y2 hx) hk
      · refine mj_sublv [(0, .ref 950), (1, .int l1), (3, .int l3)] [0, 1, 3] rfl ?_
        exact B_X13_isToldOutside_134 _ _ _ _ (fun y0 y1 y2 hx => Hb112 y0 y1 y2 hx) hk
noncomputable def b_X13_isToldOutside_112 (s : t_S) (x : Int32 × Int32 × Int32) : Option ((Int32 × Int32 × Int32) ⊕ (Int32)) := k_X13_isToldOutside_112 x.1 x.2.1 x.2.2 s
set_option maxRecDepth 4000 in
set_option maxHeartbeats 1000000 in
theorem LH_X13_isToldOutside_112 {D : va_G} {cy : Nat → ClassId} {ad : Nat → Nat} {bs : Nat} {X : State → Heap → Prop} (s : t_S) : ∀ (n : Nat) (y0 : Int32) (y1 : Int32) (y2 : Int32) (Q : Int32 → Prop) (hk : t_hk (t_loop (b_X13_isToldOutside_112 s) n (y0, y1, y2)) Q), mj_G D cy ad bs X cX13_isToldOutside 4 yX13_isToldOutside.cls (some .boolean) yX13_isToldOutside.name 0 0 0 1065 (t_P (fun v s' => s' = s ∧ ∃ x, v = some (.int x) ∧ Q (x))) 112 [(0, .ref 950), (1, .int (y0)), (2, .int (y1)), (3, .int (y2))] [] (t_m s) 1065 0 0 := by
  intro n
  induction n with
  | zero => intro y0 y1 y2 Q hk; obtain ⟨r, hr, _⟩ := hk; cases hr
  | succ n ih =>
    intro y0 y1 y2 Q hk
    exact B_X13_isToldOutside_112 y0 y1 y2 s (fun y => t_lq (b_X13_isToldOutside_112 s) n Q y) (fun y0' y1' y2' hy => ih y0' y1' y2' Q hy) (t_lp (b := b_X13_isToldOutside_112 s) (n := n) (x := (y0, y1, y2)) hk)
noncomputable def k_X13_isToldOutside_103 (l1 : Int32) (l3 : Int32) (k0 : Int32) (s : t_S) : Option ((Int32 × Int32 × Int32) ⊕ (Int32)) :=
 some (.inl (l1, k0, (l3 + 1)))
set_option maxRecDepth 4000 in
set_option maxHeartbeats 1000000 in
theorem B_X13_isToldOutside_103 {D : va_G} {cy : Nat → ClassId} {ad : Nat → Nat} {bs : Nat} {X : State → Heap → Prop} (l1 : Int32) (l3 : Int32) (k0 : Int32) (s : t_S) (Q : (Int32 × Int32 × Int32) ⊕ (Int32) → Prop) (Hb76 : ∀ (y0 : Int32) (y1 : Int32) (y2 : Int32), Q (.inl (y0, y1, y2)) → mj_G D cy ad bs X cX13_isToldOutside 4 yX13_isToldOutside.cls (some .boolean) yX13_isToldOutside.name 0 0 0 1065 (t_P (fun v s' => s' = s ∧ ∃ x, v = some (.int x) ∧ Q (.inr (x)))) 76 [(0, .ref 950), (1, .int (y0)), (2, .int (y1)), (3, .int (y2))] [] (t_m s) 1065 0 0) (hk : t_hk (k_X13_isToldOutside_103 l1 l3 k0 s) Q) : mj_G D cy ad bs X cX13_isToldOutside 4 yX13_isToldOutside.cls (some .boolean) yX13_isToldOutside.name 0 0 0 1065 (t_P (fun v s' => s' = s ∧ ∃ x, v = some (.int x) ∧ Q (.inr (x)))) 103 [(0, .ref 950), (1, .int l1), (3, .int l3)] [.int k0] (t_m s) 1065 0 0 := by
  refine mj_istore_n 2 (lv2 := [(2, .int k0), (0, .ref 950), (1, .int l1), (3, .int l3)]) dX13_isToldOutside_103 rfl (by decide) rfl ?_
  refine mj_iinc (k := 3) (v := (l3 + 1)) (lv2 := [(3, .int (l3 + 1)), (2, .int k0), (0, .ref 950), (1, .int l1)]) dX13_isToldOutside_104 rfl rfl (by decide) rfl ?_
  refine mj_goto 76 dX13_isToldOutside_107 (by decide) ?_
  refine mj_sublv [(0, .ref 950), (1, .int l1), (2, .int k0), (3, .int (l3 + 1))] [2, 3, 1, 0] rfl ?_
  exact t_somK hk (fun hf => Hb76 l1 k0 (l3 + 1) hf)
noncomputable def k_X13_isToldOutside_98 (l1 : Int32) (l3 : Int32) (s : t_S) : Option ((Int32 × Int32 × Int32) ⊕ (Int32)) :=
 k_X13_isToldOutside_103 l1 l3 1 s
set_option maxRecDepth 4000 in
set_option maxHeartbeats 1000000 in
theorem B_X13_isToldOutside_98 {D : va_G} {cy : Nat → ClassId} {ad : Nat → Nat} {bs : Nat} {X : State → Heap → Prop} (l1 : Int32) (l3 : Int32) (s : t_S) (Q : (Int32 × Int32 × Int32) ⊕ (Int32) → Prop) (Hb76 : ∀ (y0 : Int32) (y1 : Int32) (y2 : Int32), Q (.inl (y0, y1, y2)) → mj_G D cy ad bs X cX13_isToldOutside 4 yX13_isToldOutside.cls (some .boolean) yX13_isToldOutside.name 0 0 0 1065 (t_P (fun v s' => s' = s ∧ ∃ x, v = some (.int x) ∧ Q (.inr (x)))) 76 [(0, .ref 950), (1, .int (y0)), (2, .int (y1)), (3, .int (y2))] [] (t_m s) 1065 0 0) (hk : t_hk (k_X13_isToldOutside_98 l1 l3 s) Q) : mj_G D cy ad bs X cX13_isToldOutside 4 yX13_isToldOutside.cls (some .boolean) yX13_isToldOutside.name 0 0 0 1065 (t_P (fun v s' => s' = s ∧ ∃ x, v = some (.int x) ∧ Q (.inr (x)))) 98 [(0, .ref 950), (1, .int l1), (3, .int l3)] [] (t_m s) 1065 0 0 := by
  refine mj_iconst (v := 1) dX13_isToldOutside_98 (by decide) ?_
  refine mj_goto 103 dX13_isToldOutside_99 (by decide) ?_
  exact B_X13_isToldOutside_103 _ _ _ _ _ (fun y0 y1 y2 hx => Hb76 y0 y1 y2 hx) hk
noncomputable def k_X13_isToldOutside_76 (l1 : Int32) (l2 : Int32) (l3 : Int32) (s : t_S) : Option ((Int32 × Int32 × Int32) ⊕ (Int32)) :=
 if (s.1 950 55) ≤ l3 then ((t_loop (b_X13_isToldOutside_112 s) t_N (l1, l2, 0)).map Sum.inr)
 else (if l2 = (0 : Int32) then (if t_ix l3 8 = true then
  if (s.1 970 (l3.toNatClampNeg)) = l1 then (k_X13_isToldOutside_98 l1 l3 s)
 else (k_X13_isToldOutside_103 l1 l3 0 s)
else none)
 else (k_X13_isToldOutside_98 l1 l3 s))
set_option maxRecDepth 4000 in
set_option maxHeartbeats 1000000 in
theorem B_X13_isToldOutside_76 {D : va_G} {cy : Nat → ClassId} {ad : Nat → Nat} {bs : Nat} {X : State → Heap → Prop} (l1 : Int32) (l2 : Int32) (l3 : Int32) (s : t_S) (Q : (Int32 × Int32 × Int32) ⊕ (Int32) → Prop) (Hb76 : ∀ (y0 : Int32) (y1 : Int32) (y2 : Int32), Q (.inl (y0, y1, y2)) → mj_G D cy ad bs X cX13_isToldOutside 4 yX13_isToldOutside.cls (some .boolean) yX13_isToldOutside.name 0 0 0 1065 (t_P (fun v s' => s' = s ∧ ∃ x, v = some (.int x) ∧ Q (.inr (x)))) 76 [(0, .ref 950), (1, .int (y0)), (2, .int (y1)), (3, .int (y2))] [] (t_m s) 1065 0 0) (hk : t_hk (k_X13_isToldOutside_76 l1 l2 l3 s) Q) : mj_G D cy ad bs X cX13_isToldOutside 4 yX13_isToldOutside.cls (some .boolean) yX13_isToldOutside.name 0 0 0 1065 (t_P (fun v s' => s' = s ∧ ∃ x, v = some (.int x) ∧ Q (.inr (x)))) 76 [(0, .ref 950), (1, .int l1), (2, .int l2), (3, .int l3)] [] (t_m s) 1065 0 0 := by
  refine mj_iload_n dX13_isToldOutside_76 3 rfl ?_
  refine mj_aload_n dX13_isToldOutside_77 0 rfl ?_
  refine t_getI dX13_isToldOutside_78 F_X13_630 qf_950_55 ?_
  refine mj_icmp_ge 110 dX13_isToldOutside_81 (by decide) (fun z => t_posK hk z (fun hk => ?_)) (fun z => t_negK hk z (fun hk => ?_))
  · refine t_mapK hk (fun hk => ?_)
    refine mj_iconst (v := 0) dX13_isToldOutside_110 (by decide) ?_
    refine mj_istore_n 3 (lv2 := [(3, .int 0), (0, .ref 950), (1, .int l1), (2, .int l2)]) dX13_isToldOutside_111 rfl (by decide) rfl ?_
    refine mj_sublv [(0, .ref 950), (1, .int l1), (2, .int l2), (3, .int 0)] [1, 2, 3, 0] rfl ?_
    exact LH_X13_isToldOutside_112 _ _ l1 l2 0 _ hk
  · refine mj_iload_n dX13_isToldOutside_84 2 rfl ?_
    refine mj_if_ne 98 dX13_isToldOutside_85 (by decide) (fun z => t_negK hk z (fun hk => ?_)) (fun z => t_posK hk z (fun hk => ?_))
    · refine mj_sublv [(0, .ref 950), (1, .int l1), (3, .int l3)] [0, 1, 3] rfl ?_
      exact B_X13_isToldOutside_98 _ _ _ _ (fun y0 y1 y2 hx => Hb76 y0 y1 y2 hx) hk
    · refine mj_aload_n dX13_isToldOutside_88 0 rfl ?_
      refine t_getR 970 dX13_isToldOutside_89 F_X13_72 qr_950_45 ?_
      refine mj_iload_n dX13_isToldOutside_92 3 rfl ?_
      refine t_chkK hk (fun c0 hk => ?_)
      refine t_iald dX13_isToldOutside_93 qa_970 (t_ixv c0) ?_
      refine mj_iload_n dX13_isToldOutside_94 1 rfl ?_
      refine mj_icmp_ne 102 dX13_isToldOutside_95 (by decide) (fun z => t_negK hk z (fun hk => ?_)) (fun z => t_posK hk z (fun hk => ?_))
      · refine mj_iconst (v := 0) dX13_isToldOutside_102 (by decide) ?_
        refine mj_sublv [(0, .ref 950), (1, .int l1), (3, .int l3)] [0, 1, 3] rfl ?_
        exact B_X13_isToldOutside_103 _ _ _ _ _ (fun y0 y1 y2 hx => Hb76 y0 y1 y2 hx) hk
      · refine mj_sublv [(0, .ref 950), (1, .int l1), (3, .int l3)] [0, 1, 3] rfl ?_
        exact B_X13_isToldOutside_98 _ _ _ _ (fun y0 y1 y2 hx => Hb76 y0 y1 y2 hx) hk
noncomputable def b_X13_isToldOutside_76 (s : t_S) (x : Int32 × Int32 × Int32) : Option ((Int32 × Int32 × Int32) ⊕ (Int32)) := k_X13_isToldOutside_76 x.1 x.2.1 x.2.2 s
set_option maxRecDepth 4000 in
set_option maxHeartbeats 1000000 in
theorem LH_X13_isToldOutside_76 {D : va_G} {cy : Nat → ClassId} {ad : Nat → Nat} {bs : Nat} {X : State → Heap → Prop} (s : t_S) : ∀ (n : Nat) (y0 : Int32) (y1 : Int32) (y2 : Int32) (Q : Int32 → Prop) (hk : t_hk (t_loop (b_X13_isToldOutside_76 s) n (y0, y1, y2)) Q), mj_G D cy ad bs X cX13_isToldOutside 4 yX13_isToldOutside.cls (some .boolean) yX13_isToldOutside.name 0 0 0 1065 (t_P (fun v s' => s' = s ∧ ∃ x, v = some (.int x) ∧ Q (x))) 76 [(0, .ref 950), (1, .int (y0)), (2, .int (y1)), (3, .int (y2))] [] (t_m s) 1065 0 0 := by
  intro n
  induction n with
  | zero => intro y0 y1 y2 Q hk; obtain ⟨r, hr, _⟩ := hk; cases hr
  | succ n ih =>
    intro y0 y1 y2 Q hk
    exact B_X13_isToldOutside_76 y0 y1 y2 s (fun y => t_lq (b_X13_isToldOutside_76 s) n Q y) (fun y0' y1' y2' hy => ih y0' y1' y2' Q hy) (t_lp (b := b_X13_isToldOutside_76 s) (n := n) (x := (y0, y1, y2)) hk)
noncomputable def k_X13_isToldOutside_62 (l1 : Int32) (l3 : Int32) (s : t_S) : Option ((Int32 × Int32 × Int32) ⊕ (Int32)) :=
 k_X13_isToldOutside_67 l1 l3 1 s
set_option maxRecDepth 4000 in
set_option maxHeartbeats 1000000 in
theorem B_X13_isToldOutside_62 {D : va_G} {cy : Nat → ClassId} {ad : Nat → Nat} {bs : Nat} {X : State → Heap → Prop} (l1 : Int32) (l3 : Int32) (s : t_S) (Q : (Int32 × Int32 × Int32) ⊕ (Int32) → Prop) (Hb40 : ∀ (y0 : Int32) (y1 : Int32) (y2 : Int32), Q (.inl (y0, y1, y2)) → mj_G D cy ad bs X cX13_isToldOutside 4 yX13_isToldOutside.cls (some .boolean) yX13_isToldOutside.name 0 0 0 1065 (t_P (fun v s' => s' = s ∧ ∃ x, v = some (.int x) ∧ Q (.inr (x)))) 40 [(0, .ref 950), (1, .int (y0)), (2, .int (y1)), (3, .int (y2))] [] (t_m s) 1065 0 0) (hk : t_hk (k_X13_isToldOutside_62 l1 l3 s) Q) : mj_G D cy ad bs X cX13_isToldOutside 4 yX13_isToldOutside.cls (some .boolean) yX13_isToldOutside.name 0 0 0 1065 (t_P (fun v s' => s' = s ∧ ∃ x, v = some (.int x) ∧ Q (.inr (x)))) 62 [(0, .ref 950), (1, .int l1), (3, .int l3)] [] (t_m s) 1065 0 0 := by
  refine mj_iconst (v := 1) dX13_isToldOutside_62 (by decide) ?_
  refine mj_goto 67 dX13_isToldOutside_63 (by decide) ?_
  exact B_X13_isToldOutside_67 _ _ _ _ _ (fun y0 y1 y2 hx => Hb40 y0 y1 y2 hx) hk
noncomputable def k_X13_isToldOutside_40 (l1 : Int32) (l2 : Int32) (l3 : Int32) (s : t_S) : Option ((Int32 × Int32 × Int32) ⊕ (Int32)) :=
 if (s.1 950 44) ≤ l3 then ((t_loop (b_X13_isToldOutside_76 s) t_N (l1, l2, 0)).map Sum.inr)
 else (if l2 = (0 : Int32) then (if t_ix l3 60 = true then
  if (s.1 967 (l3.toNatClampNeg)) = l1 then (k_X13_isToldOutside_62 l1 l3 s)
 else (k_X13_isToldOutside_67 l1 l3 0 s)
else none)
 else (k_X13_isToldOutside_62 l1 l3 s))
set_option maxRecDepth 4000 in
set_option maxHeartbeats 1000000 in
theorem B_X13_isToldOutside_40 {D : va_G} {cy : Nat → ClassId} {ad : Nat → Nat} {bs : Nat} {X : State → Heap → Prop} (l1 : Int32) (l2 : Int32) (l3 : Int32) (s : t_S) (Q : (Int32 × Int32 × Int32) ⊕ (Int32) → Prop) (Hb40 : ∀ (y0 : Int32) (y1 : Int32) (y2 : Int32), Q (.inl (y0, y1, y2)) → mj_G D cy ad bs X cX13_isToldOutside 4 yX13_isToldOutside.cls (some .boolean) yX13_isToldOutside.name 0 0 0 1065 (t_P (fun v s' => s' = s ∧ ∃ x, v = some (.int x) ∧ Q (.inr (x)))) 40 [(0, .ref 950), (1, .int (y0)), (2, .int (y1)), (3, .int (y2))] [] (t_m s) 1065 0 0) (hk : t_hk (k_X13_isToldOutside_40 l1 l2 l3 s) Q) : mj_G D cy ad bs X cX13_isToldOutside 4 yX13_isToldOutside.cls (some .boolean) yX13_isToldOutside.name 0 0 0 1065 (t_P (fun v s' => s' = s ∧ ∃ x, v = some (.int x) ∧ Q (.inr (x)))) 40 [(0, .ref 950), (1, .int l1), (2, .int l2), (3, .int l3)] [] (t_m s) 1065 0 0 := by
  refine mj_iload_n dX13_isToldOutside_40 3 rfl ?_
  refine mj_aload_n dX13_isToldOutside_41 0 rfl ?_
  refine t_getI dX13_isToldOutside_42 F_X13_627 qf_950_44 ?_
  refine mj_icmp_ge 74 dX13_isToldOutside_45 (by decide) (fun z => t_posK hk z (fun hk => ?_)) (fun z => t_negK hk z (fun hk => ?_))
  · refine t_mapK hk (fun hk => ?_)
    refine mj_iconst (v := 0) dX13_isToldOutside_74 (by decide) ?_
    refine mj_istore_n 3 (lv2 := [(3, .int 0), (0, .ref 950), (1, .int l1), (2, .int l2)]) dX13_isToldOutside_75 rfl (by decide) rfl ?_
    refine mj_sublv [(0, .ref 950), (1, .int l1), (2, .int l2), (3, .int 0)] [1, 2, 3, 0] rfl ?_
    exact LH_X13_isToldOutside_76 _ _ l1 l2 0 _ hk
  · refine mj_iload_n dX13_isToldOutside_48 2 rfl ?_
    refine mj_if_ne 62 dX13_isToldOutside_49 (by decide) (fun z => t_negK hk z (fun hk => ?_)) (fun z => t_posK hk z (fun hk => ?_))
    · refine mj_sublv [(0, .ref 950), (1, .int l1), (3, .int l3)] [0, 1, 3] rfl ?_
      exact B_X13_isToldOutside_62 _ _ _ _ (fun y0 y1 y2 hx => Hb40 y0 y1 y2 hx) hk
    · refine mj_aload_n dX13_isToldOutside_52 0 rfl ?_
      refine t_getR 967 dX13_isToldOutside_53 F_X13_63 qr_950_41 ?_
      refine mj_iload_n dX13_isToldOutside_56 3 rfl ?_
      refine t_chkK hk (fun c0 hk => ?_)
      refine t_iald dX13_isToldOutside_57 qa_967 (t_ixv c0) ?_
      refine mj_iload_n dX13_isToldOutside_58 1 rfl ?_
      refine mj_icmp_ne 66 dX13_isToldOutside_59 (by decide) (fun z => t_negK hk z (fun hk => ?_)) (fun z => t_posK hk z (fun hk => ?_))
      · refine mj_iconst (v := 0) dX13_isToldOutside_66 (by decide) ?_
        refine mj_sublv [(0, .ref 950), (1, .int l1), (3, .int l3)] [0, 1, 3] rfl ?_
        exact B_X13_isToldOutside_67 _ _ _ _ _ (fun y0 y1 y2 hx => Hb40 y0 y1 y2 hx) hk
      · refine mj_sublv [(0, .ref 950), (1, .int l1), (3, .int l3)] [0, 1, 3] rfl ?_
        exact B_X13_isToldOutside_62 _ _ _ _ (fun y0 y1 y2 hx => Hb40 y0 y1 y2 hx) hk
noncomputable def b_X13_isToldOutside_40 (s : t_S) (x : Int32 × Int32 × Int32) : Option ((Int32 × Int32 × Int32) ⊕ (Int32)) := k_X13_isToldOutside_40 x.1 x.2.1 x.2.2 s
set_option maxRecDepth 4000 in
set_option maxHeartbeats 1000000 in
theorem LH_X13_isToldOutside_40 {D : va_G} {cy : Nat → ClassId} {ad : Nat → Nat} {bs : Nat} {X : State → Heap → Prop} (s : t_S) : ∀ (n : Nat) (y0 : Int32) (y1 : Int32) (y2 : Int32) (Q : Int32 → Prop) (hk : t_hk (t_loop (b_X13_isToldOutside_40 s) n (y0, y1, y2)) Q), mj_G D cy ad bs X cX13_isToldOutside 4 yX13_isToldOutside.cls (some .boolean) yX13_isToldOutside.name 0 0 0 1065 (t_P (fun v s' => s' = s ∧ ∃ x, v = some (.int x) ∧ Q (x))) 40 [(0, .ref 950), (1, .int (y0)), (2, .int (y1)), (3, .int (y2))] [] (t_m s) 1065 0 0 := by
  intro n
  induction n with
  | zero => intro y0 y1 y2 Q hk; obtain ⟨r, hr, _⟩ := hk; cases hr
  | succ n ih =>
    intro y0 y1 y2 Q hk
    exact B_X13_isToldOutside_40 y0 y1 y2 s (fun y => t_lq (b_X13_isToldOutside_40 s) n Q y) (fun y0' y1' y2' hy => ih y0' y1' y2' Q hy) (t_lp (b := b_X13_isToldOutside_40 s) (n := n) (x := (y0, y1, y2)) hk)
noncomputable def k_X13_isToldOutside_31 (l1 : Int32) (l3 : Int32) (k0 : Int32) (s : t_S) : Option ((Int32 × Int32 × Int32) ⊕ (Int32)) :=
 some (.inl (l1, k0, (l3 + 1)))
set_option maxRecDepth 4000 in
set_option maxHeartbeats 1000000 in
theorem B_X13_isToldOutside_31 {D : va_G} {cy : Nat → ClassId} {ad : Nat → Nat} {bs : Nat} {X : State → Heap → Prop} (l1 : Int32) (l3 : Int32) (k0 : Int32) (s : t_S) (Q : (Int32 × Int32 × Int32) ⊕ (Int32) → Prop) (Hb4 : ∀ (y0 : Int32) (y1 : Int32) (y2 : Int32), Q (.inl (y0, y1, y2)) → mj_G D cy ad bs X cX13_isToldOutside 4 yX13_isToldOutside.cls (some .boolean) yX13_isToldOutside.name 0 0 0 1065 (t_P (fun v s' => s' = s ∧ ∃ x, v = some (.int x) ∧ Q (.inr (x)))) 4 [(0, .ref 950), (1, .int (y0)), (2, .int (y1)), (3, .int (y2))] [] (t_m s) 1065 0 0) (hk : t_hk (k_X13_isToldOutside_31 l1 l3 k0 s) Q) : mj_G D cy ad bs X cX13_isToldOutside 4 yX13_isToldOutside.cls (some .boolean) yX13_isToldOutside.name 0 0 0 1065 (t_P (fun v s' => s' = s ∧ ∃ x, v = some (.int x) ∧ Q (.inr (x)))) 31 [(0, .ref 950), (1, .int l1), (3, .int l3)] [.int k0] (t_m s) 1065 0 0 := by
  refine mj_istore_n 2 (lv2 := [(2, .int k0), (0, .ref 950), (1, .int l1), (3, .int l3)]) dX13_isToldOutside_31 rfl (by decide) rfl ?_
  refine mj_iinc (k := 3) (v := (l3 + 1)) (lv2 := [(3, .int (l3 + 1)), (2, .int k0), (0, .ref 950), (1, .int l1)]) dX13_isToldOutside_32 rfl rfl (by decide) rfl ?_
  refine mj_goto 4 dX13_isToldOutside_35 (by decide) ?_
  refine mj_sublv [(0, .ref 950), (1, .int l1), (2, .int k0), (3, .int (l3 + 1))] [2, 3, 1, 0] rfl ?_
  exact t_somK hk (fun hf => Hb4 l1 k0 (l3 + 1) hf)
noncomputable def k_X13_isToldOutside_26 (l1 : Int32) (l3 : Int32) (s : t_S) : Option ((Int32 × Int32 × Int32) ⊕ (Int32)) :=
 k_X13_isToldOutside_31 l1 l3 1 s
set_option maxRecDepth 4000 in
set_option maxHeartbeats 1000000 in
theorem B_X13_isToldOutside_26 {D : va_G} {cy : Nat → ClassId} {ad : Nat → Nat} {bs : Nat} {X : State → Heap → Prop} (l1 : Int32) (l3 : Int32) (s : t_S) (Q : (Int32 × Int32 × Int32) ⊕ (Int32) → Prop) (Hb4 : ∀ (y0 : Int32) (y1 : Int32) (y2 : Int32), Q (.inl (y0, y1, y2)) → mj_G D cy ad bs X cX13_isToldOutside 4 yX13_isToldOutside.cls (some .boolean) yX13_isToldOutside.name 0 0 0 1065 (t_P (fun v s' => s' = s ∧ ∃ x, v = some (.int x) ∧ Q (.inr (x)))) 4 [(0, .ref 950), (1, .int (y0)), (2, .int (y1)), (3, .int (y2))] [] (t_m s) 1065 0 0) (hk : t_hk (k_X13_isToldOutside_26 l1 l3 s) Q) : mj_G D cy ad bs X cX13_isToldOutside 4 yX13_isToldOutside.cls (some .boolean) yX13_isToldOutside.name 0 0 0 1065 (t_P (fun v s' => s' = s ∧ ∃ x, v = some (.int x) ∧ Q (.inr (x)))) 26 [(0, .ref 950), (1, .int l1), (3, .int l3)] [] (t_m s) 1065 0 0 := by
  refine mj_iconst (v := 1) dX13_isToldOutside_26 (by decide) ?_
  refine mj_goto 31 dX13_isToldOutside_27 (by decide) ?_
  exact B_X13_isToldOutside_31 _ _ _ _ _ (fun y0 y1 y2 hx => Hb4 y0 y1 y2 hx) hk
noncomputable def k_X13_isToldOutside_4 (l1 : Int32) (l2 : Int32) (l3 : Int32) (s : t_S) : Option ((Int32 × Int32 × Int32) ⊕ (Int32)) :=
 if (s.1 950 40) ≤ l3 then ((t_loop (b_X13_isToldOutside_40 s) t_N (l1, l2, 0)).map Sum.inr)
 else (if l2 = (0 : Int32) then (if t_ix l3 60 = true then
  if (s.1 964 (l3.toNatClampNeg)) = l1 then (k_X13_isToldOutside_26 l1 l3 s)
 else (k_X13_isToldOutside_31 l1 l3 0 s)
else none)
 else (k_X13_isToldOutside_26 l1 l3 s))
set_option maxRecDepth 4000 in
set_option maxHeartbeats 1000000 in
theorem B_X13_isToldOutside_4 {D : va_G} {cy : Nat → ClassId} {ad : Nat → Nat} {bs : Nat} {X : State → Heap → Prop} (l1 : Int32) (l2 : Int32) (l3 : Int32) (s : t_S) (Q : (Int32 × Int32 × Int32) ⊕ (Int32) → Prop) (Hb4 : ∀ (y0 : Int32) (y1 : Int32) (y2 : Int32), Q (.inl (y0, y1, y2)) → mj_G D cy ad bs X cX13_isToldOutside 4 yX13_isToldOutside.cls (some .boolean) yX13_isToldOutside.name 0 0 0 1065 (t_P (fun v s' => s' = s ∧ ∃ x, v = some (.int x) ∧ Q (.inr (x)))) 4 [(0, .ref 950), (1, .int (y0)), (2, .int (y1)), (3, .int (y2))] [] (t_m s) 1065 0 0) (hk : t_hk (k_X13_isToldOutside_4 l1 l2 l3 s) Q) : mj_G D cy ad bs X cX13_isToldOutside 4 yX13_isToldOutside.cls (some .boolean) yX13_isToldOutside.name 0 0 0 1065 (t_P (fun v s' => s' = s ∧ ∃ x, v = some (.int x) ∧ Q (.inr (x)))) 4 [(0, .ref 950), (1, .int l1), (2, .int l2), (3, .int l3)] [] (t_m s) 1065 0 0 := by
  refine mj_iload_n dX13_isToldOutside_4 3 rfl ?_
  refine mj_aload_n dX13_isToldOutside_5 0 rfl ?_
  refine t_getI dX13_isToldOutside_6 F_X13_624 qf_950_40 ?_
  refine mj_icmp_ge 38 dX13_isToldOutside_9 (by decide) (fun z => t_posK hk z (fun hk => ?_)) (fun z => t_negK hk z (fun hk => ?_))
  · refine t_mapK hk (fun hk => ?_)
    refine mj_iconst (v := 0) dX13_isToldOutside_38 (by decide) ?_
    refine mj_istore_n 3 (lv2 := [(3, .int 0), (0, .ref 950), (1, .int l1), (2, .int l2)]) dX13_isToldOutside_39 rfl (by decide) rfl ?_
    refine mj_sublv [(0, .ref 950), (1, .int l1), (2, .int l2), (3, .int 0)] [1, 2, 3, 0] rfl ?_
    exact LH_X13_isToldOutside_40 _ _ l1 l2 0 _ hk
  · refine mj_iload_n dX13_isToldOutside_12 2 rfl ?_
    refine mj_if_ne 26 dX13_isToldOutside_13 (by decide) (fun z => t_negK hk z (fun hk => ?_)) (fun z => t_posK hk z (fun hk => ?_))
    · refine mj_sublv [(0, .ref 950), (1, .int l1), (3, .int l3)] [0, 1, 3] rfl ?_
      exact B_X13_isToldOutside_26 _ _ _ _ (fun y0 y1 y2 hx => Hb4 y0 y1 y2 hx) hk
    · refine mj_aload_n dX13_isToldOutside_16 0 rfl ?_
      refine t_getR 964 dX13_isToldOutside_17 F_X13_54 qr_950_37 ?_
      refine mj_iload_n dX13_isToldOutside_20 3 rfl ?_
      refine t_chkK hk (fun c0 hk => ?_)
      refine t_iald dX13_isToldOutside_21 qa_964 (t_ixv c0) ?_
      refine mj_iload_n dX13_isToldOutside_22 1 rfl ?_
      refine mj_icmp_ne 30 dX13_isToldOutside_23 (by decide) (fun z => t_negK hk z (fun hk => ?_)) (fun z => t_posK hk z (fun hk => ?_))
      · refine mj_iconst (v := 0) dX13_isToldOutside_30 (by decide) ?_
        refine mj_sublv [(0, .ref 950), (1, .int l1), (3, .int l3)] [0, 1, 3] rfl ?_
        exact B_X13_isToldOutside_31 _ _ _ _ _ (fun y0 y1 y2 hx => Hb4 y0 y1 y2 hx) hk
      · refine mj_sublv [(0, .ref 950), (1, .int l1), (3, .int l3)] [0, 1, 3] rfl ?_
        exact B_X13_isToldOutside_26 _ _ _ _ (fun y0 y1 y2 hx => Hb4 y0 y1 y2 hx) hk
noncomputable def b_X13_isToldOutside_4 (s : t_S) (x : Int32 × Int32 × Int32) : Option ((Int32 × Int32 × Int32) ⊕ (Int32)) := k_X13_isToldOutside_4 x.1 x.2.1 x.2.2 s
set_option maxRecDepth 4000 in
set_option maxHeartbeats 1000000 in
theorem LH_X13_isToldOutside_4 {D : va_G} {cy : Nat → ClassId} {ad : Nat → Nat} {bs : Nat} {X : State → Heap → Prop} (s : t_S) : ∀ (n : Nat) (y0 : Int32) (y1 : Int32) (y2 : Int32) (Q : Int32 → Prop) (hk : t_hk (t_loop (b_X13_isToldOutside_4 s) n (y0, y1, y2)) Q), mj_G D cy ad bs X cX13_isToldOutside 4 yX13_isToldOutside.cls (some .boolean) yX13_isToldOutside.name 0 0 0 1065 (t_P (fun v s' => s' = s ∧ ∃ x, v = some (.int x) ∧ Q (x))) 4 [(0, .ref 950), (1, .int (y0)), (2, .int (y1)), (3, .int (y2))] [] (t_m s) 1065 0 0 := by
  intro n
  induction n with
  | zero => intro y0 y1 y2 Q hk; obtain ⟨r, hr, _⟩ := hk; cases hr
  | succ n ih =>
    intro y0 y1 y2 Q hk
    exact B_X13_isToldOutside_4 y0 y1 y2 s (fun y => t_lq (b_X13_isToldOutside_4 s) n Q y) (fun y0' y1' y2' hy => ih y0' y1' y2' Q hy) (t_lp (b := b_X13_isToldOutside_4 s) (n := n) (x := (y0, y1, y2)) hk)
noncomputable def f_X13_isToldOutside (x1 : Int32) (s : t_S) : Option (Int32) :=
 t_loop (b_X13_isToldOutside_4 s) t_N (x1, 0, 0)
set_option maxRecDepth 4000 in
set_option maxHeartbeats 1000000 in
theorem C_X13_isToldOutside (x1 : Int32) (s : t_S) (r : Int32) (hr : f_X13_isToldOutside x1 s = some r) : t_C yX13_isToldOutside cX13_isToldOutside 4 (some .boolean) 0 [.ref 950, .int x1] s (fun v s' => v = some (.int r) ∧ s' = s) := by
  refine t_C.imp (P := fun v s' => s' = s ∧ ∃ x, v = some (.int x) ∧ (fun q => q = r) (x)) (t_C.of (by decide +kernel) (Nat.le_of_ble_eq_true rfl) ?_) (fun v s' hp => by obtain ⟨rfl, x, rfl, rfl⟩ := hp; exact ⟨rfl, rfl⟩)
  intro D cy ad bs X
  have hk : t_hk (f_X13_isToldOutside x1 s) (fun q => q = r) := ⟨r, hr, rfl⟩
  show mj_G D cy ad bs X cX13_isToldOutside 4 yX13_isToldOutside.cls (some .boolean) yX13_isToldOutside.name 0 0 0 1065 (t_P (fun v s' => s' = s ∧ ∃ x, v = some (.int x) ∧ (fun q => q = r) (x))) 0 [(0, .ref 950), (1, .int x1)] [] (t_m s) 1065 0 0
  refine mj_iconst (v := 0) dX13_isToldOutside_0 (by decide) ?_
  refine mj_istore_n 2 (lv2 := [(2, .int 0), (0, .ref 950), (1, .int x1)]) dX13_isToldOutside_1 rfl (by decide) rfl ?_
  refine mj_iconst (v := 0) dX13_isToldOutside_2 (by decide) ?_
  refine mj_istore_n 3 (lv2 := [(3, .int 0), (2, .int 0), (0, .ref 950), (1, .int x1)]) dX13_isToldOutside_3 rfl (by decide) rfl ?_
  refine mj_sublv [(0, .ref 950), (1, .int x1), (2, .int 0), (3, .int 0)] [2, 3, 1, 0] rfl ?_
  exact LH_X13_isToldOutside_4 _ _ x1 0 0 _ hk

theorem dX13_outside_0 : decode cX13_outside 0 = .ok (.aload_n 0, 1) := by decide +kernel
theorem dX13_outside_1 : decode cX13_outside 1 = .ok (.invokevirtual 535, 3) := by decide +kernel
theorem dX13_outside_12 : decode cX13_outside 12 = .ok (.aload_n 0, 1) := by decide +kernel
theorem dX13_outside_13 : decode cX13_outside 13 = .ok (.iload_n 3, 1) := by decide +kernel
theorem dX13_outside_14 : decode cX13_outside 14 = .ok (.invokevirtual 636, 3) := by decide +kernel
theorem dX13_outside_17 : decode cX13_outside 17 = .ok (.ifCond .eq 12, 3) := by decide +kernel
theorem dX13_outside_20 : decode cX13_outside 20 = .ok (.aload_n 0, 1) := by decide +kernel
theorem dX13_outside_21 : decode cX13_outside 21 = .ok (.iconst 3, 1) := by decide +kernel
theorem dX13_outside_22 : decode cX13_outside 22 = .ok (.aload_n 0, 1) := by decide +kernel
theorem dX13_outside_23 : decode cX13_outside 23 = .ok (.getfield 391, 3) := by decide +kernel
theorem dX13_outside_26 : decode cX13_outside 26 = .ok (.invokevirtual 411, 3) := by decide +kernel
theorem dX13_outside_29 : decode cX13_outside 29 = .ok (.iload_n 1, 1) := by decide +kernel
theorem dX13_outside_30 : decode cX13_outside 30 = .ok (.iload_n 2, 1) := by decide +kernel
theorem dX13_outside_31 : decode cX13_outside 31 = .ok (.if_icmp .ne 12, 3) := by decide +kernel
theorem dX13_outside_34 : decode cX13_outside 34 = .ok (.aload_n 0, 1) := by decide +kernel
theorem dX13_outside_35 : decode cX13_outside 35 = .ok (.iconst 5, 1) := by decide +kernel
theorem dX13_outside_36 : decode cX13_outside 36 = .ok (.aload_n 0, 1) := by decide +kernel
theorem dX13_outside_37 : decode cX13_outside 37 = .ok (.getfield 391, 3) := by decide +kernel
theorem dX13_outside_4 : decode cX13_outside 4 = .ok (.istore_n 3, 1) := by decide +kernel
theorem dX13_outside_40 : decode cX13_outside 40 = .ok (.invokevirtual 411, 3) := by decide +kernel
theorem dX13_outside_43 : decode cX13_outside 43 = .ok (.iload_n 3, 1) := by decide +kernel
theorem dX13_outside_44 : decode cX13_outside 44 = .ok (.ireturn, 1) := by decide +kernel
theorem dX13_outside_5 : decode cX13_outside 5 = .ok (.aload_n 0, 1) := by decide +kernel
theorem dX13_outside_6 : decode cX13_outside 6 = .ok (.getfield 375, 3) := by decide +kernel
theorem dX13_outside_9 : decode cX13_outside 9 = .ok (.ifCond .ne 20, 3) := by decide +kernel
noncomputable def k_X13_outside_29 (l1 : Int32) (l2 : Int32) (l3 : Int32) (s : t_S) : Option (Int32 × t_S) :=
 if l1 = l2 then ((f_X13_fail (5 : Int32) (s.1 950 6) s).bind (fun r1 =>
 some (l3, r1)))
 else (some (l3, s))
set_option maxRecDepth 4000 in
set_option maxHeartbeats 1000000 in
theorem B_X13_outside_29 {D : va_G} {cy : Nat → ClassId} {ad : Nat → Nat} {bs : Nat} {X : State → Heap → Prop} (l1 : Int32) (l2 : Int32) (l3 : Int32) (s : t_S) (Q : Int32 × t_S → Prop) (hk : t_hk (k_X13_outside_29 l1 l2 l3 s) Q) : mj_G D cy ad bs X cX13_outside 4 yX13_outside.cls (some .int) yX13_outside.name 2 0 0 1065 (t_P (fun v s' => ∃ x, v = some (.int x) ∧ Q ((x, s')))) 29 [(0, .ref 950), (1, .int l1), (2, .int l2), (3, .int l3)] [] (t_m s) 1065 0 0 := by
  refine mj_iload_n dX13_outside_29 1 rfl ?_
  refine mj_iload_n dX13_outside_30 2 rfl ?_
  refine mj_icmp_ne 43 dX13_outside_31 (by decide) (fun z => t_negK hk z (fun hk => ?_)) (fun z => t_posK hk z (fun hk => ?_))
  · refine mj_iload_n dX13_outside_43 3 rfl ?_
    exact t_somK hk (fun hf => t_iret dX13_outside_44 rfl rfl ⟨_, rfl, hf⟩ (Nat.le_of_ble_eq_true rfl) (Nat.le_of_ble_eq_true rfl))
  · refine mj_aload_n dX13_outside_34 0 rfl ?_
    refine mj_iconst (v := 5) dX13_outside_35 (by decide) ?_
    refine mj_aload_n dX13_outside_36 0 rfl ?_
    refine t_getI dX13_outside_37 F_X13_391 qf_950_6 ?_
    refine t_bndK hk (fun r1 er1 hk => ?_)
    refine t_callVvE dX13_outside_40 M_X13_fail (C_X13_fail _ _ _ _ er1) ML_X13_411 IM_X13_fail SE_X13_fail qc_950 rfl (As := [.int 5, .int (s.1 950 6)]) rfl rfl (Nat.le_of_ble_eq_true rfl) (Nat.le_of_ble_eq_true rfl) (Nat.le_of_ble_eq_true rfl) (Nat.le_of_ble_eq_true rfl) ?_
    refine mj_iload_n dX13_outside_43 3 rfl ?_
    exact t_somK hk (fun hf => t_iret dX13_outside_44 rfl rfl ⟨_, rfl, hf⟩ (Nat.le_of_ble_eq_true rfl) (Nat.le_of_ble_eq_true rfl))
noncomputable def f_X13_outside (x1 : Int32) (x2 : Int32) (s : t_S) : Option (Int32 × t_S) :=
 (f_X13_freeName s).bind (fun r1 =>
 if (r1.2.1 950 2) = (0 : Int32) then ((f_X13_isToldOutside r1.1 r1.2).bind (fun r2 =>
 if r2 = (0 : Int32) then (k_X13_outside_29 x1 x2 r1.1 r1.2)
 else ((f_X13_fail (3 : Int32) (r1.2.1 950 6) r1.2).bind (fun r3 =>
 k_X13_outside_29 x1 x2 r1.1 r3))))
 else (k_X13_outside_29 x1 x2 r1.1 r1.2))
set_option maxRecDepth 4000 in
set_option maxHeartbeats 1000000 in
theorem C_X13_outside (x1 : Int32) (x2 : Int32) (s : t_S) (r : Int32 × t_S) (hr : f_X13_outside x1 x2 s = some r) : t_C yX13_outside cX13_outside 4 (some .int) 2 [.ref 950, .int x1, .int x2] s (fun v s' => v = some (.int r.1) ∧ s' = r.2) := by
  refine t_C.imp (P := fun v s' => ∃ x, v = some (.int x) ∧ (fun q => q = r) ((x, s'))) (t_C.of (by decide +kernel) (Nat.le_of_ble_eq_true rfl) ?_) (fun v s' hp => by obtain ⟨x, rfl, rfl⟩ := hp; exact ⟨rfl, rfl⟩)
  intro D cy ad bs X
  have hk : t_hk (f_X13_outside x1 x2 s) (fun q => q = r) := ⟨r, hr, rfl⟩
  show mj_G D cy ad bs X cX13_outside 4 yX13_outside.cls (some .int) yX13_outside.name 2 0 0 1065 (t_P (fun v s' => ∃ x, v = some (.int x) ∧ (fun q => q = r) ((x, s')))) 0 [(0, .ref 950), (1, .int x1), (2, .int x2)] [] (t_m s) 1065 0 0
  refine mj_aload_n dX13_outside_0 0 rfl ?_
  refine t_bndK hk (fun r1 er1 hk => ?_)
  refine t_callViE dX13_outside_1 M_X13_freeName (C_X13_freeName _ _ er1) ML_X13_535 IM_X13_freeName SE_X13_freeName qc_950 rfl (As := []) rfl rfl (Nat.le_of_ble_eq_true rfl) (Nat.le_of_ble_eq_true rfl) (Nat.le_of_ble_eq_true rfl) (Nat.le_of_ble_eq_true rfl) ?_
  refine mj_istore_n 3 (lv2 := [(3, .int r1.1), (0, .ref 950), (1, .int x1), (2, .int x2)]) dX13_outside_4 rfl (by decide) rfl ?_
  refine mj_aload_n dX13_outside_5 1 rfl ?_
  refine t_getI dX13_outside_6 F_X13_375 qf_950_2 ?_
  refine mj_if_ne 29 dX13_outside_9 (by decide) (fun z => t_negK hk z (fun hk => ?_)) (fun z => t_posK hk z (fun hk => ?_))
  · refine mj_sublv [(0, .ref 950), (1, .int x1), (2, .int x2), (3, .int r1.1)] [1, 2, 3, 0] rfl ?_
    exact B_X13_outside_29 _ _ _ _ _ hk
  · refine mj_aload_n dX13_outside_12 1 rfl ?_
    refine mj_iload_n dX13_outside_13 0 rfl ?_
    refine t_bndK hk (fun r2 er2 hk => ?_)
    refine t_callViP dX13_outside_14 M_X13_isToldOutside (C_X13_isToldOutside _ _ _ er2) ML_X13_636 IM_X13_isToldOutside SE_X13_isToldOutside qc_950 rfl (As := [.int r1.1]) rfl rfl (Nat.le_of_ble_eq_true rfl) (Nat.le_of_ble_eq_true rfl) (Nat.le_of_ble_eq_true rfl) (Nat.le_of_ble_eq_true rfl) ?_
    refine mj_if_eq 29 dX13_outside_17 (by decide) (fun z => t_posK hk z (fun hk => ?_)) (fun z => t_negK hk z (fun hk => ?_))
    · refine mj_sublv [(0, .ref 950), (1, .int x1), (2, .int x2), (3, .int r1.1)] [1, 2, 3, 0] rfl ?_
      exact B_X13_outside_29 _ _ _ _ _ hk
    · refine mj_aload_n dX13_outside_20 1 rfl ?_
      refine mj_iconst (v := 3) dX13_outside_21 (by decide) ?_
      refine mj_aload_n dX13_outside_22 1 rfl ?_
      refine t_getI dX13_outside_23 F_X13_391 qf_950_6 ?_
      refine t_bndK hk (fun r3 er3 hk => ?_)
      refine t_callVvE dX13_outside_26 M_X13_fail (C_X13_fail _ _ _ _ er3) ML_X13_411 IM_X13_fail SE_X13_fail qc_950 rfl (As := [.int 3, .int (r1.2.1 950 6)]) rfl rfl (Nat.le_of_ble_eq_true rfl) (Nat.le_of_ble_eq_true rfl) (Nat.le_of_ble_eq_true rfl) (Nat.le_of_ble_eq_true rfl) ?_
      refine mj_sublv [(0, .ref 950), (1, .int x1), (2, .int x2), (3, .int r1.1)] [1, 2, 3, 0] rfl ?_
      exact B_X13_outside_29 _ _ _ _ _ hk

theorem dX13_ownVar_0 : decode cX13_ownVar 0 = .ok (.aload_n 0, 1) := by decide +kernel
theorem dX13_ownVar_1 : decode cX13_ownVar 1 = .ok (.invokevirtual 714, 3) := by decide +kernel
theorem dX13_ownVar_12 : decode cX13_ownVar 12 = .ok (.iload_n 1, 1) := by decide +kernel
theorem dX13_ownVar_13 : decode cX13_ownVar 13 = .ok (.iaload, 1) := by decide +kernel
theorem dX13_ownVar_14 : decode cX13_ownVar 14 = .ok (.iadd, 1) := by decide +kernel
theorem dX13_ownVar_15 : decode cX13_ownVar 15 = .ok (.istore_n 3, 1) := by decide +kernel
theorem dX13_ownVar_16 : decode cX13_ownVar 16 = .ok (.aload_n 0, 1) := by decide +kernel
theorem dX13_ownVar_17 : decode cX13_ownVar 17 = .ok (.getfield 87, 3) := by decide +kernel
theorem dX13_ownVar_20 : decode cX13_ownVar 20 = .ok (.iload_n 3, 1) := by decide +kernel
theorem dX13_ownVar_21 : decode cX13_ownVar 21 = .ok (.iload_n 2, 1) := by decide +kernel
theorem dX13_ownVar_22 : decode cX13_ownVar 22 = .ok (.iastore, 1) := by decide +kernel
theorem dX13_ownVar_23 : decode cX13_ownVar 23 = .ok (.aload_n 0, 1) := by decide +kernel
theorem dX13_ownVar_24 : decode cX13_ownVar 24 = .ok (.getfield 90, 3) := by decide +kernel
theorem dX13_ownVar_27 : decode cX13_ownVar 27 = .ok (.iload_n 3, 1) := by decide +kernel
theorem dX13_ownVar_28 : decode cX13_ownVar 28 = .ok (.aload_n 0, 1) := by decide +kernel
theorem dX13_ownVar_29 : decode cX13_ownVar 29 = .ok (.getfield 708, 3) := by decide +kernel
theorem dX13_ownVar_32 : decode cX13_ownVar 32 = .ok (.iastore, 1) := by decide +kernel
theorem dX13_ownVar_33 : decode cX13_ownVar 33 = .ok (.aload_n 0, 1) := by decide +kernel
theorem dX13_ownVar_34 : decode cX13_ownVar 34 = .ok (.getfield 93, 3) := by decide +kernel
theorem dX13_ownVar_37 : decode cX13_ownVar 37 = .ok (.iload_n 3, 1) := by decide +kernel
theorem dX13_ownVar_38 : decode cX13_ownVar 38 = .ok (.aload_n 0, 1) := by decide +kernel
theorem dX13_ownVar_39 : decode cX13_ownVar 39 = .ok (.getfield 711, 3) := by decide +kernel
theorem dX13_ownVar_4 : decode cX13_ownVar 4 = .ok (.bipush 8, 2) := by decide +kernel
theorem dX13_ownVar_42 : decode cX13_ownVar 42 = .ok (.iastore, 1) := by decide +kernel
theorem dX13_ownVar_43 : decode cX13_ownVar 43 = .ok (.aload_n 0, 1) := by decide +kernel
theorem dX13_ownVar_44 : decode cX13_ownVar 44 = .ok (.sipush 1000, 3) := by decide +kernel
theorem dX13_ownVar_47 : decode cX13_ownVar 47 = .ok (.iload_n 1, 1) := by decide +kernel
theorem dX13_ownVar_48 : decode cX13_ownVar 48 = .ok (.iadd, 1) := by decide +kernel
theorem dX13_ownVar_49 : decode cX13_ownVar 49 = .ok (.putfield 584, 3) := by decide +kernel
theorem dX13_ownVar_52 : decode cX13_ownVar 52 = .ok (.aload_n 0, 1) := by decide +kernel
theorem dX13_ownVar_53 : decode cX13_ownVar 53 = .ok (.aload_n 0, 1) := by decide +kernel
theorem dX13_ownVar_54 : decode cX13_ownVar 54 = .ok (.getfield 99, 3) := by decide +kernel
theorem dX13_ownVar_57 : decode cX13_ownVar 57 = .ok (.iload_n 1, 1) := by decide +kernel
theorem dX13_ownVar_58 : decode cX13_ownVar 58 = .ok (.iaload, 1) := by decide +kernel
theorem dX13_ownVar_59 : decode cX13_ownVar 59 = .ok (.putfield 621, 3) := by decide +kernel
theorem dX13_ownVar_6 : decode cX13_ownVar 6 = .ok (.iload_n 1, 1) := by decide +kernel
theorem dX13_ownVar_62 : decode cX13_ownVar 62 = .ok (.aload_n 0, 1) := by decide +kernel
theorem dX13_ownVar_63 : decode cX13_ownVar 63 = .ok (.getfield 99, 3) := by decide +kernel
theorem dX13_ownVar_66 : decode cX13_ownVar 66 = .ok (.iload_n 1, 1) := by decide +kernel
theorem dX13_ownVar_67 : decode cX13_ownVar 67 = .ok (.dup2, 1) := by decide +kernel
theorem dX13_ownVar_68 : decode cX13_ownVar 68 = .ok (.iaload, 1) := by decide +kernel
theorem dX13_ownVar_69 : decode cX13_ownVar 69 = .ok (.iconst 1, 1) := by decide +kernel
theorem dX13_ownVar_7 : decode cX13_ownVar 7 = .ok (.imul, 1) := by decide +kernel
theorem dX13_ownVar_70 : decode cX13_ownVar 70 = .ok (.iadd, 1) := by decide +kernel
theorem dX13_ownVar_71 : decode cX13_ownVar 71 = .ok (.iastore, 1) := by decide +kernel
theorem dX13_ownVar_72 : decode cX13_ownVar 72 = .ok (.aload_n 0, 1) := by decide +kernel
theorem dX13_ownVar_73 : decode cX13_ownVar 73 = .ok (.sipush 14909, 3) := by decide +kernel
theorem dX13_ownVar_76 : decode cX13_ownVar 76 = .ok (.invokevirtual 528, 3) := by decide +kernel
theorem dX13_ownVar_79 : decode cX13_ownVar 79 = .ok (.aload_n 0, 1) := by decide +kernel
theorem dX13_ownVar_8 : decode cX13_ownVar 8 = .ok (.aload_n 0, 1) := by decide +kernel
theorem dX13_ownVar_80 : decode cX13_ownVar 80 = .ok (.iconst 0, 1) := by decide +kernel
theorem dX13_ownVar_81 : decode cX13_ownVar 81 = .ok (.putfield 552, 3) := by decide +kernel
theorem dX13_ownVar_84 : decode cX13_ownVar 84 = .ok (.aload_n 0, 1) := by decide +kernel
theorem dX13_ownVar_85 : decode cX13_ownVar 85 = .ok (.getfield 96, 3) := by decide +kernel
theorem dX13_ownVar_88 : decode cX13_ownVar 88 = .ok (.iload_n 3, 1) := by decide +kernel
theorem dX13_ownVar_89 : decode cX13_ownVar 89 = .ok (.aload_n 0, 1) := by decide +kernel
theorem dX13_ownVar_9 : decode cX13_ownVar 9 = .ok (.getfield 99, 3) := by decide +kernel
theorem dX13_ownVar_90 : decode cX13_ownVar 90 = .ok (.invokestatic 581, 3) := by decide +kernel
theorem dX13_ownVar_93 : decode cX13_ownVar 93 = .ok (.iastore, 1) := by decide +kernel
theorem dX13_ownVar_94 : decode cX13_ownVar 94 = .ok (.return_, 1) := by decide +kernel
noncomputable def f_X13_ownVar (x1 : Int32) (x2 : Int32) (s : t_S) : Option (t_S) :=
 (f_X13_typeHint s).bind (fun r1 =>
 if t_ix x1 8 = true then
  if t_ix (((8 : Int32) * x1) + (r1.1 979 (x1.toNatClampNeg))) 64 = true then
  t_let (t_setI r1 975 ((((8 : Int32) * x1) + (r1.1 979 (x1.toNatClampNeg))).toNatClampNeg) x2) (fun s1 =>
 t_let (t_setI s1 976 ((((8 : Int32) * x1) + (r1.1 979 (x1.toNatClampNeg))).toNatClampNeg) (s1.1 950 86)) (fun s2 =>
 t_let (t_setI s2 977 ((((8 : Int32) * x1) + (r1.1 979 (x1.toNatClampNeg))).toNatClampNeg) (s2.1 950 87)) (fun s3 =>
 t_let (t_setI s3 950 33 ((1000 : Int32) + x1)) (fun s4 =>
 t_let (t_setI s4 950 34 (s4.1 979 (x1.toNatClampNeg))) (fun s5 =>
 t_let (t_setI s5 979 (x1.toNatClampNeg) ((s5.1 979 (x1.toNatClampNeg)) + (1 : Int32))) (fun s6 =>
 (f_X13_mustBe (14909 : Int32) s6).bind (fun r4 =>
 t_let (t_setI r4 950 32 (0 : Int32)) (fun s7 =>
 (f_X13_exp s7).bind (fun r5 =>
 t_let (t_setI r5.2 978 ((((8 : Int32) * x1) + (r1.1 979 (x1.toNatClampNeg))).toNatClampNeg) r5.1) (fun s8 =>
 some (s8)))))))))))
else none
else none)
set_option maxRecDepth 4000 in
set_option maxHeartbeats 1000000 in
theorem C_X13_ownVar (x1 : Int32) (x2 : Int32) (s : t_S) (r : t_S) (hr : f_X13_ownVar x1 x2 s = some r) : t_C yX13_ownVar cX13_ownVar 4 none 309 [.ref 950, .int x1, .int x2] s (fun v s' => v = none ∧ s' = r) := by
  refine t_C.imp (P := fun v s' => v = none ∧ (fun q => q = r) (s')) (t_C.of (by decide +kernel) (Nat.le_of_ble_eq_true rfl) ?_) (fun v s' hp => hp)
  intro D cy ad bs X
  have hk : t_hk (f_X13_ownVar x1 x2 s) (fun q => q = r) := ⟨r, hr, rfl⟩
  show mj_G D cy ad bs X cX13_ownVar 4 yX13_ownVar.cls none yX13_ownVar.name 309 0 0 1065 (t_P (fun v s' => v = none ∧ (fun q => q = r) (s'))) 0 [(0, .ref 950), (1, .int x1), (2, .int x2)] [] (t_m s) 1065 0 0
  refine mj_aload_n dX13_ownVar_0 0 rfl ?_
  refine t_bndK hk (fun r1 er1 hk => ?_)
  refine t_callVvE dX13_ownVar_1 M_X13_typeHint (C_X13_typeHint _ _ er1) ML_X13_714 IM_X13_typeHint SE_X13_typeHint qc_950 rfl (As := []) rfl rfl (Nat.le_of_ble_eq_true rfl) (Nat.le_of_ble_eq_true rfl) (Nat.le_of_ble_eq_true rfl) (Nat.le_of_ble_eq_true rfl) ?_
  refine mj_bipush (v := 8) dX13_ownVar_4 (by decide) ?_
  refine mj_iload_n dX13_ownVar_6 1 rfl ?_
  refine mj_imul dX13_ownVar_7 ?_
  refine mj_aload_n dX13_ownVar_8 0 rfl ?_
  refine t_getR 979 dX13_ownVar_9 F_X13_99 qr_950_54 ?_
  refine mj_iload_n dX13_ownVar_12 1 rfl ?_
  refine t_chkK hk (fun c1 hk => ?_)
  refine t_iald dX13_ownVar_13 qa_979 (t_ixv c1) ?_
  refine mj_iadd dX13_ownVar_14 ?_
  refine mj_istore_n 3 (lv2 := [(3, .int (((8 : Int32) * x1) + (r1.1 979 (x1.toNatClampNeg)))), (0, .ref 950), (1, .int x1), (2, .int x2)]) dX13_ownVar_15 rfl (by decide) rfl ?_
  refine mj_aload_n dX13_ownVar_16 1 rfl ?_
  refine t_getR 975 dX13_ownVar_17 F_X13_87 qr_950_50 ?_
  refine mj_iload_n dX13_ownVar_20 0 rfl ?_
  refine mj_iload_n dX13_ownVar_21 3 rfl ?_
  refine t_chkK hk (fun c2 hk => ?_)
  refine t_iastK dX13_ownVar_22 qa_975 (t_ixv c2) (fun s1 ws1 => t_letE hk ws1 (fun hk => ?_))
  refine mj_aload_n dX13_ownVar_23 1 rfl ?_
  refine t_getR 976 dX13_ownVar_24 F_X13_90 qr_950_51 ?_
  refine mj_iload_n dX13_ownVar_27 0 rfl ?_
  refine mj_aload_n dX13_ownVar_28 1 rfl ?_
  refine t_getI dX13_ownVar_29 F_X13_708 qf_950_86 ?_
  refine t_iastK dX13_ownVar_32 qa_976 (t_ixv c2) (fun s2 ws2 => t_letE hk ws2 (fun hk => ?_))
  refine mj_aload_n dX13_ownVar_33 1 rfl ?_
  refine t_getR 977 dX13_ownVar_34 F_X13_93 qr_950_52 ?_
  refine mj_iload_n dX13_ownVar_37 0 rfl ?_
  refine mj_aload_n dX13_ownVar_38 1 rfl ?_
  refine t_getI dX13_ownVar_39 F_X13_711 qf_950_87 ?_
  refine t_iastK dX13_ownVar_42 qa_977 (t_ixv c2) (fun s3 ws3 => t_letE hk ws3 (fun hk => ?_))
  refine mj_aload_n dX13_ownVar_43 1 rfl ?_
  refine mj_sipush (v := 1000) dX13_ownVar_44 (by decide) ?_
  refine mj_iload_n dX13_ownVar_47 2 rfl ?_
  refine mj_iadd dX13_ownVar_48 ?_
  refine t_putIK dX13_ownVar_49 F_X13_584 qf_950_33 rfl (fun s4 ws4 => t_letE hk ws4 (fun hk => ?_))
  refine mj_aload_n dX13_ownVar_52 1 rfl ?_
  refine mj_aload_n dX13_ownVar_53 1 rfl ?_
  refine t_getR 979 dX13_ownVar_54 F_X13_99 qr_950_54 ?_
  refine mj_iload_n dX13_ownVar_57 2 rfl ?_
  refine t_iald dX13_ownVar_58 qa_979 (t_ixv c1) ?_
  refine t_putIK dX13_ownVar_59 F_X13_621 qf_950_34 rfl (fun s5 ws5 => t_letE hk ws5 (fun hk => ?_))
  refine mj_aload_n dX13_ownVar_62 1 rfl ?_
  refine t_getR 979 dX13_ownVar_63 F_X13_99 qr_950_54 ?_
  refine mj_iload_n dX13_ownVar_66 2 rfl ?_
  refine mj_dup2 dX13_ownVar_67 rfl rfl ?_
  refine t_iald dX13_ownVar_68 qa_979 (t_ixv c1) ?_
  refine mj_iconst (v := 1) dX13_ownVar_69 (by decide) ?_
  refine mj_iadd dX13_ownVar_70 ?_
  refine t_iastK dX13_ownVar_71 qa_979 (t_ixv c1) (fun s6 ws6 => t_letE hk ws6 (fun hk => ?_))
  refine mj_aload_n dX13_ownVar_72 1 rfl ?_
  refine mj_sipush (v := 14909) dX13_ownVar_73 (by decide) ?_
  refine t_bndK hk (fun r4 er4 hk => ?_)
  refine t_callVvE dX13_ownVar_76 M_X13_mustBe (C_X13_mustBe _ _ _ er4) ML_X13_528 IM_X13_mustBe SE_X13_mustBe qc_950 rfl (As := [.int 14909]) rfl rfl (Nat.le_of_ble_eq_true rfl) (Nat.le_of_ble_eq_true rfl) (Nat.le_of_ble_eq_true rfl) (Nat.le_of_ble_eq_true rfl) ?_
  refine mj_aload_n dX13_ownVar_79 1 rfl ?_
  refine mj_iconst (v := 0) dX13_ownVar_80 (by decide) ?_
  refine t_putIK dX13_ownVar_81 F_X13_552 qf_950_32 rfl (fun s7 ws7 => t_letE hk ws7 (fun hk => ?_))
  refine mj_aload_n dX13_ownVar_84 1 rfl ?_
  refine t_getR 978 dX13_ownVar_85 F_X13_96 qr_950_53 ?_
  refine mj_iload_n dX13_ownVar_88 0 rfl ?_
  refine mj_aload_n dX13_ownVar_89 1 rfl ?_
  refine t_bndK hk (fun r5 er5 hk => ?_)
  refine t_callSiE dX13_ownVar_90 M_X13_exp (C_X13_exp _ _ er5) ML_X13_581 SM_X13_exp (As := [.ref 950]) rfl rfl (Nat.le_of_ble_eq_true rfl) (Nat.le_of_ble_eq_true rfl) (Nat.le_of_ble_eq_true rfl) (Nat.le_of_ble_eq_true rfl) ?_
  refine t_iastK dX13_ownVar_93 qa_978 (t_ixv c2) (fun s8 ws8 => t_letE hk ws8 (fun hk => ?_))
  exact t_somK hk (fun hf => t_vret dX13_ownVar_94 rfl ⟨rfl, hf⟩ (Nat.le_of_ble_eq_true rfl) (Nat.le_of_ble_eq_true rfl))

theorem dX13_own_0 : decode cX13_own 0 = .ok (.aload_n 0, 1) := by decide +kernel
theorem dX13_own_1 : decode cX13_own 1 = .ok (.getfield 385, 3) := by decide +kernel
theorem dX13_own_101 : decode cX13_own 101 = .ok (.aload_n 0, 1) := by decide +kernel
theorem dX13_own_102 : decode cX13_own 102 = .ok (.getfield 84, 3) := by decide +kernel
theorem dX13_own_105 : decode cX13_own 105 = .ok (.iload_n 1, 1) := by decide +kernel
theorem dX13_own_106 : decode cX13_own 106 = .ok (.iaload, 1) := by decide +kernel
theorem dX13_own_107 : decode cX13_own 107 = .ok (.iconst 4, 1) := by decide +kernel
theorem dX13_own_108 : decode cX13_own 108 = .ok (.if_icmp .ne 26, 3) := by decide +kernel
theorem dX13_own_111 : decode cX13_own 111 = .ok (.goto 14, 3) := by decide +kernel
theorem dX13_own_114 : decode cX13_own 114 = .ok (.aload_n 0, 1) := by decide +kernel
theorem dX13_own_115 : decode cX13_own 115 = .ok (.getfield 99, 3) := by decide +kernel
theorem dX13_own_118 : decode cX13_own 118 = .ok (.iload_n 1, 1) := by decide +kernel
theorem dX13_own_119 : decode cX13_own 119 = .ok (.iaload, 1) := by decide +kernel
theorem dX13_own_12 : decode cX13_own 12 = .ok (.goto 4, 3) := by decide +kernel
theorem dX13_own_120 : decode cX13_own 120 = .ok (.bipush 8, 2) := by decide +kernel
theorem dX13_own_122 : decode cX13_own 122 = .ok (.if_icmp .ne 12, 3) := by decide +kernel
theorem dX13_own_125 : decode cX13_own 125 = .ok (.aload_n 0, 1) := by decide +kernel
theorem dX13_own_126 : decode cX13_own 126 = .ok (.iconst 5, 1) := by decide +kernel
theorem dX13_own_127 : decode cX13_own 127 = .ok (.aload_n 0, 1) := by decide +kernel
theorem dX13_own_128 : decode cX13_own 128 = .ok (.getfield 391, 3) := by decide +kernel
theorem dX13_own_131 : decode cX13_own 131 = .ok (.invokevirtual 411, 3) := by decide +kernel
theorem dX13_own_134 : decode cX13_own 134 = .ok (.aload_n 0, 1) := by decide +kernel
theorem dX13_own_135 : decode cX13_own 135 = .ok (.getfield 375, 3) := by decide +kernel
theorem dX13_own_138 : decode cX13_own 138 = .ok (.ifCond .eq 4, 3) := by decide +kernel
theorem dX13_own_141 : decode cX13_own 141 = .ok (.return_, 1) := by decide +kernel
theorem dX13_own_142 : decode cX13_own 142 = .ok (.aload_n 0, 1) := by decide +kernel
theorem dX13_own_143 : decode cX13_own 143 = .ok (.invokevirtual 452, 3) := by decide +kernel
theorem dX13_own_146 : decode cX13_own 146 = .ok (.iload_n 2, 1) := by decide +kernel
theorem dX13_own_147 : decode cX13_own 147 = .ok (.bipush 7, 2) := by decide +kernel
theorem dX13_own_149 : decode cX13_own 149 = .ok (.if_icmp .ne 33, 3) := by decide +kernel
theorem dX13_own_15 : decode cX13_own 15 = .ok (.iconst (-1), 1) := by decide +kernel
theorem dX13_own_152 : decode cX13_own 152 = .ok (.aload_n 0, 1) := by decide +kernel
theorem dX13_own_153 : decode cX13_own 153 = .ok (.getfield 75, 3) := by decide +kernel
theorem dX13_own_156 : decode cX13_own 156 = .ok (.bipush 6, 2) := by decide +kernel
theorem dX13_own_158 : decode cX13_own 158 = .ok (.iload_n 1, 1) := by decide +kernel
theorem dX13_own_159 : decode cX13_own 159 = .ok (.imul, 1) := by decide +kernel
theorem dX13_own_16 : decode cX13_own 16 = .ok (.istore_n 2, 1) := by decide +kernel
theorem dX13_own_160 : decode cX13_own 160 = .ok (.aload_n 0, 1) := by decide +kernel
theorem dX13_own_161 : decode cX13_own 161 = .ok (.getfield 78, 3) := by decide +kernel
theorem dX13_own_164 : decode cX13_own 164 = .ok (.iload_n 1, 1) := by decide +kernel
theorem dX13_own_165 : decode cX13_own 165 = .ok (.iaload, 1) := by decide +kernel
theorem dX13_own_166 : decode cX13_own 166 = .ok (.iadd, 1) := by decide +kernel
theorem dX13_own_167 : decode cX13_own 167 = .ok (.iload_n 3, 1) := by decide +kernel
theorem dX13_own_168 : decode cX13_own 168 = .ok (.iastore, 1) := by decide +kernel
theorem dX13_own_169 : decode cX13_own 169 = .ok (.aload_n 0, 1) := by decide +kernel
theorem dX13_own_17 : decode cX13_own 17 = .ok (.iload_n 2, 1) := by decide +kernel
theorem dX13_own_170 : decode cX13_own 170 = .ok (.getfield 78, 3) := by decide +kernel
theorem dX13_own_173 : decode cX13_own 173 = .ok (.iload_n 1, 1) := by decide +kernel
theorem dX13_own_174 : decode cX13_own 174 = .ok (.dup2, 1) := by decide +kernel
theorem dX13_own_175 : decode cX13_own 175 = .ok (.iaload, 1) := by decide +kernel
theorem dX13_own_176 : decode cX13_own 176 = .ok (.iconst 1, 1) := by decide +kernel
theorem dX13_own_177 : decode cX13_own 177 = .ok (.iadd, 1) := by decide +kernel
theorem dX13_own_178 : decode cX13_own 178 = .ok (.iastore, 1) := by decide +kernel
theorem dX13_own_179 : decode cX13_own 179 = .ok (.goto 44, 3) := by decide +kernel
theorem dX13_own_18 : decode cX13_own 18 = .ok (.i2l, 1) := by decide +kernel
theorem dX13_own_182 : decode cX13_own 182 = .ok (.iload_n 2, 1) := by decide +kernel
theorem dX13_own_183 : decode cX13_own 183 = .ok (.bipush 8, 2) := by decide +kernel
theorem dX13_own_185 : decode cX13_own 185 = .ok (.if_icmp .ne 32, 3) := by decide +kernel
theorem dX13_own_188 : decode cX13_own 188 = .ok (.aload_n 0, 1) := by decide +kernel
theorem dX13_own_189 : decode cX13_own 189 = .ok (.getfield 81, 3) := by decide +kernel
theorem dX13_own_19 : decode cX13_own 19 = .ok (.ldc2_w 697, 3) := by decide +kernel
theorem dX13_own_192 : decode cX13_own 192 = .ok (.iconst 4, 1) := by decide +kernel
theorem dX13_own_193 : decode cX13_own 193 = .ok (.iload_n 1, 1) := by decide +kernel
theorem dX13_own_194 : decode cX13_own 194 = .ok (.imul, 1) := by decide +kernel
theorem dX13_own_195 : decode cX13_own 195 = .ok (.aload_n 0, 1) := by decide +kernel
theorem dX13_own_196 : decode cX13_own 196 = .ok (.getfield 84, 3) := by decide +kernel
theorem dX13_own_199 : decode cX13_own 199 = .ok (.iload_n 1, 1) := by decide +kernel
theorem dX13_own_200 : decode cX13_own 200 = .ok (.iaload, 1) := by decide +kernel
theorem dX13_own_201 : decode cX13_own 201 = .ok (.iadd, 1) := by decide +kernel
theorem dX13_own_202 : decode cX13_own 202 = .ok (.iload_n 3, 1) := by decide +kernel
theorem dX13_own_203 : decode cX13_own 203 = .ok (.iastore, 1) := by decide +kernel
theorem dX13_own_204 : decode cX13_own 204 = .ok (.aload_n 0, 1) := by decide +kernel
theorem dX13_own_205 : decode cX13_own 205 = .ok (.getfield 84, 3) := by decide +kernel
theorem dX13_own_208 : decode cX13_own 208 = .ok (.iload_n 1, 1) := by decide +kernel
theorem dX13_own_209 : decode cX13_own 209 = .ok (.dup2, 1) := by decide +kernel
theorem dX13_own_210 : decode cX13_own 210 = .ok (.iaload, 1) := by decide +kernel
theorem dX13_own_211 : decode cX13_own 211 = .ok (.iconst 1, 1) := by decide +kernel
theorem dX13_own_212 : decode cX13_own 212 = .ok (.iadd, 1) := by decide +kernel
theorem dX13_own_213 : decode cX13_own 213 = .ok (.iastore, 1) := by decide +kernel
theorem dX13_own_214 : decode cX13_own 214 = .ok (.goto 9, 3) := by decide +kernel
theorem dX13_own_217 : decode cX13_own 217 = .ok (.aload_n 0, 1) := by decide +kernel
theorem dX13_own_218 : decode cX13_own 218 = .ok (.iload_n 1, 1) := by decide +kernel
theorem dX13_own_219 : decode cX13_own 219 = .ok (.iload_n 3, 1) := by decide +kernel
theorem dX13_own_22 : decode cX13_own 22 = .ok (.ldc2_w 699, 3) := by decide +kernel
theorem dX13_own_220 : decode cX13_own 220 = .ok (.invokevirtual 705, 3) := by decide +kernel
theorem dX13_own_223 : decode cX13_own 223 = .ok (.aload_n 0, 1) := by decide +kernel
theorem dX13_own_224 : decode cX13_own 224 = .ok (.bipush 59, 2) := by decide +kernel
theorem dX13_own_226 : decode cX13_own 226 = .ok (.invokevirtual 528, 3) := by decide +kernel
theorem dX13_own_229 : decode cX13_own 229 = .ok (.return_, 1) := by decide +kernel
theorem dX13_own_25 : decode cX13_own 25 = .ok (.invokestatic 371, 3) := by decide +kernel
theorem dX13_own_28 : decode cX13_own 28 = .ok (.ifCond .ne 13, 3) := by decide +kernel
theorem dX13_own_31 : decode cX13_own 31 = .ok (.aload_n 0, 1) := by decide +kernel
theorem dX13_own_32 : decode cX13_own 32 = .ok (.iconst 2, 1) := by decide +kernel
theorem dX13_own_33 : decode cX13_own 33 = .ok (.aload_n 0, 1) := by decide +kernel
theorem dX13_own_34 : decode cX13_own 34 = .ok (.getfield 391, 3) := by decide +kernel
theorem dX13_own_37 : decode cX13_own 37 = .ok (.invokevirtual 411, 3) := by decide +kernel
theorem dX13_own_4 : decode cX13_own 4 = .ok (.iconst 1, 1) := by decide +kernel
theorem dX13_own_40 : decode cX13_own 40 = .ok (.return_, 1) := by decide +kernel
theorem dX13_own_41 : decode cX13_own 41 = .ok (.aload_n 0, 1) := by decide +kernel
theorem dX13_own_42 : decode cX13_own 42 = .ok (.invokevirtual 452, 3) := by decide +kernel
theorem dX13_own_45 : decode cX13_own 45 = .ok (.aload_n 0, 1) := by decide +kernel
theorem dX13_own_46 : decode cX13_own 46 = .ok (.invokevirtual 535, 3) := by decide +kernel
theorem dX13_own_49 : decode cX13_own 49 = .ok (.istore_n 3, 1) := by decide +kernel
theorem dX13_own_5 : decode cX13_own 5 = .ok (.if_icmp .ne 10, 3) := by decide +kernel
theorem dX13_own_50 : decode cX13_own 50 = .ok (.aload_n 0, 1) := by decide +kernel
theorem dX13_own_51 : decode cX13_own 51 = .ok (.getfield 375, 3) := by decide +kernel
theorem dX13_own_54 : decode cX13_own 54 = .ok (.ifCond .ne 21, 3) := by decide +kernel
theorem dX13_own_57 : decode cX13_own 57 = .ok (.aload_n 0, 1) := by decide +kernel
theorem dX13_own_58 : decode cX13_own 58 = .ok (.iload_n 1, 1) := by decide +kernel
theorem dX13_own_59 : decode cX13_own 59 = .ok (.iload_n 3, 1) := by decide +kernel
theorem dX13_own_60 : decode cX13_own 60 = .ok (.invokevirtual 701, 3) := by decide +kernel
theorem dX13_own_63 : decode cX13_own 63 = .ok (.ifCond .eq 12, 3) := by decide +kernel
theorem dX13_own_66 : decode cX13_own 66 = .ok (.aload_n 0, 1) := by decide +kernel
theorem dX13_own_67 : decode cX13_own 67 = .ok (.iconst 3, 1) := by decide +kernel
theorem dX13_own_68 : decode cX13_own 68 = .ok (.aload_n 0, 1) := by decide +kernel
theorem dX13_own_69 : decode cX13_own 69 = .ok (.getfield 391, 3) := by decide +kernel
theorem dX13_own_72 : decode cX13_own 72 = .ok (.invokevirtual 411, 3) := by decide +kernel
theorem dX13_own_75 : decode cX13_own 75 = .ok (.iload_n 2, 1) := by decide +kernel
theorem dX13_own_76 : decode cX13_own 76 = .ok (.bipush 7, 2) := by decide +kernel
theorem dX13_own_78 : decode cX13_own 78 = .ok (.if_icmp .ne 17, 3) := by decide +kernel
theorem dX13_own_8 : decode cX13_own 8 = .ok (.aload_n 0, 1) := by decide +kernel
theorem dX13_own_81 : decode cX13_own 81 = .ok (.aload_n 0, 1) := by decide +kernel
theorem dX13_own_82 : decode cX13_own 82 = .ok (.getfield 78, 3) := by decide +kernel
theorem dX13_own_85 : decode cX13_own 85 = .ok (.iload_n 1, 1) := by decide +kernel
theorem dX13_own_86 : decode cX13_own 86 = .ok (.iaload, 1) := by decide +kernel
theorem dX13_own_87 : decode cX13_own 87 = .ok (.bipush 6, 2) := by decide +kernel
theorem dX13_own_89 : decode cX13_own 89 = .ok (.if_icmp .ne 45, 3) := by decide +kernel
theorem dX13_own_9 : decode cX13_own 9 = .ok (.getfield 397, 3) := by decide +kernel
theorem dX13_own_92 : decode cX13_own 92 = .ok (.goto 33, 3) := by decide +kernel
theorem dX13_own_95 : decode cX13_own 95 = .ok (.iload_n 2, 1) := by decide +kernel
theorem dX13_own_96 : decode cX13_own 96 = .ok (.bipush 8, 2) := by decide +kernel
theorem dX13_own_98 : decode cX13_own 98 = .ok (.if_icmp .ne 16, 3) := by decide +kernel
noncomputable def k_X13_own_223 (s : t_S) : Option (t_S) :=
 (f_X13_mustBe (59 : Int32) s).bind (fun r1 =>
 some (r1))
set_option maxRecDepth 4000 in
set_option maxHeartbeats 1000000 in
theorem B_X13_own_223 {D : va_G} {cy : Nat → ClassId} {ad : Nat → Nat} {bs : Nat} {X : State → Heap → Prop} (s : t_S) (Q : t_S → Prop) (hk : t_hk (k_X13_own_223 s) Q) : mj_G D cy ad bs X cX13_own 4 yX13_own.cls none yX13_own.name 310 0 0 1065 (t_P (fun v s' => v = none ∧ Q (s'))) 223 [(0, .ref 950)] [] (t_m s) 1065 0 0 := by
  refine mj_aload_n dX13_own_223 0 rfl ?_
  refine mj_bipush (v := 59) dX13_own_224 (by decide) ?_
  refine t_bndK hk (fun r1 er1 hk => ?_)
  refine t_callVvE dX13_own_226 M_X13_mustBe (C_X13_mustBe _ _ _ er1) ML_X13_528 IM_X13_mustBe SE_X13_mustBe qc_950 rfl (As := [.int 59]) rfl rfl (Nat.le_of_ble_eq_true rfl) (Nat.le_of_ble_eq_true rfl) (Nat.le_of_ble_eq_true rfl) (Nat.le_of_ble_eq_true rfl) ?_
  exact t_somK hk (fun hf => t_vret dX13_own_229 rfl ⟨rfl, hf⟩ (Nat.le_of_ble_eq_true rfl) (Nat.le_of_ble_eq_true rfl))
noncomputable def k_X13_own_134 (l1 : Int32) (l2 : Int32) (l3 : Int32) (s : t_S) : Option (t_S) :=
 if (s.1 950 2) = (0 : Int32) then ((f_X13_next s).bind (fun r1 =>
 if l2 = (7 : Int32) then (if t_ix l1 8 = true then
  if t_ix (((6 : Int32) * l1) + (r1.1 972 (l1.toNatClampNeg))) 48 = true then
  t_let (t_setI r1 971 ((((6 : Int32) * l1) + (r1.1 972 (l1.toNatClampNeg))).toNatClampNeg) l3) (fun s3 =>
 t_let (t_setI s3 972 (l1.toNatClampNeg) ((s3.1 972 (l1.toNatClampNeg)) + (1 : Int32))) (fun s4 =>
 k_X13_own_223 s4))
else none
else none)
 else (if l2 = (8 : Int32) then (if t_ix l1 8 = true then
  if t_ix (((4 : Int32) * l1) + (r1.1 974 (l1.toNatClampNeg))) 32 = true then
  t_let (t_setI r1 973 ((((4 : Int32) * l1) + (r1.1 974 (l1.toNatClampNeg))).toNatClampNeg) l3) (fun s1 =>
 t_let (t_setI s1 974 (l1.toNatClampNeg) ((s1.1 974 (l1.toNatClampNeg)) + (1 : Int32))) (fun s2 =>
 k_X13_own_223 s2))
else none
else none)
 else ((f_X13_ownVar l1 l3 r1).bind (fun r2 =>
 k_X13_own_223 r2)))))
 else (some (s))
set_option maxRecDepth 4000 in
set_option maxHeartbeats 1000000 in
theorem B_X13_own_134 {D : va_G} {cy : Nat → ClassId} {ad : Nat → Nat} {bs : Nat} {X : State → Heap → Prop} (l1 : Int32) (l2 : Int32) (l3 : Int32) (s : t_S) (Q : t_S → Prop) (hk : t_hk (k_X13_own_134 l1 l2 l3 s) Q) : mj_G D cy ad bs X cX13_own 4 yX13_own.cls none yX13_own.name 310 0 0 1065 (t_P (fun v s' => v = none ∧ Q (s'))) 134 [(0, .ref 950), (1, .int l1), (2, .int l2), (3, .int l3)] [] (t_m s) 1065 0 0 := by
  refine mj_aload_n dX13_own_134 0 rfl ?_
  refine t_getI dX13_own_135 F_X13_375 qf_950_2 ?_
  refine mj_if_eq 142 dX13_own_138 (by decide) (fun z => t_posK hk z (fun hk => ?_)) (fun z => t_negK hk z (fun hk => ?_))
  · refine mj_aload_n dX13_own_142 0 rfl ?_
    refine t_bndK hk (fun r1 er1 hk => ?_)
    refine t_callVvE dX13_own_143 M_X13_next (C_X13_next _ _ er1) ML_X13_452 IM_X13_next SE_X13_next qc_950 rfl (As := []) rfl rfl (Nat.le_of_ble_eq_true rfl) (Nat.le_of_ble_eq_true rfl) (Nat.le_of_ble_eq_true rfl) (Nat.le_of_ble_eq_true rfl) ?_
    refine mj_iload_n dX13_own_146 2 rfl ?_
    refine mj_bipush (v := 7) dX13_own_147 (by decide) ?_
    refine mj_icmp_ne 182 dX13_own_149 (by decide) (fun z => t_negK hk z (fun hk => ?_)) (fun z => t_posK hk z (fun hk => ?_))
    · refine mj_iload_n dX13_own_182 2 rfl ?_
      refine mj_bipush (v := 8) dX13_own_183 (by decide) ?_
      refine mj_icmp_ne 217 dX13_own_185 (by decide) (fun z => t_negK hk z (fun hk => ?_)) (fun z => t_posK hk z (fun hk => ?_))
      · refine mj_aload_n dX13_own_217 0 rfl ?_
        refine mj_iload_n dX13_own_218 1 rfl ?_
        refine mj_iload_n dX13_own_219 3 rfl ?_
        refine t_bndK hk (fun r2 er2 hk => ?_)
        refine t_callVvE dX13_own_220 M_X13_ownVar (C_X13_ownVar _ _ _ _ er2) ML_X13_705 IM_X13_ownVar SE_X13_ownVar qc_950 rfl (As := [.int l1, .int l3]) rfl rfl (Nat.le_of_ble_eq_true rfl) (Nat.le_of_ble_eq_true rfl) (Nat.le_of_ble_eq_true rfl) (Nat.le_of_ble_eq_true rfl) ?_
        refine mj_sublv [(0, .ref 950)] [0] rfl ?_
        exact B_X13_own_223 _ _ hk
      · refine mj_aload_n dX13_own_188 0 rfl ?_
        refine t_getR 973 dX13_own_189 F_X13_81 qr_950_48 ?_
        refine mj_iconst (v := 4) dX13_own_192 (by decide) ?_
        refine mj_iload_n dX13_own_193 1 rfl ?_
        refine mj_imul dX13_own_194 ?_
        refine mj_aload_n dX13_own_195 0 rfl ?_
        refine t_getR 974 dX13_own_196 F_X13_84 qr_950_49 ?_
        refine mj_iload_n dX13_own_199 1 rfl ?_
        refine t_chkK hk (fun c2 hk => ?_)
        refine t_iald dX13_own_200 qa_974 (t_ixv c2) ?_
        refine mj_iadd dX13_own_201 ?_
        refine mj_iload_n dX13_own_202 3 rfl ?_
        refine t_chkK hk (fun c3 hk => ?_)
        refine t_iastK dX13_own_203 qa_973 (t_ixv c3) (fun s1 ws1 => t_letE hk ws1 (fun hk => ?_))
        refine mj_aload_n dX13_own_204 0 rfl ?_
        refine t_getR 974 dX13_own_205 F_X13_84 qr_950_49 ?_
        refine mj_iload_n dX13_own_208 1 rfl ?_
        refine mj_dup2 dX13_own_209 rfl rfl ?_
        refine t_iald dX13_own_210 qa_974 (t_ixv c2) ?_
        refine mj_iconst (v := 1) dX13_own_211 (by decide) ?_
        refine mj_iadd dX13_own_212 ?_
        refine t_iastK dX13_own_213 qa_974 (t_ixv c2) (fun s2 ws2 => t_letE hk ws2 (fun hk => ?_))
        refine mj_goto 223 dX13_own_214 (by decide) ?_
        refine mj_sublv [(0, .ref 950)] [0] rfl ?_
        exact B_X13_own_223 _ _ hk
    · refine mj_aload_n dX13_own_152 0 rfl ?_
      refine t_getR 971 dX13_own_153 F_X13_75 qr_950_46 ?_
      refine mj_bipush (v := 6) dX13_own_156 (by decide) ?_
      refine mj_iload_n dX13_own_158 1 rfl ?_
      refine mj_imul dX13_own_159 ?_
      refine mj_aload_n dX13_own_160 0 rfl ?_
      refine t_getR 972 dX13_own_161 F_X13_78 qr_950_47 ?_
      refine mj_iload_n dX13_own_164 1 rfl ?_
      refine t_chkK hk (fun c4 hk => ?_)
      refine t_iald dX13_own_165 qa_972 (t_ixv c4) ?_
      refine mj_iadd dX13_own_166 ?_
      refine mj_iload_n dX13_own_167 3 rfl ?_
      refine t_chkK hk (fun c5 hk => ?_)
      refine t_iastK dX13_own_168 qa_971 (t_ixv c5) (fun s3 ws3 => t_letE hk ws3 (fun hk => ?_))
      refine mj_aload_n dX13_own_169 0 rfl ?_
      refine t_getR 972 dX13_own_170 F_X13_78 qr_950_47 ?_
      refine mj_iload_n dX13_own_173 1 rfl ?_
      refine mj_dup2 dX13_own_174 rfl rfl ?_
      refine t_iald dX13_own_175 qa_972 (t_ixv c4) ?_
      refine mj_iconst (v := 1) dX13_own_176 (by decide) ?_
      refine mj_iadd dX13_own_177 ?_
      refine t_iastK dX13_own_178 qa_972 (t_ixv c4) (fun s4 ws4 => t_letE hk ws4 (fun hk => ?_))
      refine mj_goto 223 dX13_own_179 (by decide) ?_
      refine mj_sublv [(0, .ref 950)] [0] rfl ?_
      exact B_X13_own_223 _ _ hk
  · exact t_somK hk (fun hf => t_vret dX13_own_141 rfl ⟨rfl, hf⟩ (Nat.le_of_ble_eq_true rfl) (Nat.le_of_ble_eq_true rfl))
noncomputable def k_X13_own_125 (l1 : Int32) (l2 : Int32) (l3 : Int32) (s : t_S) : Option (t_S) :=
 (f_X13_fail (5 : Int32) (s.1 950 6) s).bind (fun r1 =>
 k_X13_own_134 l1 l2 l3 r1)
set_option maxRecDepth 4000 in
set_option maxHeartbeats 1000000 in
theorem B_X13_own_125 {D : va_G} {cy : Nat → ClassId} {ad : Nat → Nat} {bs : Nat} {X : State → Heap → Prop} (l1 : Int32) (l2 : Int32) (l3 : Int32) (s : t_S) (Q : t_S → Prop) (hk : t_hk (k_X13_own_125 l1 l2 l3 s) Q) : mj_G D cy ad bs X cX13_own 4 yX13_own.cls none yX13_own.name 310 0 0 1065 (t_P (fun v s' => v = none ∧ Q (s'))) 125 [(0, .ref 950), (1, .int l1), (2, .int l2), (3, .int l3)] [] (t_m s) 1065 0 0 := by
  refine mj_aload_n dX13_own_125 0 rfl ?_
  refine mj_iconst (v := 5) dX13_own_126 (by decide) ?_
  refine mj_aload_n dX13_own_127 0 rfl ?_
  refine t_getI dX13_own_128 F_X13_391 qf_950_6 ?_
  refine t_bndK hk (fun r1 er1 hk => ?_)
  refine t_callVvE dX13_own_131 M_X13_fail (C_X13_fail _ _ _ _ er1) ML_X13_411 IM_X13_fail SE_X13_fail qc_950 rfl (As := [.int 5, .int (s.1 950 6)]) rfl rfl (Nat.le_of_ble_eq_true rfl) (Nat.le_of_ble_eq_true rfl) (Nat.le_of_ble_eq_true rfl) (Nat.le_of_ble_eq_true rfl) ?_
  exact B_X13_own_134 _ _ _ _ _ hk
noncomputable def k_X13_own_75 (l1 : Int32) (l2 : Int32) (l3 : Int32) (s : t_S) : Option (t_S) :=
 if l2 = (7 : Int32) then (if t_ix l1 8 = true then
  if (s.1 972 (l1.toNatClampNeg)) = (6 : Int32) then (k_X13_own_125 l1 l2 l3 s)
 else (k_X13_own_134 l1 l2 l3 s)
else none)
 else (if l2 = (8 : Int32) then (if t_ix l1 8 = true then
  if (s.1 974 (l1.toNatClampNeg)) = (4 : Int32) then (k_X13_own_125 l1 l2 l3 s)
 else (k_X13_own_134 l1 l2 l3 s)
else none)
 else (if t_ix l1 8 = true then
  if (s.1 979 (l1.toNatClampNeg)) = (8 : Int32) then (k_X13_own_125 l1 l2 l3 s)
 else (k_X13_own_134 l1 l2 l3 s)
else none))
set_option maxRecDepth 4000 in
set_option maxHeartbeats 1000000 in
theorem B_X13_own_75 {D : va_G} {cy : Nat → ClassId} {ad : Nat → Nat} {bs : Nat} {X : State → Heap → Prop} (l1 : Int32) (l2 : Int32) (l3 : Int32) (s : t_S) (Q : t_S → Prop) (hk : t_hk (k_X13_own_75 l1 l2 l3 s) Q) : mj_G D cy ad bs X cX13_own 4 yX13_own.cls none yX13_own.name 310 0 0 1065 (t_P (fun v s' => v = none ∧ Q (s'))) 75 [(0, .ref 950), (1, .int l1), (2, .int l2), (3, .int l3)] [] (t_m s) 1065 0 0 := by
  refine mj_iload_n dX13_own_75 2 rfl ?_
  refine mj_bipush (v := 7) dX13_own_76 (by decide) ?_
  refine mj_icmp_ne 95 dX13_own_78 (by decide) (fun z => t_negK hk z (fun hk => ?_)) (fun z => t_posK hk z (fun hk => ?_))
  · refine mj_iload_n dX13_own_95 2 rfl ?_
    refine mj_bipush (v := 8) dX13_own_96 (by decide) ?_
    refine mj_icmp_ne 114 dX13_own_98 (by decide) (fun z => t_negK hk z (fun hk => ?_)) (fun z => t_posK hk z (fun hk => ?_))
    · refine mj_aload_n dX13_own_114 0 rfl ?_
      refine t_getR 979 dX13_own_115 F_X13_99 qr_950_54 ?_
      refine mj_iload_n dX13_own_118 1 rfl ?_
      refine t_chkK hk (fun c0 hk => ?_)
      refine t_iald dX13_own_119 qa_979 (t_ixv c0) ?_
      refine mj_bipush (v := 8) dX13_own_120 (by decide) ?_
      refine mj_icmp_ne 134 dX13_own_122 (by decide) (fun z => t_negK hk z (fun hk => ?_)) (fun z => t_posK hk z (fun hk => ?_))
      · exact B_X13_own_134 _ _ _ _ _ hk
      · exact B_X13_own_125 _ _ _ _ _ hk
    · refine mj_aload_n dX13_own_101 0 rfl ?_
      refine t_getR 974 dX13_own_102 F_X13_84 qr_950_49 ?_
      refine mj_iload_n dX13_own_105 1 rfl ?_
      refine t_chkK hk (fun c1 hk => ?_)
      refine t_iald dX13_own_106 qa_974 (t_ixv c1) ?_
      refine mj_iconst (v := 4) dX13_own_107 (by decide) ?_
      refine mj_icmp_ne 134 dX13_own_108 (by decide) (fun z => t_negK hk z (fun hk => ?_)) (fun z => t_posK hk z (fun hk => ?_))
      · exact B_X13_own_134 _ _ _ _ _ hk
      · refine mj_goto 125 dX13_own_111 (by decide) ?_
        exact B_X13_own_125 _ _ _ _ _ hk
  · refine mj_aload_n dX13_own_81 0 rfl ?_
    refine t_getR 972 dX13_own_82 F_X13_78 qr_950_47 ?_
    refine mj_iload_n dX13_own_85 1 rfl ?_
    refine t_chkK hk (fun c2 hk => ?_)
    refine t_iald dX13_own_86 qa_972 (t_ixv c2) ?_
    refine mj_bipush (v := 6) dX13_own_87 (by decide) ?_
    refine mj_icmp_ne 134 dX13_own_89 (by decide) (fun z => t_negK hk z (fun hk => ?_)) (fun z => t_posK hk z (fun hk => ?_))
    · exact B_X13_own_134 _ _ _ _ _ hk
    · refine mj_goto 125 dX13_own_92 (by decide) ?_
      exact B_X13_own_125 _ _ _ _ _ hk
noncomputable def k_X13_own_16 (l1 : Int32) (k0 : Int32) (s : t_S) : Option (t_S) :=
 if (f_X13_in k0.toInt64 (7 : Int64) (9 : Int64) s) = (0 : Int32) then ((f_X13_fail (2 : Int32) (s.1 950 6) s).bind (fun r6 =>
 some (r6)))
 else ((f_X13_next s).bind (fun r2 =>
 (f_X13_freeName r2).bind (fun r3 =>
 if (r3.2.1 950 2) = (0 : Int32) then ((f_X13_isOwn l1 r3.1 r3.2).bind (fun r4 =>
 if r4 = (0 : Int32) then (k_X13_own_75 l1 k0 r3.1 r3.2)
 else ((f_X13_fail (3 : Int32) (r3.2.1 950 6) r3.2).bind (fun r5 =>
 k_X13_own_75 l1 k0 r3.1 r5))))
 else (k_X13_own_75 l1 k0 r3.1 r3.2))))
set_option maxRecDepth 4000 in
set_option maxHeartbeats 1000000 in
theorem B_X13_own_16 {D : va_G} {cy : Nat → ClassId} {ad : Nat → Nat} {bs : Nat} {X : State → Heap → Prop} (l1 : Int32) (k0 : Int32) (s : t_S) (Q : t_S → Prop) (hk : t_hk (k_X13_own_16 l1 k0 s) Q) : mj_G D cy ad bs X cX13_own 4 yX13_own.cls none yX13_own.name 310 0 0 1065 (t_P (fun v s' => v = none ∧ Q (s'))) 16 [(0, .ref 950), (1, .int l1)] [.int k0] (t_m s) 1065 0 0 := by
  refine mj_istore_n 2 (lv2 := [(2, .int k0), (0, .ref 950), (1, .int l1)]) dX13_own_16 rfl (by decide) rfl ?_
  refine mj_iload_n dX13_own_17 0 rfl ?_
  refine mj_i2l (v := k0.toInt64) dX13_own_18 rfl ?_
  refine mj_ldc2 dX13_own_19 K_X13_697 ?_
  refine mj_ldc2 dX13_own_22 K_X13_699 ?_
  refine t_callSiP dX13_own_25 M_X13_in (C_X13_in _ _ _ _) ML_X13_371 SM_X13_in (As := [.long k0.toInt64, .long 7, .long 9]) rfl rfl (Nat.le_of_ble_eq_true rfl) (Nat.le_of_ble_eq_true rfl) (Nat.le_of_ble_eq_true rfl) (Nat.le_of_ble_eq_true rfl) ?_
  refine mj_if_ne 41 dX13_own_28 (by decide) (fun z => t_negK hk z (fun hk => ?_)) (fun z => t_posK hk z (fun hk => ?_))
  · refine mj_aload_n dX13_own_41 1 rfl ?_
    refine t_bndK hk (fun r2 er2 hk => ?_)
    refine t_callVvE dX13_own_42 M_X13_next (C_X13_next _ _ er2) ML_X13_452 IM_X13_next SE_X13_next qc_950 rfl (As := []) rfl rfl (Nat.le_of_ble_eq_true rfl) (Nat.le_of_ble_eq_true rfl) (Nat.le_of_ble_eq_true rfl) (Nat.le_of_ble_eq_true rfl) ?_
    refine mj_aload_n dX13_own_45 1 rfl ?_
    refine t_bndK hk (fun r3 er3 hk => ?_)
    refine t_callViE dX13_own_46 M_X13_freeName (C_X13_freeName _ _ er3) ML_X13_535 IM_X13_freeName SE_X13_freeName qc_950 rfl (As := []) rfl rfl (Nat.le_of_ble_eq_true rfl) (Nat.le_of_ble_eq_true rfl) (Nat.le_of_ble_eq_true rfl) (Nat.le_of_ble_eq_true rfl) ?_
    refine mj_istore_n 3 (lv2 := [(3, .int r3.1), (2, .int k0), (0, .ref 950), (1, .int l1)]) dX13_own_49 rfl (by decide) rfl ?_
    refine mj_aload_n dX13_own_50 2 rfl ?_
    refine t_getI dX13_own_51 F_X13_375 qf_950_2 ?_
    refine mj_if_ne 75 dX13_own_54 (by decide) (fun z => t_negK hk z (fun hk => ?_)) (fun z => t_posK hk z (fun hk => ?_))
    · refine mj_sublv [(0, .ref 950), (1, .int l1), (2, .int k0), (3, .int r3.1)] [2, 3, 1, 0] rfl ?_
      exact B_X13_own_75 _ _ _ _ _ hk
    · refine mj_aload_n dX13_own_57 2 rfl ?_
      refine mj_iload_n dX13_own_58 3 rfl ?_
      refine mj_iload_n dX13_own_59 0 rfl ?_
      refine t_bndK hk (fun r4 er4 hk => ?_)
      refine t_callViP dX13_own_60 M_X13_isOwn (C_X13_isOwn _ _ _ _ er4) ML_X13_701 IM_X13_isOwn SE_X13_isOwn qc_950 rfl (As := [.int l1, .int r3.1]) rfl rfl (Nat.le_of_ble_eq_true rfl) (Nat.le_of_ble_eq_true rfl) (Nat.le_of_ble_eq_true rfl) (Nat.le_of_ble_eq_true rfl) ?_
      refine mj_if_eq 75 dX13_own_63 (by decide) (fun z => t_posK hk z (fun hk => ?_)) (fun z => t_negK hk z (fun hk => ?_))
      · refine mj_sublv [(0, .ref 950), (1, .int l1), (2, .int k0), (3, .int r3.1)] [2, 3, 1, 0] rfl ?_
        exact B_X13_own_75 _ _ _ _ _ hk
      · refine mj_aload_n dX13_own_66 2 rfl ?_
        refine mj_iconst (v := 3) dX13_own_67 (by decide) ?_
        refine mj_aload_n dX13_own_68 2 rfl ?_
        refine t_getI dX13_own_69 F_X13_391 qf_950_6 ?_
        refine t_bndK hk (fun r5 er5 hk => ?_)
        refine t_callVvE dX13_own_72 M_X13_fail (C_X13_fail _ _ _ _ er5) ML_X13_411 IM_X13_fail SE_X13_fail qc_950 rfl (As := [.int 3, .int (r3.2.1 950 6)]) rfl rfl (Nat.le_of_ble_eq_true rfl) (Nat.le_of_ble_eq_true rfl) (Nat.le_of_ble_eq_true rfl) (Nat.le_of_ble_eq_true rfl) ?_
        refine mj_sublv [(0, .ref 950), (1, .int l1), (2, .int k0), (3, .int r3.1)] [2, 3, 1, 0] rfl ?_
        exact B_X13_own_75 _ _ _ _ _ hk
  · refine mj_aload_n dX13_own_31 1 rfl ?_
    refine mj_iconst (v := 2) dX13_own_32 (by decide) ?_
    refine mj_aload_n dX13_own_33 1 rfl ?_
    refine t_getI dX13_own_34 F_X13_391 qf_950_6 ?_
    refine t_bndK hk (fun r6 er6 hk => ?_)
    refine t_callVvE dX13_own_37 M_X13_fail (C_X13_fail _ _ _ _ er6) ML_X13_411 IM_X13_fail SE_X13_fail qc_950 rfl (As := [.int 2, .int (s.1 950 6)]) rfl rfl (Nat.le_of_ble_eq_true rfl) (Nat.le_of_ble_eq_true rfl) (Nat.le_of_ble_eq_true rfl) (Nat.le_of_ble_eq_true rfl) ?_
    exact t_somK hk (fun hf => t_vret dX13_own_40 rfl ⟨rfl, hf⟩ (Nat.le_of_ble_eq_true rfl) (Nat.le_of_ble_eq_true rfl))
noncomputable def f_X13_own (x1 : Int32) (s : t_S) : Option (t_S) :=
 if (s.1 950 5) = (1 : Int32) then (k_X13_own_16 x1 (s.1 950 10) s)
 else (k_X13_own_16 x1 (-1) s)
set_option maxRecDepth 4000 in
set_option maxHeartbeats 1000000 in
theorem C_X13_own (x1 : Int32) (s : t_S) (r : t_S) (hr : f_X13_own x1 s = some r) : t_C yX13_own cX13_own 4 none 310 [.ref 950, .int x1] s (fun v s' => v = none ∧ s' = r) := by
  refine t_C.imp (P := fun v s' => v = none ∧ (fun q => q = r) (s')) (t_C.of (by decide +kernel) (Nat.le_of_ble_eq_true rfl) ?_) (fun v s' hp => hp)
  intro D cy ad bs X
  have hk : t_hk (f_X13_own x1 s) (fun q => q = r) := ⟨r, hr, rfl⟩
  show mj_G D cy ad bs X cX13_own 4 yX13_own.cls none yX13_own.name 310 0 0 1065 (t_P (fun v s' => v = none ∧ (fun q => q = r) (s'))) 0 [(0, .ref 950), (1, .int x1)] [] (t_m s) 1065 0 0
  refine mj_aload_n dX13_own_0 0 rfl ?_
  refine t_getI dX13_own_1 F_X13_385 qf_950_5 ?_
  refine mj_iconst (v := 1) dX13_own_4 (by decide) ?_
  refine mj_icmp_ne 15 dX13_own_5 (by decide) (fun z => t_negK hk z (fun hk => ?_)) (fun z => t_posK hk z (fun hk => ?_))
  · refine mj_iconst (v := (-1)) dX13_own_15 (by decide) ?_
    exact B_X13_own_16 _ _ _ _ hk
  · refine mj_aload_n dX13_own_8 0 rfl ?_
    refine t_getI dX13_own_9 F_X13_397 qf_950_10 ?_
    refine mj_goto 16 dX13_own_12 (by decide) ?_
    exact B_X13_own_16 _ _ _ _ hk

theorem dX13_component_0 : decode cX13_component 0 = .ok (.aload_n 0, 1) := by decide +kernel
theorem dX13_component_1 : decode cX13_component 1 = .ok (.aload_n 0, 1) := by decide +kernel
theorem dX13_component_10 : decode cX13_component 10 = .ok (.istore_n 1, 1) := by decide +kernel
theorem dX13_component_102 : decode cX13_component 102 = .ok (.return_, 1) := by decide +kernel
theorem dX13_component_11 : decode cX13_component 11 = .ok (.aload_n 0, 1) := by decide +kernel
theorem dX13_component_12 : decode cX13_component 12 = .ok (.getfield 375, 3) := by decide +kernel
theorem dX13_component_15 : decode cX13_component 15 = .ok (.ifCond .eq 4, 3) := by decide +kernel
theorem dX13_component_18 : decode cX13_component 18 = .ok (.return_, 1) := by decide +kernel
theorem dX13_component_19 : decode cX13_component 19 = .ok (.aload_n 0, 1) := by decide +kernel
theorem dX13_component_2 : decode cX13_component 2 = .ok (.getfield 630, 3) := by decide +kernel
theorem dX13_component_20 : decode cX13_component 20 = .ok (.getfield 630, 3) := by decide +kernel
theorem dX13_component_23 : decode cX13_component 23 = .ok (.istore_n 2, 1) := by decide +kernel
theorem dX13_component_24 : decode cX13_component 24 = .ok (.aload_n 0, 1) := by decide +kernel
theorem dX13_component_25 : decode cX13_component 25 = .ok (.dup, 1) := by decide +kernel
theorem dX13_component_26 : decode cX13_component 26 = .ok (.getfield 630, 3) := by decide +kernel
theorem dX13_component_29 : decode cX13_component 29 = .ok (.iconst 1, 1) := by decide +kernel
theorem dX13_component_30 : decode cX13_component 30 = .ok (.iadd, 1) := by decide +kernel
theorem dX13_component_31 : decode cX13_component 31 = .ok (.putfield 630, 3) := by decide +kernel
theorem dX13_component_34 : decode cX13_component 34 = .ok (.aload_n 0, 1) := by decide +kernel
theorem dX13_component_35 : decode cX13_component 35 = .ok (.getfield 72, 3) := by decide +kernel
theorem dX13_component_38 : decode cX13_component 38 = .ok (.iload_n 2, 1) := by decide +kernel
theorem dX13_component_39 : decode cX13_component 39 = .ok (.iload_n 1, 1) := by decide +kernel
theorem dX13_component_40 : decode cX13_component 40 = .ok (.iastore, 1) := by decide +kernel
theorem dX13_component_41 : decode cX13_component 41 = .ok (.aload_n 0, 1) := by decide +kernel
theorem dX13_component_42 : decode cX13_component 42 = .ok (.getfield 78, 3) := by decide +kernel
theorem dX13_component_45 : decode cX13_component 45 = .ok (.iload_n 2, 1) := by decide +kernel
theorem dX13_component_46 : decode cX13_component 46 = .ok (.iconst 0, 1) := by decide +kernel
theorem dX13_component_47 : decode cX13_component 47 = .ok (.iastore, 1) := by decide +kernel
theorem dX13_component_48 : decode cX13_component 48 = .ok (.aload_n 0, 1) := by decide +kernel
theorem dX13_component_49 : decode cX13_component 49 = .ok (.getfield 84, 3) := by decide +kernel
theorem dX13_component_5 : decode cX13_component 5 = .ok (.bipush 8, 2) := by decide +kernel
theorem dX13_component_52 : decode cX13_component 52 = .ok (.iload_n 2, 1) := by decide +kernel
theorem dX13_component_53 : decode cX13_component 53 = .ok (.iconst 0, 1) := by decide +kernel
theorem dX13_component_54 : decode cX13_component 54 = .ok (.iastore, 1) := by decide +kernel
theorem dX13_component_55 : decode cX13_component 55 = .ok (.aload_n 0, 1) := by decide +kernel
theorem dX13_component_56 : decode cX13_component 56 = .ok (.getfield 99, 3) := by decide +kernel
theorem dX13_component_59 : decode cX13_component 59 = .ok (.iload_n 2, 1) := by decide +kernel
theorem dX13_component_60 : decode cX13_component 60 = .ok (.iconst 0, 1) := by decide +kernel
theorem dX13_component_61 : decode cX13_component 61 = .ok (.iastore, 1) := by decide +kernel
theorem dX13_component_62 : decode cX13_component 62 = .ok (.aload_n 0, 1) := by decide +kernel
theorem dX13_component_63 : decode cX13_component 63 = .ok (.invokevirtual 452, 3) := by decide +kernel
theorem dX13_component_66 : decode cX13_component 66 = .ok (.aload_n 0, 1) := by decide +kernel
theorem dX13_component_67 : decode cX13_component 67 = .ok (.bipush 123, 2) := by decide +kernel
theorem dX13_component_69 : decode cX13_component 69 = .ok (.invokevirtual 528, 3) := by decide +kernel
theorem dX13_component_7 : decode cX13_component 7 = .ok (.invokevirtual 684, 3) := by decide +kernel
theorem dX13_component_72 : decode cX13_component 72 = .ok (.aload_n 0, 1) := by decide +kernel
theorem dX13_component_73 : decode cX13_component 73 = .ok (.getfield 375, 3) := by decide +kernel
theorem dX13_component_76 : decode cX13_component 76 = .ok (.ifCond .ne 20, 3) := by decide +kernel
theorem dX13_component_79 : decode cX13_component 79 = .ok (.aload_n 0, 1) := by decide +kernel
theorem dX13_component_80 : decode cX13_component 80 = .ok (.bipush 125, 2) := by decide +kernel
theorem dX13_component_82 : decode cX13_component 82 = .ok (.invokevirtual 449, 3) := by decide +kernel
theorem dX13_component_85 : decode cX13_component 85 = .ok (.ifCond .ne 11, 3) := by decide +kernel
theorem dX13_component_88 : decode cX13_component 88 = .ok (.aload_n 0, 1) := by decide +kernel
theorem dX13_component_89 : decode cX13_component 89 = .ok (.iload_n 2, 1) := by decide +kernel
theorem dX13_component_90 : decode cX13_component 90 = .ok (.invokevirtual 694, 3) := by decide +kernel
theorem dX13_component_93 : decode cX13_component 93 = .ok (.goto (-21), 3) := by decide +kernel
theorem dX13_component_96 : decode cX13_component 96 = .ok (.aload_n 0, 1) := by decide +kernel
theorem dX13_component_97 : decode cX13_component 97 = .ok (.bipush 125, 2) := by decide +kernel
theorem dX13_component_99 : decode cX13_component 99 = .ok (.invokevirtual 528, 3) := by decide +kernel
noncomputable def k_X13_component_96 (s : t_S) : Option (t_S) :=
 (f_X13_mustBe (125 : Int32) s).bind (fun r1 =>
 some (r1))
set_option maxRecDepth 4000 in
set_option maxHeartbeats 1000000 in
theorem B_X13_component_96 {D : va_G} {cy : Nat → ClassId} {ad : Nat → Nat} {bs : Nat} {X : State → Heap → Prop} (s : t_S) (Q : t_S → Prop) (hk : t_hk (k_X13_component_96 s) Q) : mj_G D cy ad bs X cX13_component 3 yX13_component.cls none yX13_component.name 311 0 0 1065 (t_P (fun v s' => v = none ∧ Q (s'))) 96 [(0, .ref 950)] [] (t_m s) 1065 0 0 := by
  refine mj_aload_n dX13_component_96 0 rfl ?_
  refine mj_bipush (v := 125) dX13_component_97 (by decide) ?_
  refine t_bndK hk (fun r1 er1 hk => ?_)
  refine t_callVvE dX13_component_99 M_X13_mustBe (C_X13_mustBe _ _ _ er1) ML_X13_528 IM_X13_mustBe SE_X13_mustBe qc_950 rfl (As := [.int 125]) rfl rfl (Nat.le_of_ble_eq_true rfl) (Nat.le_of_ble_eq_true rfl) (Nat.le_of_ble_eq_true rfl) (Nat.le_of_ble_eq_true rfl) ?_
  exact t_somK hk (fun hf => t_vret dX13_component_102 rfl ⟨rfl, hf⟩ (Nat.le_of_ble_eq_true rfl) (Nat.le_of_ble_eq_true rfl))
noncomputable def k_X13_component_72 (l2 : Int32) (s : t_S) : Option ((Int32 × t_S) ⊕ (t_S)) :=
 if (s.1 950 2) = (0 : Int32) then (if (f_X13_is (125 : Int32) s) = (0 : Int32) then ((f_X13_own l2 s).bind (fun r2 =>
 some (.inl (l2, r2))))
 else ((k_X13_component_96 s).map Sum.inr))
 else ((k_X13_component_96 s).map Sum.inr)
set_option maxRecDepth 4000 in
set_option maxHeartbeats 1000000 in
theorem B_X13_component_72 {D : va_G} {cy : Nat → ClassId} {ad : Nat → Nat} {bs : Nat} {X : State → Heap → Prop} (l2 : Int32) (s : t_S) (Q : (Int32 × t_S) ⊕ (t_S) → Prop) (Hb72 : ∀ (y0 : Int32) (y1 : t_S), Q (.inl (y0, y1)) → mj_G D cy ad bs X cX13_component 3 yX13_component.cls none yX13_component.name 311 0 0 1065 (t_P (fun v s' => v = none ∧ Q (.inr (s')))) 72 [(0, .ref 950), (2, .int (y0))] [] (t_m y1) 1065 0 0) (hk : t_hk (k_X13_component_72 l2 s) Q) : mj_G D cy ad bs X cX13_component 3 yX13_component.cls none yX13_component.name 311 0 0 1065 (t_P (fun v s' => v = none ∧ Q (.inr (s')))) 72 [(0, .ref 950), (2, .int l2)] [] (t_m s) 1065 0 0 := by
  refine mj_aload_n dX13_component_72 0 rfl ?_
  refine t_getI dX13_component_73 F_X13_375 qf_950_2 ?_
  refine mj_if_ne 96 dX13_component_76 (by decide) (fun z => t_negK hk z (fun hk => ?_)) (fun z => t_posK hk z (fun hk => ?_))
  · refine mj_sublv [(0, .ref 950)] [0] rfl ?_
    refine t_mapK hk (fun hk => ?_)
    exact B_X13_component_96 _ _ hk
  · refine mj_aload_n dX13_component_79 0 rfl ?_
    refine mj_bipush (v := 125) dX13_component_80 (by decide) ?_
    refine t_callViP dX13_component_82 M_X13_is (C_X13_is _ _) ML_X13_449 IM_X13_is SE_X13_is qc_950 rfl (As := [.int 125]) rfl rfl (Nat.le_of_ble_eq_true rfl) (Nat.le_of_ble_eq_true rfl) (Nat.le_of_ble_eq_true rfl) (Nat.le_of_ble_eq_true rfl) ?_
    refine mj_if_ne 96 dX13_component_85 (by decide) (fun z => t_negK hk z (fun hk => ?_)) (fun z => t_posK hk z (fun hk => ?_))
    · refine mj_sublv [(0, .ref 950)] [0] rfl ?_
      refine t_mapK hk (fun hk => ?_)
      exact B_X13_component_96 _ _ hk
    · refine mj_aload_n dX13_component_88 0 rfl ?_
      refine mj_iload_n dX13_component_89 1 rfl ?_
      refine t_bndK hk (fun r2 er2 hk => ?_)
      refine t_callVvE dX13_component_90 M_X13_own (C_X13_own _ _ _ er2) ML_X13_694 IM_X13_own SE_X13_own qc_950 rfl (As := [.int l2]) rfl rfl (Nat.le_of_ble_eq_true rfl) (Nat.le_of_ble_eq_true rfl) (Nat.le_of_ble_eq_true rfl) (Nat.le_of_ble_eq_true rfl) ?_
      refine mj_goto 72 dX13_component_93 (by decide) ?_
      exact t_somK hk (fun hf => Hb72 l2 r2 hf)
noncomputable def b_X13_component_72 (x : Int32 × t_S) : Option ((Int32 × t_S) ⊕ (t_S)) := k_X13_component_72 x.1 x.2
set_option maxRecDepth 4000 in
set_option maxHeartbeats 1000000 in
theorem LH_X13_component_72 {D : va_G} {cy : Nat → ClassId} {ad : Nat → Nat} {bs : Nat} {X : State → Heap → Prop} : ∀ (n : Nat) (y0 : Int32) (y1 : t_S) (Q : t_S → Prop) (hk : t_hk (t_loop (b_X13_component_72) n (y0, y1)) Q), mj_G D cy ad bs X cX13_component 3 yX13_component.cls none yX13_component.name 311 0 0 1065 (t_P (fun v s' => v = none ∧ Q (s'))) 72 [(0, .ref 950), (2, .int (y0))] [] (t_m y1) 1065 0 0 := by
  intro n
  induction n with
  | zero => intro y0 y1 Q hk; obtain ⟨r, hr, _⟩ := hk; cases hr
  | succ n ih =>
    intro y0 y1 Q hk
    exact B_X13_component_72 y0 y1 (fun y => t_lq (b_X13_component_72) n Q y) (fun y0' y1' hy => ih y0' y1' Q hy) (t_lp (b := b_X13_component_72) (n := n) (x := (y0, y1)) hk)
noncomputable def f_X13_component (s : t_S) : Option (t_S) :=
 (f_X13_outside (s.1 950 55) (8 : Int32) s).bind (fun r1 =>
 if (r1.2.1 950 2) = (0 : Int32) then (t_let (t_setI r1.2 950 55 ((r1.2.1 950 55) + (1 : Int32))) (fun s1 =>
 if t_ix (r1.2.1 950 55) 8 = true then
  t_let (t_setI s1 970 ((r1.2.1 950 55).toNatClampNeg) r1.1) (fun s2 =>
 t_let (t_setI s2 972 ((r1.2.1 950 55).toNatClampNeg) (0 : Int32)) (fun s3 =>
 t_let (t_setI s3 974 ((r1.2.1 950 55).toNatClampNeg) (0 : Int32)) (fun s4 =>
 t_let (t_setI s4 979 ((r1.2.1 950 55).toNatClampNeg) (0 : Int32)) (fun s5 =>
 (f_X13_next s5).bind (fun r3 =>
 (f_X13_mustBe (123 : Int32) r3).bind (fun r4 =>
 t_loop (b_X13_component_72) t_N ((r1.2.1 950 55), r4)))))))
else none))
 else (some (r1.2)))
set_option maxRecDepth 4000 in
set_option maxHeartbeats 1000000 in
theorem C_X13_component (s : t_S) (r : t_S) (hr : f_X13_component s = some r) : t_C yX13_component cX13_component 3 none 311 [.ref 950] s (fun v s' => v = none ∧ s' = r) := by
  refine t_C.imp (P := fun v s' => v = none ∧ (fun q => q = r) (s')) (t_C.of (by decide +kernel) (Nat.le_of_ble_eq_true rfl) ?_) (fun v s' hp => hp)
  intro D cy ad bs X
  have hk : t_hk (f_X13_component s) (fun q => q = r) := ⟨r, hr, rfl⟩
  show mj_G D cy ad bs X cX13_component 3 yX13_component.cls none yX13_component.name 311 0 0 1065 (t_P (fun v s' => v = none ∧ (fun q => q = r) (s'))) 0 [(0, .ref 950)] [] (t_m s) 1065 0 0
  refine mj_aload_n dX13_component_0 0 rfl ?_
  refine mj_aload_n dX13_component_1 0 rfl ?_
  refine t_getI dX13_component_2 F_X13_630 qf_950_55 ?_
  refine mj_bipush (v := 8) dX13_component_5 (by decide) ?_
  refine t_bndK hk (fun r1 er1 hk => ?_)
  refine t_callViE dX13_component_7 M_X13_outside (C_X13_outside _ _ _ _ er1) ML_X13_684 IM_X13_outside SE_X13_outside qc_950 rfl (As := [.int (s.1 950 55), .int 8]) rfl rfl (Nat.le_of_ble_eq_true rfl) (Nat.le_of_ble_eq_true rfl) (Nat.le_of_ble_eq_true rfl) (Nat.le_of_ble_eq_true rfl) ?_
  refine mj_istore_n 1 (lv2 := [(1, .int r1.1), (0, .ref 950)]) dX13_component_10 rfl (by decide) rfl ?_
  refine mj_aload_n dX13_component_11 1 rfl ?_
  refine t_getI dX13_component_12 F_X13_375 qf_950_2 ?_
  refine mj_if_eq 19 dX13_component_15 (by decide) (fun z => t_posK hk z (fun hk => ?_)) (fun z => t_negK hk z (fun hk => ?_))
  · refine mj_aload_n dX13_component_19 1 rfl ?_
    refine t_getI dX13_component_20 F_X13_630 qf_950_55 ?_
    refine mj_istore_n 2 (lv2 := [(2, .int (r1.2.1 950 55)), (1, .int r1.1), (0, .ref 950)]) dX13_component_23 rfl (by decide) rfl ?_
    refine mj_aload_n dX13_component_24 2 rfl ?_
    refine mj_dup dX13_component_25 rfl ?_
    refine t_getI dX13_component_26 F_X13_630 qf_950_55 ?_
    refine mj_iconst (v := 1) dX13_component_29 (by decide) ?_
    refine mj_iadd dX13_component_30 ?_
    refine t_putIK dX13_component_31 F_X13_630 qf_950_55 rfl (fun s1 ws1 => t_letE hk ws1 (fun hk => ?_))
    refine mj_aload_n dX13_component_34 2 rfl ?_
    refine t_getR 970 dX13_component_35 F_X13_72 qr_950_45 ?_
    refine mj_iload_n dX13_component_38 0 rfl ?_
    refine mj_iload_n dX13_component_39 1 rfl ?_
    refine t_chkK hk (fun c1 hk => ?_)
    refine t_iastK dX13_component_40 qa_970 (t_ixv c1) (fun s2 ws2 => t_letE hk ws2 (fun hk => ?_))
    refine mj_aload_n dX13_component_41 2 rfl ?_
    refine t_getR 972 dX13_component_42 F_X13_78 qr_950_47 ?_
    refine mj_iload_n dX13_component_45 0 rfl ?_
    refine mj_iconst (v := 0) dX13_component_46 (by decide) ?_
    refine t_iastK dX13_component_47 qa_972 (t_ixv c1) (fun s3 ws3 => t_letE hk ws3 (fun hk => ?_))
    refine mj_aload_n dX13_component_48 2 rfl ?_
    refine t_getR 974 dX13_component_49 F_X13_84 qr_950_49 ?_
    refine mj_iload_n dX13_component_52 0 rfl ?_
    refine mj_iconst (v := 0) dX13_component_53 (by decide) ?_
    refine t_iastK dX13_component_54 qa_974 (t_ixv c1) (fun s4 ws4 => t_letE hk ws4 (fun hk => ?_))
    refine mj_aload_n dX13_component_55 2 rfl ?_
    refine t_getR 979 dX13_component_56 F_X13_99 qr_950_54 ?_
    refine mj_iload_n dX13_component_59 0 rfl ?_
    refine mj_iconst (v := 0) dX13_component_60 (by decide) ?_
    refine t_iastK dX13_component_61 qa_979 (t_ixv c1) (fun s5 ws5 => t_letE hk ws5 (fun hk => ?_))
    refine mj_aload_n dX13_component_62 2 rfl ?_
    refine t_bndK hk (fun r3 er3 hk => ?_)
    refine t_callVvE dX13_component_63 M_X13_next (C_X13_next _ _ er3) ML_X13_452 IM_X13_next SE_X13_next qc_950 rfl (As := []) rfl rfl (Nat.le_of_ble_eq_true rfl) (Nat.le_of_ble_eq_true rfl) (Nat.le_of_ble_eq_true rfl) (Nat.le_of_ble_eq_true rfl) ?_
    refine mj_aload_n dX13_component_66 2 rfl ?_
    refine mj_bipush (v := 123) dX13_component_67 (by decide) ?_
    refine t_bndK hk (fun r4 er4 hk => ?_)
    refine t_callVvE dX13_component_69 M_X13_mustBe (C_X13_mustBe _ _ _ er4) ML_X13_528 IM_X13_mustBe SE_X13_mustBe qc_950 rfl (As := [.int 123]) rfl rfl (Nat.le_of_ble_eq_true rfl) (Nat.le_of_ble_eq_true rfl) (Nat.le_of_ble_eq_true rfl) (Nat.le_of_ble_eq_true rfl) ?_
    refine mj_sublv [(0, .ref 950), (2, .int (r1.2.1 950 55))] [2, 0] rfl ?_
    exact LH_X13_component_72 _ (r1.2.1 950 55) r4 _ hk
  · exact t_somK hk (fun hf => t_vret dX13_component_18 rfl ⟨rfl, hf⟩ (Nat.le_of_ble_eq_true rfl) (Nat.le_of_ble_eq_true rfl))

