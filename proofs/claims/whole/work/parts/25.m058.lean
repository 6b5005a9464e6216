/-! Methods as functions, 58: X13_workAll, X13_portAt, X13_receives, X13_timerAt -/
theorem qa_1000 : t_oka 1000 1 401 = true := by decide +kernel
theorem qa_1046 : t_oka 1046 1 48 = true := by decide +kernel
theorem qa_1047 : t_oka 1047 1 48 = true := by decide +kernel
theorem qa_1048 : t_oka 1048 1 384 = true := by decide +kernel
theorem qa_987 : t_oka 987 1 40 = true := by decide +kernel
theorem qa_989 : t_oka 989 1 401 = true := by decide +kernel
theorem qa_995 : t_oka 995 1 401 = true := by decide +kernel
theorem qa_996 : t_oka 996 1 401 = true := by decide +kernel
theorem qa_997 : t_oka 997 1 401 = true := by decide +kernel
theorem qf_950_178 : t_okf 950 13 178 0 = true := by decide +kernel
theorem qf_950_179 : t_okf 950 13 179 0 = true := by decide +kernel
theorem qf_950_180 : t_okf 950 13 180 0 = true := by decide +kernel
theorem qr_950_161 : t_okr 950 13 161 1046 = true := by decide +kernel
theorem qr_950_162 : t_okr 950 13 162 1047 = true := by decide +kernel
theorem qr_950_163 : t_okr 950 13 163 1048 = true := by decide +kernel
theorem qr_950_63 : t_okr 950 13 63 987 = true := by decide +kernel
theorem qr_950_67 : t_okr 950 13 67 989 = true := by decide +kernel
theorem qr_950_73 : t_okr 950 13 73 995 = true := by decide +kernel
theorem qr_950_74 : t_okr 950 13 74 996 = true := by decide +kernel
theorem qr_950_75 : t_okr 950 13 75 997 = true := by decide +kernel
theorem qr_950_78 : t_okr 950 13 78 1000 = true := by decide +kernel
theorem dX13_workAll_0 : decode cX13_workAll 0 = .ok (.iconst 0, 1) := by decide +kernel
theorem dX13_workAll_1 : decode cX13_workAll 1 = .ok (.istore_n 2, 1) := by decide +kernel
theorem dX13_workAll_10 : decode cX13_workAll 10 = .ok (.ifCond .lt 28, 3) := by decide +kernel
theorem dX13_workAll_13 : decode cX13_workAll 13 = .ok (.aload_n 0, 1) := by decide +kernel
theorem dX13_workAll_14 : decode cX13_workAll 14 = .ok (.getfield 842, 3) := by decide +kernel
theorem dX13_workAll_17 : decode cX13_workAll 17 = .ok (.ifCond .ne 21, 3) := by decide +kernel
theorem dX13_workAll_2 : decode cX13_workAll 2 = .ok (.aload_n 0, 1) := by decide +kernel
theorem dX13_workAll_20 : decode cX13_workAll 20 = .ok (.aload_n 0, 1) := by decide +kernel
theorem dX13_workAll_21 : decode cX13_workAll 21 = .ok (.iload_n 3, 1) := by decide +kernel
theorem dX13_workAll_22 : decode cX13_workAll 22 = .ok (.invokestatic 897, 3) := by decide +kernel
theorem dX13_workAll_25 : decode cX13_workAll 25 = .ok (.iinc 2 1, 3) := by decide +kernel
theorem dX13_workAll_28 : decode cX13_workAll 28 = .ok (.aload_n 0, 1) := by decide +kernel
theorem dX13_workAll_29 : decode cX13_workAll 29 = .ok (.getfield 42, 3) := by decide +kernel
theorem dX13_workAll_3 : decode cX13_workAll 3 = .ok (.getfield 39, 3) := by decide +kernel
theorem dX13_workAll_32 : decode cX13_workAll 32 = .ok (.iload_n 3, 1) := by decide +kernel
theorem dX13_workAll_33 : decode cX13_workAll 33 = .ok (.iaload, 1) := by decide +kernel
theorem dX13_workAll_34 : decode cX13_workAll 34 = .ok (.istore_n 3, 1) := by decide +kernel
theorem dX13_workAll_35 : decode cX13_workAll 35 = .ok (.goto (-26), 3) := by decide +kernel
theorem dX13_workAll_38 : decode cX13_workAll 38 = .ok (.iload_n 2, 1) := by decide +kernel
theorem dX13_workAll_39 : decode cX13_workAll 39 = .ok (.ireturn, 1) := by decide +kernel
theorem dX13_workAll_6 : decode cX13_workAll 6 = .ok (.iload_n 1, 1) := by decide +kernel
theorem dX13_workAll_7 : decode cX13_workAll 7 = .ok (.iaload, 1) := by decide +kernel
theorem dX13_workAll_8 : decode cX13_workAll 8 = .ok (.istore_n 3, 1) := by decide +kernel
theorem dX13_workAll_9 : decode cX13_workAll 9 = .ok (.iload_n 3, 1) := by decide +kernel
noncomputable def k_X13_workAll_9 (l2 : Int32) (l3 : Int32) (s : t_S) : Option ((Int32 × Int32 × t_S) ⊕ (Int32 × t_S)) :=
 if l3 < (0 : Int32) then ((some (l2, s)).map Sum.inr)
 else (if (s.1 950 97) = (0 : Int32) then ((f_X13_work l3 s).bind (fun r1 =>
 if t_ix l3 13000 = true then
  some (.inl ((l2 + 1), (r1.1 960 (l3.toNatClampNeg)), r1))
else none))
 else ((some (l2, s)).map Sum.inr))
set_option maxRecDepth 4000 in
set_option maxHeartbeats 1000000 in
theorem B_X13_workAll_9 {D : va_G} {cy : Nat → ClassId} {ad : Nat → Nat} {bs : Nat} {X : State → Heap → Prop} (l2 : Int32) (l3 : Int32) (s : t_S) (Q : (Int32 × Int32 × t_S) ⊕ (Int32 × t_S) → Prop) (Hb9 : ∀ (y0 : Int32) (y1 : Int32) (y2 : t_S), Q (.inl (y0, y1, y2)) → mj_G D cy ad bs X cX13_workAll 4 yX13_workAll.cls (some .int) yX13_workAll.name 1784 0 0 1065 (t_P (fun v s' => ∃ x, v = some (.int x) ∧ Q (.inr ((x, s'))))) 9 [(0, .ref 950), (2, .int (y0)), (3, .int (y1))] [] (t_m y2) 1065 0 0) (hk : t_hk (k_X13_workAll_9 l2 l3 s) Q) : mj_G D cy ad bs X cX13_workAll 4 yX13_workAll.cls (some .int) yX13_workAll.name 1784 0 0 1065 (t_P (fun v s' => ∃ x, v = some (.int x) ∧ Q (.inr ((x, s'))))) 9 [(0, .ref 950), (2, .int l2), (3, .int l3)] [] (t_m s) 1065 0 0 := by
  refine mj_iload_n dX13_workAll_9 2 rfl ?_
  refine mj_if_lt 38 dX13_workAll_10 (by decide) (fun z => t_posK hk z (fun hk => ?_)) (fun z => t_negK hk z (fun hk => ?_))
  · refine t_mapK hk (fun hk => ?_)
    refine mj_iload_n dX13_workAll_38 1 rfl ?_
    exact t_somK hk (fun hf => t_iret dX13_workAll_39 rfl rfl ⟨_, rfl, hf⟩ (Nat.le_of_ble_eq_true rfl) (Nat.le_of_ble_eq_true rfl))
  · refine mj_aload_n dX13_workAll_13 0 rfl ?_
    refine t_getI dX13_workAll_14 F_X13_842 qf_950_97 ?_
    refine mj_if_ne 38 dX13_workAll_17 (by decide) (fun z => t_negK hk z (fun hk => ?_)) (fun z => t_posK hk z (fun hk => ?_))
    · refine t_mapK hk (fun hk => ?_)
      refine mj_iload_n dX13_workAll_38 1 rfl ?_
      exact t_somK hk (fun hf => t_iret dX13_workAll_39 rfl rfl ⟨_, rfl, hf⟩ (Nat.le_of_ble_eq_true rfl) (Nat.le_of_ble_eq_true rfl))
    · refine mj_aload_n dX13_workAll_20 0 rfl ?_
      refine mj_iload_n dX13_workAll_21 2 rfl ?_
      refine t_bndK hk (fun r1 er1 hk => ?_)
      refine t_callSvE dX13_workAll_22 M_X13_work (C_X13_work _ _ _ er1) ML_X13_897 SM_X13_work (As := [.ref 950, .int l3]) rfl rfl (Nat.le_of_ble_eq_true rfl) (Nat.le_of_ble_eq_true rfl) (Nat.le_of_ble_eq_true rfl) (Nat.le_of_ble_eq_true rfl) ?_
      refine mj_iinc (k := 1) (v := (l2 + 1)) (lv2 := [(2, .int (l2 + 1)), (0, .ref 950), (3, .int l3)]) dX13_workAll_25 rfl rfl (by decide) rfl ?_
      refine mj_aload_n dX13_workAll_28 1 rfl ?_
      refine t_getR 960 dX13_workAll_29 F_X13_42 qr_950_22 ?_
      refine mj_iload_n dX13_workAll_32 2 rfl ?_
      refine t_chkK hk (fun c1 hk => ?_)
      refine t_iald dX13_workAll_33 qa_960 (t_ixv c1) ?_
      refine mj_istore_n 3 (lv2 := [(3, .int (r1.1 960 (l3.toNatClampNeg))), (2, .int (l2 + 1)), (0, .ref 950)]) dX13_workAll_34 rfl (by decide) rfl ?_
      refine mj_goto 9 dX13_workAll_35 (by decide) ?_
      refine mj_sublv [(0, .ref 950), (2, .int (l2 + 1)), (3, .int (r1.1 960 (l3.toNatClampNeg)))] [2, 1, 0] rfl ?_
      exact t_somK hk (fun hf => Hb9 (l2 + 1) (r1.1 960 (l3.toNatClampNeg)) r1 hf)
noncomputable def b_X13_workAll_9 (x : Int32 × Int32 × t_S) : Option ((Int32 × Int32 × t_S) ⊕ (Int32 × t_S)) := k_X13_workAll_9 x.1 x.2.1 x.2.2
set_option maxRecDepth 4000 in
set_option maxHeartbeats 1000000 in
theorem LH_X13_workAll_9 {D : va_G} {cy : Nat → ClassId} {ad : Nat → Nat} {bs : Nat} {X : State → Heap → Prop} : ∀ (n : Nat) (y0 : Int32) (y1 : Int32) (y2 : t_S) (Q : Int32 × t_S → Prop) (hk : t_hk (t_loop (b_X13_workAll_9) n (y0, y1, y2)) Q), mj_G D cy ad bs X cX13_workAll 4 yX13_workAll.cls (some .int) yX13_workAll.name 1784 0 0 1065 (t_P (fun v s' => ∃ x, v = some (.int x) ∧ Q ((x, s')))) 9 [(0, .ref 950), (2, .int (y0)), (3, .int (y1))] [] (t_m y2) 1065 0 0 := by
  intro n
  induction n with
  | zero => intro y0 y1 y2 Q hk; obtain ⟨r, hr, _⟩ := hk; cases hr
  | succ n ih =>
    intro y0 y1 y2 Q hk
    exact B_X13_workAll_9 y0 y1 y2 (fun y => t_lq (b_X13_workAll_9) n Q y) (fun y0' y1' y2' hy => ih y0' y1' y2' Q hy) (t_lp (b := b_X13_workAll_9) (n := n) (x := (y0, y1, y2)) hk)
noncomputable def f_X13_workAll (x1 : Int32) (s : t_S) : Option (Int32 × t_S) :=
 if t_ix x1 13000 = true then
  t_loop (b_X13_workAll_9) t_N (0, (s.1 959 (x1.toNatClampNeg)), s)
else none
set_option maxRecDepth 4000 in
set_option maxHeartbeats 1000000 in
theorem C_X13_workAll (x1 : Int32) (s : t_S) (r : Int32 × t_S) (hr : f_X13_workAll x1 s = some r) : t_C yX13_workAll cX13_workAll 4 (some .int) 1784 [.ref 950, .int x1] s (fun v s' => v = some (.int r.1) ∧ s' = r.2) := by
  refine t_C.imp (P := fun v s' => ∃ x, v = some (.int x) ∧ (fun q => q = r) ((x, s'))) (t_C.of (by decide +kernel) (Nat.le_of_ble_eq_true rfl) ?_) (fun v s' hp => by obtain ⟨x, rfl, rfl⟩ := hp; exact ⟨rfl, rfl⟩)
  intro D cy ad bs X
  have hk : t_hk (f_X13_workAll x1 s) (fun q => q = r) := ⟨r, hr, rfl⟩
  show mj_G D cy ad bs X cX13_workAll 4 yX13_workAll.cls (some .int) yX13_workAll.name 1784 0 0 1065 (t_P (fun v s' => ∃ x, v = some (.int x) ∧ (fun q => q = r) ((x, s')))) 0 [(0, .ref 950), (1, .int x1)] [] (t_m s) 1065 0 0
  refine mj_iconst (v := 0) dX13_workAll_0 (by decide) ?_
  refine mj_istore_n 2 (lv2 := [(2, .int 0), (0, .ref 950), (1, .int x1)]) dX13_workAll_1 rfl (by decide) rfl ?_
  refine mj_aload_n dX13_workAll_2 1 rfl ?_
  refine t_getR 959 dX13_workAll_3 F_X13_39 qr_950_21 ?_
  refine mj_iload_n dX13_workAll_6 2 rfl ?_
  refine t_chkK hk (fun c0 hk => ?_)
  refine t_iald dX13_workAll_7 qa_959 (t_ixv c0) ?_
  refine mj_istore_n 3 (lv2 := [(3, .int (s.1 959 (x1.toNatClampNeg))), (2, .int 0), (0, .ref 950), (1, .int x1)]) dX13_workAll_8 rfl (by decide) rfl ?_
  refine mj_sublv [(0, .ref 950), (2, .int 0), (3, .int (s.1 959 (x1.toNatClampNeg)))] [2, 1, 0] rfl ?_
  exact LH_X13_workAll_9 _ 0 (s.1 959 (x1.toNatClampNeg)) s _ hk

theorem dX13_portAt_0 : decode cX13_portAt 0 = .ok (.aload_n 0, 1) := by decide +kernel
theorem dX13_portAt_1 : decode cX13_portAt 1 = .ok (.aload_n 0, 1) := by decide +kernel
theorem dX13_portAt_11 : decode cX13_portAt 11 = .ok (.iload_n 1, 1) := by decide +kernel
theorem dX13_portAt_12 : decode cX13_portAt 12 = .ok (.iaload, 1) := by decide +kernel
theorem dX13_portAt_13 : decode cX13_portAt 13 = .ok (.imul, 1) := by decide +kernel
theorem dX13_portAt_14 : decode cX13_portAt 14 = .ok (.aload_n 0, 1) := by decide +kernel
theorem dX13_portAt_15 : decode cX13_portAt 15 = .ok (.getfield 78, 3) := by decide +kernel
theorem dX13_portAt_18 : decode cX13_portAt 18 = .ok (.aload_n 0, 1) := by decide +kernel
theorem dX13_portAt_19 : decode cX13_portAt 19 = .ok (.getfield 273, 3) := by decide +kernel
theorem dX13_portAt_2 : decode cX13_portAt 2 = .ok (.getfield 75, 3) := by decide +kernel
theorem dX13_portAt_22 : decode cX13_portAt 22 = .ok (.iload_n 1, 1) := by decide +kernel
theorem dX13_portAt_23 : decode cX13_portAt 23 = .ok (.iaload, 1) := by decide +kernel
theorem dX13_portAt_24 : decode cX13_portAt 24 = .ok (.iaload, 1) := by decide +kernel
theorem dX13_portAt_25 : decode cX13_portAt 25 = .ok (.iload_n 2, 1) := by decide +kernel
theorem dX13_portAt_26 : decode cX13_portAt 26 = .ok (.invokevirtual 788, 3) := by decide +kernel
theorem dX13_portAt_29 : decode cX13_portAt 29 = .ok (.ireturn, 1) := by decide +kernel
theorem dX13_portAt_5 : decode cX13_portAt 5 = .ok (.bipush 6, 2) := by decide +kernel
theorem dX13_portAt_7 : decode cX13_portAt 7 = .ok (.aload_n 0, 1) := by decide +kernel
theorem dX13_portAt_8 : decode cX13_portAt 8 = .ok (.getfield 273, 3) := by decide +kernel
noncomputable def f_X13_portAt (x1 : Int32) (x2 : Int32) (s : t_S) : Option (Int32) :=
 if t_ix x1 8 = true then
  if t_ix (s.1 1035 (x1.toNatClampNeg)) 8 = true then
  (f_X13_find 971 ((6 : Int32) * (s.1 1035 (x1.toNatClampNeg))) (s.1 972 ((s.1 1035 (x1.toNatClampNeg)).toNatClampNeg)) x2 s).bind (fun r3 =>
 some (r3))
else none
else none
set_option maxRecDepth 4000 in
set_option maxHeartbeats 1000000 in
theorem C_X13_portAt (x1 : Int32) (x2 : Int32) (s : t_S) (r : Int32) (hr : f_X13_portAt x1 x2 s = some r) : t_C yX13_portAt cX13_portAt 3 (some .int) 1 [.ref 950, .int x1, .int x2] s (fun v s' => v = some (.int r) ∧ s' = s) := by
  refine t_C.imp (P := fun v s' => s' = s ∧ ∃ x, v = some (.int x) ∧ (fun q => q = r) (x)) (t_C.of (by decide +kernel) (Nat.le_of_ble_eq_true rfl) ?_) (fun v s' hp => by obtain ⟨rfl, x, rfl, rfl⟩ := hp; exact ⟨rfl, rfl⟩)
  intro D cy ad bs X
  have hk : t_hk (f_X13_portAt x1 x2 s) (fun q => q = r) := ⟨r, hr, rfl⟩
  show mj_G D cy ad bs X cX13_portAt 3 yX13_portAt.cls (some .int) yX13_portAt.name 1 0 0 1065 (t_P (fun v s' => s' = s ∧ ∃ x, v = some (.int x) ∧ (fun q => q = r) (x))) 0 [(0, .ref 950), (1, .int x1), (2, .int x2)] [] (t_m s) 1065 0 0
  refine mj_aload_n dX13_portAt_0 0 rfl ?_
  refine mj_aload_n dX13_portAt_1 0 rfl ?_
  refine t_getR 971 dX13_portAt_2 F_X13_75 qr_950_46 ?_
  refine mj_bipush (v := 6) dX13_portAt_5 (by decide) ?_
  refine mj_aload_n dX13_portAt_7 0 rfl ?_
  refine t_getR 1035 dX13_portAt_8 F_X13_273 qr_950_150 ?_
  refine mj_iload_n dX13_portAt_11 1 rfl ?_
  refine t_chkK hk (fun c0 hk => ?_)
  refine t_iald dX13_portAt_12 qa_1035 (t_ixv c0) ?_
  refine mj_imul dX13_portAt_13 ?_
  refine mj_aload_n dX13_portAt_14 0 rfl ?_
  refine t_getR 972 dX13_portAt_15 F_X13_78 qr_950_47 ?_
  refine mj_aload_n dX13_portAt_18 0 rfl ?_
  refine t_getR 1035 dX13_portAt_19 F_X13_273 qr_950_150 ?_
  refine mj_iload_n dX13_portAt_22 1 rfl ?_
  refine t_iald dX13_portAt_23 qa_1035 (t_ixv c0) ?_
  refine t_chkK hk (fun c1 hk => ?_)
  refine t_iald dX13_portAt_24 qa_972 (t_ixv c1) ?_
  refine mj_iload_n dX13_portAt_25 2 rfl ?_
  refine t_bndK hk (fun r3 er3 hk => ?_)
  refine t_callViP dX13_portAt_26 M_X13_find (C_X13_find _ _ _ _ _ _ er3) ML_X13_788 IM_X13_find SE_X13_find qc_950 rfl (As := [.ref 971, .int ((6 : Int32) * (s.1 1035 (x1.toNatClampNeg))), .int (s.1 972 ((s.1 1035 (x1.toNatClampNeg)).toNatClampNeg)), .int x2]) rfl rfl (Nat.le_of_ble_eq_true rfl) (Nat.le_of_ble_eq_true rfl) (Nat.le_of_ble_eq_true rfl) (Nat.le_of_ble_eq_true rfl) ?_
  exact t_somK hk (fun hf => t_iret dX13_portAt_29 rfl rfl ⟨rfl, _, rfl, hf⟩ (Nat.le_of_ble_eq_true rfl) (Nat.le_of_ble_eq_true rfl))

theorem dX13_receives_0 : decode cX13_receives 0 = .ok (.bipush 6, 2) := by decide +kernel
theorem dX13_receives_10 : decode cX13_receives 10 = .ok (.iload_n 2, 1) := by decide +kernel
theorem dX13_receives_100 : decode cX13_receives 100 = .ok (.imul, 1) := by decide +kernel
theorem dX13_receives_101 : decode cX13_receives 101 = .ok (.aload_n 0, 1) := by decide +kernel
theorem dX13_receives_102 : decode cX13_receives 102 = .ok (.getfield 306, 3) := by decide +kernel
theorem dX13_receives_105 : decode cX13_receives 105 = .ok (.iload_n 3, 1) := by decide +kernel
theorem dX13_receives_106 : decode cX13_receives 106 = .ok (.iaload, 1) := by decide +kernel
theorem dX13_receives_107 : decode cX13_receives 107 = .ok (.iadd, 1) := by decide +kernel
theorem dX13_receives_108 : decode cX13_receives 108 = .ok (.iaload, 1) := by decide +kernel
theorem dX13_receives_109 : decode cX13_receives 109 = .ok (.i2l, 1) := by decide +kernel
theorem dX13_receives_11 : decode cX13_receives 11 = .ok (.iaload, 1) := by decide +kernel
theorem dX13_receives_110 : decode cX13_receives 110 = .ok (.lcmp, 1) := by decide +kernel
theorem dX13_receives_111 : decode cX13_receives 111 = .ok (.ifCond .eq 5, 3) := by decide +kernel
theorem dX13_receives_114 : decode cX13_receives 114 = .ok (.iconst 0, 1) := by decide +kernel
theorem dX13_receives_115 : decode cX13_receives 115 = .ok (.ireturn, 1) := by decide +kernel
theorem dX13_receives_116 : decode cX13_receives 116 = .ok (.aload_n 0, 1) := by decide +kernel
theorem dX13_receives_117 : decode cX13_receives 117 = .ok (.aload_n 0, 1) := by decide +kernel
theorem dX13_receives_118 : decode cX13_receives 118 = .ok (.getfield 147, 3) := by decide +kernel
theorem dX13_receives_12 : decode cX13_receives 12 = .ok (.invokevirtual 1448, 3) := by decide +kernel
theorem dX13_receives_121 : decode cX13_receives 121 = .ok (.iload_n 2, 1) := by decide +kernel
theorem dX13_receives_122 : decode cX13_receives 122 = .ok (.iaload, 1) := by decide +kernel
theorem dX13_receives_123 : decode cX13_receives 123 = .ok (.sipush 260, 3) := by decide +kernel
theorem dX13_receives_126 : decode cX13_receives 126 = .ok (.sipush 1416, 3) := by decide +kernel
theorem dX13_receives_129 : decode cX13_receives 129 = .ok (.bipush 8, 2) := by decide +kernel
theorem dX13_receives_131 : decode cX13_receives 131 = .ok (.iload_n 3, 1) := by decide +kernel
theorem dX13_receives_132 : decode cX13_receives 132 = .ok (.imul, 1) := by decide +kernel
theorem dX13_receives_133 : decode cX13_receives 133 = .ok (.iadd, 1) := by decide +kernel
theorem dX13_receives_134 : decode cX13_receives 134 = .ok (.aload_n 0, 1) := by decide +kernel
theorem dX13_receives_135 : decode cX13_receives 135 = .ok (.getfield 306, 3) := by decide +kernel
theorem dX13_receives_138 : decode cX13_receives 138 = .ok (.iload_n 3, 1) := by decide +kernel
theorem dX13_receives_139 : decode cX13_receives 139 = .ok (.iaload, 1) := by decide +kernel
theorem dX13_receives_140 : decode cX13_receives 140 = .ok (.iadd, 1) := by decide +kernel
theorem dX13_receives_141 : decode cX13_receives 141 = .ok (.imul, 1) := by decide +kernel
theorem dX13_receives_142 : decode cX13_receives 142 = .ok (.invokestatic 944, 3) := by decide +kernel
theorem dX13_receives_145 : decode cX13_receives 145 = .ok (.ireturn, 1) := by decide +kernel
theorem dX13_receives_15 : decode cX13_receives 15 = .ok (.iadd, 1) := by decide +kernel
theorem dX13_receives_16 : decode cX13_receives 16 = .ok (.istore_n 3, 1) := by decide +kernel
theorem dX13_receives_17 : decode cX13_receives 17 = .ok (.aload_n 0, 1) := by decide +kernel
theorem dX13_receives_18 : decode cX13_receives 18 = .ok (.getfield 309, 3) := by decide +kernel
theorem dX13_receives_2 : decode cX13_receives 2 = .ok (.iload_n 1, 1) := by decide +kernel
theorem dX13_receives_21 : decode cX13_receives 21 = .ok (.iload_n 3, 1) := by decide +kernel
theorem dX13_receives_22 : decode cX13_receives 22 = .ok (.iaload, 1) := by decide +kernel
theorem dX13_receives_23 : decode cX13_receives 23 = .ok (.ifCond .ne 5, 3) := by decide +kernel
theorem dX13_receives_26 : decode cX13_receives 26 = .ok (.iconst 0, 1) := by decide +kernel
theorem dX13_receives_27 : decode cX13_receives 27 = .ok (.ireturn, 1) := by decide +kernel
theorem dX13_receives_28 : decode cX13_receives 28 = .ok (.aload_n 0, 1) := by decide +kernel
theorem dX13_receives_29 : decode cX13_receives 29 = .ok (.getfield 150, 3) := by decide +kernel
theorem dX13_receives_3 : decode cX13_receives 3 = .ok (.imul, 1) := by decide +kernel
theorem dX13_receives_32 : decode cX13_receives 32 = .ok (.iload_n 2, 1) := by decide +kernel
theorem dX13_receives_33 : decode cX13_receives 33 = .ok (.iaload, 1) := by decide +kernel
theorem dX13_receives_34 : decode cX13_receives 34 = .ok (.ifCond .lt 82, 3) := by decide +kernel
theorem dX13_receives_37 : decode cX13_receives 37 = .ok (.aload_n 0, 1) := by decide +kernel
theorem dX13_receives_38 : decode cX13_receives 38 = .ok (.aload_n 0, 1) := by decide +kernel
theorem dX13_receives_39 : decode cX13_receives 39 = .ok (.getfield 150, 3) := by decide +kernel
theorem dX13_receives_4 : decode cX13_receives 4 = .ok (.aload_n 0, 1) := by decide +kernel
theorem dX13_receives_42 : decode cX13_receives 42 = .ok (.iload_n 2, 1) := by decide +kernel
theorem dX13_receives_43 : decode cX13_receives 43 = .ok (.iaload, 1) := by decide +kernel
theorem dX13_receives_44 : decode cX13_receives 44 = .ok (.invokestatic 897, 3) := by decide +kernel
theorem dX13_receives_47 : decode cX13_receives 47 = .ok (.aload_n 0, 1) := by decide +kernel
theorem dX13_receives_48 : decode cX13_receives 48 = .ok (.getfield 842, 3) := by decide +kernel
theorem dX13_receives_5 : decode cX13_receives 5 = .ok (.iload_n 1, 1) := by decide +kernel
theorem dX13_receives_51 : decode cX13_receives 51 = .ok (.ifCond .ne 24, 3) := by decide +kernel
theorem dX13_receives_54 : decode cX13_receives 54 = .ok (.aload_n 0, 1) := by decide +kernel
theorem dX13_receives_55 : decode cX13_receives 55 = .ok (.getfield 182, 3) := by decide +kernel
theorem dX13_receives_58 : decode cX13_receives 58 = .ok (.aload_n 0, 1) := by decide +kernel
theorem dX13_receives_59 : decode cX13_receives 59 = .ok (.invokevirtual 941, 3) := by decide +kernel
theorem dX13_receives_6 : decode cX13_receives 6 = .ok (.aload_n 0, 1) := by decide +kernel
theorem dX13_receives_62 : decode cX13_receives 62 = .ok (.laload, 1) := by decide +kernel
theorem dX13_receives_63 : decode cX13_receives 63 = .ok (.ldc2_w 682, 3) := by decide +kernel
theorem dX13_receives_66 : decode cX13_receives 66 = .ok (.lcmp, 1) := by decide +kernel
theorem dX13_receives_67 : decode cX13_receives 67 = .ok (.ifCond .eq 8, 3) := by decide +kernel
theorem dX13_receives_7 : decode cX13_receives 7 = .ok (.getfield 135, 3) := by decide +kernel
theorem dX13_receives_70 : decode cX13_receives 70 = .ok (.aload_n 0, 1) := by decide +kernel
theorem dX13_receives_71 : decode cX13_receives 71 = .ok (.iconst 1, 1) := by decide +kernel
theorem dX13_receives_72 : decode cX13_receives 72 = .ok (.invokevirtual 866, 3) := by decide +kernel
theorem dX13_receives_75 : decode cX13_receives 75 = .ok (.aload_n 0, 1) := by decide +kernel
theorem dX13_receives_76 : decode cX13_receives 76 = .ok (.getfield 842, 3) := by decide +kernel
theorem dX13_receives_79 : decode cX13_receives 79 = .ok (.ifCond .ne 35, 3) := by decide +kernel
theorem dX13_receives_82 : decode cX13_receives 82 = .ok (.aload_n 0, 1) := by decide +kernel
theorem dX13_receives_83 : decode cX13_receives 83 = .ok (.getfield 182, 3) := by decide +kernel
theorem dX13_receives_86 : decode cX13_receives 86 = .ok (.aload_n 0, 1) := by decide +kernel
theorem dX13_receives_87 : decode cX13_receives 87 = .ok (.invokevirtual 941, 3) := by decide +kernel
theorem dX13_receives_90 : decode cX13_receives 90 = .ok (.iconst 1, 1) := by decide +kernel
theorem dX13_receives_91 : decode cX13_receives 91 = .ok (.iadd, 1) := by decide +kernel
theorem dX13_receives_92 : decode cX13_receives 92 = .ok (.laload, 1) := by decide +kernel
theorem dX13_receives_93 : decode cX13_receives 93 = .ok (.aload_n 0, 1) := by decide +kernel
theorem dX13_receives_94 : decode cX13_receives 94 = .ok (.getfield 312, 3) := by decide +kernel
theorem dX13_receives_97 : decode cX13_receives 97 = .ok (.bipush 8, 2) := by decide +kernel
theorem dX13_receives_99 : decode cX13_receives 99 = .ok (.iload_n 3, 1) := by decide +kernel
noncomputable def k_X13_receives_116 (l2 : Int32) (l3 : Int32) (s : t_S) : Option (Int32 × t_S) :=
 if t_ix l2 401 = true then
  if t_ix l3 48 = true then
  (f_X13_matchAll (s.1 995 (l2.toNatClampNeg)) ((260 : Int32) * (((1416 : Int32) + ((8 : Int32) * l3)) + (s.1 1046 (l3.toNatClampNeg)))) s).bind (fun r3 =>
 if r3.1 = 0 ∨ r3.1 = 1 then
  some (r3.1, r3.2)
else none)
else none
else none
set_option maxRecDepth 4000 in
set_option maxHeartbeats 1000000 in
theorem B_X13_receives_116 {D : va_G} {cy : Nat → ClassId} {ad : Nat → Nat} {bs : Nat} {X : State → Heap → Prop} (l2 : Int32) (l3 : Int32) (s : t_S) (Q : Int32 × t_S → Prop) (hk : t_hk (k_X13_receives_116 l2 l3 s) Q) : mj_G D cy ad bs X cX13_receives 4 yX13_receives.cls (some .boolean) yX13_receives.name 1784 0 0 1065 (t_P (fun v s' => ∃ x, v = some (.int x) ∧ Q ((x, s')))) 116 [(0, .ref 950), (2, .int l2), (3, .int l3)] [] (t_m s) 1065 0 0 := by
  refine mj_aload_n dX13_receives_116 0 rfl ?_
  refine mj_aload_n dX13_receives_117 0 rfl ?_
  refine t_getR 995 dX13_receives_118 F_X13_147 qr_950_73 ?_
  refine mj_iload_n dX13_receives_121 1 rfl ?_
  refine t_chkK hk (fun c0 hk => ?_)
  refine t_iald dX13_receives_122 qa_995 (t_ixv c0) ?_
  refine mj_sipush (v := 260) dX13_receives_123 (by decide) ?_
  refine mj_sipush (v := 1416) dX13_receives_126 (by decide) ?_
  refine mj_bipush (v := 8) dX13_receives_129 (by decide) ?_
  refine mj_iload_n dX13_receives_131 2 rfl ?_
  refine mj_imul dX13_receives_132 ?_
  refine mj_iadd dX13_receives_133 ?_
  refine mj_aload_n dX13_receives_134 0 rfl ?_
  refine t_getR 1046 dX13_receives_135 F_X13_306 qr_950_161 ?_
  refine mj_iload_n dX13_receives_138 2 rfl ?_
  refine t_chkK hk (fun c1 hk => ?_)
  refine t_iald dX13_receives_139 qa_1046 (t_ixv c1) ?_
  refine mj_iadd dX13_receives_140 ?_
  refine mj_imul dX13_receives_141 ?_
  refine t_bndK hk (fun r3 er3 hk => ?_)
  refine t_callSiE dX13_receives_142 M_X13_matchAll (C_X13_matchAll _ _ _ _ er3) ML_X13_944 SM_X13_matchAll (As := [.ref 950, .int (s.1 995 (l2.toNatClampNeg)), .int ((260 : Int32) * (((1416 : Int32) + ((8 : Int32) * l3)) + (s.1 1046 (l3.toNatClampNeg))))]) rfl rfl (Nat.le_of_ble_eq_true rfl) (Nat.le_of_ble_eq_true rfl) (Nat.le_of_ble_eq_true rfl) (Nat.le_of_ble_eq_true rfl) ?_
  refine t_chkK hk (fun c3 hk => ?_)
  exact t_somK hk (fun hf => t_iret dX13_receives_145 rfl (t_zfit c3) ⟨_, rfl, hf⟩ (Nat.le_of_ble_eq_true rfl) (Nat.le_of_ble_eq_true rfl))
noncomputable def k_X13_receives_75 (l2 : Int32) (l3 : Int32) (s : t_S) : Option (Int32 × t_S) :=
 if (s.1 950 97) = (0 : Int32) then (if t_ix ((f_X13_top s) + (1 : Int32)) 626600 = true then
  if t_ix l3 48 = true then
  if t_ix (((8 : Int32) * l3) + (s.1 1046 (l3.toNatClampNeg))) 384 = true then
  if (lg_cmp (s.2.1 1006 (((f_X13_top s) + (1 : Int32)).toNatClampNeg)) ((s.1 1048 ((((8 : Int32) * l3) + (s.1 1046 (l3.toNatClampNeg))).toNatClampNeg)).toInt64)) = (0 : Int32) then (k_X13_receives_116 l2 l3 s)
 else (some ((0 : Int32), s))
else none
else none
else none)
 else (some ((0 : Int32), s))
set_option maxRecDepth 4000 in
set_option maxHeartbeats 1000000 in
theorem B_X13_receives_75 {D : va_G} {cy : Nat → ClassId} {ad : Nat → Nat} {bs : Nat} {X : State → Heap → Prop} (l2 : Int32) (l3 : Int32) (s : t_S) (Q : Int32 × t_S → Prop) (hk : t_hk (k_X13_receives_75 l2 l3 s) Q) : mj_G D cy ad bs X cX13_receives 4 yX13_receives.cls (some .boolean) yX13_receives.name 1784 0 0 1065 (t_P (fun v s' => ∃ x, v = some (.int x) ∧ Q ((x, s')))) 75 [(0, .ref 950), (2, .int l2), (3, .int l3)] [] (t_m s) 1065 0 0 := by
  refine mj_aload_n dX13_receives_75 0 rfl ?_
  refine t_getI dX13_receives_76 F_X13_842 qf_950_97 ?_
  refine mj_if_ne 114 dX13_receives_79 (by decide) (fun z => t_negK hk z (fun hk => ?_)) (fun z => t_posK hk z (fun hk => ?_))
  · refine mj_iconst (v := 0) dX13_receives_114 (by decide) ?_
    exact t_somK hk (fun hf => t_iret dX13_receives_115 rfl (by decide) ⟨_, rfl, hf⟩ (Nat.le_of_ble_eq_true rfl) (Nat.le_of_ble_eq_true rfl))
  · refine mj_aload_n dX13_receives_82 0 rfl ?_
    refine t_getR 1006 dX13_receives_83 F_X13_182 qr_950_95 ?_
    refine mj_aload_n dX13_receives_86 0 rfl ?_
    refine t_callViP dX13_receives_87 M_X13_top (C_X13_top _) ML_X13_941 IM_X13_top SE_X13_top qc_950 rfl (As := []) rfl rfl (Nat.le_of_ble_eq_true rfl) (Nat.le_of_ble_eq_true rfl) (Nat.le_of_ble_eq_true rfl) (Nat.le_of_ble_eq_true rfl) ?_
    refine mj_iconst (v := 1) dX13_receives_90 (by decide) ?_
    refine mj_iadd dX13_receives_91 ?_
    refine t_chkK hk (fun c1 hk => ?_)
    refine t_lald dX13_receives_92 qa_1006 (t_ixv c1) ?_
    refine mj_aload_n dX13_receives_93 0 rfl ?_
    refine t_getR 1048 dX13_receives_94 F_X13_312 qr_950_163 ?_
    refine mj_bipush (v := 8) dX13_receives_97 (by decide) ?_
    refine mj_iload_n dX13_receives_99 2 rfl ?_
    refine mj_imul dX13_receives_100 ?_
    refine mj_aload_n dX13_receives_101 0 rfl ?_
    refine t_getR 1046 dX13_receives_102 F_X13_306 qr_950_161 ?_
    refine mj_iload_n dX13_receives_105 2 rfl ?_
    refine t_chkK hk (fun c2 hk => ?_)
    refine t_iald dX13_receives_106 qa_1046 (t_ixv c2) ?_
    refine mj_iadd dX13_receives_107 ?_
    refine t_chkK hk (fun c3 hk => ?_)
    refine t_iald dX13_receives_108 qa_1048 (t_ixv c3) ?_
    refine mj_i2l (v := (s.1 1048 ((((8 : Int32) * l3) + (s.1 1046 (l3.toNatClampNeg))).toNatClampNeg)).toInt64) dX13_receives_109 rfl ?_
    refine mj_lcmp dX13_receives_110 ?_
    refine mj_if_eq 116 dX13_receives_111 (by decide) (fun z => t_posK hk z (fun hk => ?_)) (fun z => t_negK hk z (fun hk => ?_))
    · exact B_X13_receives_116 _ _ _ _ hk
    · refine mj_iconst (v := 0) dX13_receives_114 (by decide) ?_
      exact t_somK hk (fun hf => t_iret dX13_receives_115 rfl (by decide) ⟨_, rfl, hf⟩ (Nat.le_of_ble_eq_true rfl) (Nat.le_of_ble_eq_true rfl))
noncomputable def f_X13_receives (x1 : Int32) (x2 : Int32) (s : t_S) : Option (Int32 × t_S) :=
 if t_ix x2 401 = true then
  (f_X13_portAt x1 (s.1 991 (x2.toNatClampNeg)) s).bind (fun r2 =>
 if t_ix (((6 : Int32) * x1) + r2) 48 = true then
  if (s.1 1047 ((((6 : Int32) * x1) + r2).toNatClampNeg)) = (0 : Int32) then (some ((0 : Int32), s))
 else (if (s.1 996 (x2.toNatClampNeg)) < (0 : Int32) then (k_X13_receives_116 x2 (((6 : Int32) * x1) + r2) s)
 else ((f_X13_work (s.1 996 (x2.toNatClampNeg)) s).bind (fun r4 =>
 if (r4.1 950 97) = (0 : Int32) then (if t_ix (f_X13_top r4) 626600 = true then
  if (lg_cmp (r4.2.1 1006 ((f_X13_top r4).toNatClampNeg)) (5 : Int64)) = (0 : Int32) then (k_X13_receives_75 x2 (((6 : Int32) * x1) + r2) r4)
 else ((f_X13_error (1 : Int32) r4).bind (fun r7 =>
 k_X13_receives_75 x2 (((6 : Int32) * x1) + r2) r7))
else none)
 else (k_X13_receives_75 x2 (((6 : Int32) * x1) + r2) r4))))
else none)
else none
set_option maxRecDepth 4000 in
set_option maxHeartbeats 1000000 in
theorem C_X13_receives (x1 : Int32) (x2 : Int32) (s : t_S) (r : Int32 × t_S) (hr : f_X13_receives x1 x2 s = some r) : t_C yX13_receives cX13_receives 4 (some .boolean) 1784 [.ref 950, .int x1, .int x2] s (fun v s' => v = some (.int r.1) ∧ s' = r.2) := by
  refine t_C.imp (P := fun v s' => ∃ x, v = some (.int x) ∧ (fun q => q = r) ((x, s'))) (t_C.of (by decide +kernel) (Nat.le_of_ble_eq_true rfl) ?_) (fun v s' hp => by obtain ⟨x, rfl, rfl⟩ := hp; exact ⟨rfl, rfl⟩)
  intro D cy ad bs X
  have hk : t_hk (f_X13_receives x1 x2 s) (fun q => q = r) := ⟨r, hr, rfl⟩
  show mj_G D cy ad bs X cX13_receives 4 yX13_receives.cls (some .boolean) yX13_receives.name 1784 0 0 1065 (t_P (fun v s' => ∃ x, v = some (.int x) ∧ (fun q => q = r) ((x, s')))) 0 [(0, .ref 950), (1, .int x1), (2, .int x2)] [] (t_m s) 1065 0 0
  refine mj_bipush (v := 6) dX13_receives_0 (by decide) ?_
  refine mj_iload_n dX13_receives_2 1 rfl ?_
  refine mj_imul dX13_receives_3 ?_
  refine mj_aload_n dX13_receives_4 0 rfl ?_
  refine mj_iload_n dX13_receives_5 1 rfl ?_
  refine mj_aload_n dX13_receives_6 0 rfl ?_
  refine t_getR 991 dX13_receives_7 F_X13_135 qr_950_69 ?_
  refine mj_iload_n dX13_receives_10 2 rfl ?_
  refine t_chkK hk (fun c0 hk => ?_)
  refine t_iald dX13_receives_11 qa_991 (t_ixv c0) ?_
  refine t_bndK hk (fun r2 er2 hk => ?_)
  refine t_callViP dX13_receives_12 M_X13_portAt (C_X13_portAt _ _ _ _ er2) ML_X13_1448 IM_X13_portAt SE_X13_portAt qc_950 rfl (As := [.int x1, .int (s.1 991 (x2.toNatClampNeg))]) rfl rfl (Nat.le_of_ble_eq_true rfl) (Nat.le_of_ble_eq_true rfl) (Nat.le_of_ble_eq_true rfl) (Nat.le_of_ble_eq_true rfl) ?_
  refine mj_iadd dX13_receives_15 ?_
  refine mj_istore_n 3 (lv2 := [(3, .int (((6 : Int32) * x1) + r2)), (0, .ref 950), (1, .int x1), (2, .int x2)]) dX13_receives_16 rfl (by decide) rfl ?_
  refine mj_aload_n dX13_receives_17 1 rfl ?_
  refine t_getR 1047 dX13_receives_18 F_X13_309 qr_950_162 ?_
  refine mj_iload_n dX13_receives_21 0 rfl ?_
  refine t_chkK hk (fun c2 hk => ?_)
  refine t_iald dX13_receives_22 qa_1047 (t_ixv c2) ?_
  refine mj_if_ne 28 dX13_receives_23 (by decide) (fun z => t_negK hk z (fun hk => ?_)) (fun z => t_posK hk z (fun hk => ?_))
  · refine mj_aload_n dX13_receives_28 1 rfl ?_
    refine t_getR 996 dX13_receives_29 F_X13_150 qr_950_74 ?_
    refine mj_iload_n dX13_receives_32 3 rfl ?_
    refine t_iald dX13_receives_33 qa_996 (t_ixv c0) ?_
    refine mj_if_lt 116 dX13_receives_34 (by decide) (fun z => t_posK hk z (fun hk => ?_)) (fun z => t_negK hk z (fun hk => ?_))
    · refine mj_sublv [(0, .ref 950), (2, .int x2), (3, .int (((6 : Int32) * x1) + r2))] [1, 3, 0] rfl ?_
      exact B_X13_receives_116 _ _ _ _ hk
    · refine mj_aload_n dX13_receives_37 1 rfl ?_
      refine mj_aload_n dX13_receives_38 1 rfl ?_
      refine t_getR 996 dX13_receives_39 F_X13_150 qr_950_74 ?_
      refine mj_iload_n dX13_receives_42 3 rfl ?_
      refine t_iald dX13_receives_43 qa_996 (t_ixv c0) ?_
      refine t_bndK hk (fun r4 er4 hk => ?_)
      refine t_callSvE dX13_receives_44 M_X13_work (C_X13_work _ _ _ er4) ML_X13_897 SM_X13_work (As := [.ref 950, .int (s.1 996 (x2.toNatClampNeg))]) rfl rfl (Nat.le_of_ble_eq_true rfl) (Nat.le_of_ble_eq_true rfl) (Nat.le_of_ble_eq_true rfl) (Nat.le_of_ble_eq_true rfl) ?_
      refine mj_aload_n dX13_receives_47 1 rfl ?_
      refine t_getI dX13_receives_48 F_X13_842 qf_950_97 ?_
      refine mj_if_ne 75 dX13_receives_51 (by decide) (fun z => t_negK hk z (fun hk => ?_)) (fun z => t_posK hk z (fun hk => ?_))
      · refine mj_sublv [(0, .ref 950), (2, .int x2), (3, .int (((6 : Int32) * x1) + r2))] [1, 3, 0] rfl ?_
        exact B_X13_receives_75 _ _ _ _ hk
      · refine mj_aload_n dX13_receives_54 1 rfl ?_
        refine t_getR 1006 dX13_receives_55 F_X13_182 qr_950_95 ?_
        refine mj_aload_n dX13_receives_58 1 rfl ?_
        refine t_callViP dX13_receives_59 M_X13_top (C_X13_top _) ML_X13_941 IM_X13_top SE_X13_top qc_950 rfl (As := []) rfl rfl (Nat.le_of_ble_eq_true rfl) (Nat.le_of_ble_eq_true rfl) (Nat.le_of_ble_eq_true rfl) (Nat.le_of_ble_eq_true rfl) ?_
        refine t_chkK hk (fun c5 hk => ?_)
        refine t_lald dX13_receives_62 qa_1006 (t_ixv c5) ?_
        refine mj_ldc2 dX13_receives_63 K_X13_682 ?_
        refine mj_lcmp dX13_receives_66 ?_
        refine mj_if_eq 75 dX13_receives_67 (by decide) (fun z => t_posK hk z (fun hk => ?_)) (fun z => t_negK hk z (fun hk => ?_))
        · refine mj_sublv [(0, .ref 950), (2, .int x2), (3, .int (((6 : Int32) * x1) + r2))] [1, 3, 0] rfl ?_
          exact B_X13_receives_75 _ _ _ _ hk
        · refine mj_aload_n dX13_receives_70 1 rfl ?_
          refine mj_iconst (v := 1) dX13_receives_71 (by decide) ?_
          refine t_bndK hk (fun r7 er7 hk => ?_)
          refine t_callVvE dX13_receives_72 M_X13_error (C_X13_error _ _ _ er7) ML_X13_866 IM_X13_error SE_X13_error qc_950 rfl (As := [.int 1]) rfl rfl (Nat.le_of_ble_eq_true rfl) (Nat.le_of_ble_eq_true rfl) (Nat.le_of_ble_eq_true rfl) (Nat.le_of_ble_eq_true rfl) ?_
          refine mj_sublv [(0, .ref 950), (2, .int x2), (3, .int (((6 : Int32) * x1) + r2))] [1, 3, 0] rfl ?_
          exact B_X13_receives_75 _ _ _ _ hk
  · refine mj_iconst (v := 0) dX13_receives_26 (by decide) ?_
    exact t_somK hk (fun hf => t_iret dX13_receives_27 rfl (by decide) ⟨_, rfl, hf⟩ (Nat.le_of_ble_eq_true rfl) (Nat.le_of_ble_eq_true rfl))

theorem dX13_timerAt_0 : decode cX13_timerAt 0 = .ok (.iconst 4, 1) := by decide +kernel
theorem dX13_timerAt_1 : decode cX13_timerAt 1 = .ok (.iload_n 1, 1) := by decide +kernel
theorem dX13_timerAt_10 : decode cX13_timerAt 10 = .ok (.getfield 273, 3) := by decide +kernel
theorem dX13_timerAt_13 : decode cX13_timerAt 13 = .ok (.iload_n 1, 1) := by decide +kernel
theorem dX13_timerAt_14 : decode cX13_timerAt 14 = .ok (.iaload, 1) := by decide +kernel
theorem dX13_timerAt_15 : decode cX13_timerAt 15 = .ok (.imul, 1) := by decide +kernel
theorem dX13_timerAt_16 : decode cX13_timerAt 16 = .ok (.aload_n 0, 1) := by decide +kernel
theorem dX13_timerAt_17 : decode cX13_timerAt 17 = .ok (.getfield 84, 3) := by decide +kernel
theorem dX13_timerAt_2 : decode cX13_timerAt 2 = .ok (.imul, 1) := by decide +kernel
theorem dX13_timerAt_20 : decode cX13_timerAt 20 = .ok (.aload_n 0, 1) := by decide +kernel
theorem dX13_timerAt_21 : decode cX13_timerAt 21 = .ok (.getfield 273, 3) := by decide +kernel
theorem dX13_timerAt_24 : decode cX13_timerAt 24 = .ok (.iload_n 1, 1) := by decide +kernel
theorem dX13_timerAt_25 : decode cX13_timerAt 25 = .ok (.iaload, 1) := by decide +kernel
theorem dX13_timerAt_26 : decode cX13_timerAt 26 = .ok (.iaload, 1) := by decide +kernel
theorem dX13_timerAt_27 : decode cX13_timerAt 27 = .ok (.iload_n 2, 1) := by decide +kernel
theorem dX13_timerAt_28 : decode cX13_timerAt 28 = .ok (.invokevirtual 788, 3) := by decide +kernel
theorem dX13_timerAt_3 : decode cX13_timerAt 3 = .ok (.aload_n 0, 1) := by decide +kernel
theorem dX13_timerAt_31 : decode cX13_timerAt 31 = .ok (.iadd, 1) := by decide +kernel
theorem dX13_timerAt_32 : decode cX13_timerAt 32 = .ok (.ireturn, 1) := by decide +kernel
theorem dX13_timerAt_4 : decode cX13_timerAt 4 = .ok (.aload_n 0, 1) := by decide +kernel
theorem dX13_timerAt_5 : decode cX13_timerAt 5 = .ok (.getfield 81, 3) := by decide +kernel
theorem dX13_timerAt_8 : decode cX13_timerAt 8 = .ok (.iconst 4, 1) := by decide +kernel
theorem dX13_timerAt_9 : decode cX13_timerAt 9 = .ok (.aload_n 0, 1) := by decide +kernel
noncomputable def f_X13_timerAt (x1 : Int32) (x2 : Int32) (s : t_S) : Option (Int32) :=
 if t_ix x1 8 = true then
  if t_ix (s.1 1035 (x1.toNatClampNeg)) 8 = true then
  (f_X13_find 973 ((4 : Int32) * (s.1 1035 (x1.toNatClampNeg))) (s.1 974 ((s.1 1035 (x1.toNatClampNeg)).toNatClampNeg)) x2 s).bind (fun r3 =>
 some (((4 : Int32) * x1) + r3))
else none
else none
set_option maxRecDepth 4000 in
set_option maxHeartbeats 1000000 in
theorem C_X13_timerAt (x1 : Int32) (x2 : Int32) (s : t_S) (r : Int32) (hr : f_X13_timerAt x1 x2 s = some r) : t_C yX13_timerAt cX13_timerAt 3 (some .int) 1 [.ref 950, .int x1, .int x2] s (fun v s' => v = some (.int r) ∧ s' = s) := by
  refine t_C.imp (P := fun v s' => s' = s ∧ ∃ x, v = some (.int x) ∧ (fun q => q = r) (x)) (t_C.of (by decide +kernel) (Nat.le_of_ble_eq_true rfl) ?_) (fun v s' hp => by obtain ⟨rfl, x, rfl, rfl⟩ := hp; exact ⟨rfl, rfl⟩)
  intro D cy ad bs X
  have hk : t_hk (f_X13_timerAt x1 x2 s) (fun q => q = r) := ⟨r, hr, rfl⟩
  show mj_G D cy ad bs X cX13_timerAt 3 yX13_timerAt.cls (some .int) yX13_timerAt.name 1 0 0 1065 (t_P (fun v s' => s' = s ∧ ∃ x, v = some (.int x) ∧ (fun q => q = r) (x))) 0 [(0, .ref 950), (1, .int x1), (2, .int x2)] [] (t_m s) 1065 0 0
  refine mj_iconst (v := 4) dX13_timerAt_0 (by decide) ?_
  refine mj_iload_n dX13_timerAt_1 1 rfl ?_
  refine mj_imul dX13_timerAt_2 ?_
  refine mj_aload_n dX13_timerAt_3 0 rfl ?_
  refine mj_aload_n dX13_timerAt_4 0 rfl ?_
  refine t_getR 973 dX13_timerAt_5 F_X13_81 qr_950_48 ?_
  refine mj_iconst (v := 4) dX13_timerAt_8 (by decide) ?_
  refine mj_aload_n dX13_timerAt_9 0 rfl ?_
  refine t_getR 1035 dX13_timerAt_10 F_X13_273 qr_950_150 ?_
  refine mj_iload_n dX13_timerAt_13 1 rfl ?_
  refine t_chkK hk (fun c0 hk => ?_)
  refine t_iald dX13_timerAt_14 qa_1035 (t_ixv c0) ?_
  refine mj_imul dX13_timerAt_15 ?_
  refine mj_aload_n dX13_timerAt_16 0 rfl ?_
  refine t_getR 974 dX13_timerAt_17 F_X13_84 qr_950_49 ?_
  refine mj_aload_n dX13_timerAt_20 0 rfl ?_
  refine t_getR 1035 dX13_timerAt_21 F_X13_273 qr_950_150 ?_
  refine mj_iload_n dX13_timerAt_24 1 rfl ?_
  refine t_iald dX13_timerAt_25 qa_1035 (t_ixv c0) ?_
  refine t_chkK hk (fun c1 hk => ?_)
  refine t_iald dX13_timerAt_26 qa_974 (t_ixv c1) ?_
  refine mj_iload_n dX13_timerAt_27 2 rfl ?_
  refine t_bndK hk (fun r3 er3 hk => ?_)
  refine t_callViP dX13_timerAt_28 M_X13_find (C_X13_find _ _ _ _ _ _ er3) ML_X13_788 IM_X13_find SE_X13_find qc_950 rfl (As := [.ref 973, .int ((4 : Int32) * (s.1 1035 (x1.toNatClampNeg))), .int (s.1 974 ((s.1 1035 (x1.toNatClampNeg)).toNatClampNeg)), .int x2]) rfl rfl (Nat.le_of_ble_eq_true rfl) (Nat.le_of_ble_eq_true rfl) (Nat.le_of_ble_eq_true rfl) (Nat.le_of_ble_eq_true rfl) ?_
  refine mj_iadd dX13_timerAt_31 ?_
  exact t_somK hk (fun hf => t_iret dX13_timerAt_32 rfl rfl ⟨rfl, _, rfl, hf⟩ (Nat.le_of_ble_eq_true rfl) (Nat.le_of_ble_eq_true rfl))

