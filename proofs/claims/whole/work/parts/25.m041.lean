/-! Methods as functions, 41: X7_choose, X7_connect, X7_speak, X7_start, X7_stop -/
theorem dX7_choose_0 : decode cX7_choose 0 = .ok (.aload_n 0, 1) := by decide +kernel
theorem dX7_choose_1 : decode cX7_choose 1 = .ok (.getfield 31, 3) := by decide +kernel
theorem dX7_choose_10 : decode cX7_choose 10 = .ok (.aload_n 0, 1) := by decide +kernel
theorem dX7_choose_101 : decode cX7_choose 101 = .ok (.iastore, 1) := by decide +kernel
theorem dX7_choose_102 : decode cX7_choose 102 = .ok (.iconst 0, 1) := by decide +kernel
theorem dX7_choose_103 : decode cX7_choose 103 = .ok (.ireturn, 1) := by decide +kernel
theorem dX7_choose_11 : decode cX7_choose 11 = .ok (.getfield 23, 3) := by decide +kernel
theorem dX7_choose_14 : decode cX7_choose 14 = .ok (.invokevirtual 302, 3) := by decide +kernel
theorem dX7_choose_17 : decode cX7_choose 17 = .ok (.invokestatic 306, 3) := by decide +kernel
theorem dX7_choose_20 : decode cX7_choose 20 = .ok (.iconst 1, 1) := by decide +kernel
theorem dX7_choose_21 : decode cX7_choose 21 = .ok (.if_icmp .eq 5, 3) := by decide +kernel
theorem dX7_choose_24 : decode cX7_choose 24 = .ok (.iconst 1, 1) := by decide +kernel
theorem dX7_choose_25 : decode cX7_choose 25 = .ok (.ireturn, 1) := by decide +kernel
theorem dX7_choose_26 : decode cX7_choose 26 = .ok (.aload_n 0, 1) := by decide +kernel
theorem dX7_choose_27 : decode cX7_choose 27 = .ok (.getfield 23, 3) := by decide +kernel
theorem dX7_choose_30 : decode cX7_choose 30 = .ok (.invokevirtual 302, 3) := by decide +kernel
theorem dX7_choose_33 : decode cX7_choose 33 = .ok (.invokestatic 309, 3) := by decide +kernel
theorem dX7_choose_36 : decode cX7_choose 36 = .ok (.lconst 0, 1) := by decide +kernel
theorem dX7_choose_37 : decode cX7_choose 37 = .ok (.lcmp, 1) := by decide +kernel
theorem dX7_choose_38 : decode cX7_choose 38 = .ok (.ifCond .eq 7, 3) := by decide +kernel
theorem dX7_choose_4 : decode cX7_choose 4 = .ok (.getfield 179, 3) := by decide +kernel
theorem dX7_choose_41 : decode cX7_choose 41 = .ok (.iconst 1, 1) := by decide +kernel
theorem dX7_choose_42 : decode cX7_choose 42 = .ok (.goto 4, 3) := by decide +kernel
theorem dX7_choose_45 : decode cX7_choose 45 = .ok (.iconst 0, 1) := by decide +kernel
theorem dX7_choose_46 : decode cX7_choose 46 = .ok (.istore 4, 2) := by decide +kernel
theorem dX7_choose_48 : decode cX7_choose 48 = .ok (.iload 4, 2) := by decide +kernel
theorem dX7_choose_50 : decode cX7_choose 50 = .ok (.ifCond .eq 9, 3) := by decide +kernel
theorem dX7_choose_53 : decode cX7_choose 53 = .ok (.aload_n 3, 1) := by decide +kernel
theorem dX7_choose_54 : decode cX7_choose 54 = .ok (.iconst 3, 1) := by decide +kernel
theorem dX7_choose_55 : decode cX7_choose 55 = .ok (.iaload, 1) := by decide +kernel
theorem dX7_choose_56 : decode cX7_choose 56 = .ok (.goto 6, 3) := by decide +kernel
theorem dX7_choose_59 : decode cX7_choose 59 = .ok (.aload_n 3, 1) := by decide +kernel
theorem dX7_choose_60 : decode cX7_choose 60 = .ok (.iconst 4, 1) := by decide +kernel
theorem dX7_choose_61 : decode cX7_choose 61 = .ok (.iaload, 1) := by decide +kernel
theorem dX7_choose_62 : decode cX7_choose 62 = .ok (.istore 5, 2) := by decide +kernel
theorem dX7_choose_64 : decode cX7_choose 64 = .ok (.iload 4, 2) := by decide +kernel
theorem dX7_choose_66 : decode cX7_choose 66 = .ok (.ifCond .eq 18, 3) := by decide +kernel
theorem dX7_choose_69 : decode cX7_choose 69 = .ok (.iload 5, 2) := by decide +kernel
theorem dX7_choose_7 : decode cX7_choose 7 = .ok (.iload_n 2, 1) := by decide +kernel
theorem dX7_choose_71 : decode cX7_choose 71 = .ok (.ifCond .ge 13, 3) := by decide +kernel
theorem dX7_choose_74 : decode cX7_choose 74 = .ok (.aload_n 3, 1) := by decide +kernel
theorem dX7_choose_75 : decode cX7_choose 75 = .ok (.iconst 0, 1) := by decide +kernel
theorem dX7_choose_76 : decode cX7_choose 76 = .ok (.iaload, 1) := by decide +kernel
theorem dX7_choose_77 : decode cX7_choose 77 = .ok (.iconst 4, 1) := by decide +kernel
theorem dX7_choose_78 : decode cX7_choose 78 = .ok (.if_icmp .ne 6, 3) := by decide +kernel
theorem dX7_choose_8 : decode cX7_choose 8 = .ok (.aaload, 1) := by decide +kernel
theorem dX7_choose_81 : decode cX7_choose 81 = .ok (.iload_n 2, 1) := by decide +kernel
theorem dX7_choose_82 : decode cX7_choose 82 = .ok (.istore 5, 2) := by decide +kernel
theorem dX7_choose_84 : decode cX7_choose 84 = .ok (.iload 5, 2) := by decide +kernel
theorem dX7_choose_86 : decode cX7_choose 86 = .ok (.ifCond .lt 16, 3) := by decide +kernel
theorem dX7_choose_89 : decode cX7_choose 89 = .ok (.aload_n 1, 1) := by decide +kernel
theorem dX7_choose_9 : decode cX7_choose 9 = .ok (.astore_n 3, 1) := by decide +kernel
theorem dX7_choose_90 : decode cX7_choose 90 = .ok (.getfield 194, 3) := by decide +kernel
theorem dX7_choose_93 : decode cX7_choose 93 = .ok (.aload_n 1, 1) := by decide +kernel
theorem dX7_choose_94 : decode cX7_choose 94 = .ok (.getfield 191, 3) := by decide +kernel
theorem dX7_choose_97 : decode cX7_choose 97 = .ok (.iconst 1, 1) := by decide +kernel
theorem dX7_choose_98 : decode cX7_choose 98 = .ok (.isub, 1) := by decide +kernel
theorem dX7_choose_99 : decode cX7_choose 99 = .ok (.iload 5, 2) := by decide +kernel
noncomputable def k_X7_choose_84 (l1 : Nat) (l5 : Int32) (s : t_S) : Option (Int32 × t_S) :=
 if l5 < (0 : Int32) then (some ((0 : Int32), s))
 else (if t_isP l1 = true then
  if t_ix ((s.1 l1 6) - (1 : Int32)) 8 = true then
  t_let (t_setI s (l1 + 2) (((s.1 l1 6) - (1 : Int32)).toNatClampNeg) l5) (fun s1 =>
 some ((0 : Int32), s1))
else none
else none)
set_option maxRecDepth 4000 in
set_option maxHeartbeats 1000000 in
theorem B_X7_choose_84 {D : va_G} {cy : Nat → ClassId} {ad : Nat → Nat} {bs : Nat} {X : State → Heap → Prop} (l1 : Nat) (l5 : Int32) (s : t_S) (Q : Int32 × t_S → Prop) (hk : t_hk (k_X7_choose_84 l1 l5 s) Q) : mj_G D cy ad bs X cX7_choose 6 yX7_choose.cls (some .int) yX7_choose.name 2 0 0 1065 (t_P (fun v s' => ∃ x, v = some (.int x) ∧ Q ((x, s')))) 84 [(1, .ref l1), (5, .int l5)] [] (t_m s) 1065 0 0 := by
  refine mj_iload dX7_choose_84 1 rfl ?_
  refine mj_if_lt 102 dX7_choose_86 (by decide) (fun z => t_posK hk z (fun hk => ?_)) (fun z => t_negK hk z (fun hk => ?_))
  · refine mj_iconst (v := 0) dX7_choose_102 (by decide) ?_
    exact t_somK hk (fun hf => t_iret dX7_choose_103 rfl rfl ⟨_, rfl, hf⟩ (Nat.le_of_ble_eq_true rfl) (Nat.le_of_ble_eq_true rfl))
  · refine mj_aload_n dX7_choose_89 0 rfl ?_
    refine t_chkK hk (fun c0 hk => ?_)
    refine t_getR (l1 + 2) dX7_choose_90 F_X7_194 (t_pr8 c0) ?_
    refine mj_aload_n dX7_choose_93 0 rfl ?_
    refine t_getI dX7_choose_94 F_X7_191 (t_pf6 c0) ?_
    refine mj_iconst (v := 1) dX7_choose_97 (by decide) ?_
    refine mj_isub dX7_choose_98 ?_
    refine mj_iload dX7_choose_99 1 rfl ?_
    refine t_chkK hk (fun c1 hk => ?_)
    refine t_iastK dX7_choose_101 (t_pa8 c0) (t_ixv c1) (fun s1 ws1 => t_letE hk ws1 (fun hk => ?_))
    refine mj_iconst (v := 0) dX7_choose_102 (by decide) ?_
    exact t_somK hk (fun hf => t_iret dX7_choose_103 rfl rfl ⟨_, rfl, hf⟩ (Nat.le_of_ble_eq_true rfl) (Nat.le_of_ble_eq_true rfl))
noncomputable def k_X7_choose_62 (l1 : Nat) (l2 : Int32) (l3 : Nat) (l4 : Int32) (k0 : Int32) (s : t_S) : Option (Int32 × t_S) :=
 if l4 = (0 : Int32) then (k_X7_choose_84 l1 k0 s)
 else (if (0 : Int32) ≤ k0 then (k_X7_choose_84 l1 k0 s)
 else (if t_oka l3 1 (t_ln l3) = true then
  if t_ix (0 : Int32) (t_ln l3) = true then
  if (s.1 l3 ((0 : Int32).toNatClampNeg)) = (4 : Int32) then (k_X7_choose_84 l1 l2 s)
 else (k_X7_choose_84 l1 k0 s)
else none
else none))
set_option maxRecDepth 4000 in
set_option maxHeartbeats 1000000 in
theorem B_X7_choose_62 {D : va_G} {cy : Nat → ClassId} {ad : Nat → Nat} {bs : Nat} {X : State → Heap → Prop} (l1 : Nat) (l2 : Int32) (l3 : Nat) (l4 : Int32) (k0 : Int32) (s : t_S) (Q : Int32 × t_S → Prop) (hk : t_hk (k_X7_choose_62 l1 l2 l3 l4 k0 s) Q) : mj_G D cy ad bs X cX7_choose 6 yX7_choose.cls (some .int) yX7_choose.name 2 0 0 1065 (t_P (fun v s' => ∃ x, v = some (.int x) ∧ Q ((x, s')))) 62 [(1, .ref l1), (2, .int l2), (3, .ref l3), (4, .int l4)] [.int k0] (t_m s) 1065 0 0 := by
  refine mj_istore (lv2 := [(5, .int k0), (1, .ref l1), (2, .int l2), (3, .ref l3), (4, .int l4)]) dX7_choose_62 (by decide) rfl ?_
  refine mj_iload dX7_choose_64 4 rfl ?_
  refine mj_if_eq 84 dX7_choose_66 (by decide) (fun z => t_posK hk z (fun hk => ?_)) (fun z => t_negK hk z (fun hk => ?_))
  · refine mj_sublv [(1, .ref l1), (5, .int k0)] [1, 0] rfl ?_
    exact B_X7_choose_84 _ _ _ _ hk
  · refine mj_iload dX7_choose_69 0 rfl ?_
    refine mj_if_ge 84 dX7_choose_71 (by decide) (fun z => t_posK hk z (fun hk => ?_)) (fun z => t_negK hk z (fun hk => ?_))
    · refine mj_sublv [(1, .ref l1), (5, .int k0)] [1, 0] rfl ?_
      exact B_X7_choose_84 _ _ _ _ hk
    · refine mj_aload_n dX7_choose_74 3 rfl ?_
      refine mj_iconst (v := 0) dX7_choose_75 (by decide) ?_
      refine t_chkK hk (fun c0 hk => ?_)
      refine t_chkK hk (fun c1 hk => ?_)
      refine t_iald dX7_choose_76 c0 (t_ixv c1) ?_
      refine mj_iconst (v := 4) dX7_choose_77 (by decide) ?_
      refine mj_icmp_ne 84 dX7_choose_78 (by decide) (fun z => t_negK hk z (fun hk => ?_)) (fun z => t_posK hk z (fun hk => ?_))
      · refine mj_sublv [(1, .ref l1), (5, .int k0)] [1, 0] rfl ?_
        exact B_X7_choose_84 _ _ _ _ hk
      · refine mj_iload_n dX7_choose_81 2 rfl ?_
        refine mj_istore (lv2 := [(5, .int l2), (1, .ref l1), (2, .int l2), (3, .ref l3), (4, .int l4)]) dX7_choose_82 (by decide) rfl ?_
        refine mj_sublv [(1, .ref l1), (5, .int l2)] [1, 0] rfl ?_
        exact B_X7_choose_84 _ _ _ _ hk
noncomputable def k_X7_choose_46 (l1 : Nat) (l2 : Int32) (l3 : Nat) (k0 : Int32) (s : t_S) : Option (Int32 × t_S) :=
 if k0 = (0 : Int32) then (if t_oka l3 1 (t_ln l3) = true then
  if t_ix (4 : Int32) (t_ln l3) = true then
  k_X7_choose_62 l1 l2 l3 k0 (s.1 l3 ((4 : Int32).toNatClampNeg)) s
else none
else none)
 else (if t_oka l3 1 (t_ln l3) = true then
  if t_ix (3 : Int32) (t_ln l3) = true then
  k_X7_choose_62 l1 l2 l3 k0 (s.1 l3 ((3 : Int32).toNatClampNeg)) s
else none
else none)
set_option maxRecDepth 4000 in
set_option maxHeartbeats 1000000 in
theorem B_X7_choose_46 {D : va_G} {cy : Nat → ClassId} {ad : Nat → Nat} {bs : Nat} {X : State → Heap → Prop} (l1 : Nat) (l2 : Int32) (l3 : Nat) (k0 : Int32) (s : t_S) (Q : Int32 × t_S → Prop) (hk : t_hk (k_X7_choose_46 l1 l2 l3 k0 s) Q) : mj_G D cy ad bs X cX7_choose 6 yX7_choose.cls (some .int) yX7_choose.name 2 0 0 1065 (t_P (fun v s' => ∃ x, v = some (.int x) ∧ Q ((x, s')))) 46 [(1, .ref l1), (2, .int l2), (3, .ref l3)] [.int k0] (t_m s) 1065 0 0 := by
  refine mj_istore (lv2 := [(4, .int k0), (1, .ref l1), (2, .int l2), (3, .ref l3)]) dX7_choose_46 (by decide) rfl ?_
  refine mj_iload dX7_choose_48 0 rfl ?_
  refine mj_if_eq 59 dX7_choose_50 (by decide) (fun z => t_posK hk z (fun hk => ?_)) (fun z => t_negK hk z (fun hk => ?_))
  · refine mj_aload_n dX7_choose_59 3 rfl ?_
    refine mj_iconst (v := 4) dX7_choose_60 (by decide) ?_
    refine t_chkK hk (fun c0 hk => ?_)
    refine t_chkK hk (fun c1 hk => ?_)
    refine t_iald dX7_choose_61 c0 (t_ixv c1) ?_
    refine mj_sublv [(1, .ref l1), (2, .int l2), (3, .ref l3), (4, .int k0)] [1, 2, 3, 0] rfl ?_
    exact B_X7_choose_62 _ _ _ _ _ _ _ hk
  · refine mj_aload_n dX7_choose_53 3 rfl ?_
    refine mj_iconst (v := 3) dX7_choose_54 (by decide) ?_
    refine t_chkK hk (fun c2 hk => ?_)
    refine t_chkK hk (fun c3 hk => ?_)
    refine t_iald dX7_choose_55 c2 (t_ixv c3) ?_
    refine mj_goto 62 dX7_choose_56 (by decide) ?_
    refine mj_sublv [(1, .ref l1), (2, .int l2), (3, .ref l3), (4, .int k0)] [1, 2, 3, 0] rfl ?_
    exact B_X7_choose_62 _ _ _ _ _ _ _ hk
noncomputable def f_X7_choose (x1 : Nat) (x2 : Int32) (s : t_S) : Option (Int32 × t_S) :=
 if t_ix x2 400 = true then
  (f_X0_top s).bind (fun r2 =>
 if (f_X8_kind r2 s) = (1 : Int32) then ((f_X0_top s).bind (fun r4 =>
 if (lg_cmp (f_X8_told r4 s) (0 : Int64)) = (0 : Int32) then (k_X7_choose_46 x1 x2 (445 + 1 * (x2.toNatClampNeg)) 0 s)
 else (k_X7_choose_46 x1 x2 (445 + 1 * (x2.toNatClampNeg)) 1 s)))
 else (some ((1 : Int32), s)))
else none
set_option maxRecDepth 4000 in
set_option maxHeartbeats 1000000 in
theorem C_X7_choose (x1 : Nat) (x2 : Int32) (s : t_S) (r : Int32 × t_S) (hr : f_X7_choose x1 x2 s = some r) : t_C yX7_choose cX7_choose 6 (some .int) 2 [.ref 864, .ref x1, .int x2] s (fun v s' => v = some (.int r.1) ∧ s' = r.2) := by
  refine t_C.imp (P := fun v s' => ∃ x, v = some (.int x) ∧ (fun q => q = r) ((x, s'))) (t_C.of (by decide +kernel) (Nat.le_of_ble_eq_true rfl) ?_) (fun v s' hp => by obtain ⟨x, rfl, rfl⟩ := hp; exact ⟨rfl, rfl⟩)
  intro D cy ad bs X
  have hk : t_hk (f_X7_choose x1 x2 s) (fun q => q = r) := ⟨r, hr, rfl⟩
  show mj_G D cy ad bs X cX7_choose 6 yX7_choose.cls (some .int) yX7_choose.name 2 0 0 1065 (t_P (fun v s' => ∃ x, v = some (.int x) ∧ (fun q => q = r) ((x, s')))) 0 [(0, .ref 864), (1, .ref x1), (2, .int x2)] [] (t_m s) 1065 0 0
  refine mj_aload_n dX7_choose_0 0 rfl ?_
  refine t_getR 428 dX7_choose_1 F_X7_31 qr_864_4 ?_
  refine t_getR 444 dX7_choose_4 F_X7_179 qr_428_17 ?_
  refine mj_iload_n dX7_choose_7 2 rfl ?_
  refine t_chkK hk (fun c0 hk => ?_)
  refine t_aaldI dX7_choose_8 qq_444 (t_ixv c0) ?_
  refine mj_astore_n 3 (lv2 := [(3, .ref (445 + 1 * (x2.toNatClampNeg))), (0, .ref 864), (1, .ref x1), (2, .int x2)]) dX7_choose_9 rfl (by decide) rfl ?_
  refine mj_aload_n dX7_choose_10 1 rfl ?_
  refine t_getR 334 dX7_choose_11 F_X7_23 qr_864_2 ?_
  refine t_bndK hk (fun r2 er2 hk => ?_)
  refine t_callVlP dX7_choose_14 M_X0_top (C_X0_top _ _ er2) ML_X7_302 IM_X0_top SE_X0_top qc_334 rfl (As := []) rfl rfl (Nat.le_of_ble_eq_true rfl) (Nat.le_of_ble_eq_true rfl) (Nat.le_of_ble_eq_true rfl) (Nat.le_of_ble_eq_true rfl) ?_
  refine t_callSiP dX7_choose_17 M_X8_kind (C_X8_kind _ _) ML_X7_306 SM_X8_kind (As := [.long r2]) rfl rfl (Nat.le_of_ble_eq_true rfl) (Nat.le_of_ble_eq_true rfl) (Nat.le_of_ble_eq_true rfl) (Nat.le_of_ble_eq_true rfl) ?_
  refine mj_iconst (v := 1) dX7_choose_20 (by decide) ?_
  refine mj_icmp_eq 26 dX7_choose_21 (by decide) (fun z => t_posK hk z (fun hk => ?_)) (fun z => t_negK hk z (fun hk => ?_))
  · refine mj_aload_n dX7_choose_26 1 rfl ?_
    refine t_getR 334 dX7_choose_27 F_X7_23 qr_864_2 ?_
    refine t_bndK hk (fun r4 er4 hk => ?_)
    refine t_callVlP dX7_choose_30 M_X0_top (C_X0_top _ _ er4) ML_X7_302 IM_X0_top SE_X0_top qc_334 rfl (As := []) rfl rfl (Nat.le_of_ble_eq_true rfl) (Nat.le_of_ble_eq_true rfl) (Nat.le_of_ble_eq_true rfl) (Nat.le_of_ble_eq_true rfl) ?_
    refine t_callSlP dX7_choose_33 M_X8_told (C_X8_told _ _) ML_X7_309 SM_X8_told (As := [.long r4]) rfl rfl (Nat.le_of_ble_eq_true rfl) (Nat.le_of_ble_eq_true rfl) (Nat.le_of_ble_eq_true rfl) (Nat.le_of_ble_eq_true rfl) ?_
    refine mj_lconst (v := 0) dX7_choose_36 (by decide) ?_
    refine mj_lcmp dX7_choose_37 ?_
    refine mj_if_eq 45 dX7_choose_38 (by decide) (fun z => t_posK hk z (fun hk => ?_)) (fun z => t_negK hk z (fun hk => ?_))
    · refine mj_iconst (v := 0) dX7_choose_45 (by decide) ?_
      refine mj_sublv [(1, .ref x1), (2, .int x2), (3, .ref (445 + 1 * (x2.toNatClampNeg)))] [2, 3, 0] rfl ?_
      exact B_X7_choose_46 _ _ _ _ _ _ hk
    · refine mj_iconst (v := 1) dX7_choose_41 (by decide) ?_
      refine mj_goto 46 dX7_choose_42 (by decide) ?_
      refine mj_sublv [(1, .ref x1), (2, .int x2), (3, .ref (445 + 1 * (x2.toNatClampNeg)))] [2, 3, 0] rfl ?_
      exact B_X7_choose_46 _ _ _ _ _ _ hk
  · refine mj_iconst (v := 1) dX7_choose_24 (by decide) ?_
    exact t_somK hk (fun hf => t_iret dX7_choose_25 rfl rfl ⟨_, rfl, hf⟩ (Nat.le_of_ble_eq_true rfl) (Nat.le_of_ble_eq_true rfl))

theorem dX7_connect_0 : decode cX7_connect 0 = .ok (.aload_n 0, 1) := by decide +kernel
theorem dX7_connect_1 : decode cX7_connect 1 = .ok (.iconst 0, 1) := by decide +kernel
theorem dX7_connect_100 : decode cX7_connect 100 = .ok (.imul, 1) := by decide +kernel
theorem dX7_connect_101 : decode cX7_connect 101 = .ok (.iload 5, 2) := by decide +kernel
theorem dX7_connect_103 : decode cX7_connect 103 = .ok (.iadd, 1) := by decide +kernel
theorem dX7_connect_104 : decode cX7_connect 104 = .ok (.iastore, 1) := by decide +kernel
theorem dX7_connect_105 : decode cX7_connect 105 = .ok (.aload_n 3, 1) := by decide +kernel
theorem dX7_connect_106 : decode cX7_connect 106 = .ok (.getfield 326, 3) := by decide +kernel
theorem dX7_connect_109 : decode cX7_connect 109 = .ok (.iload 5, 2) := by decide +kernel
theorem dX7_connect_11 : decode cX7_connect 11 = .ok (.astore_n 3, 1) := by decide +kernel
theorem dX7_connect_111 : decode cX7_connect 111 = .ok (.aload_n 2, 1) := by decide +kernel
theorem dX7_connect_112 : decode cX7_connect 112 = .ok (.getfield 92, 3) := by decide +kernel
theorem dX7_connect_115 : decode cX7_connect 115 = .ok (.bipush 6, 2) := by decide +kernel
theorem dX7_connect_117 : decode cX7_connect 117 = .ok (.imul, 1) := by decide +kernel
theorem dX7_connect_118 : decode cX7_connect 118 = .ok (.iload 4, 2) := by decide +kernel
theorem dX7_connect_12 : decode cX7_connect 12 = .ok (.aload_n 2, 1) := by decide +kernel
theorem dX7_connect_120 : decode cX7_connect 120 = .ok (.iadd, 1) := by decide +kernel
theorem dX7_connect_121 : decode cX7_connect 121 = .ok (.iastore, 1) := by decide +kernel
theorem dX7_connect_122 : decode cX7_connect 122 = .ok (.iconst 0, 1) := by decide +kernel
theorem dX7_connect_123 : decode cX7_connect 123 = .ok (.ireturn, 1) := by decide +kernel
theorem dX7_connect_13 : decode cX7_connect 13 = .ok (.ifnull 7, 3) := by decide +kernel
theorem dX7_connect_16 : decode cX7_connect 16 = .ok (.aload_n 3, 1) := by decide +kernel
theorem dX7_connect_17 : decode cX7_connect 17 = .ok (.ifnonnull 5, 3) := by decide +kernel
theorem dX7_connect_2 : decode cX7_connect 2 = .ok (.invokevirtual 342, 3) := by decide +kernel
theorem dX7_connect_20 : decode cX7_connect 20 = .ok (.iconst 1, 1) := by decide +kernel
theorem dX7_connect_21 : decode cX7_connect 21 = .ok (.ireturn, 1) := by decide +kernel
theorem dX7_connect_22 : decode cX7_connect 22 = .ok (.aload_n 0, 1) := by decide +kernel
theorem dX7_connect_23 : decode cX7_connect 23 = .ok (.getfield 31, 3) := by decide +kernel
theorem dX7_connect_26 : decode cX7_connect 26 = .ok (.aload_n 2, 1) := by decide +kernel
theorem dX7_connect_27 : decode cX7_connect 27 = .ok (.getfield 113, 3) := by decide +kernel
theorem dX7_connect_30 : decode cX7_connect 30 = .ok (.aload_n 1, 1) := by decide +kernel
theorem dX7_connect_31 : decode cX7_connect 31 = .ok (.bipush 6, 2) := by decide +kernel
theorem dX7_connect_33 : decode cX7_connect 33 = .ok (.iaload, 1) := by decide +kernel
theorem dX7_connect_34 : decode cX7_connect 34 = .ok (.invokevirtual 349, 3) := by decide +kernel
theorem dX7_connect_37 : decode cX7_connect 37 = .ok (.istore 4, 2) := by decide +kernel
theorem dX7_connect_39 : decode cX7_connect 39 = .ok (.aload_n 0, 1) := by decide +kernel
theorem dX7_connect_40 : decode cX7_connect 40 = .ok (.getfield 31, 3) := by decide +kernel
theorem dX7_connect_43 : decode cX7_connect 43 = .ok (.aload_n 3, 1) := by decide +kernel
theorem dX7_connect_44 : decode cX7_connect 44 = .ok (.getfield 113, 3) := by decide +kernel
theorem dX7_connect_47 : decode cX7_connect 47 = .ok (.aload_n 1, 1) := by decide +kernel
theorem dX7_connect_48 : decode cX7_connect 48 = .ok (.bipush 8, 2) := by decide +kernel
theorem dX7_connect_5 : decode cX7_connect 5 = .ok (.astore_n 2, 1) := by decide +kernel
theorem dX7_connect_50 : decode cX7_connect 50 = .ok (.iaload, 1) := by decide +kernel
theorem dX7_connect_51 : decode cX7_connect 51 = .ok (.invokevirtual 349, 3) := by decide +kernel
theorem dX7_connect_54 : decode cX7_connect 54 = .ok (.istore 5, 2) := by decide +kernel
theorem dX7_connect_56 : decode cX7_connect 56 = .ok (.iload 4, 2) := by decide +kernel
theorem dX7_connect_58 : decode cX7_connect 58 = .ok (.ifCond .lt 28, 3) := by decide +kernel
theorem dX7_connect_6 : decode cX7_connect 6 = .ok (.aload_n 0, 1) := by decide +kernel
theorem dX7_connect_61 : decode cX7_connect 61 = .ok (.iload 5, 2) := by decide +kernel
theorem dX7_connect_63 : decode cX7_connect 63 = .ok (.ifCond .lt 23, 3) := by decide +kernel
theorem dX7_connect_66 : decode cX7_connect 66 = .ok (.aload_n 2, 1) := by decide +kernel
theorem dX7_connect_67 : decode cX7_connect 67 = .ok (.getfield 326, 3) := by decide +kernel
theorem dX7_connect_7 : decode cX7_connect 7 = .ok (.iconst 1, 1) := by decide +kernel
theorem dX7_connect_70 : decode cX7_connect 70 = .ok (.iload 4, 2) := by decide +kernel
theorem dX7_connect_72 : decode cX7_connect 72 = .ok (.iaload, 1) := by decide +kernel
theorem dX7_connect_73 : decode cX7_connect 73 = .ok (.ifCond .ge 13, 3) := by decide +kernel
theorem dX7_connect_76 : decode cX7_connect 76 = .ok (.aload_n 3, 1) := by decide +kernel
theorem dX7_connect_77 : decode cX7_connect 77 = .ok (.getfield 326, 3) := by decide +kernel
theorem dX7_connect_8 : decode cX7_connect 8 = .ok (.invokevirtual 342, 3) := by decide +kernel
theorem dX7_connect_80 : decode cX7_connect 80 = .ok (.iload 5, 2) := by decide +kernel
theorem dX7_connect_82 : decode cX7_connect 82 = .ok (.iaload, 1) := by decide +kernel
theorem dX7_connect_83 : decode cX7_connect 83 = .ok (.ifCond .lt 5, 3) := by decide +kernel
theorem dX7_connect_86 : decode cX7_connect 86 = .ok (.iconst 5, 1) := by decide +kernel
theorem dX7_connect_87 : decode cX7_connect 87 = .ok (.ireturn, 1) := by decide +kernel
theorem dX7_connect_88 : decode cX7_connect 88 = .ok (.aload_n 2, 1) := by decide +kernel
theorem dX7_connect_89 : decode cX7_connect 89 = .ok (.getfield 326, 3) := by decide +kernel
theorem dX7_connect_92 : decode cX7_connect 92 = .ok (.iload 4, 2) := by decide +kernel
theorem dX7_connect_94 : decode cX7_connect 94 = .ok (.aload_n 3, 1) := by decide +kernel
theorem dX7_connect_95 : decode cX7_connect 95 = .ok (.getfield 92, 3) := by decide +kernel
theorem dX7_connect_98 : decode cX7_connect 98 = .ok (.bipush 6, 2) := by decide +kernel
noncomputable def f_X7_connect (x1 : Nat) (s : t_S) : Option (Int32 × t_S) :=
 (f_X7_partAt (0 : Int32) s).bind (fun r1 =>
 (f_X7_partAt (1 : Int32) s).bind (fun r2 =>
 if r1 = 0 then (some ((1 : Int32), s))
 else (if r2 = 0 then (some ((1 : Int32), s))
 else (if t_isP r1 = true then
  if t_oka x1 1 (t_ln x1) = true then
  if t_ix (6 : Int32) (t_ln x1) = true then
  (f_X5_portOf (s.1 r1 1) (s.1 x1 ((6 : Int32).toNatClampNeg)) s).bind (fun r6 =>
 if t_isP r2 = true then
  if t_ix (8 : Int32) (t_ln x1) = true then
  (f_X5_portOf (s.1 r2 1) (s.1 x1 ((8 : Int32).toNatClampNeg)) s).bind (fun r9 =>
 if r6 < (0 : Int32) then (some ((5 : Int32), s))
 else (if r9 < (0 : Int32) then (some ((5 : Int32), s))
 else (if t_ix r6 6 = true then
  if (0 : Int32) ≤ (s.1 (r1 + 5) (r6.toNatClampNeg)) then (some ((5 : Int32), s))
 else (if t_ix r9 6 = true then
  if (s.1 (r2 + 5) (r9.toNatClampNeg)) < (0 : Int32) then (t_let (t_setI s (r1 + 5) (r6.toNatClampNeg) (((s.1 r2 0) * (6 : Int32)) + r9)) (fun s1 =>
 t_let (t_setI s1 (r2 + 5) (r9.toNatClampNeg) (((s1.1 r1 0) * (6 : Int32)) + r6)) (fun s2 =>
 some ((0 : Int32), s2))))
 else (some ((5 : Int32), s))
else none)
else none)))
else none
else none)
else none
else none
else none))))
set_option maxRecDepth 4000 in
set_option maxHeartbeats 1000000 in
theorem C_X7_connect (x1 : Nat) (s : t_S) (r : Int32 × t_S) (hr : f_X7_connect x1 s = some r) : t_C yX7_connect cX7_connect 6 (some .int) 2 [.ref 864, .ref x1] s (fun v s' => v = some (.int r.1) ∧ s' = r.2) := by
  refine t_C.imp (P := fun v s' => ∃ x, v = some (.int x) ∧ (fun q => q = r) ((x, s'))) (t_C.of (by decide +kernel) (Nat.le_of_ble_eq_true rfl) ?_) (fun v s' hp => by obtain ⟨x, rfl, rfl⟩ := hp; exact ⟨rfl, rfl⟩)
  intro D cy ad bs X
  have hk : t_hk (f_X7_connect x1 s) (fun q => q = r) := ⟨r, hr, rfl⟩
  show mj_G D cy ad bs X cX7_connect 6 yX7_connect.cls (some .int) yX7_connect.name 2 0 0 1065 (t_P (fun v s' => ∃ x, v = some (.int x) ∧ (fun q => q = r) ((x, s')))) 0 [(0, .ref 864), (1, .ref x1)] [] (t_m s) 1065 0 0
  refine mj_aload_n dX7_connect_0 0 rfl ?_
  refine mj_iconst (v := 0) dX7_connect_1 (by decide) ?_
  refine t_bndK hk (fun r1 er1 hk => ?_)
  refine t_callVaP dX7_connect_2 M_X7_partAt (C_X7_partAt _ _ _ er1) ML_X7_342 IM_X7_partAt SE_X7_partAt qc_864 rfl (As := [.int 0]) rfl rfl (Nat.le_of_ble_eq_true rfl) (Nat.le_of_ble_eq_true rfl) (Nat.le_of_ble_eq_true rfl) (Nat.le_of_ble_eq_true rfl) ?_
  refine t_pvStn 2 (lv2 := [(2, t_pv r1), (0, .ref 864), (1, .ref x1)]) dX7_connect_5 rfl (by decide) rfl ?_
  refine mj_aload_n dX7_connect_6 1 rfl ?_
  refine mj_iconst (v := 1) dX7_connect_7 (by decide) ?_
  refine t_bndK hk (fun r2 er2 hk => ?_)
  refine t_callVaP dX7_connect_8 M_X7_partAt (C_X7_partAt _ _ _ er2) ML_X7_342 IM_X7_partAt SE_X7_partAt qc_864 rfl (As := [.int 1]) rfl rfl (Nat.le_of_ble_eq_true rfl) (Nat.le_of_ble_eq_true rfl) (Nat.le_of_ble_eq_true rfl) (Nat.le_of_ble_eq_true rfl) ?_
  refine t_pvStn 3 (lv2 := [(3, t_pv r2), (2, t_pv r1), (0, .ref 864), (1, .ref x1)]) dX7_connect_11 rfl (by decide) (by rcases t_pvC r1 with e | e <;> rw [e] <;> rfl) ?_
  refine t_pvLdn dX7_connect_12 1 rfl ?_
  refine mj_ifnull 20 dX7_connect_13 (by decide) (fun z => t_posK hk z (fun hk => ?_)) (fun z => t_negK hk z (fun hk => ?_))
  · refine mj_iconst (v := 1) dX7_connect_20 (by decide) ?_
    exact t_somK hk (fun hf => t_iret dX7_connect_21 rfl rfl ⟨_, rfl, hf⟩ (Nat.le_of_ble_eq_true rfl) (Nat.le_of_ble_eq_true rfl))
  · refine t_pvLdn dX7_connect_16 0 rfl ?_
    refine mj_nonnull 22 dX7_connect_17 (by decide) (fun z => t_negK hk z (fun hk => ?_)) (fun z => t_posK hk z (fun hk => ?_))
    · refine mj_aload_n dX7_connect_22 2 rfl ?_
      refine t_getR 428 dX7_connect_23 F_X7_31 qr_864_4 ?_
      refine t_pvLdn dX7_connect_26 1 rfl ?_
      refine t_chkK hk (fun c2 hk => ?_)
      refine t_pvG c2 ?_
      refine t_getI dX7_connect_27 F_X7_113 (t_pf1 c2) ?_
      refine mj_aload_n dX7_connect_30 3 rfl ?_
      refine mj_bipush (v := 6) dX7_connect_31 (by decide) ?_
      refine t_chkK hk (fun c3 hk => ?_)
      refine t_chkK hk (fun c4 hk => ?_)
      refine t_iald dX7_connect_33 c3 (t_ixv c4) ?_
      refine t_bndK hk (fun r6 er6 hk => ?_)
      refine t_callViP dX7_connect_34 M_X5_portOf (C_X5_portOf _ _ _ _ er6) ML_X7_349 IM_X5_portOf SE_X5_portOf qc_428 rfl (As := [.int (s.1 r1 1), .int (s.1 x1 ((6 : Int32).toNatClampNeg))]) rfl rfl (Nat.le_of_ble_eq_true rfl) (Nat.le_of_ble_eq_true rfl) (Nat.le_of_ble_eq_true rfl) (Nat.le_of_ble_eq_true rfl) ?_
      refine mj_istore (lv2 := [(4, .int r6), (3, t_pv r2), (2, t_pv r1), (0, .ref 864), (1, .ref x1)]) dX7_connect_37 (by decide) (by rcases t_pvC r2 with e | e <;> rw [e] <;> rfl) ?_
      refine mj_aload_n dX7_connect_39 3 rfl ?_
      refine t_getR 428 dX7_connect_40 F_X7_31 qr_864_4 ?_
      refine t_pvLdn dX7_connect_43 1 rfl ?_
      refine t_chkK hk (fun c6 hk => ?_)
      refine t_pvG c6 ?_
      refine t_getI dX7_connect_44 F_X7_113 (t_pf1 c6) ?_
      refine mj_aload_n dX7_connect_47 4 rfl ?_
      refine mj_bipush (v := 8) dX7_connect_48 (by decide) ?_
      refine t_chkK hk (fun c7 hk => ?_)
      refine t_iald dX7_connect_50 c3 (t_ixv c7) ?_
      refine t_bndK hk (fun r9 er9 hk => ?_)
      refine t_callViP dX7_connect_51 M_X5_portOf (C_X5_portOf _ _ _ _ er9) ML_X7_349 IM_X5_portOf SE_X5_portOf qc_428 rfl (As := [.int (s.1 r2 1), .int (s.1 x1 ((8 : Int32).toNatClampNeg))]) rfl rfl (Nat.le_of_ble_eq_true rfl) (Nat.le_of_ble_eq_true rfl) (Nat.le_of_ble_eq_true rfl) (Nat.le_of_ble_eq_true rfl) ?_
      refine mj_istore (lv2 := [(5, .int r9), (4, .int r6), (3, t_pv r2), (2, t_pv r1), (0, .ref 864), (1, .ref x1)]) dX7_connect_54 (by decide) rfl ?_
      refine mj_iload dX7_connect_56 1 rfl ?_
      refine mj_if_lt 86 dX7_connect_58 (by decide) (fun z => t_posK hk z (fun hk => ?_)) (fun z => t_negK hk z (fun hk => ?_))
      · refine mj_iconst (v := 5) dX7_connect_86 (by decide) ?_
        exact t_somK hk (fun hf => t_iret dX7_connect_87 rfl rfl ⟨_, rfl, hf⟩ (Nat.le_of_ble_eq_true rfl) (Nat.le_of_ble_eq_true rfl))
      · refine mj_iload dX7_connect_61 0 rfl ?_
        refine mj_if_lt 86 dX7_connect_63 (by decide) (fun z => t_posK hk z (fun hk => ?_)) (fun z => t_negK hk z (fun hk => ?_))
        · refine mj_iconst (v := 5) dX7_connect_86 (by decide) ?_
          exact t_somK hk (fun hf => t_iret dX7_connect_87 rfl rfl ⟨_, rfl, hf⟩ (Nat.le_of_ble_eq_true rfl) (Nat.le_of_ble_eq_true rfl))
        · refine t_pvLdn dX7_connect_66 3 rfl ?_
          refine t_pvG c2 ?_
          refine t_getR (r1 + 5) dX7_connect_67 F_X7_326 (t_pr12 c2) ?_
          refine mj_iload dX7_connect_70 1 rfl ?_
          refine t_chkK hk (fun c9 hk => ?_)
          refine t_iald dX7_connect_72 (t_pa12 c2) (t_ixv c9) ?_
          refine mj_if_ge 86 dX7_connect_73 (by decide) (fun z => t_posK hk z (fun hk => ?_)) (fun z => t_negK hk z (fun hk => ?_))
          · refine mj_iconst (v := 5) dX7_connect_86 (by decide) ?_
            exact t_somK hk (fun hf => t_iret dX7_connect_87 rfl rfl ⟨_, rfl, hf⟩ (Nat.le_of_ble_eq_true rfl) (Nat.le_of_ble_eq_true rfl))
          · refine t_pvLdn dX7_connect_76 2 rfl ?_
            refine t_pvG c6 ?_
            refine t_getR (r2 + 5) dX7_connect_77 F_X7_326 (t_pr12 c6) ?_
            refine mj_iload dX7_connect_80 0 rfl ?_
            refine t_chkK hk (fun c10 hk => ?_)
            refine t_iald dX7_connect_82 (t_pa12 c6) (t_ixv c10) ?_
            refine mj_if_lt 88 dX7_connect_83 (by decide) (fun z => t_posK hk z (fun hk => ?_)) (fun z => t_negK hk z (fun hk => ?_))
            · refine t_pvLdn dX7_connect_88 3 rfl ?_
              refine t_pvG c2 ?_
              refine t_getR (r1 + 5) dX7_connect_89 F_X7_326 (t_pr12 c2) ?_
              refine mj_iload dX7_connect_92 1 rfl ?_
              refine t_pvLdn dX7_connect_94 2 rfl ?_
              refine t_pvG c6 ?_
              refine t_getI dX7_connect_95 F_X7_92 (t_pf0 c6) ?_
              refine mj_bipush (v := 6) dX7_connect_98 (by decide) ?_
              refine mj_imul dX7_connect_100 ?_
              refine mj_iload dX7_connect_101 0 rfl ?_
              refine mj_iadd dX7_connect_103 ?_
              refine t_iastK dX7_connect_104 (t_pa12 c2) (t_ixv c9) (fun s1 ws1 => t_letE hk ws1 (fun hk => ?_))
              refine t_pvLdn dX7_connect_105 2 rfl ?_
              refine t_pvG c6 ?_
              refine t_getR (r2 + 5) dX7_connect_106 F_X7_326 (t_pr12 c6) ?_
              refine mj_iload dX7_connect_109 0 rfl ?_
              refine t_pvLdn dX7_connect_111 3 rfl ?_
              refine t_pvG c2 ?_
              refine t_getI dX7_connect_112 F_X7_92 (t_pf0 c2) ?_
              refine mj_bipush (v := 6) dX7_connect_115 (by decide) ?_
              refine mj_imul dX7_connect_117 ?_
              refine mj_iload dX7_connect_118 1 rfl ?_
              refine mj_iadd dX7_connect_120 ?_
              refine t_iastK dX7_connect_121 (t_pa12 c6) (t_ixv c10) (fun s2 ws2 => t_letE hk ws2 (fun hk => ?_))
              refine mj_iconst (v := 0) dX7_connect_122 (by decide) ?_
              exact t_somK hk (fun hf => t_iret dX7_connect_123 rfl rfl ⟨_, rfl, hf⟩ (Nat.le_of_ble_eq_true rfl) (Nat.le_of_ble_eq_true rfl))
            · refine mj_iconst (v := 5) dX7_connect_86 (by decide) ?_
              exact t_somK hk (fun hf => t_iret dX7_connect_87 rfl rfl ⟨_, rfl, hf⟩ (Nat.le_of_ble_eq_true rfl) (Nat.le_of_ble_eq_true rfl))
    · refine mj_iconst (v := 1) dX7_connect_20 (by decide) ?_
      exact t_somK hk (fun hf => t_iret dX7_connect_21 rfl rfl ⟨_, rfl, hf⟩ (Nat.le_of_ble_eq_true rfl) (Nat.le_of_ble_eq_true rfl))

theorem dX7_speak_0 : decode cX7_speak 0 = .ok (.aload_n 0, 1) := by decide +kernel
theorem dX7_speak_1 : decode cX7_speak 1 = .ok (.getfield 23, 3) := by decide +kernel
theorem dX7_speak_10 : decode cX7_speak 10 = .ok (.iconst 4, 1) := by decide +kernel
theorem dX7_speak_102 : decode cX7_speak 102 = .ok (.iconst 1, 1) := by decide +kernel
theorem dX7_speak_103 : decode cX7_speak 103 = .ok (.iadd, 1) := by decide +kernel
theorem dX7_speak_104 : decode cX7_speak 104 = .ok (.putfield 329, 3) := by decide +kernel
theorem dX7_speak_107 : decode cX7_speak 107 = .ok (.goto 68, 3) := by decide +kernel
theorem dX7_speak_11 : decode cX7_speak 11 = .ok (.if_icmp .ne 5, 3) := by decide +kernel
theorem dX7_speak_110 : decode cX7_speak 110 = .ok (.aload_n 0, 1) := by decide +kernel
theorem dX7_speak_111 : decode cX7_speak 111 = .ok (.getfield 15, 3) := by decide +kernel
theorem dX7_speak_114 : decode cX7_speak 114 = .ok (.iconst 1, 1) := by decide +kernel
theorem dX7_speak_115 : decode cX7_speak 115 = .ok (.aload_n 1, 1) := by decide +kernel
theorem dX7_speak_116 : decode cX7_speak 116 = .ok (.getfield 92, 3) := by decide +kernel
theorem dX7_speak_119 : decode cX7_speak 119 = .ok (.iload 4, 2) := by decide +kernel
theorem dX7_speak_121 : decode cX7_speak 121 = .ok (.aload_n 0, 1) := by decide +kernel
theorem dX7_speak_122 : decode cX7_speak 122 = .ok (.getfield 23, 3) := by decide +kernel
theorem dX7_speak_125 : decode cX7_speak 125 = .ok (.getfield 130, 3) := by decide +kernel
theorem dX7_speak_128 : decode cX7_speak 128 = .ok (.iload 5, 2) := by decide +kernel
theorem dX7_speak_130 : decode cX7_speak 130 = .ok (.invokevirtual 322, 3) := by decide +kernel
theorem dX7_speak_133 : decode cX7_speak 133 = .ok (.aload_n 1, 1) := by decide +kernel
theorem dX7_speak_134 : decode cX7_speak 134 = .ok (.getfield 326, 3) := by decide +kernel
theorem dX7_speak_137 : decode cX7_speak 137 = .ok (.iload 4, 2) := by decide +kernel
theorem dX7_speak_139 : decode cX7_speak 139 = .ok (.iaload, 1) := by decide +kernel
theorem dX7_speak_14 : decode cX7_speak 14 = .ok (.iconst 1, 1) := by decide +kernel
theorem dX7_speak_140 : decode cX7_speak 140 = .ok (.istore 6, 2) := by decide +kernel
theorem dX7_speak_142 : decode cX7_speak 142 = .ok (.aload_n 0, 1) := by decide +kernel
theorem dX7_speak_143 : decode cX7_speak 143 = .ok (.aload_n 0, 1) := by decide +kernel
theorem dX7_speak_144 : decode cX7_speak 144 = .ok (.getfield 11, 3) := by decide +kernel
theorem dX7_speak_147 : decode cX7_speak 147 = .ok (.iload 6, 2) := by decide +kernel
theorem dX7_speak_149 : decode cX7_speak 149 = .ok (.bipush 6, 2) := by decide +kernel
theorem dX7_speak_15 : decode cX7_speak 15 = .ok (.ireturn, 1) := by decide +kernel
theorem dX7_speak_151 : decode cX7_speak 151 = .ok (.idiv, 1) := by decide +kernel
theorem dX7_speak_152 : decode cX7_speak 152 = .ok (.aaload, 1) := by decide +kernel
theorem dX7_speak_153 : decode cX7_speak 153 = .ok (.iload 6, 2) := by decide +kernel
theorem dX7_speak_155 : decode cX7_speak 155 = .ok (.bipush 6, 2) := by decide +kernel
theorem dX7_speak_157 : decode cX7_speak 157 = .ok (.irem, 1) := by decide +kernel
theorem dX7_speak_158 : decode cX7_speak 158 = .ok (.aload_n 1, 1) := by decide +kernel
theorem dX7_speak_159 : decode cX7_speak 159 = .ok (.getfield 92, 3) := by decide +kernel
theorem dX7_speak_16 : decode cX7_speak 16 = .ok (.aload_n 2, 1) := by decide +kernel
theorem dX7_speak_162 : decode cX7_speak 162 = .ok (.aload_n 0, 1) := by decide +kernel
theorem dX7_speak_163 : decode cX7_speak 163 = .ok (.getfield 23, 3) := by decide +kernel
theorem dX7_speak_166 : decode cX7_speak 166 = .ok (.getfield 130, 3) := by decide +kernel
theorem dX7_speak_169 : decode cX7_speak 169 = .ok (.iload 5, 2) := by decide +kernel
theorem dX7_speak_17 : decode cX7_speak 17 = .ok (.bipush 6, 2) := by decide +kernel
theorem dX7_speak_171 : decode cX7_speak 171 = .ok (.invokevirtual 332, 3) := by decide +kernel
theorem dX7_speak_174 : decode cX7_speak 174 = .ok (.pop, 1) := by decide +kernel
theorem dX7_speak_175 : decode cX7_speak 175 = .ok (.iconst 0, 1) := by decide +kernel
theorem dX7_speak_176 : decode cX7_speak 176 = .ok (.ireturn, 1) := by decide +kernel
theorem dX7_speak_19 : decode cX7_speak 19 = .ok (.iaload, 1) := by decide +kernel
theorem dX7_speak_20 : decode cX7_speak 20 = .ok (.istore 4, 2) := by decide +kernel
theorem dX7_speak_22 : decode cX7_speak 22 = .ok (.aload_n 0, 1) := by decide +kernel
theorem dX7_speak_23 : decode cX7_speak 23 = .ok (.getfield 23, 3) := by decide +kernel
theorem dX7_speak_26 : decode cX7_speak 26 = .ok (.invokevirtual 134, 3) := by decide +kernel
theorem dX7_speak_29 : decode cX7_speak 29 = .ok (.istore 5, 2) := by decide +kernel
theorem dX7_speak_31 : decode cX7_speak 31 = .ok (.iload_n 3, 1) := by decide +kernel
theorem dX7_speak_32 : decode cX7_speak 32 = .ok (.bipush 8, 2) := by decide +kernel
theorem dX7_speak_34 : decode cX7_speak 34 = .ok (.if_icmp .ne 28, 3) := by decide +kernel
theorem dX7_speak_37 : decode cX7_speak 37 = .ok (.aload_n 0, 1) := by decide +kernel
theorem dX7_speak_38 : decode cX7_speak 38 = .ok (.getfield 15, 3) := by decide +kernel
theorem dX7_speak_4 : decode cX7_speak 4 = .ok (.invokevirtual 302, 3) := by decide +kernel
theorem dX7_speak_41 : decode cX7_speak 41 = .ok (.iconst 5, 1) := by decide +kernel
theorem dX7_speak_42 : decode cX7_speak 42 = .ok (.aload_n 1, 1) := by decide +kernel
theorem dX7_speak_43 : decode cX7_speak 43 = .ok (.getfield 92, 3) := by decide +kernel
theorem dX7_speak_46 : decode cX7_speak 46 = .ok (.iconst 0, 1) := by decide +kernel
theorem dX7_speak_47 : decode cX7_speak 47 = .ok (.aload_n 0, 1) := by decide +kernel
theorem dX7_speak_48 : decode cX7_speak 48 = .ok (.getfield 23, 3) := by decide +kernel
theorem dX7_speak_51 : decode cX7_speak 51 = .ok (.getfield 130, 3) := by decide +kernel
theorem dX7_speak_54 : decode cX7_speak 54 = .ok (.iload 5, 2) := by decide +kernel
theorem dX7_speak_56 : decode cX7_speak 56 = .ok (.invokevirtual 322, 3) := by decide +kernel
theorem dX7_speak_59 : decode cX7_speak 59 = .ok (.goto 116, 3) := by decide +kernel
theorem dX7_speak_62 : decode cX7_speak 62 = .ok (.aload_n 1, 1) := by decide +kernel
theorem dX7_speak_63 : decode cX7_speak 63 = .ok (.getfield 326, 3) := by decide +kernel
theorem dX7_speak_66 : decode cX7_speak 66 = .ok (.iload 4, 2) := by decide +kernel
theorem dX7_speak_68 : decode cX7_speak 68 = .ok (.iaload, 1) := by decide +kernel
theorem dX7_speak_69 : decode cX7_speak 69 = .ok (.ifCond .ge 41, 3) := by decide +kernel
theorem dX7_speak_7 : decode cX7_speak 7 = .ok (.invokestatic 306, 3) := by decide +kernel
theorem dX7_speak_72 : decode cX7_speak 72 = .ok (.aload_n 0, 1) := by decide +kernel
theorem dX7_speak_73 : decode cX7_speak 73 = .ok (.getfield 15, 3) := by decide +kernel
theorem dX7_speak_76 : decode cX7_speak 76 = .ok (.iconst 0, 1) := by decide +kernel
theorem dX7_speak_77 : decode cX7_speak 77 = .ok (.aload_n 1, 1) := by decide +kernel
theorem dX7_speak_78 : decode cX7_speak 78 = .ok (.getfield 92, 3) := by decide +kernel
theorem dX7_speak_81 : decode cX7_speak 81 = .ok (.iconst 0, 1) := by decide +kernel
theorem dX7_speak_82 : decode cX7_speak 82 = .ok (.aload_n 0, 1) := by decide +kernel
theorem dX7_speak_83 : decode cX7_speak 83 = .ok (.getfield 23, 3) := by decide +kernel
theorem dX7_speak_86 : decode cX7_speak 86 = .ok (.getfield 130, 3) := by decide +kernel
theorem dX7_speak_89 : decode cX7_speak 89 = .ok (.iload 5, 2) := by decide +kernel
theorem dX7_speak_91 : decode cX7_speak 91 = .ok (.invokevirtual 322, 3) := by decide +kernel
theorem dX7_speak_94 : decode cX7_speak 94 = .ok (.aload_n 0, 1) := by decide +kernel
theorem dX7_speak_95 : decode cX7_speak 95 = .ok (.getfield 15, 3) := by decide +kernel
theorem dX7_speak_98 : decode cX7_speak 98 = .ok (.dup, 1) := by decide +kernel
theorem dX7_speak_99 : decode cX7_speak 99 = .ok (.getfield 329, 3) := by decide +kernel
noncomputable def f_X7_speak (x1 : Nat) (x2 : Nat) (x3 : Int32) (s : t_S) : Option (Int32 × t_S) :=
 (f_X0_top s).bind (fun r1 =>
 if (f_X8_kind r1 s) = (4 : Int32) then (some ((1 : Int32), s))
 else (if t_oka x2 1 (t_ln x2) = true then
  if t_ix (6 : Int32) (t_ln x2) = true then
  (f_X0_topAt s).bind (fun r5 =>
 if x3 = (8 : Int32) then (if t_isP x1 = true then
  (f_X8_noteValue (5 : Int32) (s.1 x1 0) (0 : Int32) 338 r5 s).bind (fun r13 =>
 some ((0 : Int32), r13))
else none)
 else (if t_isP x1 = true then
  if t_ix (s.1 x2 ((6 : Int32).toNatClampNeg)) 6 = true then
  if (0 : Int32) ≤ (s.1 (x1 + 5) ((s.1 x2 ((6 : Int32).toNatClampNeg)).toNatClampNeg)) then ((f_X8_noteValue (1 : Int32) (s.1 x1 0) (s.1 x2 ((6 : Int32).toNatClampNeg)) 338 r5 s).bind (fun r8 =>
 if t_ix ((r8.1 (x1 + 5) ((s.1 x2 ((6 : Int32).toNatClampNeg)).toNatClampNeg)) / (6 : Int32)) 8 = true then
  (f_X7_arrive (866 + 10 * (((r8.1 (x1 + 5) ((s.1 x2 ((6 : Int32).toNatClampNeg)).toNatClampNeg)) / (6 : Int32)).toNatClampNeg)) ((r8.1 (x1 + 5) ((s.1 x2 ((6 : Int32).toNatClampNeg)).toNatClampNeg)) - (r8.1 (x1 + 5) ((s.1 x2 ((6 : Int32).toNatClampNeg)).toNatClampNeg)) / (6 : Int32) * (6 : Int32)) (r8.1 x1 0) 338 r5 r8).bind (fun r10 =>
 some ((0 : Int32), r10.2))
else none))
 else ((f_X8_noteValue (0 : Int32) (s.1 x1 0) (0 : Int32) 338 r5 s).bind (fun r11 =>
 t_let (t_setI r11 12 5 ((r11.1 12 5) + (1 : Int32))) (fun s1 =>
 some ((0 : Int32), s1))))
else none
else none))
else none
else none))
set_option maxRecDepth 4000 in
set_option maxHeartbeats 1000000 in
theorem C_X7_speak (x1 : Nat) (x2 : Nat) (x3 : Int32) (s : t_S) (r : Int32 × t_S) (hr : f_X7_speak x1 x2 x3 s = some r) : t_C yX7_speak cX7_speak 7 (some .int) 4 [.ref 864, .ref x1, .ref x2, .int x3] s (fun v s' => v = some (.int r.1) ∧ s' = r.2) := by
  refine t_C.imp (P := fun v s' => ∃ x, v = some (.int x) ∧ (fun q => q = r) ((x, s'))) (t_C.of (by decide +kernel) (Nat.le_of_ble_eq_true rfl) ?_) (fun v s' hp => by obtain ⟨x, rfl, rfl⟩ := hp; exact ⟨rfl, rfl⟩)
  intro D cy ad bs X
  have hk : t_hk (f_X7_speak x1 x2 x3 s) (fun q => q = r) := ⟨r, hr, rfl⟩
  show mj_G D cy ad bs X cX7_speak 7 yX7_speak.cls (some .int) yX7_speak.name 4 0 0 1065 (t_P (fun v s' => ∃ x, v = some (.int x) ∧ (fun q => q = r) ((x, s')))) 0 [(0, .ref 864), (1, .ref x1), (2, .ref x2), (3, .int x3)] [] (t_m s) 1065 0 0
  refine mj_aload_n dX7_speak_0 0 rfl ?_
  refine t_getR 334 dX7_speak_1 F_X7_23 qr_864_2 ?_
  refine t_bndK hk (fun r1 er1 hk => ?_)
  refine t_callVlP dX7_speak_4 M_X0_top (C_X0_top _ _ er1) ML_X7_302 IM_X0_top SE_X0_top qc_334 rfl (As := []) rfl rfl (Nat.le_of_ble_eq_true rfl) (Nat.le_of_ble_eq_true rfl) (Nat.le_of_ble_eq_true rfl) (Nat.le_of_ble_eq_true rfl) ?_
  refine t_callSiP dX7_speak_7 M_X8_kind (C_X8_kind _ _) ML_X7_306 SM_X8_kind (As := [.long r1]) rfl rfl (Nat.le_of_ble_eq_true rfl) (Nat.le_of_ble_eq_true rfl) (Nat.le_of_ble_eq_true rfl) (Nat.le_of_ble_eq_true rfl) ?_
  refine mj_iconst (v := 4) dX7_speak_10 (by decide) ?_
  refine mj_icmp_ne 16 dX7_speak_11 (by decide) (fun z => t_negK hk z (fun hk => ?_)) (fun z => t_posK hk z (fun hk => ?_))
  · refine mj_aload_n dX7_speak_16 2 rfl ?_
    refine mj_bipush (v := 6) dX7_speak_17 (by decide) ?_
    refine t_chkK hk (fun c2 hk => ?_)
    refine t_chkK hk (fun c3 hk => ?_)
    refine t_iald dX7_speak_19 c2 (t_ixv c3) ?_
    refine mj_istore (lv2 := [(4, .int (s.1 x2 ((6 : Int32).toNatClampNeg))), (0, .ref 864), (1, .ref x1), (2, .ref x2), (3, .int x3)]) dX7_speak_20 (by decide) rfl ?_
    refine mj_aload_n dX7_speak_22 1 rfl ?_
    refine t_getR 334 dX7_speak_23 F_X7_23 qr_864_2 ?_
    refine t_bndK hk (fun r5 er5 hk => ?_)
    refine t_callViP dX7_speak_26 M_X0_topAt (C_X0_topAt _ _ er5) ML_X7_134 IM_X0_topAt SE_X0_topAt qc_334 rfl (As := []) rfl rfl (Nat.le_of_ble_eq_true rfl) (Nat.le_of_ble_eq_true rfl) (Nat.le_of_ble_eq_true rfl) (Nat.le_of_ble_eq_true rfl) ?_
    refine mj_istore (lv2 := [(5, .int r5), (4, .int (s.1 x2 ((6 : Int32).toNatClampNeg))), (0, .ref 864), (1, .ref x1), (2, .ref x2), (3, .int x3)]) dX7_speak_29 (by decide) rfl ?_
    refine mj_iload_n dX7_speak_31 5 rfl ?_
    refine mj_bipush (v := 8) dX7_speak_32 (by decide) ?_
    refine mj_icmp_ne 62 dX7_speak_34 (by decide) (fun z => t_negK hk z (fun hk => ?_)) (fun z => t_posK hk z (fun hk => ?_))
    · refine mj_aload_n dX7_speak_62 3 rfl ?_
      refine t_chkK hk (fun c5 hk => ?_)
      refine t_getR (x1 + 5) dX7_speak_63 F_X7_326 (t_pr12 c5) ?_
      refine mj_iload dX7_speak_66 1 rfl ?_
      refine t_chkK hk (fun c6 hk => ?_)
      refine t_iald dX7_speak_68 (t_pa12 c5) (t_ixv c6) ?_
      refine mj_if_ge 110 dX7_speak_69 (by decide) (fun z => t_posK hk z (fun hk => ?_)) (fun z => t_negK hk z (fun hk => ?_))
      · refine mj_aload_n dX7_speak_110 2 rfl ?_
        refine t_getR 12 dX7_speak_111 F_X7_15 qr_864_0 ?_
        refine mj_iconst (v := 1) dX7_speak_114 (by decide) ?_
        refine mj_aload_n dX7_speak_115 3 rfl ?_
        refine t_getI dX7_speak_116 F_X7_92 (t_pf0 c5) ?_
        refine mj_iload dX7_speak_119 1 rfl ?_
        refine mj_aload_n dX7_speak_121 2 rfl ?_
        refine t_getR 334 dX7_speak_122 F_X7_23 qr_864_2 ?_
        refine t_getR 338 dX7_speak_125 F_X7_130 qr_334_5 ?_
        refine mj_iload dX7_speak_128 0 rfl ?_
        refine t_bndK hk (fun r8 er8 hk => ?_)
        refine t_callVvE dX7_speak_130 M_X8_noteValue (C_X8_noteValue _ _ _ _ _ _ _ er8) ML_X7_322 IM_X8_noteValue SE_X8_noteValue qc_12 rfl (As := [.int 1, .int (s.1 x1 0), .int (s.1 x2 ((6 : Int32).toNatClampNeg)), .ref 338, .int r5]) rfl rfl (Nat.le_of_ble_eq_true rfl) (Nat.le_of_ble_eq_true rfl) (Nat.le_of_ble_eq_true rfl) (Nat.le_of_ble_eq_true rfl) ?_
        refine mj_aload_n dX7_speak_133 3 rfl ?_
        refine t_getR (x1 + 5) dX7_speak_134 F_X7_326 (t_pr12 c5) ?_
        refine mj_iload dX7_speak_137 1 rfl ?_
        refine t_iald dX7_speak_139 (t_pa12 c5) (t_ixv c6) ?_
        refine mj_istore (lv2 := [(6, .int (r8.1 (x1 + 5) ((s.1 x2 ((6 : Int32).toNatClampNeg)).toNatClampNeg))), (5, .int r5), (4, .int (s.1 x2 ((6 : Int32).toNatClampNeg))), (0, .ref 864), (1, .ref x1), (2, .ref x2), (3, .int x3)]) dX7_speak_140 (by decide) rfl ?_
        refine mj_aload_n dX7_speak_142 3 rfl ?_
        refine mj_aload_n dX7_speak_143 3 rfl ?_
        refine t_getR 865 dX7_speak_144 F_X7_11 qr_864_5 ?_
        refine mj_iload dX7_speak_147 0 rfl ?_
        refine mj_bipush (v := 6) dX7_speak_149 (by decide) ?_
        refine mj_idiv dX7_speak_151 (by decide) ?_
        refine t_chkK hk (fun c8 hk => ?_)
        refine t_aaldP dX7_speak_152 qq_865 (t_ixv c8) ?_
        refine mj_iload dX7_speak_153 0 rfl ?_
        refine mj_bipush (v := 6) dX7_speak_155 (by decide) ?_
        refine mj_irem dX7_speak_157 (by decide) ?_
        refine mj_aload_n dX7_speak_158 4 rfl ?_
        refine t_getI dX7_speak_159 F_X7_92 (t_pf0 c5) ?_
        refine mj_aload_n dX7_speak_162 3 rfl ?_
        refine t_getR 334 dX7_speak_163 F_X7_23 qr_864_2 ?_
        refine t_getR 338 dX7_speak_166 F_X7_130 qr_334_5 ?_
        refine mj_iload dX7_speak_169 1 rfl ?_
        refine t_bndK hk (fun r10 er10 hk => ?_)
        refine t_callViE dX7_speak_171 M_X7_arrive (C_X7_arrive _ _ _ _ _ _ _ er10) ML_X7_332 IM_X7_arrive SE_X7_arrive qc_864 rfl (As := [.ref (866 + 10 * (((r8.1 (x1 + 5) ((s.1 x2 ((6 : Int32).toNatClampNeg)).toNatClampNeg)) / (6 : Int32)).toNatClampNeg)), .int ((r8.1 (x1 + 5) ((s.1 x2 ((6 : Int32).toNatClampNeg)).toNatClampNeg)) - (r8.1 (x1 + 5) ((s.1 x2 ((6 : Int32).toNatClampNeg)).toNatClampNeg)) / (6 : Int32) * (6 : Int32)), .int (r8.1 x1 0), .ref 338, .int r5]) rfl rfl (Nat.le_of_ble_eq_true rfl) (Nat.le_of_ble_eq_true rfl) (Nat.le_of_ble_eq_true rfl) (Nat.le_of_ble_eq_true rfl) ?_
        refine mj_pop dX7_speak_174 rfl ?_
        refine mj_iconst (v := 0) dX7_speak_175 (by decide) ?_
        exact t_somK hk (fun hf => t_iret dX7_speak_176 rfl rfl ⟨_, rfl, hf⟩ (Nat.le_of_ble_eq_true rfl) (Nat.le_of_ble_eq_true rfl))
      · refine mj_aload_n dX7_speak_72 2 rfl ?_
        refine t_getR 12 dX7_speak_73 F_X7_15 qr_864_0 ?_
        refine mj_iconst (v := 0) dX7_speak_76 (by decide) ?_
        refine mj_aload_n dX7_speak_77 3 rfl ?_
        refine t_getI dX7_speak_78 F_X7_92 (t_pf0 c5) ?_
        refine mj_iconst (v := 0) dX7_speak_81 (by decide) ?_
        refine mj_aload_n dX7_speak_82 2 rfl ?_
        refine t_getR 334 dX7_speak_83 F_X7_23 qr_864_2 ?_
        refine t_getR 338 dX7_speak_86 F_X7_130 qr_334_5 ?_
        refine mj_iload dX7_speak_89 0 rfl ?_
        refine t_bndK hk (fun r11 er11 hk => ?_)
        refine t_callVvE dX7_speak_91 M_X8_noteValue (C_X8_noteValue _ _ _ _ _ _ _ er11) ML_X7_322 IM_X8_noteValue SE_X8_noteValue qc_12 rfl (As := [.int 0, .int (s.1 x1 0), .int 0, .ref 338, .int r5]) rfl rfl (Nat.le_of_ble_eq_true rfl) (Nat.le_of_ble_eq_true rfl) (Nat.le_of_ble_eq_true rfl) (Nat.le_of_ble_eq_true rfl) ?_
        refine mj_aload_n dX7_speak_94 2 rfl ?_
        refine t_getR 12 dX7_speak_95 F_X7_15 qr_864_0 ?_
        refine mj_dup dX7_speak_98 rfl ?_
        refine t_getI dX7_speak_99 F_X7_329 qf_12_5 ?_
        refine mj_iconst (v := 1) dX7_speak_102 (by decide) ?_
        refine mj_iadd dX7_speak_103 ?_
        refine t_putIK dX7_speak_104 F_X7_329 qf_12_5 rfl (fun s1 ws1 => t_letE hk ws1 (fun hk => ?_))
        refine mj_goto 175 dX7_speak_107 (by decide) ?_
        refine mj_iconst (v := 0) dX7_speak_175 (by decide) ?_
        exact t_somK hk (fun hf => t_iret dX7_speak_176 rfl rfl ⟨_, rfl, hf⟩ (Nat.le_of_ble_eq_true rfl) (Nat.le_of_ble_eq_true rfl))
    · refine mj_aload_n dX7_speak_37 2 rfl ?_
      refine t_getR 12 dX7_speak_38 F_X7_15 qr_864_0 ?_
      refine mj_iconst (v := 5) dX7_speak_41 (by decide) ?_
      refine mj_aload_n dX7_speak_42 3 rfl ?_
      refine t_chkK hk (fun c11 hk => ?_)
      refine t_getI dX7_speak_43 F_X7_92 (t_pf0 c11) ?_
      refine mj_iconst (v := 0) dX7_speak_46 (by decide) ?_
      refine mj_aload_n dX7_speak_47 2 rfl ?_
      refine t_getR 334 dX7_speak_48 F_X7_23 qr_864_2 ?_
      refine t_getR 338 dX7_speak_51 F_X7_130 qr_334_5 ?_
      refine mj_iload dX7_speak_54 0 rfl ?_
      refine t_bndK hk (fun r13 er13 hk => ?_)
      refine t_callVvE dX7_speak_56 M_X8_noteValue (C_X8_noteValue _ _ _ _ _ _ _ er13) ML_X7_322 IM_X8_noteValue SE_X8_noteValue qc_12 rfl (As := [.int 5, .int (s.1 x1 0), .int 0, .ref 338, .int r5]) rfl rfl (Nat.le_of_ble_eq_true rfl) (Nat.le_of_ble_eq_true rfl) (Nat.le_of_ble_eq_true rfl) (Nat.le_of_ble_eq_true rfl) ?_
      refine mj_goto 175 dX7_speak_59 (by decide) ?_
      refine mj_iconst (v := 0) dX7_speak_175 (by decide) ?_
      exact t_somK hk (fun hf => t_iret dX7_speak_176 rfl rfl ⟨_, rfl, hf⟩ (Nat.le_of_ble_eq_true rfl) (Nat.le_of_ble_eq_true rfl))
  · refine mj_iconst (v := 1) dX7_speak_14 (by decide) ?_
    exact t_somK hk (fun hf => t_iret dX7_speak_15 rfl rfl ⟨_, rfl, hf⟩ (Nat.le_of_ble_eq_true rfl) (Nat.le_of_ble_eq_true rfl))

theorem dX7_start_0 : decode cX7_start 0 = .ok (.aload_n 0, 1) := by decide +kernel
theorem dX7_start_1 : decode cX7_start 1 = .ok (.iconst 0, 1) := by decide +kernel
theorem dX7_start_10 : decode cX7_start 10 = .ok (.istore 4, 2) := by decide +kernel
theorem dX7_start_12 : decode cX7_start 12 = .ok (.aload_n 3, 1) := by decide +kernel
theorem dX7_start_13 : decode cX7_start 13 = .ok (.ifnonnull 5, 3) := by decide +kernel
theorem dX7_start_16 : decode cX7_start 16 = .ok (.iconst 1, 1) := by decide +kernel
theorem dX7_start_17 : decode cX7_start 17 = .ok (.ireturn, 1) := by decide +kernel
theorem dX7_start_18 : decode cX7_start 18 = .ok (.aload_n 3, 1) := by decide +kernel
theorem dX7_start_19 : decode cX7_start 19 = .ok (.getfield 82, 3) := by decide +kernel
theorem dX7_start_2 : decode cX7_start 2 = .ok (.invokevirtual 342, 3) := by decide +kernel
theorem dX7_start_22 : decode cX7_start 22 = .ok (.ifCond .ne 20, 3) := by decide +kernel
theorem dX7_start_25 : decode cX7_start 25 = .ok (.aload_n 0, 1) := by decide +kernel
theorem dX7_start_26 : decode cX7_start 26 = .ok (.getfield 31, 3) := by decide +kernel
theorem dX7_start_29 : decode cX7_start 29 = .ok (.getfield 58, 3) := by decide +kernel
theorem dX7_start_32 : decode cX7_start 32 = .ok (.iload 4, 2) := by decide +kernel
theorem dX7_start_34 : decode cX7_start 34 = .ok (.iaload, 1) := by decide +kernel
theorem dX7_start_35 : decode cX7_start 35 = .ok (.aload_n 3, 1) := by decide +kernel
theorem dX7_start_36 : decode cX7_start 36 = .ok (.getfield 113, 3) := by decide +kernel
theorem dX7_start_39 : decode cX7_start 39 = .ok (.if_icmp .eq 6, 3) := by decide +kernel
theorem dX7_start_42 : decode cX7_start 42 = .ok (.bipush 6, 2) := by decide +kernel
theorem dX7_start_44 : decode cX7_start 44 = .ok (.ireturn, 1) := by decide +kernel
theorem dX7_start_45 : decode cX7_start 45 = .ok (.aload_n 0, 1) := by decide +kernel
theorem dX7_start_46 : decode cX7_start 46 = .ok (.aload_n 3, 1) := by decide +kernel
theorem dX7_start_47 : decode cX7_start 47 = .ok (.iconst 0, 1) := by decide +kernel
theorem dX7_start_48 : decode cX7_start 48 = .ok (.invokevirtual 346, 3) := by decide +kernel
theorem dX7_start_5 : decode cX7_start 5 = .ok (.astore_n 3, 1) := by decide +kernel
theorem dX7_start_51 : decode cX7_start 51 = .ok (.iconst 1, 1) := by decide +kernel
theorem dX7_start_52 : decode cX7_start 52 = .ok (.invokevirtual 319, 3) := by decide +kernel
theorem dX7_start_55 : decode cX7_start 55 = .ok (.aload_n 0, 1) := by decide +kernel
theorem dX7_start_56 : decode cX7_start 56 = .ok (.aload_n 3, 1) := by decide +kernel
theorem dX7_start_57 : decode cX7_start 57 = .ok (.iload 4, 2) := by decide +kernel
theorem dX7_start_59 : decode cX7_start 59 = .ok (.invokevirtual 79, 3) := by decide +kernel
theorem dX7_start_6 : decode cX7_start 6 = .ok (.aload_n 2, 1) := by decide +kernel
theorem dX7_start_62 : decode cX7_start 62 = .ok (.iconst 0, 1) := by decide +kernel
theorem dX7_start_63 : decode cX7_start 63 = .ok (.ireturn, 1) := by decide +kernel
theorem dX7_start_7 : decode cX7_start 7 = .ok (.bipush 6, 2) := by decide +kernel
theorem dX7_start_9 : decode cX7_start 9 = .ok (.iaload, 1) := by decide +kernel
noncomputable def f_X7_start (x1 : Nat) (x2 : Nat) (s : t_S) : Option (Int32 × t_S) :=
 (f_X7_partAt (0 : Int32) s).bind (fun r1 =>
 if t_oka x2 1 (t_ln x2) = true then
  if t_ix (6 : Int32) (t_ln x2) = true then
  if r1 = 0 then (some ((1 : Int32), s))
 else (if t_isP r1 = true then
  if (s.1 r1 2) = (0 : Int32) then (if t_ix (s.1 x2 ((6 : Int32).toNatClampNeg)) 40 = true then
  if (s.1 438 ((s.1 x2 ((6 : Int32).toNatClampNeg)).toNatClampNeg)) = (s.1 r1 1) then ((f_X4_frameSlot r1 (0 : Int32) s).bind (fun r6 =>
 (f_X7_putArguments r6 (1 : Int32) s).bind (fun r7 =>
 (f_X7_launch r1 (s.1 x2 ((6 : Int32).toNatClampNeg)) r7).bind (fun r8 =>
 some ((0 : Int32), r8)))))
 else (some ((6 : Int32), s))
else none)
 else (some ((6 : Int32), s))
else none)
else none
else none)
set_option maxRecDepth 4000 in
set_option maxHeartbeats 1000000 in
theorem C_X7_start (x1 : Nat) (x2 : Nat) (s : t_S) (r : Int32 × t_S) (hr : f_X7_start x1 x2 s = some r) : t_C yX7_start cX7_start 5 (some .int) 3 [.ref 864, .ref x1, .ref x2] s (fun v s' => v = some (.int r.1) ∧ s' = r.2) := by
  refine t_C.imp (P := fun v s' => ∃ x, v = some (.int x) ∧ (fun q => q = r) ((x, s'))) (t_C.of (by decide +kernel) (Nat.le_of_ble_eq_true rfl) ?_) (fun v s' hp => by obtain ⟨x, rfl, rfl⟩ := hp; exact ⟨rfl, rfl⟩)
  intro D cy ad bs X
  have hk : t_hk (f_X7_start x1 x2 s) (fun q => q = r) := ⟨r, hr, rfl⟩
  show mj_G D cy ad bs X cX7_start 5 yX7_start.cls (some .int) yX7_start.name 3 0 0 1065 (t_P (fun v s' => ∃ x, v = some (.int x) ∧ (fun q => q = r) ((x, s')))) 0 [(0, .ref 864), (1, .ref x1), (2, .ref x2)] [] (t_m s) 1065 0 0
  refine mj_aload_n dX7_start_0 0 rfl ?_
  refine mj_iconst (v := 0) dX7_start_1 (by decide) ?_
  refine t_bndK hk (fun r1 er1 hk => ?_)
  refine t_callVaP dX7_start_2 M_X7_partAt (C_X7_partAt _ _ _ er1) ML_X7_342 IM_X7_partAt SE_X7_partAt qc_864 rfl (As := [.int 0]) rfl rfl (Nat.le_of_ble_eq_true rfl) (Nat.le_of_ble_eq_true rfl) (Nat.le_of_ble_eq_true rfl) (Nat.le_of_ble_eq_true rfl) ?_
  refine t_pvStn 3 (lv2 := [(3, t_pv r1), (0, .ref 864), (1, .ref x1), (2, .ref x2)]) dX7_start_5 rfl (by decide) rfl ?_
  refine mj_aload_n dX7_start_6 3 rfl ?_
  refine mj_bipush (v := 6) dX7_start_7 (by decide) ?_
  refine t_chkK hk (fun c1 hk => ?_)
  refine t_chkK hk (fun c2 hk => ?_)
  refine t_iald dX7_start_9 c1 (t_ixv c2) ?_
  refine mj_istore (lv2 := [(4, .int (s.1 x2 ((6 : Int32).toNatClampNeg))), (3, t_pv r1), (0, .ref 864), (1, .ref x1), (2, .ref x2)]) dX7_start_10 (by decide) (by rcases t_pvC r1 with e | e <;> rw [e] <;> rfl) ?_
  refine t_pvLdn dX7_start_12 1 rfl ?_
  refine mj_nonnull 18 dX7_start_13 (by decide) (fun z => t_negK hk z (fun hk => ?_)) (fun z => t_posK hk z (fun hk => ?_))
  · refine t_pvLdn dX7_start_18 1 rfl ?_
    refine t_chkK hk (fun c3 hk => ?_)
    refine t_pvG c3 ?_
    refine t_getI dX7_start_19 F_X7_82 (t_pf2 c3) ?_
    refine mj_if_ne 42 dX7_start_22 (by decide) (fun z => t_negK hk z (fun hk => ?_)) (fun z => t_posK hk z (fun hk => ?_))
    · refine mj_bipush (v := 6) dX7_start_42 (by decide) ?_
      exact t_somK hk (fun hf => t_iret dX7_start_44 rfl rfl ⟨_, rfl, hf⟩ (Nat.le_of_ble_eq_true rfl) (Nat.le_of_ble_eq_true rfl))
    · refine mj_aload_n dX7_start_25 2 rfl ?_
      refine t_getR 428 dX7_start_26 F_X7_31 qr_864_4 ?_
      refine t_getR 438 dX7_start_29 F_X7_58 qr_428_11 ?_
      refine mj_iload dX7_start_32 0 rfl ?_
      refine t_chkK hk (fun c4 hk => ?_)
      refine t_iald dX7_start_34 qa_438 (t_ixv c4) ?_
      refine t_pvLdn dX7_start_35 1 rfl ?_
      refine t_pvG c3 ?_
      refine t_getI dX7_start_36 F_X7_113 (t_pf1 c3) ?_
      refine mj_icmp_eq 45 dX7_start_39 (by decide) (fun z => t_posK hk z (fun hk => ?_)) (fun z => t_negK hk z (fun hk => ?_))
      · refine mj_aload_n dX7_start_45 2 rfl ?_
        refine t_pvLdn dX7_start_46 1 rfl ?_
        refine t_pvG c3 ?_
        refine mj_iconst (v := 0) dX7_start_47 (by decide) ?_
        refine t_bndK hk (fun r6 er6 hk => ?_)
        refine t_callViP dX7_start_48 M_X4_frameSlot (C_X4_frameSlot _ _ _ _ er6) ML_X7_346 IM_X4_frameSlot SE_X4_frameSlot (t_pc c3) rfl (As := [.int 0]) rfl rfl (Nat.le_of_ble_eq_true rfl) (Nat.le_of_ble_eq_true rfl) (Nat.le_of_ble_eq_true rfl) (Nat.le_of_ble_eq_true rfl) ?_
        refine mj_iconst (v := 1) dX7_start_51 (by decide) ?_
        refine t_bndK hk (fun r7 er7 hk => ?_)
        refine t_callVvE dX7_start_52 M_X7_putArguments (C_X7_putArguments _ _ _ _ er7) ML_X7_319 IM_X7_putArguments SE_X7_putArguments qc_864 rfl (As := [.int r6, .int 1]) rfl rfl (Nat.le_of_ble_eq_true rfl) (Nat.le_of_ble_eq_true rfl) (Nat.le_of_ble_eq_true rfl) (Nat.le_of_ble_eq_true rfl) ?_
        refine mj_aload_n dX7_start_55 2 rfl ?_
        refine t_pvLdn dX7_start_56 1 rfl ?_
        refine t_pvG c3 ?_
        refine mj_iload dX7_start_57 0 rfl ?_
        refine t_bndK hk (fun r8 er8 hk => ?_)
        refine t_callVvE dX7_start_59 M_X7_launch (C_X7_launch _ _ _ _ er8) ML_X7_79 IM_X7_launch SE_X7_launch qc_864 rfl (As := [.ref r1, .int (s.1 x2 ((6 : Int32).toNatClampNeg))]) rfl rfl (Nat.le_of_ble_eq_true rfl) (Nat.le_of_ble_eq_true rfl) (Nat.le_of_ble_eq_true rfl) (Nat.le_of_ble_eq_true rfl) ?_
        refine mj_iconst (v := 0) dX7_start_62 (by decide) ?_
        exact t_somK hk (fun hf => t_iret dX7_start_63 rfl rfl ⟨_, rfl, hf⟩ (Nat.le_of_ble_eq_true rfl) (Nat.le_of_ble_eq_true rfl))
      · refine mj_bipush (v := 6) dX7_start_42 (by decide) ?_
        exact t_somK hk (fun hf => t_iret dX7_start_44 rfl rfl ⟨_, rfl, hf⟩ (Nat.le_of_ble_eq_true rfl) (Nat.le_of_ble_eq_true rfl))
  · refine mj_iconst (v := 1) dX7_start_16 (by decide) ?_
    exact t_somK hk (fun hf => t_iret dX7_start_17 rfl rfl ⟨_, rfl, hf⟩ (Nat.le_of_ble_eq_true rfl) (Nat.le_of_ble_eq_true rfl))

theorem dX7_stop_0 : decode cX7_stop 0 = .ok (.aload_n 2, 1) := by decide +kernel
theorem dX7_stop_1 : decode cX7_stop 1 = .ok (.iconst 5, 1) := by decide +kernel
theorem dX7_stop_10 : decode cX7_stop 10 = .ok (.aload_n 0, 1) := by decide +kernel
theorem dX7_stop_11 : decode cX7_stop 11 = .ok (.iconst 0, 1) := by decide +kernel
theorem dX7_stop_12 : decode cX7_stop 12 = .ok (.invokevirtual 342, 3) := by decide +kernel
theorem dX7_stop_15 : decode cX7_stop 15 = .ok (.astore_n 3, 1) := by decide +kernel
theorem dX7_stop_16 : decode cX7_stop 16 = .ok (.aload_n 3, 1) := by decide +kernel
theorem dX7_stop_17 : decode cX7_stop 17 = .ok (.ifnonnull 5, 3) := by decide +kernel
theorem dX7_stop_2 : decode cX7_stop 2 = .ok (.iaload, 1) := by decide +kernel
theorem dX7_stop_20 : decode cX7_stop 20 = .ok (.iconst 1, 1) := by decide +kernel
theorem dX7_stop_21 : decode cX7_stop 21 = .ok (.ireturn, 1) := by decide +kernel
theorem dX7_stop_22 : decode cX7_stop 22 = .ok (.aload_n 3, 1) := by decide +kernel
theorem dX7_stop_23 : decode cX7_stop 23 = .ok (.getfield 82, 3) := by decide +kernel
theorem dX7_stop_26 : decode cX7_stop 26 = .ok (.iconst 2, 1) := by decide +kernel
theorem dX7_stop_27 : decode cX7_stop 27 = .ok (.if_icmp .eq 8, 3) := by decide +kernel
theorem dX7_stop_3 : decode cX7_stop 3 = .ok (.ifCond .ge 7, 3) := by decide +kernel
theorem dX7_stop_30 : decode cX7_stop 30 = .ok (.aload_n 0, 1) := by decide +kernel
theorem dX7_stop_31 : decode cX7_stop 31 = .ok (.aload_n 3, 1) := by decide +kernel
theorem dX7_stop_32 : decode cX7_stop 32 = .ok (.invokevirtual 95, 3) := by decide +kernel
theorem dX7_stop_35 : decode cX7_stop 35 = .ok (.iconst 0, 1) := by decide +kernel
theorem dX7_stop_36 : decode cX7_stop 36 = .ok (.ireturn, 1) := by decide +kernel
theorem dX7_stop_6 : decode cX7_stop 6 = .ok (.aload_n 1, 1) := by decide +kernel
theorem dX7_stop_7 : decode cX7_stop 7 = .ok (.goto 8, 3) := by decide +kernel
noncomputable def f_X7_stop (x1 : Nat) (x2 : Nat) (s : t_S) : Option (Int32 × t_S) :=
 if t_oka x2 1 (t_ln x2) = true then
  if t_ix (5 : Int32) (t_ln x2) = true then
  if (0 : Int32) ≤ (s.1 x2 ((5 : Int32).toNatClampNeg)) then ((f_X7_partAt (0 : Int32) s).bind (fun r3 =>
 if r3 = 0 then (some ((1 : Int32), s))
 else (if t_isP r3 = true then
  if (s.1 r3 2) = (2 : Int32) then (some ((0 : Int32), s))
 else ((f_X7_finish r3 s).bind (fun r5 =>
 some ((0 : Int32), r5)))
else none)))
 else (if t_isP x1 = true then
  if x1 = 0 then (some ((1 : Int32), s))
 else (if (s.1 x1 2) = (2 : Int32) then (some ((0 : Int32), s))
 else ((f_X7_finish x1 s).bind (fun r7 =>
 some ((0 : Int32), r7))))
else none)
else none
else none
set_option maxRecDepth 4000 in
set_option maxHeartbeats 1000000 in
theorem C_X7_stop (x1 : Nat) (x2 : Nat) (s : t_S) (r : Int32 × t_S) (hr : f_X7_stop x1 x2 s = some r) : t_C yX7_stop cX7_stop 4 (some .int) 2 [.ref 864, .ref x1, .ref x2] s (fun v s' => v = some (.int r.1) ∧ s' = r.2) := by
  refine t_C.imp (P := fun v s' => ∃ x, v = some (.int x) ∧ (fun q => q = r) ((x, s'))) (t_C.of (by decide +kernel) (Nat.le_of_ble_eq_true rfl) ?_) (fun v s' hp => by obtain ⟨x, rfl, rfl⟩ := hp; exact ⟨rfl, rfl⟩)
  intro D cy ad bs X
  have hk : t_hk (f_X7_stop x1 x2 s) (fun q => q = r) := ⟨r, hr, rfl⟩
  show mj_G D cy ad bs X cX7_stop 4 yX7_stop.cls (some .int) yX7_stop.name 2 0 0 1065 (t_P (fun v s' => ∃ x, v = some (.int x) ∧ (fun q => q = r) ((x, s')))) 0 [(0, .ref 864), (1, .ref x1), (2, .ref x2)] [] (t_m s) 1065 0 0
  refine mj_aload_n dX7_stop_0 2 rfl ?_
  refine mj_iconst (v := 5) dX7_stop_1 (by decide) ?_
  refine t_chkK hk (fun c0 hk => ?_)
  refine t_chkK hk (fun c1 hk => ?_)
  refine t_iald dX7_stop_2 c0 (t_ixv c1) ?_
  refine mj_if_ge 10 dX7_stop_3 (by decide) (fun z => t_posK hk z (fun hk => ?_)) (fun z => t_negK hk z (fun hk => ?_))
  · refine mj_aload_n dX7_stop_10 0 rfl ?_
    refine mj_iconst (v := 0) dX7_stop_11 (by decide) ?_
    refine t_bndK hk (fun r3 er3 hk => ?_)
    refine t_callVaP dX7_stop_12 M_X7_partAt (C_X7_partAt _ _ _ er3) ML_X7_342 IM_X7_partAt SE_X7_partAt qc_864 rfl (As := [.int 0]) rfl rfl (Nat.le_of_ble_eq_true rfl) (Nat.le_of_ble_eq_true rfl) (Nat.le_of_ble_eq_true rfl) (Nat.le_of_ble_eq_true rfl) ?_
    refine t_pvStn 3 (lv2 := [(3, t_pv r3), (0, .ref 864), (1, .ref x1), (2, .ref x2)]) dX7_stop_15 rfl (by decide) rfl ?_
    refine t_pvLdn dX7_stop_16 0 rfl ?_
    refine mj_nonnull 22 dX7_stop_17 (by decide) (fun z => t_negK hk z (fun hk => ?_)) (fun z => t_posK hk z (fun hk => ?_))
    · refine t_pvLdn dX7_stop_22 0 rfl ?_
      refine t_chkK hk (fun c3 hk => ?_)
      refine t_pvG c3 ?_
      refine t_getI dX7_stop_23 F_X7_82 (t_pf2 c3) ?_
      refine mj_iconst (v := 2) dX7_stop_26 (by decide) ?_
      refine mj_icmp_eq 35 dX7_stop_27 (by decide) (fun z => t_posK hk z (fun hk => ?_)) (fun z => t_negK hk z (fun hk => ?_))
      · refine mj_iconst (v := 0) dX7_stop_35 (by decide) ?_
        exact t_somK hk (fun hf => t_iret dX7_stop_36 rfl rfl ⟨_, rfl, hf⟩ (Nat.le_of_ble_eq_true rfl) (Nat.le_of_ble_eq_true rfl))
      · refine mj_aload_n dX7_stop_30 1 rfl ?_
        refine t_pvLdn dX7_stop_31 0 rfl ?_
        refine t_pvG c3 ?_
        refine t_bndK hk (fun r5 er5 hk => ?_)
        refine t_callVvE dX7_stop_32 M_X7_finish (C_X7_finish _ _ _ er5) ML_X7_95 IM_X7_finish SE_X7_finish qc_864 rfl (As := [.ref r3]) rfl rfl (Nat.le_of_ble_eq_true rfl) (Nat.le_of_ble_eq_true rfl) (Nat.le_of_ble_eq_true rfl) (Nat.le_of_ble_eq_true rfl) ?_
        refine mj_iconst (v := 0) dX7_stop_35 (by decide) ?_
        exact t_somK hk (fun hf => t_iret dX7_stop_36 rfl rfl ⟨_, rfl, hf⟩ (Nat.le_of_ble_eq_true rfl) (Nat.le_of_ble_eq_true rfl))
    · refine mj_iconst (v := 1) dX7_stop_20 (by decide) ?_
      exact t_somK hk (fun hf => t_iret dX7_stop_21 rfl rfl ⟨_, rfl, hf⟩ (Nat.le_of_ble_eq_true rfl) (Nat.le_of_ble_eq_true rfl))
  · refine mj_aload_n dX7_stop_6 1 rfl ?_
    refine mj_goto 15 dX7_stop_7 (by decide) ?_
    refine mj_astore_n 3 (lv2 := [(3, .ref x1), (0, .ref 864), (1, .ref x1), (2, .ref x2)]) dX7_stop_15 rfl (by decide) rfl ?_
    refine mj_aload_n dX7_stop_16 0 rfl ?_
    refine t_chkK hk (fun c5 hk => ?_)
    refine t_pvB (t_pvn c5) ?_
    refine mj_nonnull 22 dX7_stop_17 (by decide) (fun z => t_negK hk z (fun hk => ?_)) (fun z => t_posK hk z (fun hk => ?_))
    · refine mj_aload_n dX7_stop_22 0 rfl ?_
      refine t_getI dX7_stop_23 F_X7_82 (t_pf2 c5) ?_
      refine mj_iconst (v := 2) dX7_stop_26 (by decide) ?_
      refine mj_icmp_eq 35 dX7_stop_27 (by decide) (fun z => t_posK hk z (fun hk => ?_)) (fun z => t_negK hk z (fun hk => ?_))
      · refine mj_iconst (v := 0) dX7_stop_35 (by decide) ?_
        exact t_somK hk (fun hf => t_iret dX7_stop_36 rfl rfl ⟨_, rfl, hf⟩ (Nat.le_of_ble_eq_true rfl) (Nat.le_of_ble_eq_true rfl))
      · refine mj_aload_n dX7_stop_30 1 rfl ?_
        refine mj_aload_n dX7_stop_31 0 rfl ?_
        refine t_bndK hk (fun r7 er7 hk => ?_)
        refine t_callVvE dX7_stop_32 M_X7_finish (C_X7_finish _ _ _ er7) ML_X7_95 IM_X7_finish SE_X7_finish qc_864 rfl (As := [.ref x1]) rfl rfl (Nat.le_of_ble_eq_true rfl) (Nat.le_of_ble_eq_true rfl) (Nat.le_of_ble_eq_true rfl) (Nat.le_of_ble_eq_true rfl) ?_
        refine mj_iconst (v := 0) dX7_stop_35 (by decide) ?_
        exact t_somK hk (fun hf => t_iret dX7_stop_36 rfl rfl ⟨_, rfl, hf⟩ (Nat.le_of_ble_eq_true rfl) (Nat.le_of_ble_eq_true rfl))
    · refine mj_iconst (v := 1) dX7_stop_20 (by decide) ?_
      exact t_somK hk (fun hf => t_iret dX7_stop_21 rfl rfl ⟨_, rfl, hf⟩ (Nat.le_of_ble_eq_true rfl) (Nat.le_of_ble_eq_true rfl))

