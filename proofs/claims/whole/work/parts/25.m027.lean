/-! Methods as functions, 27: X6_readBound, X6_readSpan, X6_readNumber, X6_hasField -/
theorem qr_845_2 : t_okr 845 6 2 353 = true := by decide +kernel
theorem dX6_readBound_0 : decode cX6_readBound 0 = .ok (.aload_n 0, 1) := by decide +kernel
theorem dX6_readBound_1 : decode cX6_readBound 1 = .ok (.getfield 28, 3) := by decide +kernel
theorem dX6_readBound_12 : decode cX6_readBound 12 = .ok (.getfield 85, 3) := by decide +kernel
theorem dX6_readBound_15 : decode cX6_readBound 15 = .ok (.iconst 2, 1) := by decide +kernel
theorem dX6_readBound_16 : decode cX6_readBound 16 = .ok (.if_icmp .eq 14, 3) := by decide +kernel
theorem dX6_readBound_19 : decode cX6_readBound 19 = .ok (.aload_n 0, 1) := by decide +kernel
theorem dX6_readBound_20 : decode cX6_readBound 20 = .ok (.getfield 28, 3) := by decide +kernel
theorem dX6_readBound_23 : decode cX6_readBound 23 = .ok (.iconst 2, 1) := by decide +kernel
theorem dX6_readBound_24 : decode cX6_readBound 24 = .ok (.invokevirtual 100, 3) := by decide +kernel
theorem dX6_readBound_27 : decode cX6_readBound 27 = .ok (.goto 25, 3) := by decide +kernel
theorem dX6_readBound_30 : decode cX6_readBound 30 = .ok (.lload_n 3, 1) := by decide +kernel
theorem dX6_readBound_31 : decode cX6_readBound 31 = .ok (.iload_n 1, 1) := by decide +kernel
theorem dX6_readBound_32 : decode cX6_readBound 32 = .ok (.i2l, 1) := by decide +kernel
theorem dX6_readBound_33 : decode cX6_readBound 33 = .ok (.lcmp, 1) := by decide +kernel
theorem dX6_readBound_34 : decode cX6_readBound 34 = .ok (.ifCond .lt 10, 3) := by decide +kernel
theorem dX6_readBound_37 : decode cX6_readBound 37 = .ok (.lload_n 3, 1) := by decide +kernel
theorem dX6_readBound_38 : decode cX6_readBound 38 = .ok (.iload_n 2, 1) := by decide +kernel
theorem dX6_readBound_39 : decode cX6_readBound 39 = .ok (.i2l, 1) := by decide +kernel
theorem dX6_readBound_4 : decode cX6_readBound 4 = .ok (.getfield 338, 3) := by decide +kernel
theorem dX6_readBound_40 : decode cX6_readBound 40 = .ok (.lcmp, 1) := by decide +kernel
theorem dX6_readBound_41 : decode cX6_readBound 41 = .ok (.ifCond .le 11, 3) := by decide +kernel
theorem dX6_readBound_44 : decode cX6_readBound 44 = .ok (.aload_n 0, 1) := by decide +kernel
theorem dX6_readBound_45 : decode cX6_readBound 45 = .ok (.getfield 28, 3) := by decide +kernel
theorem dX6_readBound_48 : decode cX6_readBound 48 = .ok (.iconst 5, 1) := by decide +kernel
theorem dX6_readBound_49 : decode cX6_readBound 49 = .ok (.invokevirtual 100, 3) := by decide +kernel
theorem dX6_readBound_52 : decode cX6_readBound 52 = .ok (.aload_n 0, 1) := by decide +kernel
theorem dX6_readBound_53 : decode cX6_readBound 53 = .ok (.getfield 28, 3) := by decide +kernel
theorem dX6_readBound_56 : decode cX6_readBound 56 = .ok (.getfield 82, 3) := by decide +kernel
theorem dX6_readBound_59 : decode cX6_readBound 59 = .ok (.ifCond .eq 5, 3) := by decide +kernel
theorem dX6_readBound_62 : decode cX6_readBound 62 = .ok (.iconst 0, 1) := by decide +kernel
theorem dX6_readBound_63 : decode cX6_readBound 63 = .ok (.ireturn, 1) := by decide +kernel
theorem dX6_readBound_64 : decode cX6_readBound 64 = .ok (.aload_n 0, 1) := by decide +kernel
theorem dX6_readBound_65 : decode cX6_readBound 65 = .ok (.getfield 28, 3) := by decide +kernel
theorem dX6_readBound_68 : decode cX6_readBound 68 = .ok (.invokevirtual 170, 3) := by decide +kernel
theorem dX6_readBound_7 : decode cX6_readBound 7 = .ok (.lstore_n 3, 1) := by decide +kernel
theorem dX6_readBound_71 : decode cX6_readBound 71 = .ok (.lload_n 3, 1) := by decide +kernel
theorem dX6_readBound_72 : decode cX6_readBound 72 = .ok (.l2i, 1) := by decide +kernel
theorem dX6_readBound_73 : decode cX6_readBound 73 = .ok (.ireturn, 1) := by decide +kernel
theorem dX6_readBound_8 : decode cX6_readBound 8 = .ok (.aload_n 0, 1) := by decide +kernel
theorem dX6_readBound_9 : decode cX6_readBound 9 = .ok (.getfield 28, 3) := by decide +kernel
noncomputable def k_X6_readBound_52 (l3 : Int64) (s : t_S) : Option (Int32 × t_S) :=
 if (s.1 1 11) = (0 : Int32) then ((f_X2_advance s).bind (fun r1 =>
 some (l3.toInt32, r1)))
 else (some ((0 : Int32), s))
set_option maxRecDepth 4000 in
set_option maxHeartbeats 1000000 in
theorem B_X6_readBound_52 {D : va_G} {cy : Nat → ClassId} {ad : Nat → Nat} {bs : Nat} {X : State → Heap → Prop} (l3 : Int64) (s : t_S) (Q : Int32 × t_S → Prop) (hk : t_hk (k_X6_readBound_52 l3 s) Q) : mj_G D cy ad bs X cX6_readBound 5 yX6_readBound.cls (some .int) yX6_readBound.name 1 0 0 1065 (t_P (fun v s' => ∃ x, v = some (.int x) ∧ Q ((x, s')))) 52 [(0, .ref 845), (3, .long l3)] [] (t_m s) 1065 0 0 := by
  refine mj_aload_n dX6_readBound_52 0 rfl ?_
  refine t_getR 1 dX6_readBound_53 F_X6_28 qr_845_0 ?_
  refine t_getI dX6_readBound_56 F_X6_82 qf_1_11 ?_
  refine mj_if_eq 64 dX6_readBound_59 (by decide) (fun z => t_posK hk z (fun hk => ?_)) (fun z => t_negK hk z (fun hk => ?_))
  · refine mj_aload_n dX6_readBound_64 0 rfl ?_
    refine t_getR 1 dX6_readBound_65 F_X6_28 qr_845_0 ?_
    refine t_bndK hk (fun r1 er1 hk => ?_)
    refine t_callVvE dX6_readBound_68 M_X2_advance (C_X2_advance _ _ er1) ML_X6_170 IM_X2_advance SE_X2_advance qc_1 rfl (As := []) rfl rfl (Nat.le_of_ble_eq_true rfl) (Nat.le_of_ble_eq_true rfl) (Nat.le_of_ble_eq_true rfl) (Nat.le_of_ble_eq_true rfl) ?_
    refine mj_lload_n dX6_readBound_71 1 rfl ?_
    refine mj_l2i (v := l3.toInt32) dX6_readBound_72 rfl ?_
    exact t_somK hk (fun hf => t_iret dX6_readBound_73 rfl rfl ⟨_, rfl, hf⟩ (Nat.le_of_ble_eq_true rfl) (Nat.le_of_ble_eq_true rfl))
  · refine mj_iconst (v := 0) dX6_readBound_62 (by decide) ?_
    exact t_somK hk (fun hf => t_iret dX6_readBound_63 rfl rfl ⟨_, rfl, hf⟩ (Nat.le_of_ble_eq_true rfl) (Nat.le_of_ble_eq_true rfl))
noncomputable def k_X6_readBound_44 (l3 : Int64) (s : t_S) : Option (Int32 × t_S) :=
 (f_X2_fail (5 : Int32) s).bind (fun r1 =>
 k_X6_readBound_52 l3 r1)
set_option maxRecDepth 4000 in
set_option maxHeartbeats 1000000 in
theorem B_X6_readBound_44 {D : va_G} {cy : Nat → ClassId} {ad : Nat → Nat} {bs : Nat} {X : State → Heap → Prop} (l3 : Int64) (s : t_S) (Q : Int32 × t_S → Prop) (hk : t_hk (k_X6_readBound_44 l3 s) Q) : mj_G D cy ad bs X cX6_readBound 5 yX6_readBound.cls (some .int) yX6_readBound.name 1 0 0 1065 (t_P (fun v s' => ∃ x, v = some (.int x) ∧ Q ((x, s')))) 44 [(0, .ref 845), (3, .long l3)] [] (t_m s) 1065 0 0 := by
  refine mj_aload_n dX6_readBound_44 0 rfl ?_
  refine t_getR 1 dX6_readBound_45 F_X6_28 qr_845_0 ?_
  refine mj_iconst (v := 5) dX6_readBound_48 (by decide) ?_
  refine t_bndK hk (fun r1 er1 hk => ?_)
  refine t_callVvE dX6_readBound_49 M_X2_fail (C_X2_fail _ _ _ er1) ML_X6_100 IM_X2_fail SE_X2_fail qc_1 rfl (As := [.int 5]) rfl rfl (Nat.le_of_ble_eq_true rfl) (Nat.le_of_ble_eq_true rfl) (Nat.le_of_ble_eq_true rfl) (Nat.le_of_ble_eq_true rfl) ?_
  exact B_X6_readBound_52 _ _ _ hk
noncomputable def f_X6_readBound (x1 : Int32) (x2 : Int32) (s : t_S) : Option (Int32 × t_S) :=
 if (s.1 1 8) = (2 : Int32) then (if (lg_cmp (s.2.1 1 10) x1.toInt64) < (0 : Int32) then (k_X6_readBound_44 (s.2.1 1 10) s)
 else (if (lg_cmp (s.2.1 1 10) x2.toInt64) ≤ (0 : Int32) then (k_X6_readBound_52 (s.2.1 1 10) s)
 else (k_X6_readBound_44 (s.2.1 1 10) s)))
 else ((f_X2_fail (2 : Int32) s).bind (fun r1 =>
 k_X6_readBound_52 (s.2.1 1 10) r1))
set_option maxRecDepth 4000 in
set_option maxHeartbeats 1000000 in
theorem C_X6_readBound (x1 : Int32) (x2 : Int32) (s : t_S) (r : Int32 × t_S) (hr : f_X6_readBound x1 x2 s = some r) : t_C yX6_readBound cX6_readBound 5 (some .int) 1 [.ref 845, .int x1, .int x2] s (fun v s' => v = some (.int r.1) ∧ s' = r.2) := by
  refine t_C.imp (P := fun v s' => ∃ x, v = some (.int x) ∧ (fun q => q = r) ((x, s'))) (t_C.of (by decide +kernel) (Nat.le_of_ble_eq_true rfl) ?_) (fun v s' hp => by obtain ⟨x, rfl, rfl⟩ := hp; exact ⟨rfl, rfl⟩)
  intro D cy ad bs X
  have hk : t_hk (f_X6_readBound x1 x2 s) (fun q => q = r) := ⟨r, hr, rfl⟩
  show mj_G D cy ad bs X cX6_readBound 5 yX6_readBound.cls (some .int) yX6_readBound.name 1 0 0 1065 (t_P (fun v s' => ∃ x, v = some (.int x) ∧ (fun q => q = r) ((x, s')))) 0 [(0, .ref 845), (1, .int x1), (2, .int x2)] [] (t_m s) 1065 0 0
  refine mj_aload_n dX6_readBound_0 0 rfl ?_
  refine t_getR 1 dX6_readBound_1 F_X6_28 qr_845_0 ?_
  refine t_getJ dX6_readBound_4 F_X6_338 qf_1_10 ?_
  refine mj_lstore_n 3 (lv2 := [(3, .long (s.2.1 1 10)), (0, .ref 845), (1, .int x1), (2, .int x2)]) dX6_readBound_7 rfl (by decide) rfl ?_
  refine mj_aload_n dX6_readBound_8 1 rfl ?_
  refine t_getR 1 dX6_readBound_9 F_X6_28 qr_845_0 ?_
  refine t_getI dX6_readBound_12 F_X6_85 qf_1_8 ?_
  refine mj_iconst (v := 2) dX6_readBound_15 (by decide) ?_
  refine mj_icmp_eq 30 dX6_readBound_16 (by decide) (fun z => t_posK hk z (fun hk => ?_)) (fun z => t_negK hk z (fun hk => ?_))
  · refine mj_lload_n dX6_readBound_30 0 rfl ?_
    refine mj_iload_n dX6_readBound_31 2 rfl ?_
    refine mj_i2l (v := x1.toInt64) dX6_readBound_32 rfl ?_
    refine mj_lcmp dX6_readBound_33 ?_
    refine mj_if_lt 44 dX6_readBound_34 (by decide) (fun z => t_posK hk z (fun hk => ?_)) (fun z => t_negK hk z (fun hk => ?_))
    · refine mj_sublv [(0, .ref 845), (3, .long (s.2.1 1 10))] [1, 0] rfl ?_
      exact B_X6_readBound_44 _ _ _ hk
    · refine mj_lload_n dX6_readBound_37 0 rfl ?_
      refine mj_iload_n dX6_readBound_38 3 rfl ?_
      refine mj_i2l (v := x2.toInt64) dX6_readBound_39 rfl ?_
      refine mj_lcmp dX6_readBound_40 ?_
      refine mj_if_le 52 dX6_readBound_41 (by decide) (fun z => t_posK hk z (fun hk => ?_)) (fun z => t_negK hk z (fun hk => ?_))
      · refine mj_sublv [(0, .ref 845), (3, .long (s.2.1 1 10))] [1, 0] rfl ?_
        exact B_X6_readBound_52 _ _ _ hk
      · refine mj_sublv [(0, .ref 845), (3, .long (s.2.1 1 10))] [1, 0] rfl ?_
        exact B_X6_readBound_44 _ _ _ hk
  · refine mj_aload_n dX6_readBound_19 1 rfl ?_
    refine t_getR 1 dX6_readBound_20 F_X6_28 qr_845_0 ?_
    refine mj_iconst (v := 2) dX6_readBound_23 (by decide) ?_
    refine t_bndK hk (fun r1 er1 hk => ?_)
    refine t_callVvE dX6_readBound_24 M_X2_fail (C_X2_fail _ _ _ er1) ML_X6_100 IM_X2_fail SE_X2_fail qc_1 rfl (As := [.int 2]) rfl rfl (Nat.le_of_ble_eq_true rfl) (Nat.le_of_ble_eq_true rfl) (Nat.le_of_ble_eq_true rfl) (Nat.le_of_ble_eq_true rfl) ?_
    refine mj_goto 52 dX6_readBound_27 (by decide) ?_
    refine mj_sublv [(0, .ref 845), (3, .long (s.2.1 1 10))] [1, 0] rfl ?_
    exact B_X6_readBound_52 _ _ _ hk

theorem dX6_readSpan_0 : decode cX6_readSpan 0 = .ok (.aload_n 0, 1) := by decide +kernel
theorem dX6_readSpan_1 : decode cX6_readSpan 1 = .ok (.getfield 28, 3) := by decide +kernel
theorem dX6_readSpan_10 : decode cX6_readSpan 10 = .ok (.iconst 0, 1) := by decide +kernel
theorem dX6_readSpan_11 : decode cX6_readSpan 11 = .ok (.iload_n 1, 1) := by decide +kernel
theorem dX6_readSpan_12 : decode cX6_readSpan 12 = .ok (.invokevirtual 335, 3) := by decide +kernel
theorem dX6_readSpan_15 : decode cX6_readSpan 15 = .ok (.istore_n 2, 1) := by decide +kernel
theorem dX6_readSpan_16 : decode cX6_readSpan 16 = .ok (.aload_n 0, 1) := by decide +kernel
theorem dX6_readSpan_17 : decode cX6_readSpan 17 = .ok (.getfield 28, 3) := by decide +kernel
theorem dX6_readSpan_20 : decode cX6_readSpan 20 = .ok (.bipush 10, 2) := by decide +kernel
theorem dX6_readSpan_22 : decode cX6_readSpan 22 = .ok (.invokevirtual 246, 3) := by decide +kernel
theorem dX6_readSpan_25 : decode cX6_readSpan 25 = .ok (.ifCond .eq 12, 3) := by decide +kernel
theorem dX6_readSpan_28 : decode cX6_readSpan 28 = .ok (.aload_n 0, 1) := by decide +kernel
theorem dX6_readSpan_29 : decode cX6_readSpan 29 = .ok (.iload_n 2, 1) := by decide +kernel
theorem dX6_readSpan_30 : decode cX6_readSpan 30 = .ok (.iload_n 1, 1) := by decide +kernel
theorem dX6_readSpan_31 : decode cX6_readSpan 31 = .ok (.invokevirtual 335, 3) := by decide +kernel
theorem dX6_readSpan_34 : decode cX6_readSpan 34 = .ok (.goto 4, 3) := by decide +kernel
theorem dX6_readSpan_37 : decode cX6_readSpan 37 = .ok (.iload_n 2, 1) := by decide +kernel
theorem dX6_readSpan_38 : decode cX6_readSpan 38 = .ok (.istore_n 3, 1) := by decide +kernel
theorem dX6_readSpan_39 : decode cX6_readSpan 39 = .ok (.aload_n 0, 1) := by decide +kernel
theorem dX6_readSpan_4 : decode cX6_readSpan 4 = .ok (.bipush 40, 2) := by decide +kernel
theorem dX6_readSpan_40 : decode cX6_readSpan 40 = .ok (.getfield 28, 3) := by decide +kernel
theorem dX6_readSpan_43 : decode cX6_readSpan 43 = .ok (.bipush 41, 2) := by decide +kernel
theorem dX6_readSpan_45 : decode cX6_readSpan 45 = .ok (.invokevirtual 184, 3) := by decide +kernel
theorem dX6_readSpan_48 : decode cX6_readSpan 48 = .ok (.iconst 1, 1) := by decide +kernel
theorem dX6_readSpan_49 : decode cX6_readSpan 49 = .ok (.iload_n 2, 1) := by decide +kernel
theorem dX6_readSpan_50 : decode cX6_readSpan 50 = .ok (.bipush 8, 2) := by decide +kernel
theorem dX6_readSpan_52 : decode cX6_readSpan 52 = .ok (.ishl, 1) := by decide +kernel
theorem dX6_readSpan_53 : decode cX6_readSpan 53 = .ok (.ior, 1) := by decide +kernel
theorem dX6_readSpan_54 : decode cX6_readSpan 54 = .ok (.iload_n 3, 1) := by decide +kernel
theorem dX6_readSpan_55 : decode cX6_readSpan 55 = .ok (.bipush 16, 2) := by decide +kernel
theorem dX6_readSpan_57 : decode cX6_readSpan 57 = .ok (.ishl, 1) := by decide +kernel
theorem dX6_readSpan_58 : decode cX6_readSpan 58 = .ok (.ior, 1) := by decide +kernel
theorem dX6_readSpan_59 : decode cX6_readSpan 59 = .ok (.ireturn, 1) := by decide +kernel
theorem dX6_readSpan_6 : decode cX6_readSpan 6 = .ok (.invokevirtual 184, 3) := by decide +kernel
theorem dX6_readSpan_9 : decode cX6_readSpan 9 = .ok (.aload_n 0, 1) := by decide +kernel
noncomputable def k_X6_readSpan_38 (l2 : Int32) (k0 : Int32) (s : t_S) : Option (Int32 × t_S) :=
 (f_X2_need (41 : Int32) s).bind (fun r1 =>
 some ((((1 : Int32) ||| (l2 <<< ((8 : Int32) &&& 31))) ||| (k0 <<< ((16 : Int32) &&& 31))), r1))
set_option maxRecDepth 4000 in
set_option maxHeartbeats 1000000 in
theorem B_X6_readSpan_38 {D : va_G} {cy : Nat → ClassId} {ad : Nat → Nat} {bs : Nat} {X : State → Heap → Prop} (l2 : Int32) (k0 : Int32) (s : t_S) (Q : Int32 × t_S → Prop) (hk : t_hk (k_X6_readSpan_38 l2 k0 s) Q) : mj_G D cy ad bs X cX6_readSpan 4 yX6_readSpan.cls (some .int) yX6_readSpan.name 2 0 0 1065 (t_P (fun v s' => ∃ x, v = some (.int x) ∧ Q ((x, s')))) 38 [(0, .ref 845), (2, .int l2)] [.int k0] (t_m s) 1065 0 0 := by
  refine mj_istore_n 3 (lv2 := [(3, .int k0), (0, .ref 845), (2, .int l2)]) dX6_readSpan_38 rfl (by decide) rfl ?_
  refine mj_aload_n dX6_readSpan_39 1 rfl ?_
  refine t_getR 1 dX6_readSpan_40 F_X6_28 qr_845_0 ?_
  refine mj_bipush (v := 41) dX6_readSpan_43 (by decide) ?_
  refine t_bndK hk (fun r1 er1 hk => ?_)
  refine t_callVvE dX6_readSpan_45 M_X2_need (C_X2_need _ _ _ er1) ML_X6_184 IM_X2_need SE_X2_need qc_1 rfl (As := [.int 41]) rfl rfl (Nat.le_of_ble_eq_true rfl) (Nat.le_of_ble_eq_true rfl) (Nat.le_of_ble_eq_true rfl) (Nat.le_of_ble_eq_true rfl) ?_
  refine mj_iconst (v := 1) dX6_readSpan_48 (by decide) ?_
  refine mj_iload_n dX6_readSpan_49 2 rfl ?_
  refine mj_bipush (v := 8) dX6_readSpan_50 (by decide) ?_
  refine mj_ishl dX6_readSpan_52 ?_
  refine mj_ior dX6_readSpan_53 ?_
  refine mj_iload_n dX6_readSpan_54 0 rfl ?_
  refine mj_bipush (v := 16) dX6_readSpan_55 (by decide) ?_
  refine mj_ishl dX6_readSpan_57 ?_
  refine mj_ior dX6_readSpan_58 ?_
  exact t_somK hk (fun hf => t_iret dX6_readSpan_59 rfl rfl ⟨_, rfl, hf⟩ (Nat.le_of_ble_eq_true rfl) (Nat.le_of_ble_eq_true rfl))
noncomputable def f_X6_readSpan (x1 : Int32) (s : t_S) : Option (Int32 × t_S) :=
 (f_X2_need (40 : Int32) s).bind (fun r1 =>
 (f_X6_readBound (0 : Int32) x1 r1).bind (fun r2 =>
 (f_X2_take (10 : Int32) r2.2).bind (fun r3 =>
 if r3.1 = (0 : Int32) then (k_X6_readSpan_38 r2.1 r2.1 r3.2)
 else ((f_X6_readBound r2.1 x1 r3.2).bind (fun r4 =>
 k_X6_readSpan_38 r2.1 r4.1 r4.2)))))
set_option maxRecDepth 4000 in
set_option maxHeartbeats 1000000 in
theorem C_X6_readSpan (x1 : Int32) (s : t_S) (r : Int32 × t_S) (hr : f_X6_readSpan x1 s = some r) : t_C yX6_readSpan cX6_readSpan 4 (some .int) 2 [.ref 845, .int x1] s (fun v s' => v = some (.int r.1) ∧ s' = r.2) := by
  refine t_C.imp (P := fun v s' => ∃ x, v = some (.int x) ∧ (fun q => q = r) ((x, s'))) (t_C.of (by decide +kernel) (Nat.le_of_ble_eq_true rfl) ?_) (fun v s' hp => by obtain ⟨x, rfl, rfl⟩ := hp; exact ⟨rfl, rfl⟩)
  intro D cy ad bs X
  have hk : t_hk (f_X6_readSpan x1 s) (fun q => q = r) := ⟨r, hr, rfl⟩
  show mj_G D cy ad bs X cX6_readSpan 4 yX6_readSpan.cls (some .int) yX6_readSpan.name 2 0 0 1065 (t_P (fun v s' => ∃ x, v = some (.int x) ∧ (fun q => q = r) ((x, s')))) 0 [(0, .ref 845), (1, .int x1)] [] (t_m s) 1065 0 0
  refine mj_aload_n dX6_readSpan_0 0 rfl ?_
  refine t_getR 1 dX6_readSpan_1 F_X6_28 qr_845_0 ?_
  refine mj_bipush (v := 40) dX6_readSpan_4 (by decide) ?_
  refine t_bndK hk (fun r1 er1 hk => ?_)
  refine t_callVvE dX6_readSpan_6 M_X2_need (C_X2_need _ _ _ er1) ML_X6_184 IM_X2_need SE_X2_need qc_1 rfl (As := [.int 40]) rfl rfl (Nat.le_of_ble_eq_true rfl) (Nat.le_of_ble_eq_true rfl) (Nat.le_of_ble_eq_true rfl) (Nat.le_of_ble_eq_true rfl) ?_
  refine mj_aload_n dX6_readSpan_9 0 rfl ?_
  refine mj_iconst (v := 0) dX6_readSpan_10 (by decide) ?_
  refine mj_iload_n dX6_readSpan_11 1 rfl ?_
  refine t_bndK hk (fun r2 er2 hk => ?_)
  refine t_callViE dX6_readSpan_12 M_X6_readBound (C_X6_readBound _ _ _ _ er2) ML_X6_335 IM_X6_readBound SE_X6_readBound qc_845 rfl (As := [.int 0, .int x1]) rfl rfl (Nat.le_of_ble_eq_true rfl) (Nat.le_of_ble_eq_true rfl) (Nat.le_of_ble_eq_true rfl) (Nat.le_of_ble_eq_true rfl) ?_
  refine mj_istore_n 2 (lv2 := [(2, .int r2.1), (0, .ref 845), (1, .int x1)]) dX6_readSpan_15 rfl (by decide) rfl ?_
  refine mj_aload_n dX6_readSpan_16 1 rfl ?_
  refine t_getR 1 dX6_readSpan_17 F_X6_28 qr_845_0 ?_
  refine mj_bipush (v := 10) dX6_readSpan_20 (by decide) ?_
  refine t_bndK hk (fun r3 er3 hk => ?_)
  refine t_callViE dX6_readSpan_22 M_X2_take (C_X2_take _ _ _ er3) ML_X6_246 IM_X2_take SE_X2_take qc_1 rfl (As := [.int 10]) rfl rfl (Nat.le_of_ble_eq_true rfl) (Nat.le_of_ble_eq_true rfl) (Nat.le_of_ble_eq_true rfl) (Nat.le_of_ble_eq_true rfl) ?_
  refine mj_if_eq 37 dX6_readSpan_25 (by decide) (fun z => t_posK hk z (fun hk => ?_)) (fun z => t_negK hk z (fun hk => ?_))
  · refine mj_iload_n dX6_readSpan_37 0 rfl ?_
    refine mj_sublv [(0, .ref 845), (2, .int r2.1)] [1, 0] rfl ?_
    exact B_X6_readSpan_38 _ _ _ _ hk
  · refine mj_aload_n dX6_readSpan_28 1 rfl ?_
    refine mj_iload_n dX6_readSpan_29 0 rfl ?_
    refine mj_iload_n dX6_readSpan_30 2 rfl ?_
    refine t_bndK hk (fun r4 er4 hk => ?_)
    refine t_callViE dX6_readSpan_31 M_X6_readBound (C_X6_readBound _ _ _ _ er4) ML_X6_335 IM_X6_readBound SE_X6_readBound qc_845 rfl (As := [.int r2.1, .int x1]) rfl rfl (Nat.le_of_ble_eq_true rfl) (Nat.le_of_ble_eq_true rfl) (Nat.le_of_ble_eq_true rfl) (Nat.le_of_ble_eq_true rfl) ?_
    refine mj_goto 38 dX6_readSpan_34 (by decide) ?_
    refine mj_sublv [(0, .ref 845), (2, .int r2.1)] [1, 0] rfl ?_
    exact B_X6_readSpan_38 _ _ _ _ hk

theorem dX6_readNumber_0 : decode cX6_readNumber 0 = .ok (.aload_n 0, 1) := by decide +kernel
theorem dX6_readNumber_1 : decode cX6_readNumber 1 = .ok (.getfield 28, 3) := by decide +kernel
theorem dX6_readNumber_100 : decode cX6_readNumber 100 = .ok (.lconst 0, 1) := by decide +kernel
theorem dX6_readNumber_101 : decode cX6_readNumber 101 = .ok (.lreturn, 1) := by decide +kernel
theorem dX6_readNumber_102 : decode cX6_readNumber 102 = .ok (.aload_n 0, 1) := by decide +kernel
theorem dX6_readNumber_103 : decode cX6_readNumber 103 = .ok (.getfield 28, 3) := by decide +kernel
theorem dX6_readNumber_106 : decode cX6_readNumber 106 = .ok (.invokevirtual 170, 3) := by decide +kernel
theorem dX6_readNumber_109 : decode cX6_readNumber 109 = .ok (.lload 4, 2) := by decide +kernel
theorem dX6_readNumber_111 : decode cX6_readNumber 111 = .ok (.lreturn, 1) := by decide +kernel
theorem dX6_readNumber_12 : decode cX6_readNumber 12 = .ok (.iconst 1, 1) := by decide +kernel
theorem dX6_readNumber_13 : decode cX6_readNumber 13 = .ok (.goto 4, 3) := by decide +kernel
theorem dX6_readNumber_16 : decode cX6_readNumber 16 = .ok (.iconst 0, 1) := by decide +kernel
theorem dX6_readNumber_17 : decode cX6_readNumber 17 = .ok (.istore_n 3, 1) := by decide +kernel
theorem dX6_readNumber_18 : decode cX6_readNumber 18 = .ok (.iload_n 3, 1) := by decide +kernel
theorem dX6_readNumber_19 : decode cX6_readNumber 19 = .ok (.ifCond .eq 10, 3) := by decide +kernel
theorem dX6_readNumber_22 : decode cX6_readNumber 22 = .ok (.aload_n 0, 1) := by decide +kernel
theorem dX6_readNumber_23 : decode cX6_readNumber 23 = .ok (.getfield 28, 3) := by decide +kernel
theorem dX6_readNumber_26 : decode cX6_readNumber 26 = .ok (.invokevirtual 170, 3) := by decide +kernel
theorem dX6_readNumber_29 : decode cX6_readNumber 29 = .ok (.iload_n 3, 1) := by decide +kernel
theorem dX6_readNumber_30 : decode cX6_readNumber 30 = .ok (.ifCond .eq 14, 3) := by decide +kernel
theorem dX6_readNumber_33 : decode cX6_readNumber 33 = .ok (.aload_n 0, 1) := by decide +kernel
theorem dX6_readNumber_34 : decode cX6_readNumber 34 = .ok (.getfield 28, 3) := by decide +kernel
theorem dX6_readNumber_37 : decode cX6_readNumber 37 = .ok (.getfield 338, 3) := by decide +kernel
theorem dX6_readNumber_4 : decode cX6_readNumber 4 = .ok (.getfield 85, 3) := by decide +kernel
theorem dX6_readNumber_40 : decode cX6_readNumber 40 = .ok (.lneg, 1) := by decide +kernel
theorem dX6_readNumber_41 : decode cX6_readNumber 41 = .ok (.goto 10, 3) := by decide +kernel
theorem dX6_readNumber_44 : decode cX6_readNumber 44 = .ok (.aload_n 0, 1) := by decide +kernel
theorem dX6_readNumber_45 : decode cX6_readNumber 45 = .ok (.getfield 28, 3) := by decide +kernel
theorem dX6_readNumber_48 : decode cX6_readNumber 48 = .ok (.getfield 338, 3) := by decide +kernel
theorem dX6_readNumber_51 : decode cX6_readNumber 51 = .ok (.lstore 4, 2) := by decide +kernel
theorem dX6_readNumber_53 : decode cX6_readNumber 53 = .ok (.aload_n 0, 1) := by decide +kernel
theorem dX6_readNumber_54 : decode cX6_readNumber 54 = .ok (.getfield 28, 3) := by decide +kernel
theorem dX6_readNumber_57 : decode cX6_readNumber 57 = .ok (.getfield 85, 3) := by decide +kernel
theorem dX6_readNumber_60 : decode cX6_readNumber 60 = .ok (.iconst 2, 1) := by decide +kernel
theorem dX6_readNumber_61 : decode cX6_readNumber 61 = .ok (.if_icmp .eq 14, 3) := by decide +kernel
theorem dX6_readNumber_64 : decode cX6_readNumber 64 = .ok (.aload_n 0, 1) := by decide +kernel
theorem dX6_readNumber_65 : decode cX6_readNumber 65 = .ok (.getfield 28, 3) := by decide +kernel
theorem dX6_readNumber_68 : decode cX6_readNumber 68 = .ok (.iconst 2, 1) := by decide +kernel
theorem dX6_readNumber_69 : decode cX6_readNumber 69 = .ok (.invokevirtual 100, 3) := by decide +kernel
theorem dX6_readNumber_7 : decode cX6_readNumber 7 = .ok (.bipush 45, 2) := by decide +kernel
theorem dX6_readNumber_72 : decode cX6_readNumber 72 = .ok (.goto 18, 3) := by decide +kernel
theorem dX6_readNumber_75 : decode cX6_readNumber 75 = .ok (.lload 4, 2) := by decide +kernel
theorem dX6_readNumber_77 : decode cX6_readNumber 77 = .ok (.lload_n 1, 1) := by decide +kernel
theorem dX6_readNumber_78 : decode cX6_readNumber 78 = .ok (.lcmp, 1) := by decide +kernel
theorem dX6_readNumber_79 : decode cX6_readNumber 79 = .ok (.ifCond .ge 11, 3) := by decide +kernel
theorem dX6_readNumber_82 : decode cX6_readNumber 82 = .ok (.aload_n 0, 1) := by decide +kernel
theorem dX6_readNumber_83 : decode cX6_readNumber 83 = .ok (.getfield 28, 3) := by decide +kernel
theorem dX6_readNumber_86 : decode cX6_readNumber 86 = .ok (.iconst 5, 1) := by decide +kernel
theorem dX6_readNumber_87 : decode cX6_readNumber 87 = .ok (.invokevirtual 100, 3) := by decide +kernel
theorem dX6_readNumber_9 : decode cX6_readNumber 9 = .ok (.if_icmp .ne 7, 3) := by decide +kernel
theorem dX6_readNumber_90 : decode cX6_readNumber 90 = .ok (.aload_n 0, 1) := by decide +kernel
theorem dX6_readNumber_91 : decode cX6_readNumber 91 = .ok (.getfield 28, 3) := by decide +kernel
theorem dX6_readNumber_94 : decode cX6_readNumber 94 = .ok (.getfield 82, 3) := by decide +kernel
theorem dX6_readNumber_97 : decode cX6_readNumber 97 = .ok (.ifCond .eq 5, 3) := by decide +kernel
noncomputable def k_X6_readNumber_90 (l4 : Int64) (s : t_S) : Option (Int64 × t_S) :=
 if (s.1 1 11) = (0 : Int32) then ((f_X2_advance s).bind (fun r1 =>
 some (l4, r1)))
 else (some ((0 : Int64), s))
set_option maxRecDepth 4000 in
set_option maxHeartbeats 1000000 in
theorem B_X6_readNumber_90 {D : va_G} {cy : Nat → ClassId} {ad : Nat → Nat} {bs : Nat} {X : State → Heap → Prop} (l4 : Int64) (s : t_S) (Q : Int64 × t_S → Prop) (hk : t_hk (k_X6_readNumber_90 l4 s) Q) : mj_G D cy ad bs X cX6_readNumber 6 yX6_readNumber.cls (some .long) yX6_readNumber.name 1 0 0 1065 (t_P (fun v s' => ∃ x, v = some (.long x) ∧ Q ((x, s')))) 90 [(0, .ref 845), (4, .long l4)] [] (t_m s) 1065 0 0 := by
  refine mj_aload_n dX6_readNumber_90 0 rfl ?_
  refine t_getR 1 dX6_readNumber_91 F_X6_28 qr_845_0 ?_
  refine t_getI dX6_readNumber_94 F_X6_82 qf_1_11 ?_
  refine mj_if_eq 102 dX6_readNumber_97 (by decide) (fun z => t_posK hk z (fun hk => ?_)) (fun z => t_negK hk z (fun hk => ?_))
  · refine mj_aload_n dX6_readNumber_102 0 rfl ?_
    refine t_getR 1 dX6_readNumber_103 F_X6_28 qr_845_0 ?_
    refine t_bndK hk (fun r1 er1 hk => ?_)
    refine t_callVvE dX6_readNumber_106 M_X2_advance (C_X2_advance _ _ er1) ML_X6_170 IM_X2_advance SE_X2_advance qc_1 rfl (As := []) rfl rfl (Nat.le_of_ble_eq_true rfl) (Nat.le_of_ble_eq_true rfl) (Nat.le_of_ble_eq_true rfl) (Nat.le_of_ble_eq_true rfl) ?_
    refine mj_lload dX6_readNumber_109 1 rfl ?_
    exact t_somK hk (fun hf => t_lret dX6_readNumber_111 rfl ⟨_, rfl, hf⟩ (Nat.le_of_ble_eq_true rfl) (Nat.le_of_ble_eq_true rfl))
  · refine mj_lconst (v := 0) dX6_readNumber_100 (by decide) ?_
    exact t_somK hk (fun hf => t_lret dX6_readNumber_101 rfl ⟨_, rfl, hf⟩ (Nat.le_of_ble_eq_true rfl) (Nat.le_of_ble_eq_true rfl))
noncomputable def k_X6_readNumber_51 (l1 : Int64) (k0 : Int64) (s : t_S) : Option (Int64 × t_S) :=
 if (s.1 1 8) = (2 : Int32) then (if (0 : Int32) ≤ (lg_cmp k0 l1) then (k_X6_readNumber_90 k0 s)
 else ((f_X2_fail (5 : Int32) s).bind (fun r1 =>
 k_X6_readNumber_90 k0 r1)))
 else ((f_X2_fail (2 : Int32) s).bind (fun r2 =>
 k_X6_readNumber_90 k0 r2))
set_option maxRecDepth 4000 in
set_option maxHeartbeats 1000000 in
theorem B_X6_readNumber_51 {D : va_G} {cy : Nat → ClassId} {ad : Nat → Nat} {bs : Nat} {X : State → Heap → Prop} (l1 : Int64) (k0 : Int64) (s : t_S) (Q : Int64 × t_S → Prop) (hk : t_hk (k_X6_readNumber_51 l1 k0 s) Q) : mj_G D cy ad bs X cX6_readNumber 6 yX6_readNumber.cls (some .long) yX6_readNumber.name 1 0 0 1065 (t_P (fun v s' => ∃ x, v = some (.long x) ∧ Q ((x, s')))) 51 [(0, .ref 845), (1, .long l1)] [.long k0] (t_m s) 1065 0 0 := by
  refine mj_lstore (lv2 := [(4, .long k0), (0, .ref 845), (1, .long l1)]) dX6_readNumber_51 (by decide) rfl ?_
  refine mj_aload_n dX6_readNumber_53 1 rfl ?_
  refine t_getR 1 dX6_readNumber_54 F_X6_28 qr_845_0 ?_
  refine t_getI dX6_readNumber_57 F_X6_85 qf_1_8 ?_
  refine mj_iconst (v := 2) dX6_readNumber_60 (by decide) ?_
  refine mj_icmp_eq 75 dX6_readNumber_61 (by decide) (fun z => t_posK hk z (fun hk => ?_)) (fun z => t_negK hk z (fun hk => ?_))
  · refine mj_lload dX6_readNumber_75 0 rfl ?_
    refine mj_lload_n dX6_readNumber_77 2 rfl ?_
    refine mj_lcmp dX6_readNumber_78 ?_
    refine mj_if_ge 90 dX6_readNumber_79 (by decide) (fun z => t_posK hk z (fun hk => ?_)) (fun z => t_negK hk z (fun hk => ?_))
    · refine mj_sublv [(0, .ref 845), (4, .long k0)] [1, 0] rfl ?_
      exact B_X6_readNumber_90 _ _ _ hk
    · refine mj_aload_n dX6_readNumber_82 1 rfl ?_
      refine t_getR 1 dX6_readNumber_83 F_X6_28 qr_845_0 ?_
      refine mj_iconst (v := 5) dX6_readNumber_86 (by decide) ?_
      refine t_bndK hk (fun r1 er1 hk => ?_)
      refine t_callVvE dX6_readNumber_87 M_X2_fail (C_X2_fail _ _ _ er1) ML_X6_100 IM_X2_fail SE_X2_fail qc_1 rfl (As := [.int 5]) rfl rfl (Nat.le_of_ble_eq_true rfl) (Nat.le_of_ble_eq_true rfl) (Nat.le_of_ble_eq_true rfl) (Nat.le_of_ble_eq_true rfl) ?_
      refine mj_sublv [(0, .ref 845), (4, .long k0)] [1, 0] rfl ?_
      exact B_X6_readNumber_90 _ _ _ hk
  · refine mj_aload_n dX6_readNumber_64 1 rfl ?_
    refine t_getR 1 dX6_readNumber_65 F_X6_28 qr_845_0 ?_
    refine mj_iconst (v := 2) dX6_readNumber_68 (by decide) ?_
    refine t_bndK hk (fun r2 er2 hk => ?_)
    refine t_callVvE dX6_readNumber_69 M_X2_fail (C_X2_fail _ _ _ er2) ML_X6_100 IM_X2_fail SE_X2_fail qc_1 rfl (As := [.int 2]) rfl rfl (Nat.le_of_ble_eq_true rfl) (Nat.le_of_ble_eq_true rfl) (Nat.le_of_ble_eq_true rfl) (Nat.le_of_ble_eq_true rfl) ?_
    refine mj_goto 90 dX6_readNumber_72 (by decide) ?_
    refine mj_sublv [(0, .ref 845), (4, .long k0)] [1, 0] rfl ?_
    exact B_X6_readNumber_90 _ _ _ hk
noncomputable def k_X6_readNumber_29 (l1 : Int64) (l3 : Int32) (s : t_S) : Option (Int64 × t_S) :=
 if l3 = (0 : Int32) then (k_X6_readNumber_51 l1 (s.2.1 1 10) s)
 else (k_X6_readNumber_51 l1 (-(s.2.1 1 10)) s)
set_option maxRecDepth 4000 in
set_option maxHeartbeats 1000000 in
theorem B_X6_readNumber_29 {D : va_G} {cy : Nat → ClassId} {ad : Nat → Nat} {bs : Nat} {X : State → Heap → Prop} (l1 : Int64) (l3 : Int32) (s : t_S) (Q : Int64 × t_S → Prop) (hk : t_hk (k_X6_readNumber_29 l1 l3 s) Q) : mj_G D cy ad bs X cX6_readNumber 6 yX6_readNumber.cls (some .long) yX6_readNumber.name 1 0 0 1065 (t_P (fun v s' => ∃ x, v = some (.long x) ∧ Q ((x, s')))) 29 [(0, .ref 845), (1, .long l1), (3, .int l3)] [] (t_m s) 1065 0 0 := by
  refine mj_iload_n dX6_readNumber_29 2 rfl ?_
  refine mj_if_eq 44 dX6_readNumber_30 (by decide) (fun z => t_posK hk z (fun hk => ?_)) (fun z => t_negK hk z (fun hk => ?_))
  · refine mj_aload_n dX6_readNumber_44 0 rfl ?_
    refine t_getR 1 dX6_readNumber_45 F_X6_28 qr_845_0 ?_
    refine t_getJ dX6_readNumber_48 F_X6_338 qf_1_10 ?_
    refine mj_sublv [(0, .ref 845), (1, .long l1)] [0, 1] rfl ?_
    exact B_X6_readNumber_51 _ _ _ _ hk
  · refine mj_aload_n dX6_readNumber_33 0 rfl ?_
    refine t_getR 1 dX6_readNumber_34 F_X6_28 qr_845_0 ?_
    refine t_getJ dX6_readNumber_37 F_X6_338 qf_1_10 ?_
    refine mj_lneg dX6_readNumber_40 ?_
    refine mj_goto 51 dX6_readNumber_41 (by decide) ?_
    refine mj_sublv [(0, .ref 845), (1, .long l1)] [0, 1] rfl ?_
    exact B_X6_readNumber_51 _ _ _ _ hk
noncomputable def k_X6_readNumber_17 (l1 : Int64) (k0 : Int32) (s : t_S) : Option (Int64 × t_S) :=
 if k0 = (0 : Int32) then (k_X6_readNumber_29 l1 k0 s)
 else ((f_X2_advance s).bind (fun r1 =>
 k_X6_readNumber_29 l1 k0 r1))
set_option maxRecDepth 4000 in
set_option maxHeartbeats 1000000 in
theorem B_X6_readNumber_17 {D : va_G} {cy : Nat → ClassId} {ad : Nat → Nat} {bs : Nat} {X : State → Heap → Prop} (l1 : Int64) (k0 : Int32) (s : t_S) (Q : Int64 × t_S → Prop) (hk : t_hk (k_X6_readNumber_17 l1 k0 s) Q) : mj_G D cy ad bs X cX6_readNumber 6 yX6_readNumber.cls (some .long) yX6_readNumber.name 1 0 0 1065 (t_P (fun v s' => ∃ x, v = some (.long x) ∧ Q ((x, s')))) 17 [(0, .ref 845), (1, .long l1)] [.int k0] (t_m s) 1065 0 0 := by
  refine mj_istore_n 3 (lv2 := [(3, .int k0), (0, .ref 845), (1, .long l1)]) dX6_readNumber_17 rfl (by decide) rfl ?_
  refine mj_iload_n dX6_readNumber_18 0 rfl ?_
  refine mj_if_eq 29 dX6_readNumber_19 (by decide) (fun z => t_posK hk z (fun hk => ?_)) (fun z => t_negK hk z (fun hk => ?_))
  · refine mj_sublv [(0, .ref 845), (1, .long l1), (3, .int k0)] [1, 2, 0] rfl ?_
    exact B_X6_readNumber_29 _ _ _ _ hk
  · refine mj_aload_n dX6_readNumber_22 1 rfl ?_
    refine t_getR 1 dX6_readNumber_23 F_X6_28 qr_845_0 ?_
    refine t_bndK hk (fun r1 er1 hk => ?_)
    refine t_callVvE dX6_readNumber_26 M_X2_advance (C_X2_advance _ _ er1) ML_X6_170 IM_X2_advance SE_X2_advance qc_1 rfl (As := []) rfl rfl (Nat.le_of_ble_eq_true rfl) (Nat.le_of_ble_eq_true rfl) (Nat.le_of_ble_eq_true rfl) (Nat.le_of_ble_eq_true rfl) ?_
    refine mj_sublv [(0, .ref 845), (1, .long l1), (3, .int k0)] [1, 2, 0] rfl ?_
    exact B_X6_readNumber_29 _ _ _ _ hk
noncomputable def f_X6_readNumber (x1 : Int64) (s : t_S) : Option (Int64 × t_S) :=
 if (s.1 1 8) = (45 : Int32) then (k_X6_readNumber_17 x1 1 s)
 else (k_X6_readNumber_17 x1 0 s)
set_option maxRecDepth 4000 in
set_option maxHeartbeats 1000000 in
theorem C_X6_readNumber (x1 : Int64) (s : t_S) (r : Int64 × t_S) (hr : f_X6_readNumber x1 s = some r) : t_C yX6_readNumber cX6_readNumber 6 (some .long) 1 [.ref 845, .long x1] s (fun v s' => v = some (.long r.1) ∧ s' = r.2) := by
  refine t_C.imp (P := fun v s' => ∃ x, v = some (.long x) ∧ (fun q => q = r) ((x, s'))) (t_C.of (by decide +kernel) (Nat.le_of_ble_eq_true rfl) ?_) (fun v s' hp => by obtain ⟨x, rfl, rfl⟩ := hp; exact ⟨rfl, rfl⟩)
  intro D cy ad bs X
  have hk : t_hk (f_X6_readNumber x1 s) (fun q => q = r) := ⟨r, hr, rfl⟩
  show mj_G D cy ad bs X cX6_readNumber 6 yX6_readNumber.cls (some .long) yX6_readNumber.name 1 0 0 1065 (t_P (fun v s' => ∃ x, v = some (.long x) ∧ (fun q => q = r) ((x, s')))) 0 [(0, .ref 845), (1, .long x1)] [] (t_m s) 1065 0 0
  refine mj_aload_n dX6_readNumber_0 0 rfl ?_
  refine t_getR 1 dX6_readNumber_1 F_X6_28 qr_845_0 ?_
  refine t_getI dX6_readNumber_4 F_X6_85 qf_1_8 ?_
  refine mj_bipush (v := 45) dX6_readNumber_7 (by decide) ?_
  refine mj_icmp_ne 16 dX6_readNumber_9 (by decide) (fun z => t_negK hk z (fun hk => ?_)) (fun z => t_posK hk z (fun hk => ?_))
  · refine mj_iconst (v := 0) dX6_readNumber_16 (by decide) ?_
    exact B_X6_readNumber_17 _ _ _ _ hk
  · refine mj_iconst (v := 1) dX6_readNumber_12 (by decide) ?_
    refine mj_goto 17 dX6_readNumber_13 (by decide) ?_
    exact B_X6_readNumber_17 _ _ _ _ hk

theorem dX6_hasField_0 : decode cX6_hasField 0 = .ok (.aload_n 0, 1) := by decide +kernel
theorem dX6_hasField_1 : decode cX6_hasField 1 = .ok (.getfield 38, 3) := by decide +kernel
theorem dX6_hasField_10 : decode cX6_hasField 10 = .ok (.iconst 0, 1) := by decide +kernel
theorem dX6_hasField_11 : decode cX6_hasField 11 = .ok (.istore 4, 2) := by decide +kernel
theorem dX6_hasField_13 : decode cX6_hasField 13 = .ok (.iload 4, 2) := by decide +kernel
theorem dX6_hasField_15 : decode cX6_hasField 15 = .ok (.bipush 16, 2) := by decide +kernel
theorem dX6_hasField_17 : decode cX6_hasField 17 = .ok (.if_icmp .ge 38, 3) := by decide +kernel
theorem dX6_hasField_20 : decode cX6_hasField 20 = .ok (.iload_n 3, 1) := by decide +kernel
theorem dX6_hasField_21 : decode cX6_hasField 21 = .ok (.ifCond .lt 34, 3) := by decide +kernel
theorem dX6_hasField_24 : decode cX6_hasField 24 = .ok (.aload_n 0, 1) := by decide +kernel
theorem dX6_hasField_25 : decode cX6_hasField 25 = .ok (.getfield 38, 3) := by decide +kernel
theorem dX6_hasField_28 : decode cX6_hasField 28 = .ok (.getfield 399, 3) := by decide +kernel
theorem dX6_hasField_31 : decode cX6_hasField 31 = .ok (.iload_n 3, 1) := by decide +kernel
theorem dX6_hasField_32 : decode cX6_hasField 32 = .ok (.iaload, 1) := by decide +kernel
theorem dX6_hasField_33 : decode cX6_hasField 33 = .ok (.iload_n 2, 1) := by decide +kernel
theorem dX6_hasField_34 : decode cX6_hasField 34 = .ok (.if_icmp .ne 5, 3) := by decide +kernel
theorem dX6_hasField_37 : decode cX6_hasField 37 = .ok (.iconst 1, 1) := by decide +kernel
theorem dX6_hasField_38 : decode cX6_hasField 38 = .ok (.ireturn, 1) := by decide +kernel
theorem dX6_hasField_39 : decode cX6_hasField 39 = .ok (.aload_n 0, 1) := by decide +kernel
theorem dX6_hasField_4 : decode cX6_hasField 4 = .ok (.getfield 445, 3) := by decide +kernel
theorem dX6_hasField_40 : decode cX6_hasField 40 = .ok (.getfield 38, 3) := by decide +kernel
theorem dX6_hasField_43 : decode cX6_hasField 43 = .ok (.getfield 449, 3) := by decide +kernel
theorem dX6_hasField_46 : decode cX6_hasField 46 = .ok (.iload_n 3, 1) := by decide +kernel
theorem dX6_hasField_47 : decode cX6_hasField 47 = .ok (.iaload, 1) := by decide +kernel
theorem dX6_hasField_48 : decode cX6_hasField 48 = .ok (.istore_n 3, 1) := by decide +kernel
theorem dX6_hasField_49 : decode cX6_hasField 49 = .ok (.iinc 4 1, 3) := by decide +kernel
theorem dX6_hasField_52 : decode cX6_hasField 52 = .ok (.goto (-39), 3) := by decide +kernel
theorem dX6_hasField_55 : decode cX6_hasField 55 = .ok (.iconst 0, 1) := by decide +kernel
theorem dX6_hasField_56 : decode cX6_hasField 56 = .ok (.ireturn, 1) := by decide +kernel
theorem dX6_hasField_7 : decode cX6_hasField 7 = .ok (.iload_n 1, 1) := by decide +kernel
theorem dX6_hasField_8 : decode cX6_hasField 8 = .ok (.iaload, 1) := by decide +kernel
theorem dX6_hasField_9 : decode cX6_hasField 9 = .ok (.istore_n 3, 1) := by decide +kernel
noncomputable def k_X6_hasField_13 (l2 : Int32) (l3 : Int32) (l4 : Int32) (s : t_S) : Option ((Int32 × Int32 × Int32) ⊕ (Int32)) :=
 if (16 : Int32) ≤ l4 then ((some (0 : Int32)).map Sum.inr)
 else (if l3 < (0 : Int32) then ((some (0 : Int32)).map Sum.inr)
 else (if t_ix l3 6100 = true then
  if (s.1 357 (l3.toNatClampNeg)) = l2 then ((some (1 : Int32)).map Sum.inr)
 else (some (.inl (l2, (s.1 356 (l3.toNatClampNeg)), (l4 + 1))))
else none))
set_option maxRecDepth 4000 in
set_option maxHeartbeats 1000000 in
theorem B_X6_hasField_13 {D : va_G} {cy : Nat → ClassId} {ad : Nat → Nat} {bs : Nat} {X : State → Heap → Prop} (l2 : Int32) (l3 : Int32) (l4 : Int32) (s : t_S) (Q : (Int32 × Int32 × Int32) ⊕ (Int32) → Prop) (Hb13 : ∀ (y0 : Int32) (y1 : Int32) (y2 : Int32), Q (.inl (y0, y1, y2)) → mj_G D cy ad bs X cX6_hasField 5 yX6_hasField.cls (some .boolean) yX6_hasField.name 0 0 0 1065 (t_P (fun v s' => s' = s ∧ ∃ x, v = some (.int x) ∧ Q (.inr (x)))) 13 [(0, .ref 845), (2, .int (y0)), (3, .int (y1)), (4, .int (y2))] [] (t_m s) 1065 0 0) (hk : t_hk (k_X6_hasField_13 l2 l3 l4 s) Q) : mj_G D cy ad bs X cX6_hasField 5 yX6_hasField.cls (some .boolean) yX6_hasField.name 0 0 0 1065 (t_P (fun v s' => s' = s ∧ ∃ x, v = some (.int x) ∧ Q (.inr (x)))) 13 [(0, .ref 845), (2, .int l2), (3, .int l3), (4, .int l4)] [] (t_m s) 1065 0 0 := by
  refine mj_iload dX6_hasField_13 3 rfl ?_
  refine mj_bipush (v := 16) dX6_hasField_15 (by decide) ?_
  refine mj_icmp_ge 55 dX6_hasField_17 (by decide) (fun z => t_posK hk z (fun hk => ?_)) (fun z => t_negK hk z (fun hk => ?_))
  · refine t_mapK hk (fun hk => ?_)
    refine mj_iconst (v := 0) dX6_hasField_55 (by decide) ?_
    exact t_somK hk (fun hf => t_iret dX6_hasField_56 rfl (by decide) ⟨rfl, _, rfl, hf⟩ (Nat.le_of_ble_eq_true rfl) (Nat.le_of_ble_eq_true rfl))
  · refine mj_iload_n dX6_hasField_20 2 rfl ?_
    refine mj_if_lt 55 dX6_hasField_21 (by decide) (fun z => t_posK hk z (fun hk => ?_)) (fun z => t_negK hk z (fun hk => ?_))
    · refine t_mapK hk (fun hk => ?_)
      refine mj_iconst (v := 0) dX6_hasField_55 (by decide) ?_
      exact t_somK hk (fun hf => t_iret dX6_hasField_56 rfl (by decide) ⟨rfl, _, rfl, hf⟩ (Nat.le_of_ble_eq_true rfl) (Nat.le_of_ble_eq_true rfl))
    · refine mj_aload_n dX6_hasField_24 0 rfl ?_
      refine t_getR 353 dX6_hasField_25 F_X6_38 qr_845_2 ?_
      refine t_getR 357 dX6_hasField_28 F_X6_399 qr_353_3 ?_
      refine mj_iload_n dX6_hasField_31 2 rfl ?_
      refine t_chkK hk (fun c0 hk => ?_)
      refine t_iald dX6_hasField_32 qa_357 (t_ixv c0) ?_
      refine mj_iload_n dX6_hasField_33 1 rfl ?_
      refine mj_icmp_ne 39 dX6_hasField_34 (by decide) (fun z => t_negK hk z (fun hk => ?_)) (fun z => t_posK hk z (fun hk => ?_))
      · refine mj_aload_n dX6_hasField_39 0 rfl ?_
        refine t_getR 353 dX6_hasField_40 F_X6_38 qr_845_2 ?_
        refine t_getR 356 dX6_hasField_43 F_X6_449 qr_353_2 ?_
        refine mj_iload_n dX6_hasField_46 2 rfl ?_
        refine t_iald dX6_hasField_47 qa_356 (t_ixv c0) ?_
        refine mj_istore_n 3 (lv2 := [(3, .int (s.1 356 (l3.toNatClampNeg))), (0, .ref 845), (2, .int l2), (4, .int l4)]) dX6_hasField_48 rfl (by decide) rfl ?_
        refine mj_iinc (k := 3) (v := (l4 + 1)) (lv2 := [(4, .int (l4 + 1)), (3, .int (s.1 356 (l3.toNatClampNeg))), (0, .ref 845), (2, .int l2)]) dX6_hasField_49 rfl rfl (by decide) rfl ?_
        refine mj_goto 13 dX6_hasField_52 (by decide) ?_
        refine mj_sublv [(0, .ref 845), (2, .int l2), (3, .int (s.1 356 (l3.toNatClampNeg))), (4, .int (l4 + 1))] [2, 3, 1, 0] rfl ?_
        exact t_somK hk (fun hf => Hb13 l2 (s.1 356 (l3.toNatClampNeg)) (l4 + 1) hf)
      · refine t_mapK hk (fun hk => ?_)
        refine mj_iconst (v := 1) dX6_hasField_37 (by decide) ?_
        exact t_somK hk (fun hf => t_iret dX6_hasField_38 rfl (by decide) ⟨rfl, _, rfl, hf⟩ (Nat.le_of_ble_eq_true rfl) (Nat.le_of_ble_eq_true rfl))
noncomputable def b_X6_hasField_13 (s : t_S) (x : Int32 × Int32 × Int32) : Option ((Int32 × Int32 × Int32) ⊕ (Int32)) := k_X6_hasField_13 x.1 x.2.1 x.2.2 s
set_option maxRecDepth 4000 in
set_option maxHeartbeats 1000000 in
theorem LH_X6_hasField_13 {D : va_G} {cy : Nat → ClassId} {ad : Nat → Nat} {bs : Nat} {X : State → Heap → Prop} (s : t_S) : ∀ (n : Nat) (y0 : Int32) (y1 : Int32) (y2 : Int32) (Q : Int32 → Prop) (hk : t_hk (t_loop (b_X6_hasField_13 s) n (y0, y1, y2)) Q), mj_G D cy ad bs X cX6_hasField 5 yX6_hasField.cls (some .boolean) yX6_hasField.name 0 0 0 1065 (t_P (fun v s' => s' = s ∧ ∃ x, v = some (.int x) ∧ Q (x))) 13 [(0, .ref 845), (2, .int (y0)), (3, .int (y1)), (4, .int (y2))] [] (t_m s) 1065 0 0 := by
  intro n
  induction n with
  | zero => intro y0 y1 y2 Q hk; obtain ⟨r, hr, _⟩ := hk; cases hr
  | succ n ih =>
    intro y0 y1 y2 Q hk
    exact B_X6_hasField_13 y0 y1 y2 s (fun y => t_lq (b_X6_hasField_13 s) n Q y) (fun y0' y1' y2' hy => ih y0' y1' y2' Q hy) (t_lp hk)
noncomputable def f_X6_hasField (x1 : Int32) (x2 : Int32) (s : t_S) : Option (Int32) :=
 if t_ix x1 6100 = true then
  t_loop (b_X6_hasField_13 s) t_N (x2, (s.1 355 (x1.toNatClampNeg)), 0)
else none
set_option maxRecDepth 4000 in
set_option maxHeartbeats 1000000 in
theorem C_X6_hasField (x1 : Int32) (x2 : Int32) (s : t_S) (r : Int32) (hr : f_X6_hasField x1 x2 s = some r) : t_C yX6_hasField cX6_hasField 5 (some .boolean) 0 [.ref 845, .int x1, .int x2] s (fun v s' => v = some (.int r) ∧ s' = s) := by
  refine t_C.imp (P := fun v s' => s' = s ∧ ∃ x, v = some (.int x) ∧ (fun q => q = r) (x)) (t_C.of (by decide +kernel) (Nat.le_of_ble_eq_true rfl) ?_) (fun v s' hp => by obtain ⟨rfl, x, rfl, rfl⟩ := hp; exact ⟨rfl, rfl⟩)
  intro D cy ad bs X
  have hk : t_hk (f_X6_hasField x1 x2 s) (fun q => q = r) := ⟨r, hr, rfl⟩
  show mj_G D cy ad bs X cX6_hasField 5 yX6_hasField.cls (some .boolean) yX6_hasField.name 0 0 0 1065 (t_P (fun v s' => s' = s ∧ ∃ x, v = some (.int x) ∧ (fun q => q = r) (x))) 0 [(0, .ref 845), (1, .int x1), (2, .int x2)] [] (t_m s) 1065 0 0
  refine mj_aload_n dX6_hasField_0 0 rfl ?_
  refine t_getR 353 dX6_hasField_1 F_X6_38 qr_845_2 ?_
  refine t_getR 355 dX6_hasField_4 F_X6_445 qr_353_1 ?_
  refine mj_iload_n dX6_hasField_7 1 rfl ?_
  refine t_chkK hk (fun c0 hk => ?_)
  refine t_iald dX6_hasField_8 qa_355 (t_ixv c0) ?_
  refine mj_istore_n 3 (lv2 := [(3, .int (s.1 355 (x1.toNatClampNeg))), (0, .ref 845), (1, .int x1), (2, .int x2)]) dX6_hasField_9 rfl (by decide) rfl ?_
  refine mj_iconst (v := 0) dX6_hasField_10 (by decide) ?_
  refine mj_istore (lv2 := [(4, .int 0), (3, .int (s.1 355 (x1.toNatClampNeg))), (0, .ref 845), (1, .int x1), (2, .int x2)]) dX6_hasField_11 (by decide) rfl ?_
  refine mj_sublv [(0, .ref 845), (2, .int x2), (3, .int (s.1 355 (x1.toNatClampNeg))), (4, .int 0)] [2, 4, 1, 0] rfl ?_
  exact LH_X6_hasField_13 _ _ x2 (s.1 355 (x1.toNatClampNeg)) 0 _ hk

