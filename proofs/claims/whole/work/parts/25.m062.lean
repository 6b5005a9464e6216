/-! Methods as functions, 62: X13_note, X13_placeSlot, X13_pushFrame, X13_stepIn, X13_tellVar, X13_typeAt, X13_varPlace -/
theorem qa_1001 : t_oka 1001 1 401 = true := by decide +kernel
theorem qa_1002 : t_oka 1002 1 401 = true := by decide +kernel
theorem qa_1039 : t_oka 1039 1 64 = true := by decide +kernel
theorem qa_1041 : t_oka 1041 1 64 = true := by decide +kernel
theorem qa_1058 : t_oka 1058 3 512 = true := by decide +kernel
theorem qa_976 : t_oka 976 1 64 = true := by decide +kernel
theorem qa_985 : t_oka 985 1 40 = true := by decide +kernel
theorem qa_993 : t_oka 993 1 401 = true := by decide +kernel
theorem qf_950_174 : t_okf 950 13 174 0 = true := by decide +kernel
theorem qf_950_81 : t_okf 950 13 81 0 = true := by decide +kernel
theorem qr_950_154 : t_okr 950 13 154 1039 = true := by decide +kernel
theorem qr_950_156 : t_okr 950 13 156 1041 = true := by decide +kernel
theorem qr_950_177 : t_okr 950 13 177 1058 = true := by decide +kernel
theorem qr_950_51 : t_okr 950 13 51 976 = true := by decide +kernel
theorem qr_950_61 : t_okr 950 13 61 985 = true := by decide +kernel
theorem qr_950_71 : t_okr 950 13 71 993 = true := by decide +kernel
theorem qr_950_79 : t_okr 950 13 79 1001 = true := by decide +kernel
theorem qr_950_80 : t_okr 950 13 80 1002 = true := by decide +kernel
theorem dX13_note_0 : decode cX13_note 0 = .ok (.aload_n 0, 1) := by decide +kernel
theorem dX13_note_1 : decode cX13_note 1 = .ok (.getfield 1300, 3) := by decide +kernel
theorem dX13_note_11 : decode cX13_note 11 = .ok (.aload_n 0, 1) := by decide +kernel
theorem dX13_note_12 : decode cX13_note 12 = .ok (.getfield 1300, 3) := by decide +kernel
theorem dX13_note_15 : decode cX13_note 15 = .ok (.l2i, 1) := by decide +kernel
theorem dX13_note_16 : decode cX13_note 16 = .ok (.istore 5, 2) := by decide +kernel
theorem dX13_note_18 : decode cX13_note 18 = .ok (.aload_n 0, 1) := by decide +kernel
theorem dX13_note_19 : decode cX13_note 19 = .ok (.getfield 324, 3) := by decide +kernel
theorem dX13_note_22 : decode cX13_note 22 = .ok (.iload 5, 2) := by decide +kernel
theorem dX13_note_24 : decode cX13_note 24 = .ok (.iload_n 1, 1) := by decide +kernel
theorem dX13_note_25 : decode cX13_note 25 = .ok (.iastore, 1) := by decide +kernel
theorem dX13_note_26 : decode cX13_note 26 = .ok (.aload_n 0, 1) := by decide +kernel
theorem dX13_note_27 : decode cX13_note 27 = .ok (.getfield 327, 3) := by decide +kernel
theorem dX13_note_30 : decode cX13_note 30 = .ok (.iload 5, 2) := by decide +kernel
theorem dX13_note_32 : decode cX13_note 32 = .ok (.iload_n 2, 1) := by decide +kernel
theorem dX13_note_33 : decode cX13_note 33 = .ok (.iastore, 1) := by decide +kernel
theorem dX13_note_34 : decode cX13_note 34 = .ok (.aload_n 0, 1) := by decide +kernel
theorem dX13_note_35 : decode cX13_note 35 = .ok (.getfield 330, 3) := by decide +kernel
theorem dX13_note_38 : decode cX13_note 38 = .ok (.iload 5, 2) := by decide +kernel
theorem dX13_note_4 : decode cX13_note 4 = .ok (.ldc2_w 1303, 3) := by decide +kernel
theorem dX13_note_40 : decode cX13_note 40 = .ok (.iload_n 3, 1) := by decide +kernel
theorem dX13_note_41 : decode cX13_note 41 = .ok (.iastore, 1) := by decide +kernel
theorem dX13_note_42 : decode cX13_note 42 = .ok (.aload_n 0, 1) := by decide +kernel
theorem dX13_note_43 : decode cX13_note 43 = .ok (.getfield 333, 3) := by decide +kernel
theorem dX13_note_46 : decode cX13_note 46 = .ok (.iload 5, 2) := by decide +kernel
theorem dX13_note_48 : decode cX13_note 48 = .ok (.iload 4, 2) := by decide +kernel
theorem dX13_note_50 : decode cX13_note 50 = .ok (.ifCond .lt 7, 3) := by decide +kernel
theorem dX13_note_53 : decode cX13_note 53 = .ok (.iconst 1, 1) := by decide +kernel
theorem dX13_note_54 : decode cX13_note 54 = .ok (.goto 4, 3) := by decide +kernel
theorem dX13_note_57 : decode cX13_note 57 = .ok (.iconst 0, 1) := by decide +kernel
theorem dX13_note_58 : decode cX13_note 58 = .ok (.bastore, 1) := by decide +kernel
theorem dX13_note_59 : decode cX13_note 59 = .ok (.iload 4, 2) := by decide +kernel
theorem dX13_note_61 : decode cX13_note 61 = .ok (.ifCond .lt 15, 3) := by decide +kernel
theorem dX13_note_64 : decode cX13_note 64 = .ok (.aload_n 0, 1) := by decide +kernel
theorem dX13_note_65 : decode cX13_note 65 = .ok (.iload 4, 2) := by decide +kernel
theorem dX13_note_67 : decode cX13_note 67 = .ok (.sipush 2056, 3) := by decide +kernel
theorem dX13_note_7 : decode cX13_note 7 = .ok (.lcmp, 1) := by decide +kernel
theorem dX13_note_70 : decode cX13_note 70 = .ok (.iload 5, 2) := by decide +kernel
theorem dX13_note_72 : decode cX13_note 72 = .ok (.iadd, 1) := by decide +kernel
theorem dX13_note_73 : decode cX13_note 73 = .ok (.invokevirtual 861, 3) := by decide +kernel
theorem dX13_note_76 : decode cX13_note 76 = .ok (.aload_n 0, 1) := by decide +kernel
theorem dX13_note_77 : decode cX13_note 77 = .ok (.aload_n 0, 1) := by decide +kernel
theorem dX13_note_78 : decode cX13_note 78 = .ok (.getfield 1300, 3) := by decide +kernel
theorem dX13_note_8 : decode cX13_note 8 = .ok (.ifCond .ge 68, 3) := by decide +kernel
theorem dX13_note_81 : decode cX13_note 81 = .ok (.lconst 1, 1) := by decide +kernel
theorem dX13_note_82 : decode cX13_note 82 = .ok (.ladd, 1) := by decide +kernel
theorem dX13_note_83 : decode cX13_note 83 = .ok (.putfield 1300, 3) := by decide +kernel
theorem dX13_note_86 : decode cX13_note 86 = .ok (.return_, 1) := by decide +kernel
noncomputable def k_X13_note_76 (s : t_S) : Option (t_S) :=
 t_let (t_setJ s 950 171 ((s.2.1 950 171) + (1 : Int64))) (fun s1 =>
 some (s1))
set_option maxRecDepth 4000 in
set_option maxHeartbeats 1000000 in
theorem B_X13_note_76 {D : va_G} {cy : Nat → ClassId} {ad : Nat → Nat} {bs : Nat} {X : State → Heap → Prop} (s : t_S) (Q : t_S → Prop) (hk : t_hk (k_X13_note_76 s) Q) : mj_G D cy ad bs X cX13_note 6 yX13_note.cls none yX13_note.name 3 0 0 1065 (t_P (fun v s' => v = none ∧ Q (s'))) 76 [(0, .ref 950)] [] (t_m s) 1065 0 0 := by
  refine mj_aload_n dX13_note_76 0 rfl ?_
  refine mj_aload_n dX13_note_77 0 rfl ?_
  refine t_getJ dX13_note_78 F_X13_1300 qf_950_171 ?_
  refine mj_lconst (v := 1) dX13_note_81 (by decide) ?_
  refine mj_ladd dX13_note_82 ?_
  refine t_putJK dX13_note_83 F_X13_1300 qf_950_171 rfl (fun s1 ws1 => t_letE hk ws1 (fun hk => ?_))
  exact t_somK hk (fun hf => t_vret dX13_note_86 rfl ⟨rfl, hf⟩ (Nat.le_of_ble_eq_true rfl) (Nat.le_of_ble_eq_true rfl))
noncomputable def k_X13_note_58 (l4 : Int32) (l5 : Int32) (k0 : Int32) (k1 : Int32) (s : t_S) : Option (t_S) :=
 if t_ix k1 300 = true then
  if k0 = 0 ∨ k0 = 1 then
  t_let (t_setI s 1055 (k1.toNatClampNeg) k0) (fun s1 =>
 if l4 < (0 : Int32) then (k_X13_note_76 s1)
 else ((f_X13_copy l4 ((2056 : Int32) + l5) s1).bind (fun r3 =>
 k_X13_note_76 r3)))
else none
else none
set_option maxRecDepth 4000 in
set_option maxHeartbeats 1000000 in
theorem B_X13_note_58 {D : va_G} {cy : Nat → ClassId} {ad : Nat → Nat} {bs : Nat} {X : State → Heap → Prop} (l4 : Int32) (l5 : Int32) (k0 : Int32) (k1 : Int32) (s : t_S) (Q : t_S → Prop) (hk : t_hk (k_X13_note_58 l4 l5 k0 k1 s) Q) : mj_G D cy ad bs X cX13_note 6 yX13_note.cls none yX13_note.name 3 0 0 1065 (t_P (fun v s' => v = none ∧ Q (s'))) 58 [(0, .ref 950), (4, .int l4), (5, .int l5)] [.int k0, .int k1, .ref 1055] (t_m s) 1065 0 0 := by
  refine t_chkK hk (fun c0 hk => ?_)
  refine t_chkK hk (fun c1 hk => ?_)
  refine t_zastK dX13_note_58 qa_1055 (t_ixv c0) c1 (fun s1 ws1 => t_letE hk ws1 (fun hk => ?_))
  refine mj_iload dX13_note_59 1 rfl ?_
  refine mj_if_lt 76 dX13_note_61 (by decide) (fun z => t_posK hk z (fun hk => ?_)) (fun z => t_negK hk z (fun hk => ?_))
  · refine mj_sublv [(0, .ref 950)] [0] rfl ?_
    exact B_X13_note_76 _ _ hk
  · refine mj_aload_n dX13_note_64 0 rfl ?_
    refine mj_iload dX13_note_65 1 rfl ?_
    refine mj_sipush (v := 2056) dX13_note_67 (by decide) ?_
    refine mj_iload dX13_note_70 2 rfl ?_
    refine mj_iadd dX13_note_72 ?_
    refine t_bndK hk (fun r3 er3 hk => ?_)
    refine t_callVvE dX13_note_73 M_X13_copy (C_X13_copy _ _ _ _ er3) ML_X13_861 IM_X13_copy SE_X13_copy qc_950 rfl (As := [.int l4, .int ((2056 : Int32) + l5)]) rfl rfl (Nat.le_of_ble_eq_true rfl) (Nat.le_of_ble_eq_true rfl) (Nat.le_of_ble_eq_true rfl) (Nat.le_of_ble_eq_true rfl) ?_
    refine mj_sublv [(0, .ref 950)] [0] rfl ?_
    exact B_X13_note_76 _ _ hk
noncomputable def f_X13_note (x1 : Int32) (x2 : Int32) (x3 : Int32) (x4 : Int32) (s : t_S) : Option (t_S) :=
 if (0 : Int32) ≤ (lg_cmp (s.2.1 950 171) (300 : Int64)) then (k_X13_note_76 s)
 else (if t_ix ((s.2.1 950 171).toInt32) 300 = true then
  t_let (t_setI s 1052 (((s.2.1 950 171).toInt32).toNatClampNeg) x1) (fun s1 =>
 t_let (t_setI s1 1053 (((s.2.1 950 171).toInt32).toNatClampNeg) x2) (fun s2 =>
 t_let (t_setI s2 1054 (((s.2.1 950 171).toInt32).toNatClampNeg) x3) (fun s3 =>
 if x4 < (0 : Int32) then (k_X13_note_58 x4 ((s.2.1 950 171).toInt32) 0 ((s.2.1 950 171).toInt32) s3)
 else (k_X13_note_58 x4 ((s.2.1 950 171).toInt32) 1 ((s.2.1 950 171).toInt32) s3))))
else none)
set_option maxRecDepth 4000 in
set_option maxHeartbeats 1000000 in
theorem C_X13_note (x1 : Int32) (x2 : Int32) (x3 : Int32) (x4 : Int32) (s : t_S) (r : t_S) (hr : f_X13_note x1 x2 x3 x4 s = some r) : t_C yX13_note cX13_note 6 none 3 [.ref 950, .int x1, .int x2, .int x3, .int x4] s (fun v s' => v = none ∧ s' = r) := by
  refine t_C.imp (P := fun v s' => v = none ∧ (fun q => q = r) (s')) (t_C.of (by decide +kernel) (Nat.le_of_ble_eq_true rfl) ?_) (fun v s' hp => hp)
  intro D cy ad bs X
  have hk : t_hk (f_X13_note x1 x2 x3 x4 s) (fun q => q = r) := ⟨r, hr, rfl⟩
  show mj_G D cy ad bs X cX13_note 6 yX13_note.cls none yX13_note.name 3 0 0 1065 (t_P (fun v s' => v = none ∧ (fun q => q = r) (s'))) 0 [(0, .ref 950), (1, .int x1), (2, .int x2), (3, .int x3), (4, .int x4)] [] (t_m s) 1065 0 0
  refine mj_aload_n dX13_note_0 0 rfl ?_
  refine t_getJ dX13_note_1 F_X13_1300 qf_950_171 ?_
  refine mj_ldc2 dX13_note_4 K_X13_1303 ?_
  refine mj_lcmp dX13_note_7 ?_
  refine mj_if_ge 76 dX13_note_8 (by decide) (fun z => t_posK hk z (fun hk => ?_)) (fun z => t_negK hk z (fun hk => ?_))
  · refine mj_sublv [(0, .ref 950)] [0] rfl ?_
    exact B_X13_note_76 _ _ hk
  · refine mj_aload_n dX13_note_11 0 rfl ?_
    refine t_getJ dX13_note_12 F_X13_1300 qf_950_171 ?_
    refine mj_l2i (v := (s.2.1 950 171).toInt32) dX13_note_15 rfl ?_
    refine mj_istore (lv2 := [(5, .int ((s.2.1 950 171).toInt32)), (0, .ref 950), (1, .int x1), (2, .int x2), (3, .int x3), (4, .int x4)]) dX13_note_16 (by decide) rfl ?_
    refine mj_aload_n dX13_note_18 1 rfl ?_
    refine t_getR 1052 dX13_note_19 F_X13_324 qr_950_167 ?_
    refine mj_iload dX13_note_22 0 rfl ?_
    refine mj_iload_n dX13_note_24 2 rfl ?_
    refine t_chkK hk (fun c0 hk => ?_)
    refine t_iastK dX13_note_25 qa_1052 (t_ixv c0) (fun s1 ws1 => t_letE hk ws1 (fun hk => ?_))
    refine mj_aload_n dX13_note_26 1 rfl ?_
    refine t_getR 1053 dX13_note_27 F_X13_327 qr_950_168 ?_
    refine mj_iload dX13_note_30 0 rfl ?_
    refine mj_iload_n dX13_note_32 3 rfl ?_
    refine t_iastK dX13_note_33 qa_1053 (t_ixv c0) (fun s2 ws2 => t_letE hk ws2 (fun hk => ?_))
    refine mj_aload_n dX13_note_34 1 rfl ?_
    refine t_getR 1054 dX13_note_35 F_X13_330 qr_950_169 ?_
    refine mj_iload dX13_note_38 0 rfl ?_
    refine mj_iload_n dX13_note_40 4 rfl ?_
    refine t_iastK dX13_note_41 qa_1054 (t_ixv c0) (fun s3 ws3 => t_letE hk ws3 (fun hk => ?_))
    refine mj_aload_n dX13_note_42 1 rfl ?_
    refine t_getR 1055 dX13_note_43 F_X13_333 qr_950_170 ?_
    refine mj_iload dX13_note_46 0 rfl ?_
    refine mj_iload dX13_note_48 5 rfl ?_
    refine mj_if_lt 57 dX13_note_50 (by decide) (fun z => t_posK hk z (fun hk => ?_)) (fun z => t_negK hk z (fun hk => ?_))
    · refine mj_iconst (v := 0) dX13_note_57 (by decide) ?_
      refine mj_sublv [(0, .ref 950), (4, .int x4), (5, .int ((s.2.1 950 171).toInt32))] [1, 5, 0] rfl ?_
      exact B_X13_note_58 _ _ _ _ _ _ hk
    · refine mj_iconst (v := 1) dX13_note_53 (by decide) ?_
      refine mj_goto 58 dX13_note_54 (by decide) ?_
      refine mj_sublv [(0, .ref 950), (4, .int x4), (5, .int ((s.2.1 950 171).toInt32))] [1, 5, 0] rfl ?_
      exact B_X13_note_58 _ _ _ _ _ _ hk

theorem dX13_placeSlot_0 : decode cX13_placeSlot 0 = .ok (.iload_n 2, 1) := by decide +kernel
theorem dX13_placeSlot_1 : decode cX13_placeSlot 1 = .ok (.bipush 100, 2) := by decide +kernel
theorem dX13_placeSlot_11 : decode cX13_placeSlot 11 = .ok (.iload_n 1, 1) := by decide +kernel
theorem dX13_placeSlot_12 : decode cX13_placeSlot 12 = .ok (.imul, 1) := by decide +kernel
theorem dX13_placeSlot_13 : decode cX13_placeSlot 13 = .ok (.iadd, 1) := by decide +kernel
theorem dX13_placeSlot_14 : decode cX13_placeSlot 14 = .ok (.iload_n 2, 1) := by decide +kernel
theorem dX13_placeSlot_15 : decode cX13_placeSlot 15 = .ok (.iadd, 1) := by decide +kernel
theorem dX13_placeSlot_16 : decode cX13_placeSlot 16 = .ok (.bipush 100, 2) := by decide +kernel
theorem dX13_placeSlot_18 : decode cX13_placeSlot 18 = .ok (.isub, 1) := by decide +kernel
theorem dX13_placeSlot_19 : decode cX13_placeSlot 19 = .ok (.goto 18, 3) := by decide +kernel
theorem dX13_placeSlot_22 : decode cX13_placeSlot 22 = .ok (.aload_n 0, 1) := by decide +kernel
theorem dX13_placeSlot_23 : decode cX13_placeSlot 23 = .ok (.iload_n 1, 1) := by decide +kernel
theorem dX13_placeSlot_24 : decode cX13_placeSlot 24 = .ok (.aload_n 0, 1) := by decide +kernel
theorem dX13_placeSlot_25 : decode cX13_placeSlot 25 = .ok (.getfield 282, 3) := by decide +kernel
theorem dX13_placeSlot_28 : decode cX13_placeSlot 28 = .ok (.iload_n 1, 1) := by decide +kernel
theorem dX13_placeSlot_29 : decode cX13_placeSlot 29 = .ok (.iaload, 1) := by decide +kernel
theorem dX13_placeSlot_3 : decode cX13_placeSlot 3 = .ok (.if_icmp .lt 19, 3) := by decide +kernel
theorem dX13_placeSlot_30 : decode cX13_placeSlot 30 = .ok (.iconst 1, 1) := by decide +kernel
theorem dX13_placeSlot_31 : decode cX13_placeSlot 31 = .ok (.isub, 1) := by decide +kernel
theorem dX13_placeSlot_32 : decode cX13_placeSlot 32 = .ok (.invokevirtual 1340, 3) := by decide +kernel
theorem dX13_placeSlot_35 : decode cX13_placeSlot 35 = .ok (.iload_n 2, 1) := by decide +kernel
theorem dX13_placeSlot_36 : decode cX13_placeSlot 36 = .ok (.iadd, 1) := by decide +kernel
theorem dX13_placeSlot_37 : decode cX13_placeSlot 37 = .ok (.ireturn, 1) := by decide +kernel
theorem dX13_placeSlot_6 : decode cX13_placeSlot 6 = .ok (.sipush 840, 3) := by decide +kernel
theorem dX13_placeSlot_9 : decode cX13_placeSlot 9 = .ok (.bipush 8, 2) := by decide +kernel
noncomputable def f_X13_placeSlot (x1 : Int32) (x2 : Int32) (s : t_S) : Option (Int32) :=
 if x2 < (100 : Int32) then (if t_ix x1 8 = true then
  some ((f_X13_frameSlot x1 ((s.1 1038 (x1.toNatClampNeg)) - (1 : Int32)) s) + x2)
else none)
 else (some ((((840 : Int32) + ((8 : Int32) * x1)) + x2) - (100 : Int32)))
set_option maxRecDepth 4000 in
set_option maxHeartbeats 1000000 in
theorem C_X13_placeSlot (x1 : Int32) (x2 : Int32) (s : t_S) (r : Int32) (hr : f_X13_placeSlot x1 x2 s = some r) : t_C yX13_placeSlot cX13_placeSlot 3 (some .int) 1 [.ref 950, .int x1, .int x2] s (fun v s' => v = some (.int r) ∧ s' = s) := by
  refine t_C.imp (P := fun v s' => s' = s ∧ ∃ x, v = some (.int x) ∧ (fun q => q = r) (x)) (t_C.of (by decide +kernel) (Nat.le_of_ble_eq_true rfl) ?_) (fun v s' hp => by obtain ⟨rfl, x, rfl, rfl⟩ := hp; exact ⟨rfl, rfl⟩)
  intro D cy ad bs X
  have hk : t_hk (f_X13_placeSlot x1 x2 s) (fun q => q = r) := ⟨r, hr, rfl⟩
  show mj_G D cy ad bs X cX13_placeSlot 3 yX13_placeSlot.cls (some .int) yX13_placeSlot.name 1 0 0 1065 (t_P (fun v s' => s' = s ∧ ∃ x, v = some (.int x) ∧ (fun q => q = r) (x))) 0 [(0, .ref 950), (1, .int x1), (2, .int x2)] [] (t_m s) 1065 0 0
  refine mj_iload_n dX13_placeSlot_0 2 rfl ?_
  refine mj_bipush (v := 100) dX13_placeSlot_1 (by decide) ?_
  refine mj_icmp_lt 22 dX13_placeSlot_3 (by decide) (fun z => t_posK hk z (fun hk => ?_)) (fun z => t_negK hk z (fun hk => ?_))
  · refine mj_aload_n dX13_placeSlot_22 0 rfl ?_
    refine mj_iload_n dX13_placeSlot_23 1 rfl ?_
    refine mj_aload_n dX13_placeSlot_24 0 rfl ?_
    refine t_getR 1038 dX13_placeSlot_25 F_X13_282 qr_950_153 ?_
    refine mj_iload_n dX13_placeSlot_28 1 rfl ?_
    refine t_chkK hk (fun c0 hk => ?_)
    refine t_iald dX13_placeSlot_29 qa_1038 (t_ixv c0) ?_
    refine mj_iconst (v := 1) dX13_placeSlot_30 (by decide) ?_
    refine mj_isub dX13_placeSlot_31 ?_
    refine t_callViP dX13_placeSlot_32 M_X13_frameSlot (C_X13_frameSlot _ _ _) ML_X13_1340 IM_X13_frameSlot SE_X13_frameSlot qc_950 rfl (As := [.int x1, .int ((s.1 1038 (x1.toNatClampNeg)) - (1 : Int32))]) rfl rfl (Nat.le_of_ble_eq_true rfl) (Nat.le_of_ble_eq_true rfl) (Nat.le_of_ble_eq_true rfl) (Nat.le_of_ble_eq_true rfl) ?_
    refine mj_iload_n dX13_placeSlot_35 2 rfl ?_
    refine mj_iadd dX13_placeSlot_36 ?_
    exact t_somK hk (fun hf => t_iret dX13_placeSlot_37 rfl rfl ⟨rfl, _, rfl, hf⟩ (Nat.le_of_ble_eq_true rfl) (Nat.le_of_ble_eq_true rfl))
  · refine mj_sipush (v := 840) dX13_placeSlot_6 (by decide) ?_
    refine mj_bipush (v := 8) dX13_placeSlot_9 (by decide) ?_
    refine mj_iload_n dX13_placeSlot_11 1 rfl ?_
    refine mj_imul dX13_placeSlot_12 ?_
    refine mj_iadd dX13_placeSlot_13 ?_
    refine mj_iload_n dX13_placeSlot_14 2 rfl ?_
    refine mj_iadd dX13_placeSlot_15 ?_
    refine mj_bipush (v := 100) dX13_placeSlot_16 (by decide) ?_
    refine mj_isub dX13_placeSlot_18 ?_
    refine mj_goto 37 dX13_placeSlot_19 (by decide) ?_
    exact t_somK hk (fun hf => t_iret dX13_placeSlot_37 rfl rfl ⟨rfl, _, rfl, hf⟩ (Nat.le_of_ble_eq_true rfl) (Nat.le_of_ble_eq_true rfl))

theorem dX13_pushFrame_0 : decode cX13_pushFrame 0 = .ok (.aload_n 0, 1) := by decide +kernel
theorem dX13_pushFrame_1 : decode cX13_pushFrame 1 = .ok (.getfield 282, 3) := by decide +kernel
theorem dX13_pushFrame_12 : decode cX13_pushFrame 12 = .ok (.iload_n 1, 1) := by decide +kernel
theorem dX13_pushFrame_13 : decode cX13_pushFrame 13 = .ok (.dup2, 1) := by decide +kernel
theorem dX13_pushFrame_14 : decode cX13_pushFrame 14 = .ok (.iaload, 1) := by decide +kernel
theorem dX13_pushFrame_15 : decode cX13_pushFrame 15 = .ok (.iconst 1, 1) := by decide +kernel
theorem dX13_pushFrame_16 : decode cX13_pushFrame 16 = .ok (.iadd, 1) := by decide +kernel
theorem dX13_pushFrame_17 : decode cX13_pushFrame 17 = .ok (.iastore, 1) := by decide +kernel
theorem dX13_pushFrame_18 : decode cX13_pushFrame 18 = .ok (.aload_n 0, 1) := by decide +kernel
theorem dX13_pushFrame_19 : decode cX13_pushFrame 19 = .ok (.getfield 285, 3) := by decide +kernel
theorem dX13_pushFrame_22 : decode cX13_pushFrame 22 = .ok (.bipush 8, 2) := by decide +kernel
theorem dX13_pushFrame_24 : decode cX13_pushFrame 24 = .ok (.iload_n 1, 1) := by decide +kernel
theorem dX13_pushFrame_25 : decode cX13_pushFrame 25 = .ok (.imul, 1) := by decide +kernel
theorem dX13_pushFrame_26 : decode cX13_pushFrame 26 = .ok (.iload 4, 2) := by decide +kernel
theorem dX13_pushFrame_28 : decode cX13_pushFrame 28 = .ok (.iadd, 1) := by decide +kernel
theorem dX13_pushFrame_29 : decode cX13_pushFrame 29 = .ok (.iload_n 2, 1) := by decide +kernel
theorem dX13_pushFrame_30 : decode cX13_pushFrame 30 = .ok (.iastore, 1) := by decide +kernel
theorem dX13_pushFrame_31 : decode cX13_pushFrame 31 = .ok (.aload_n 0, 1) := by decide +kernel
theorem dX13_pushFrame_32 : decode cX13_pushFrame 32 = .ok (.getfield 288, 3) := by decide +kernel
theorem dX13_pushFrame_35 : decode cX13_pushFrame 35 = .ok (.bipush 8, 2) := by decide +kernel
theorem dX13_pushFrame_37 : decode cX13_pushFrame 37 = .ok (.iload_n 1, 1) := by decide +kernel
theorem dX13_pushFrame_38 : decode cX13_pushFrame 38 = .ok (.imul, 1) := by decide +kernel
theorem dX13_pushFrame_39 : decode cX13_pushFrame 39 = .ok (.iload 4, 2) := by decide +kernel
theorem dX13_pushFrame_4 : decode cX13_pushFrame 4 = .ok (.iload_n 1, 1) := by decide +kernel
theorem dX13_pushFrame_41 : decode cX13_pushFrame 41 = .ok (.iadd, 1) := by decide +kernel
theorem dX13_pushFrame_42 : decode cX13_pushFrame 42 = .ok (.aload_n 0, 1) := by decide +kernel
theorem dX13_pushFrame_43 : decode cX13_pushFrame 43 = .ok (.getfield 123, 3) := by decide +kernel
theorem dX13_pushFrame_46 : decode cX13_pushFrame 46 = .ok (.iload_n 2, 1) := by decide +kernel
theorem dX13_pushFrame_47 : decode cX13_pushFrame 47 = .ok (.iaload, 1) := by decide +kernel
theorem dX13_pushFrame_48 : decode cX13_pushFrame 48 = .ok (.iastore, 1) := by decide +kernel
theorem dX13_pushFrame_49 : decode cX13_pushFrame 49 = .ok (.aload_n 0, 1) := by decide +kernel
theorem dX13_pushFrame_5 : decode cX13_pushFrame 5 = .ok (.iaload, 1) := by decide +kernel
theorem dX13_pushFrame_50 : decode cX13_pushFrame 50 = .ok (.getfield 291, 3) := by decide +kernel
theorem dX13_pushFrame_53 : decode cX13_pushFrame 53 = .ok (.bipush 8, 2) := by decide +kernel
theorem dX13_pushFrame_55 : decode cX13_pushFrame 55 = .ok (.iload_n 1, 1) := by decide +kernel
theorem dX13_pushFrame_56 : decode cX13_pushFrame 56 = .ok (.imul, 1) := by decide +kernel
theorem dX13_pushFrame_57 : decode cX13_pushFrame 57 = .ok (.iload 4, 2) := by decide +kernel
theorem dX13_pushFrame_59 : decode cX13_pushFrame 59 = .ok (.iadd, 1) := by decide +kernel
theorem dX13_pushFrame_6 : decode cX13_pushFrame 6 = .ok (.istore 4, 2) := by decide +kernel
theorem dX13_pushFrame_60 : decode cX13_pushFrame 60 = .ok (.iload_n 3, 1) := by decide +kernel
theorem dX13_pushFrame_61 : decode cX13_pushFrame 61 = .ok (.iastore, 1) := by decide +kernel
theorem dX13_pushFrame_62 : decode cX13_pushFrame 62 = .ok (.iconst 0, 1) := by decide +kernel
theorem dX13_pushFrame_63 : decode cX13_pushFrame 63 = .ok (.istore 5, 2) := by decide +kernel
theorem dX13_pushFrame_65 : decode cX13_pushFrame 65 = .ok (.iload 5, 2) := by decide +kernel
theorem dX13_pushFrame_67 : decode cX13_pushFrame 67 = .ok (.bipush 8, 2) := by decide +kernel
theorem dX13_pushFrame_69 : decode cX13_pushFrame 69 = .ok (.if_icmp .ge 23, 3) := by decide +kernel
theorem dX13_pushFrame_72 : decode cX13_pushFrame 72 = .ok (.aload_n 0, 1) := by decide +kernel
theorem dX13_pushFrame_73 : decode cX13_pushFrame 73 = .ok (.aload_n 0, 1) := by decide +kernel
theorem dX13_pushFrame_74 : decode cX13_pushFrame 74 = .ok (.iload_n 1, 1) := by decide +kernel
theorem dX13_pushFrame_75 : decode cX13_pushFrame 75 = .ok (.iload 4, 2) := by decide +kernel
theorem dX13_pushFrame_77 : decode cX13_pushFrame 77 = .ok (.invokevirtual 1340, 3) := by decide +kernel
theorem dX13_pushFrame_8 : decode cX13_pushFrame 8 = .ok (.aload_n 0, 1) := by decide +kernel
theorem dX13_pushFrame_80 : decode cX13_pushFrame 80 = .ok (.iload 5, 2) := by decide +kernel
theorem dX13_pushFrame_82 : decode cX13_pushFrame 82 = .ok (.iadd, 1) := by decide +kernel
theorem dX13_pushFrame_83 : decode cX13_pushFrame 83 = .ok (.invokevirtual 1318, 3) := by decide +kernel
theorem dX13_pushFrame_86 : decode cX13_pushFrame 86 = .ok (.iinc 5 1, 3) := by decide +kernel
theorem dX13_pushFrame_89 : decode cX13_pushFrame 89 = .ok (.goto (-24), 3) := by decide +kernel
theorem dX13_pushFrame_9 : decode cX13_pushFrame 9 = .ok (.getfield 282, 3) := by decide +kernel
theorem dX13_pushFrame_92 : decode cX13_pushFrame 92 = .ok (.return_, 1) := by decide +kernel
noncomputable def k_X13_pushFrame_65 (l1 : Int32) (l4 : Int32) (l5 : Int32) (s : t_S) : Option ((Int32 × Int32 × Int32 × t_S) ⊕ (t_S)) :=
 if (8 : Int32) ≤ l5 then ((some (s)).map Sum.inr)
 else ((f_X13_setOmit ((f_X13_frameSlot l1 l4 s) + l5) s).bind (fun r2 =>
 some (.inl (l1, l4, (l5 + 1), r2))))
set_option maxRecDepth 4000 in
set_option maxHeartbeats 1000000 in
theorem B_X13_pushFrame_65 {D : va_G} {cy : Nat → ClassId} {ad : Nat → Nat} {bs : Nat} {X : State → Heap → Prop} (l1 : Int32) (l4 : Int32) (l5 : Int32) (s : t_S) (Q : (Int32 × Int32 × Int32 × t_S) ⊕ (t_S) → Prop) (Hb65 : ∀ (y0 : Int32) (y1 : Int32) (y2 : Int32) (y3 : t_S), Q (.inl (y0, y1, y2, y3)) → mj_G D cy ad bs X cX13_pushFrame 6 yX13_pushFrame.cls none yX13_pushFrame.name 1 0 0 1065 (t_P (fun v s' => v = none ∧ Q (.inr (s')))) 65 [(0, .ref 950), (1, .int (y0)), (4, .int (y1)), (5, .int (y2))] [] (t_m y3) 1065 0 0) (hk : t_hk (k_X13_pushFrame_65 l1 l4 l5 s) Q) : mj_G D cy ad bs X cX13_pushFrame 6 yX13_pushFrame.cls none yX13_pushFrame.name 1 0 0 1065 (t_P (fun v s' => v = none ∧ Q (.inr (s')))) 65 [(0, .ref 950), (1, .int l1), (4, .int l4), (5, .int l5)] [] (t_m s) 1065 0 0 := by
  refine mj_iload dX13_pushFrame_65 3 rfl ?_
  refine mj_bipush (v := 8) dX13_pushFrame_67 (by decide) ?_
  refine mj_icmp_ge 92 dX13_pushFrame_69 (by decide) (fun z => t_posK hk z (fun hk => ?_)) (fun z => t_negK hk z (fun hk => ?_))
  · refine t_mapK hk (fun hk => ?_)
    exact t_somK hk (fun hf => t_vret dX13_pushFrame_92 rfl ⟨rfl, hf⟩ (Nat.le_of_ble_eq_true rfl) (Nat.le_of_ble_eq_true rfl))
  · refine mj_aload_n dX13_pushFrame_72 0 rfl ?_
    refine mj_aload_n dX13_pushFrame_73 0 rfl ?_
    refine mj_iload_n dX13_pushFrame_74 1 rfl ?_
    refine mj_iload dX13_pushFrame_75 2 rfl ?_
    refine t_callViP dX13_pushFrame_77 M_X13_frameSlot (C_X13_frameSlot _ _ _) ML_X13_1340 IM_X13_frameSlot SE_X13_frameSlot qc_950 rfl (As := [.int l1, .int l4]) rfl rfl (Nat.le_of_ble_eq_true rfl) (Nat.le_of_ble_eq_true rfl) (Nat.le_of_ble_eq_true rfl) (Nat.le_of_ble_eq_true rfl) ?_
    refine mj_iload dX13_pushFrame_80 3 rfl ?_
    refine mj_iadd dX13_pushFrame_82 ?_
    refine t_bndK hk (fun r2 er2 hk => ?_)
    refine t_callVvE dX13_pushFrame_83 M_X13_setOmit (C_X13_setOmit _ _ _ er2) ML_X13_1318 IM_X13_setOmit SE_X13_setOmit qc_950 rfl (As := [.int ((f_X13_frameSlot l1 l4 s) + l5)]) rfl rfl (Nat.le_of_ble_eq_true rfl) (Nat.le_of_ble_eq_true rfl) (Nat.le_of_ble_eq_true rfl) (Nat.le_of_ble_eq_true rfl) ?_
    refine mj_iinc (k := 3) (v := (l5 + 1)) (lv2 := [(5, .int (l5 + 1)), (0, .ref 950), (1, .int l1), (4, .int l4)]) dX13_pushFrame_86 rfl rfl (by decide) rfl ?_
    refine mj_goto 65 dX13_pushFrame_89 (by decide) ?_
    refine mj_sublv [(0, .ref 950), (1, .int l1), (4, .int l4), (5, .int (l5 + 1))] [1, 2, 3, 0] rfl ?_
    exact t_somK hk (fun hf => Hb65 l1 l4 (l5 + 1) r2 hf)
noncomputable def b_X13_pushFrame_65 (x : Int32 × Int32 × Int32 × t_S) : Option ((Int32 × Int32 × Int32 × t_S) ⊕ (t_S)) := k_X13_pushFrame_65 x.1 x.2.1 x.2.2.1 x.2.2.2
set_option maxRecDepth 4000 in
set_option maxHeartbeats 1000000 in
theorem LH_X13_pushFrame_65 {D : va_G} {cy : Nat → ClassId} {ad : Nat → Nat} {bs : Nat} {X : State → Heap → Prop} : ∀ (n : Nat) (y0 : Int32) (y1 : Int32) (y2 : Int32) (y3 : t_S) (Q : t_S → Prop) (hk : t_hk (t_loop (b_X13_pushFrame_65) n (y0, y1, y2, y3)) Q), mj_G D cy ad bs X cX13_pushFrame 6 yX13_pushFrame.cls none yX13_pushFrame.name 1 0 0 1065 (t_P (fun v s' => v = none ∧ Q (s'))) 65 [(0, .ref 950), (1, .int (y0)), (4, .int (y1)), (5, .int (y2))] [] (t_m y3) 1065 0 0 := by
  intro n
  induction n with
  | zero => intro y0 y1 y2 y3 Q hk; obtain ⟨r, hr, _⟩ := hk; cases hr
  | succ n ih =>
    intro y0 y1 y2 y3 Q hk
    exact B_X13_pushFrame_65 y0 y1 y2 y3 (fun y => t_lq (b_X13_pushFrame_65) n Q y) (fun y0' y1' y2' y3' hy => ih y0' y1' y2' y3' Q hy) (t_lp (b := b_X13_pushFrame_65) (n := n) (x := (y0, y1, y2, y3)) hk)
noncomputable def f_X13_pushFrame (x1 : Int32) (x2 : Int32) (x3 : Int32) (s : t_S) : Option (t_S) :=
 if t_ix x1 8 = true then
  t_let (t_setI s 1038 (x1.toNatClampNeg) ((s.1 1038 (x1.toNatClampNeg)) + (1 : Int32))) (fun s1 =>
 if t_ix (((8 : Int32) * x1) + (s.1 1038 (x1.toNatClampNeg))) 64 = true then
  t_let (t_setI s1 1039 ((((8 : Int32) * x1) + (s.1 1038 (x1.toNatClampNeg))).toNatClampNeg) x2) (fun s2 =>
 if t_ix x2 40 = true then
  t_let (t_setI s2 1040 ((((8 : Int32) * x1) + (s.1 1038 (x1.toNatClampNeg))).toNatClampNeg) (s2.1 987 (x2.toNatClampNeg))) (fun s3 =>
 t_let (t_setI s3 1041 ((((8 : Int32) * x1) + (s.1 1038 (x1.toNatClampNeg))).toNatClampNeg) x3) (fun s4 =>
 t_loop (b_X13_pushFrame_65) t_N (x1, (s.1 1038 (x1.toNatClampNeg)), 0, s4)))
else none)
else none)
else none
set_option maxRecDepth 4000 in
set_option maxHeartbeats 1000000 in
theorem C_X13_pushFrame (x1 : Int32) (x2 : Int32) (x3 : Int32) (s : t_S) (r : t_S) (hr : f_X13_pushFrame x1 x2 x3 s = some r) : t_C yX13_pushFrame cX13_pushFrame 6 none 1 [.ref 950, .int x1, .int x2, .int x3] s (fun v s' => v = none ∧ s' = r) := by
  refine t_C.imp (P := fun v s' => v = none ∧ (fun q => q = r) (s')) (t_C.of (by decide +kernel) (Nat.le_of_ble_eq_true rfl) ?_) (fun v s' hp => hp)
  intro D cy ad bs X
  have hk : t_hk (f_X13_pushFrame x1 x2 x3 s) (fun q => q = r) := ⟨r, hr, rfl⟩
  show mj_G D cy ad bs X cX13_pushFrame 6 yX13_pushFrame.cls none yX13_pushFrame.name 1 0 0 1065 (t_P (fun v s' => v = none ∧ (fun q => q = r) (s'))) 0 [(0, .ref 950), (1, .int x1), (2, .int x2), (3, .int x3)] [] (t_m s) 1065 0 0
  refine mj_aload_n dX13_pushFrame_0 0 rfl ?_
  refine t_getR 1038 dX13_pushFrame_1 F_X13_282 qr_950_153 ?_
  refine mj_iload_n dX13_pushFrame_4 1 rfl ?_
  refine t_chkK hk (fun c0 hk => ?_)
  refine t_iald dX13_pushFrame_5 qa_1038 (t_ixv c0) ?_
  refine mj_istore (lv2 := [(4, .int (s.1 1038 (x1.toNatClampNeg))), (0, .ref 950), (1, .int x1), (2, .int x2), (3, .int x3)]) dX13_pushFrame_6 (by decide) rfl ?_
  refine mj_aload_n dX13_pushFrame_8 1 rfl ?_
  refine t_getR 1038 dX13_pushFrame_9 F_X13_282 qr_950_153 ?_
  refine mj_iload_n dX13_pushFrame_12 2 rfl ?_
  refine mj_dup2 dX13_pushFrame_13 rfl rfl ?_
  refine t_iald dX13_pushFrame_14 qa_1038 (t_ixv c0) ?_
  refine mj_iconst (v := 1) dX13_pushFrame_15 (by decide) ?_
  refine mj_iadd dX13_pushFrame_16 ?_
  refine t_iastK dX13_pushFrame_17 qa_1038 (t_ixv c0) (fun s1 ws1 => t_letE hk ws1 (fun hk => ?_))
  refine mj_aload_n dX13_pushFrame_18 1 rfl ?_
  refine t_getR 1039 dX13_pushFrame_19 F_X13_285 qr_950_154 ?_
  refine mj_bipush (v := 8) dX13_pushFrame_22 (by decide) ?_
  refine mj_iload_n dX13_pushFrame_24 2 rfl ?_
  refine mj_imul dX13_pushFrame_25 ?_
  refine mj_iload dX13_pushFrame_26 0 rfl ?_
  refine mj_iadd dX13_pushFrame_28 ?_
  refine mj_iload_n dX13_pushFrame_29 3 rfl ?_
  refine t_chkK hk (fun c1 hk => ?_)
  refine t_iastK dX13_pushFrame_30 qa_1039 (t_ixv c1) (fun s2 ws2 => t_letE hk ws2 (fun hk => ?_))
  refine mj_aload_n dX13_pushFrame_31 1 rfl ?_
  refine t_getR 1040 dX13_pushFrame_32 F_X13_288 qr_950_155 ?_
  refine mj_bipush (v := 8) dX13_pushFrame_35 (by decide) ?_
  refine mj_iload_n dX13_pushFrame_37 2 rfl ?_
  refine mj_imul dX13_pushFrame_38 ?_
  refine mj_iload dX13_pushFrame_39 0 rfl ?_
  refine mj_iadd dX13_pushFrame_41 ?_
  refine mj_aload_n dX13_pushFrame_42 1 rfl ?_
  refine t_getR 987 dX13_pushFrame_43 F_X13_123 qr_950_63 ?_
  refine mj_iload_n dX13_pushFrame_46 3 rfl ?_
  refine t_chkK hk (fun c2 hk => ?_)
  refine t_iald dX13_pushFrame_47 qa_987 (t_ixv c2) ?_
  refine t_iastK dX13_pushFrame_48 qa_1040 (t_ixv c1) (fun s3 ws3 => t_letE hk ws3 (fun hk => ?_))
  refine mj_aload_n dX13_pushFrame_49 1 rfl ?_
  refine t_getR 1041 dX13_pushFrame_50 F_X13_291 qr_950_156 ?_
  refine mj_bipush (v := 8) dX13_pushFrame_53 (by decide) ?_
  refine mj_iload_n dX13_pushFrame_55 2 rfl ?_
  refine mj_imul dX13_pushFrame_56 ?_
  refine mj_iload dX13_pushFrame_57 0 rfl ?_
  refine mj_iadd dX13_pushFrame_59 ?_
  refine mj_iload_n dX13_pushFrame_60 4 rfl ?_
  refine t_iastK dX13_pushFrame_61 qa_1041 (t_ixv c1) (fun s4 ws4 => t_letE hk ws4 (fun hk => ?_))
  refine mj_iconst (v := 0) dX13_pushFrame_62 (by decide) ?_
  refine mj_istore (lv2 := [(5, .int 0), (4, .int (s.1 1038 (x1.toNatClampNeg))), (0, .ref 950), (1, .int x1), (2, .int x2), (3, .int x3)]) dX13_pushFrame_63 (by decide) rfl ?_
  refine mj_sublv [(0, .ref 950), (1, .int x1), (4, .int (s.1 1038 (x1.toNatClampNeg))), (5, .int 0)] [2, 3, 1, 0] rfl ?_
  exact LH_X13_pushFrame_65 _ x1 (s.1 1038 (x1.toNatClampNeg)) 0 s4 _ hk

theorem dX13_stepIn_0 : decode cX13_stepIn 0 = .ok (.aload_n 0, 1) := by decide +kernel
theorem dX13_stepIn_1 : decode cX13_stepIn 1 = .ok (.iload_n 1, 1) := by decide +kernel
theorem dX13_stepIn_10 : decode cX13_stepIn 10 = .ok (.aload_n 0, 1) := by decide +kernel
theorem dX13_stepIn_101 : decode cX13_stepIn 101 = .ok (.iload_n 1, 1) := by decide +kernel
theorem dX13_stepIn_102 : decode cX13_stepIn 102 = .ok (.imul, 1) := by decide +kernel
theorem dX13_stepIn_103 : decode cX13_stepIn 103 = .ok (.iload_n 3, 1) := by decide +kernel
theorem dX13_stepIn_104 : decode cX13_stepIn 104 = .ok (.iadd, 1) := by decide +kernel
theorem dX13_stepIn_105 : decode cX13_stepIn 105 = .ok (.aload_n 0, 1) := by decide +kernel
theorem dX13_stepIn_106 : decode cX13_stepIn 106 = .ok (.getfield 156, 3) := by decide +kernel
theorem dX13_stepIn_109 : decode cX13_stepIn 109 = .ok (.iload_n 2, 1) := by decide +kernel
theorem dX13_stepIn_11 : decode cX13_stepIn 11 = .ok (.getfield 282, 3) := by decide +kernel
theorem dX13_stepIn_110 : decode cX13_stepIn 110 = .ok (.iaload, 1) := by decide +kernel
theorem dX13_stepIn_111 : decode cX13_stepIn 111 = .ok (.iastore, 1) := by decide +kernel
theorem dX13_stepIn_112 : decode cX13_stepIn 112 = .ok (.return_, 1) := by decide +kernel
theorem dX13_stepIn_14 : decode cX13_stepIn 14 = .ok (.iload_n 1, 1) := by decide +kernel
theorem dX13_stepIn_15 : decode cX13_stepIn 15 = .ok (.iaload, 1) := by decide +kernel
theorem dX13_stepIn_16 : decode cX13_stepIn 16 = .ok (.iconst 1, 1) := by decide +kernel
theorem dX13_stepIn_17 : decode cX13_stepIn 17 = .ok (.isub, 1) := by decide +kernel
theorem dX13_stepIn_18 : decode cX13_stepIn 18 = .ok (.istore_n 3, 1) := by decide +kernel
theorem dX13_stepIn_19 : decode cX13_stepIn 19 = .ok (.iconst 0, 1) := by decide +kernel
theorem dX13_stepIn_2 : decode cX13_stepIn 2 = .ok (.aload_n 0, 1) := by decide +kernel
theorem dX13_stepIn_20 : decode cX13_stepIn 20 = .ok (.istore 4, 2) := by decide +kernel
theorem dX13_stepIn_22 : decode cX13_stepIn 22 = .ok (.iload 4, 2) := by decide +kernel
theorem dX13_stepIn_24 : decode cX13_stepIn 24 = .ok (.bipush 8, 2) := by decide +kernel
theorem dX13_stepIn_26 : decode cX13_stepIn 26 = .ok (.if_icmp .ge 69, 3) := by decide +kernel
theorem dX13_stepIn_29 : decode cX13_stepIn 29 = .ok (.aload_n 0, 1) := by decide +kernel
theorem dX13_stepIn_3 : decode cX13_stepIn 3 = .ok (.getfield 1475, 3) := by decide +kernel
theorem dX13_stepIn_30 : decode cX13_stepIn 30 = .ok (.sipush 260, 3) := by decide +kernel
theorem dX13_stepIn_33 : decode cX13_stepIn 33 = .ok (.aload_n 0, 1) := by decide +kernel
theorem dX13_stepIn_34 : decode cX13_stepIn 34 = .ok (.getfield 1472, 3) := by decide +kernel
theorem dX13_stepIn_37 : decode cX13_stepIn 37 = .ok (.iload 4, 2) := by decide +kernel
theorem dX13_stepIn_39 : decode cX13_stepIn 39 = .ok (.iadd, 1) := by decide +kernel
theorem dX13_stepIn_40 : decode cX13_stepIn 40 = .ok (.imul, 1) := by decide +kernel
theorem dX13_stepIn_41 : decode cX13_stepIn 41 = .ok (.aload_n 0, 1) := by decide +kernel
theorem dX13_stepIn_42 : decode cX13_stepIn 42 = .ok (.iload_n 1, 1) := by decide +kernel
theorem dX13_stepIn_43 : decode cX13_stepIn 43 = .ok (.iload_n 3, 1) := by decide +kernel
theorem dX13_stepIn_44 : decode cX13_stepIn 44 = .ok (.invokevirtual 1340, 3) := by decide +kernel
theorem dX13_stepIn_47 : decode cX13_stepIn 47 = .ok (.iload 4, 2) := by decide +kernel
theorem dX13_stepIn_49 : decode cX13_stepIn 49 = .ok (.iadd, 1) := by decide +kernel
theorem dX13_stepIn_50 : decode cX13_stepIn 50 = .ok (.invokevirtual 861, 3) := by decide +kernel
theorem dX13_stepIn_53 : decode cX13_stepIn 53 = .ok (.aload_n 0, 1) := by decide +kernel
theorem dX13_stepIn_54 : decode cX13_stepIn 54 = .ok (.getfield 342, 3) := by decide +kernel
theorem dX13_stepIn_57 : decode cX13_stepIn 57 = .ok (.bipush 64, 2) := by decide +kernel
theorem dX13_stepIn_59 : decode cX13_stepIn 59 = .ok (.iload_n 1, 1) := by decide +kernel
theorem dX13_stepIn_6 : decode cX13_stepIn 6 = .ok (.iconst (-1), 1) := by decide +kernel
theorem dX13_stepIn_60 : decode cX13_stepIn 60 = .ok (.imul, 1) := by decide +kernel
theorem dX13_stepIn_61 : decode cX13_stepIn 61 = .ok (.bipush 8, 2) := by decide +kernel
theorem dX13_stepIn_63 : decode cX13_stepIn 63 = .ok (.iload_n 3, 1) := by decide +kernel
theorem dX13_stepIn_64 : decode cX13_stepIn 64 = .ok (.imul, 1) := by decide +kernel
theorem dX13_stepIn_65 : decode cX13_stepIn 65 = .ok (.iadd, 1) := by decide +kernel
theorem dX13_stepIn_66 : decode cX13_stepIn 66 = .ok (.iload 4, 2) := by decide +kernel
theorem dX13_stepIn_68 : decode cX13_stepIn 68 = .ok (.iadd, 1) := by decide +kernel
theorem dX13_stepIn_69 : decode cX13_stepIn 69 = .ok (.iload 4, 2) := by decide +kernel
theorem dX13_stepIn_7 : decode cX13_stepIn 7 = .ok (.invokevirtual 1436, 3) := by decide +kernel
theorem dX13_stepIn_71 : decode cX13_stepIn 71 = .ok (.aload_n 0, 1) := by decide +kernel
theorem dX13_stepIn_72 : decode cX13_stepIn 72 = .ok (.getfield 117, 3) := by decide +kernel
theorem dX13_stepIn_75 : decode cX13_stepIn 75 = .ok (.aload_n 0, 1) := by decide +kernel
theorem dX13_stepIn_76 : decode cX13_stepIn 76 = .ok (.getfield 1475, 3) := by decide +kernel
theorem dX13_stepIn_79 : decode cX13_stepIn 79 = .ok (.iaload, 1) := by decide +kernel
theorem dX13_stepIn_80 : decode cX13_stepIn 80 = .ok (.if_icmp .ge 7, 3) := by decide +kernel
theorem dX13_stepIn_83 : decode cX13_stepIn 83 = .ok (.iconst 1, 1) := by decide +kernel
theorem dX13_stepIn_84 : decode cX13_stepIn 84 = .ok (.goto 4, 3) := by decide +kernel
theorem dX13_stepIn_87 : decode cX13_stepIn 87 = .ok (.iconst 0, 1) := by decide +kernel
theorem dX13_stepIn_88 : decode cX13_stepIn 88 = .ok (.bastore, 1) := by decide +kernel
theorem dX13_stepIn_89 : decode cX13_stepIn 89 = .ok (.iinc 4 1, 3) := by decide +kernel
theorem dX13_stepIn_92 : decode cX13_stepIn 92 = .ok (.goto (-70), 3) := by decide +kernel
theorem dX13_stepIn_95 : decode cX13_stepIn 95 = .ok (.aload_n 0, 1) := by decide +kernel
theorem dX13_stepIn_96 : decode cX13_stepIn 96 = .ok (.getfield 288, 3) := by decide +kernel
theorem dX13_stepIn_99 : decode cX13_stepIn 99 = .ok (.bipush 8, 2) := by decide +kernel
noncomputable def k_X13_stepIn_88 (l1 : Int32) (l2 : Int32) (l3 : Int32) (l4 : Int32) (k0 : Int32) (k1 : Int32) (s : t_S) : Option ((Int32 × Int32 × Int32 × Int32 × t_S) ⊕ (t_S)) :=
 if t_ix k1 512 = true then
  if k0 = 0 ∨ k0 = 1 then
  t_let (t_setI s 1058 (k1.toNatClampNeg) k0) (fun s1 =>
 some (.inl (l1, l2, l3, (l4 + 1), s1)))
else none
else none
set_option maxRecDepth 4000 in
set_option maxHeartbeats 1000000 in
theorem B_X13_stepIn_88 {D : va_G} {cy : Nat → ClassId} {ad : Nat → Nat} {bs : Nat} {X : State → Heap → Prop} (l1 : Int32) (l2 : Int32) (l3 : Int32) (l4 : Int32) (k0 : Int32) (k1 : Int32) (s : t_S) (Q : (Int32 × Int32 × Int32 × Int32 × t_S) ⊕ (t_S) → Prop) (Hb22 : ∀ (y0 : Int32) (y1 : Int32) (y2 : Int32) (y3 : Int32) (y4 : t_S), Q (.inl (y0, y1, y2, y3, y4)) → mj_G D cy ad bs X cX13_stepIn 5 yX13_stepIn.cls none yX13_stepIn.name 3 0 0 1065 (t_P (fun v s' => v = none ∧ Q (.inr (s')))) 22 [(0, .ref 950), (1, .int (y0)), (2, .int (y1)), (3, .int (y2)), (4, .int (y3))] [] (t_m y4) 1065 0 0) (hk : t_hk (k_X13_stepIn_88 l1 l2 l3 l4 k0 k1 s) Q) : mj_G D cy ad bs X cX13_stepIn 5 yX13_stepIn.cls none yX13_stepIn.name 3 0 0 1065 (t_P (fun v s' => v = none ∧ Q (.inr (s')))) 88 [(0, .ref 950), (1, .int l1), (2, .int l2), (3, .int l3), (4, .int l4)] [.int k0, .int k1, .ref 1058] (t_m s) 1065 0 0 := by
  refine t_chkK hk (fun c0 hk => ?_)
  refine t_chkK hk (fun c1 hk => ?_)
  refine t_zastK dX13_stepIn_88 qa_1058 (t_ixv c0) c1 (fun s1 ws1 => t_letE hk ws1 (fun hk => ?_))
  refine mj_iinc (k := 4) (v := (l4 + 1)) (lv2 := [(4, .int (l4 + 1)), (0, .ref 950), (1, .int l1), (2, .int l2), (3, .int l3)]) dX13_stepIn_89 rfl rfl (by decide) rfl ?_
  refine mj_goto 22 dX13_stepIn_92 (by decide) ?_
  refine mj_sublv [(0, .ref 950), (1, .int l1), (2, .int l2), (3, .int l3), (4, .int (l4 + 1))] [1, 2, 3, 4, 0] rfl ?_
  exact t_somK hk (fun hf => Hb22 l1 l2 l3 (l4 + 1) s1 hf)
noncomputable def k_X13_stepIn_22 (l1 : Int32) (l2 : Int32) (l3 : Int32) (l4 : Int32) (s : t_S) : Option ((Int32 × Int32 × Int32 × Int32 × t_S) ⊕ (t_S)) :=
 if (8 : Int32) ≤ l4 then ((if t_ix l2 401 = true then
  if t_ix (((8 : Int32) * l1) + l3) 64 = true then
  t_let (t_setI s 1040 ((((8 : Int32) * l1) + l3).toNatClampNeg) (s.1 998 (l2.toNatClampNeg))) (fun s1 =>
 some (s1))
else none
else none).map Sum.inr)
 else ((f_X13_copy ((260 : Int32) * ((s.1 950 179) + l4)) ((f_X13_frameSlot l1 l3 s) + l4) s).bind (fun r4 =>
 if t_ix (r4.1 950 180) 40 = true then
  if (r4.1 985 ((r4.1 950 180).toNatClampNeg)) ≤ l4 then (k_X13_stepIn_88 l1 l2 l3 l4 0 ((((64 : Int32) * l1) + ((8 : Int32) * l3)) + l4) r4)
 else (k_X13_stepIn_88 l1 l2 l3 l4 1 ((((64 : Int32) * l1) + ((8 : Int32) * l3)) + l4) r4)
else none))
set_option maxRecDepth 4000 in
set_option maxHeartbeats 1000000 in
theorem B_X13_stepIn_22 {D : va_G} {cy : Nat → ClassId} {ad : Nat → Nat} {bs : Nat} {X : State → Heap → Prop} (l1 : Int32) (l2 : Int32) (l3 : Int32) (l4 : Int32) (s : t_S) (Q : (Int32 × Int32 × Int32 × Int32 × t_S) ⊕ (t_S) → Prop) (Hb22 : ∀ (y0 : Int32) (y1 : Int32) (y2 : Int32) (y3 : Int32) (y4 : t_S), Q (.inl (y0, y1, y2, y3, y4)) → mj_G D cy ad bs X cX13_stepIn 5 yX13_stepIn.cls none yX13_stepIn.name 3 0 0 1065 (t_P (fun v s' => v = none ∧ Q (.inr (s')))) 22 [(0, .ref 950), (1, .int (y0)), (2, .int (y1)), (3, .int (y2)), (4, .int (y3))] [] (t_m y4) 1065 0 0) (hk : t_hk (k_X13_stepIn_22 l1 l2 l3 l4 s) Q) : mj_G D cy ad bs X cX13_stepIn 5 yX13_stepIn.cls none yX13_stepIn.name 3 0 0 1065 (t_P (fun v s' => v = none ∧ Q (.inr (s')))) 22 [(0, .ref 950), (1, .int l1), (2, .int l2), (3, .int l3), (4, .int l4)] [] (t_m s) 1065 0 0 := by
  refine mj_iload dX13_stepIn_22 4 rfl ?_
  refine mj_bipush (v := 8) dX13_stepIn_24 (by decide) ?_
  refine mj_icmp_ge 95 dX13_stepIn_26 (by decide) (fun z => t_posK hk z (fun hk => ?_)) (fun z => t_negK hk z (fun hk => ?_))
  · refine t_mapK hk (fun hk => ?_)
    refine mj_aload_n dX13_stepIn_95 0 rfl ?_
    refine t_getR 1040 dX13_stepIn_96 F_X13_288 qr_950_155 ?_
    refine mj_bipush (v := 8) dX13_stepIn_99 (by decide) ?_
    refine mj_iload_n dX13_stepIn_101 1 rfl ?_
    refine mj_imul dX13_stepIn_102 ?_
    refine mj_iload_n dX13_stepIn_103 3 rfl ?_
    refine mj_iadd dX13_stepIn_104 ?_
    refine mj_aload_n dX13_stepIn_105 0 rfl ?_
    refine t_getR 998 dX13_stepIn_106 F_X13_156 qr_950_76 ?_
    refine mj_iload_n dX13_stepIn_109 2 rfl ?_
    refine t_chkK hk (fun c0 hk => ?_)
    refine t_iald dX13_stepIn_110 qa_998 (t_ixv c0) ?_
    refine t_chkK hk (fun c1 hk => ?_)
    refine t_iastK dX13_stepIn_111 qa_1040 (t_ixv c1) (fun s1 ws1 => t_letE hk ws1 (fun hk => ?_))
    exact t_somK hk (fun hf => t_vret dX13_stepIn_112 rfl ⟨rfl, hf⟩ (Nat.le_of_ble_eq_true rfl) (Nat.le_of_ble_eq_true rfl))
  · refine mj_aload_n dX13_stepIn_29 0 rfl ?_
    refine mj_sipush (v := 260) dX13_stepIn_30 (by decide) ?_
    refine mj_aload_n dX13_stepIn_33 0 rfl ?_
    refine t_getI dX13_stepIn_34 F_X13_1472 qf_950_179 ?_
    refine mj_iload dX13_stepIn_37 4 rfl ?_
    refine mj_iadd dX13_stepIn_39 ?_
    refine mj_imul dX13_stepIn_40 ?_
    refine mj_aload_n dX13_stepIn_41 0 rfl ?_
    refine mj_iload_n dX13_stepIn_42 1 rfl ?_
    refine mj_iload_n dX13_stepIn_43 3 rfl ?_
    refine t_callViP dX13_stepIn_44 M_X13_frameSlot (C_X13_frameSlot _ _ _) ML_X13_1340 IM_X13_frameSlot SE_X13_frameSlot qc_950 rfl (As := [.int l1, .int l3]) rfl rfl (Nat.le_of_ble_eq_true rfl) (Nat.le_of_ble_eq_true rfl) (Nat.le_of_ble_eq_true rfl) (Nat.le_of_ble_eq_true rfl) ?_
    refine mj_iload dX13_stepIn_47 4 rfl ?_
    refine mj_iadd dX13_stepIn_49 ?_
    refine t_bndK hk (fun r4 er4 hk => ?_)
    refine t_callVvE dX13_stepIn_50 M_X13_copy (C_X13_copy _ _ _ _ er4) ML_X13_861 IM_X13_copy SE_X13_copy qc_950 rfl (As := [.int ((260 : Int32) * ((s.1 950 179) + l4)), .int ((f_X13_frameSlot l1 l3 s) + l4)]) rfl rfl (Nat.le_of_ble_eq_true rfl) (Nat.le_of_ble_eq_true rfl) (Nat.le_of_ble_eq_true rfl) (Nat.le_of_ble_eq_true rfl) ?_
    refine mj_aload_n dX13_stepIn_53 0 rfl ?_
    refine t_getR 1058 dX13_stepIn_54 F_X13_342 qr_950_177 ?_
    refine mj_bipush (v := 64) dX13_stepIn_57 (by decide) ?_
    refine mj_iload_n dX13_stepIn_59 1 rfl ?_
    refine mj_imul dX13_stepIn_60 ?_
    refine mj_bipush (v := 8) dX13_stepIn_61 (by decide) ?_
    refine mj_iload_n dX13_stepIn_63 3 rfl ?_
    refine mj_imul dX13_stepIn_64 ?_
    refine mj_iadd dX13_stepIn_65 ?_
    refine mj_iload dX13_stepIn_66 4 rfl ?_
    refine mj_iadd dX13_stepIn_68 ?_
    refine mj_iload dX13_stepIn_69 4 rfl ?_
    refine mj_aload_n dX13_stepIn_71 0 rfl ?_
    refine t_getR 985 dX13_stepIn_72 F_X13_117 qr_950_61 ?_
    refine mj_aload_n dX13_stepIn_75 0 rfl ?_
    refine t_getI dX13_stepIn_76 F_X13_1475 qf_950_180 ?_
    refine t_chkK hk (fun c4 hk => ?_)
    refine t_iald dX13_stepIn_79 qa_985 (t_ixv c4) ?_
    refine mj_icmp_ge 87 dX13_stepIn_80 (by decide) (fun z => t_posK hk z (fun hk => ?_)) (fun z => t_negK hk z (fun hk => ?_))
    · refine mj_iconst (v := 0) dX13_stepIn_87 (by decide) ?_
      exact B_X13_stepIn_88 _ _ _ _ _ _ _ _ (fun y0 y1 y2 y3 y4 hx => Hb22 y0 y1 y2 y3 y4 hx) hk
    · refine mj_iconst (v := 1) dX13_stepIn_83 (by decide) ?_
      refine mj_goto 88 dX13_stepIn_84 (by decide) ?_
      exact B_X13_stepIn_88 _ _ _ _ _ _ _ _ (fun y0 y1 y2 y3 y4 hx => Hb22 y0 y1 y2 y3 y4 hx) hk
noncomputable def b_X13_stepIn_22 (x : Int32 × Int32 × Int32 × Int32 × t_S) : Option ((Int32 × Int32 × Int32 × Int32 × t_S) ⊕ (t_S)) := k_X13_stepIn_22 x.1 x.2.1 x.2.2.1 x.2.2.2.1 x.2.2.2.2
set_option maxRecDepth 4000 in
set_option maxHeartbeats 1000000 in
theorem LH_X13_stepIn_22 {D : va_G} {cy : Nat → ClassId} {ad : Nat → Nat} {bs : Nat} {X : State → Heap → Prop} : ∀ (n : Nat) (y0 : Int32) (y1 : Int32) (y2 : Int32) (y3 : Int32) (y4 : t_S) (Q : t_S → Prop) (hk : t_hk (t_loop (b_X13_stepIn_22) n (y0, y1, y2, y3, y4)) Q), mj_G D cy ad bs X cX13_stepIn 5 yX13_stepIn.cls none yX13_stepIn.name 3 0 0 1065 (t_P (fun v s' => v = none ∧ Q (s'))) 22 [(0, .ref 950), (1, .int (y0)), (2, .int (y1)), (3, .int (y2)), (4, .int (y3))] [] (t_m y4) 1065 0 0 := by
  intro n
  induction n with
  | zero => intro y0 y1 y2 y3 y4 Q hk; obtain ⟨r, hr, _⟩ := hk; cases hr
  | succ n ih =>
    intro y0 y1 y2 y3 y4 Q hk
    exact B_X13_stepIn_22 y0 y1 y2 y3 y4 (fun y => t_lq (b_X13_stepIn_22) n Q y) (fun y0' y1' y2' y3' y4' hy => ih y0' y1' y2' y3' y4' Q hy) (t_lp (b := b_X13_stepIn_22) (n := n) (x := (y0, y1, y2, y3, y4)) hk)
noncomputable def f_X13_stepIn (x1 : Int32) (x2 : Int32) (s : t_S) : Option (t_S) :=
 (f_X13_pushFrame x1 (s.1 950 180) (-1 : Int32) s).bind (fun r1 =>
 if t_ix x1 8 = true then
  t_loop (b_X13_stepIn_22) t_N (x1, x2, ((r1.1 1038 (x1.toNatClampNeg)) - (1 : Int32)), 0, r1)
else none)
set_option maxRecDepth 4000 in
set_option maxHeartbeats 1000000 in
theorem C_X13_stepIn (x1 : Int32) (x2 : Int32) (s : t_S) (r : t_S) (hr : f_X13_stepIn x1 x2 s = some r) : t_C yX13_stepIn cX13_stepIn 5 none 3 [.ref 950, .int x1, .int x2] s (fun v s' => v = none ∧ s' = r) := by
  refine t_C.imp (P := fun v s' => v = none ∧ (fun q => q = r) (s')) (t_C.of (by decide +kernel) (Nat.le_of_ble_eq_true rfl) ?_) (fun v s' hp => hp)
  intro D cy ad bs X
  have hk : t_hk (f_X13_stepIn x1 x2 s) (fun q => q = r) := ⟨r, hr, rfl⟩
  show mj_G D cy ad bs X cX13_stepIn 5 yX13_stepIn.cls none yX13_stepIn.name 3 0 0 1065 (t_P (fun v s' => v = none ∧ (fun q => q = r) (s'))) 0 [(0, .ref 950), (1, .int x1), (2, .int x2)] [] (t_m s) 1065 0 0
  refine mj_aload_n dX13_stepIn_0 0 rfl ?_
  refine mj_iload_n dX13_stepIn_1 1 rfl ?_
  refine mj_aload_n dX13_stepIn_2 0 rfl ?_
  refine t_getI dX13_stepIn_3 F_X13_1475 qf_950_180 ?_
  refine mj_iconst (v := (-1)) dX13_stepIn_6 (by decide) ?_
  refine t_bndK hk (fun r1 er1 hk => ?_)
  refine t_callVvE dX13_stepIn_7 M_X13_pushFrame (C_X13_pushFrame _ _ _ _ _ er1) ML_X13_1436 IM_X13_pushFrame SE_X13_pushFrame qc_950 rfl (As := [.int x1, .int (s.1 950 180), .int (-1)]) rfl rfl (Nat.le_of_ble_eq_true rfl) (Nat.le_of_ble_eq_true rfl) (Nat.le_of_ble_eq_true rfl) (Nat.le_of_ble_eq_true rfl) ?_
  refine mj_aload_n dX13_stepIn_10 0 rfl ?_
  refine t_getR 1038 dX13_stepIn_11 F_X13_282 qr_950_153 ?_
  refine mj_iload_n dX13_stepIn_14 1 rfl ?_
  refine t_chkK hk (fun c1 hk => ?_)
  refine t_iald dX13_stepIn_15 qa_1038 (t_ixv c1) ?_
  refine mj_iconst (v := 1) dX13_stepIn_16 (by decide) ?_
  refine mj_isub dX13_stepIn_17 ?_
  refine mj_istore_n 3 (lv2 := [(3, .int ((r1.1 1038 (x1.toNatClampNeg)) - (1 : Int32))), (0, .ref 950), (1, .int x1), (2, .int x2)]) dX13_stepIn_18 rfl (by decide) rfl ?_
  refine mj_iconst (v := 0) dX13_stepIn_19 (by decide) ?_
  refine mj_istore (lv2 := [(4, .int 0), (3, .int ((r1.1 1038 (x1.toNatClampNeg)) - (1 : Int32))), (0, .ref 950), (1, .int x1), (2, .int x2)]) dX13_stepIn_20 (by decide) rfl ?_
  refine mj_sublv [(0, .ref 950), (1, .int x1), (2, .int x2), (3, .int ((r1.1 1038 (x1.toNatClampNeg)) - (1 : Int32))), (4, .int 0)] [2, 3, 4, 1, 0] rfl ?_
  exact LH_X13_stepIn_22 _ x1 x2 ((r1.1 1038 (x1.toNatClampNeg)) - (1 : Int32)) 0 r1 _ hk

theorem dX13_tellVar_0 : decode cX13_tellVar 0 = .ok (.iload_n 2, 1) := by decide +kernel
theorem dX13_tellVar_1 : decode cX13_tellVar 1 = .ok (.bipush 100, 2) := by decide +kernel
theorem dX13_tellVar_10 : decode cX13_tellVar 10 = .ok (.bipush 64, 2) := by decide +kernel
theorem dX13_tellVar_12 : decode cX13_tellVar 12 = .ok (.iload_n 1, 1) := by decide +kernel
theorem dX13_tellVar_13 : decode cX13_tellVar 13 = .ok (.imul, 1) := by decide +kernel
theorem dX13_tellVar_14 : decode cX13_tellVar 14 = .ok (.bipush 8, 2) := by decide +kernel
theorem dX13_tellVar_16 : decode cX13_tellVar 16 = .ok (.aload_n 0, 1) := by decide +kernel
theorem dX13_tellVar_17 : decode cX13_tellVar 17 = .ok (.getfield 282, 3) := by decide +kernel
theorem dX13_tellVar_20 : decode cX13_tellVar 20 = .ok (.iload_n 1, 1) := by decide +kernel
theorem dX13_tellVar_21 : decode cX13_tellVar 21 = .ok (.iaload, 1) := by decide +kernel
theorem dX13_tellVar_22 : decode cX13_tellVar 22 = .ok (.iconst 1, 1) := by decide +kernel
theorem dX13_tellVar_23 : decode cX13_tellVar 23 = .ok (.isub, 1) := by decide +kernel
theorem dX13_tellVar_24 : decode cX13_tellVar 24 = .ok (.imul, 1) := by decide +kernel
theorem dX13_tellVar_25 : decode cX13_tellVar 25 = .ok (.iadd, 1) := by decide +kernel
theorem dX13_tellVar_26 : decode cX13_tellVar 26 = .ok (.iload_n 2, 1) := by decide +kernel
theorem dX13_tellVar_27 : decode cX13_tellVar 27 = .ok (.iadd, 1) := by decide +kernel
theorem dX13_tellVar_28 : decode cX13_tellVar 28 = .ok (.iconst 1, 1) := by decide +kernel
theorem dX13_tellVar_29 : decode cX13_tellVar 29 = .ok (.bastore, 1) := by decide +kernel
theorem dX13_tellVar_3 : decode cX13_tellVar 3 = .ok (.if_icmp .ge 27, 3) := by decide +kernel
theorem dX13_tellVar_30 : decode cX13_tellVar 30 = .ok (.return_, 1) := by decide +kernel
theorem dX13_tellVar_6 : decode cX13_tellVar 6 = .ok (.aload_n 0, 1) := by decide +kernel
theorem dX13_tellVar_7 : decode cX13_tellVar 7 = .ok (.getfield 342, 3) := by decide +kernel
noncomputable def f_X13_tellVar (x1 : Int32) (x2 : Int32) (s : t_S) : Option (t_S) :=
 if (100 : Int32) ≤ x2 then (some (s))
 else (if t_ix x1 8 = true then
  if t_ix ((((64 : Int32) * x1) + ((8 : Int32) * ((s.1 1038 (x1.toNatClampNeg)) - (1 : Int32)))) + x2) 512 = true then
  t_let (t_setI s 1058 (((((64 : Int32) * x1) + ((8 : Int32) * ((s.1 1038 (x1.toNatClampNeg)) - (1 : Int32)))) + x2).toNatClampNeg) (1 : Int32)) (fun s1 =>
 some (s1))
else none
else none)
set_option maxRecDepth 4000 in
set_option maxHeartbeats 1000000 in
theorem C_X13_tellVar (x1 : Int32) (x2 : Int32) (s : t_S) (r : t_S) (hr : f_X13_tellVar x1 x2 s = some r) : t_C yX13_tellVar cX13_tellVar 3 none 0 [.ref 950, .int x1, .int x2] s (fun v s' => v = none ∧ s' = r) := by
  refine t_C.imp (P := fun v s' => v = none ∧ (fun q => q = r) (s')) (t_C.of (by decide +kernel) (Nat.le_of_ble_eq_true rfl) ?_) (fun v s' hp => hp)
  intro D cy ad bs X
  have hk : t_hk (f_X13_tellVar x1 x2 s) (fun q => q = r) := ⟨r, hr, rfl⟩
  show mj_G D cy ad bs X cX13_tellVar 3 yX13_tellVar.cls none yX13_tellVar.name 0 0 0 1065 (t_P (fun v s' => v = none ∧ (fun q => q = r) (s'))) 0 [(0, .ref 950), (1, .int x1), (2, .int x2)] [] (t_m s) 1065 0 0
  refine mj_iload_n dX13_tellVar_0 2 rfl ?_
  refine mj_bipush (v := 100) dX13_tellVar_1 (by decide) ?_
  refine mj_icmp_ge 30 dX13_tellVar_3 (by decide) (fun z => t_posK hk z (fun hk => ?_)) (fun z => t_negK hk z (fun hk => ?_))
  · exact t_somK hk (fun hf => t_vret dX13_tellVar_30 rfl ⟨rfl, hf⟩ (Nat.le_of_ble_eq_true rfl) (Nat.le_of_ble_eq_true rfl))
  · refine mj_aload_n dX13_tellVar_6 0 rfl ?_
    refine t_getR 1058 dX13_tellVar_7 F_X13_342 qr_950_177 ?_
    refine mj_bipush (v := 64) dX13_tellVar_10 (by decide) ?_
    refine mj_iload_n dX13_tellVar_12 1 rfl ?_
    refine mj_imul dX13_tellVar_13 ?_
    refine mj_bipush (v := 8) dX13_tellVar_14 (by decide) ?_
    refine mj_aload_n dX13_tellVar_16 0 rfl ?_
    refine t_getR 1038 dX13_tellVar_17 F_X13_282 qr_950_153 ?_
    refine mj_iload_n dX13_tellVar_20 1 rfl ?_
    refine t_chkK hk (fun c0 hk => ?_)
    refine t_iald dX13_tellVar_21 qa_1038 (t_ixv c0) ?_
    refine mj_iconst (v := 1) dX13_tellVar_22 (by decide) ?_
    refine mj_isub dX13_tellVar_23 ?_
    refine mj_imul dX13_tellVar_24 ?_
    refine mj_iadd dX13_tellVar_25 ?_
    refine mj_iload_n dX13_tellVar_26 2 rfl ?_
    refine mj_iadd dX13_tellVar_27 ?_
    refine mj_iconst (v := 1) dX13_tellVar_28 (by decide) ?_
    refine t_chkK hk (fun c1 hk => ?_)
    refine t_zastK dX13_tellVar_29 qa_1058 (t_ixv c1) (by decide) (fun s1 ws1 => t_letE hk ws1 (fun hk => ?_))
    exact t_somK hk (fun hf => t_vret dX13_tellVar_30 rfl ⟨rfl, hf⟩ (Nat.le_of_ble_eq_true rfl) (Nat.le_of_ble_eq_true rfl))

theorem dX13_typeAt_0 : decode cX13_typeAt 0 = .ok (.iload_n 3, 1) := by decide +kernel
theorem dX13_typeAt_1 : decode cX13_typeAt 1 = .ok (.bipush 100, 2) := by decide +kernel
theorem dX13_typeAt_10 : decode cX13_typeAt 10 = .ok (.bipush 8, 2) := by decide +kernel
theorem dX13_typeAt_12 : decode cX13_typeAt 12 = .ok (.aload_n 0, 1) := by decide +kernel
theorem dX13_typeAt_13 : decode cX13_typeAt 13 = .ok (.getfield 273, 3) := by decide +kernel
theorem dX13_typeAt_16 : decode cX13_typeAt 16 = .ok (.iload_n 1, 1) := by decide +kernel
theorem dX13_typeAt_17 : decode cX13_typeAt 17 = .ok (.iaload, 1) := by decide +kernel
theorem dX13_typeAt_18 : decode cX13_typeAt 18 = .ok (.imul, 1) := by decide +kernel
theorem dX13_typeAt_19 : decode cX13_typeAt 19 = .ok (.iload_n 3, 1) := by decide +kernel
theorem dX13_typeAt_20 : decode cX13_typeAt 20 = .ok (.iadd, 1) := by decide +kernel
theorem dX13_typeAt_21 : decode cX13_typeAt 21 = .ok (.bipush 100, 2) := by decide +kernel
theorem dX13_typeAt_23 : decode cX13_typeAt 23 = .ok (.isub, 1) := by decide +kernel
theorem dX13_typeAt_24 : decode cX13_typeAt 24 = .ok (.iaload, 1) := by decide +kernel
theorem dX13_typeAt_25 : decode cX13_typeAt 25 = .ok (.ireturn, 1) := by decide +kernel
theorem dX13_typeAt_26 : decode cX13_typeAt 26 = .ok (.iconst 0, 1) := by decide +kernel
theorem dX13_typeAt_27 : decode cX13_typeAt 27 = .ok (.istore 4, 2) := by decide +kernel
theorem dX13_typeAt_29 : decode cX13_typeAt 29 = .ok (.iload 4, 2) := by decide +kernel
theorem dX13_typeAt_3 : decode cX13_typeAt 3 = .ok (.if_icmp .lt 23, 3) := by decide +kernel
theorem dX13_typeAt_31 : decode cX13_typeAt 31 = .ok (.aload_n 0, 1) := by decide +kernel
theorem dX13_typeAt_32 : decode cX13_typeAt 32 = .ok (.getfield 639, 3) := by decide +kernel
theorem dX13_typeAt_35 : decode cX13_typeAt 35 = .ok (.if_icmp .ge 60, 3) := by decide +kernel
theorem dX13_typeAt_38 : decode cX13_typeAt 38 = .ok (.aload_n 0, 1) := by decide +kernel
theorem dX13_typeAt_39 : decode cX13_typeAt 39 = .ok (.getfield 126, 3) := by decide +kernel
theorem dX13_typeAt_42 : decode cX13_typeAt 42 = .ok (.iload 4, 2) := by decide +kernel
theorem dX13_typeAt_44 : decode cX13_typeAt 44 = .ok (.iaload, 1) := by decide +kernel
theorem dX13_typeAt_45 : decode cX13_typeAt 45 = .ok (.iconst 1, 1) := by decide +kernel
theorem dX13_typeAt_46 : decode cX13_typeAt 46 = .ok (.if_icmp .ne 43, 3) := by decide +kernel
theorem dX13_typeAt_49 : decode cX13_typeAt 49 = .ok (.aload_n 0, 1) := by decide +kernel
theorem dX13_typeAt_50 : decode cX13_typeAt 50 = .ok (.getfield 165, 3) := by decide +kernel
theorem dX13_typeAt_53 : decode cX13_typeAt 53 = .ok (.iload 4, 2) := by decide +kernel
theorem dX13_typeAt_55 : decode cX13_typeAt 55 = .ok (.iaload, 1) := by decide +kernel
theorem dX13_typeAt_56 : decode cX13_typeAt 56 = .ok (.iload_n 2, 1) := by decide +kernel
theorem dX13_typeAt_57 : decode cX13_typeAt 57 = .ok (.if_icmp .ne 32, 3) := by decide +kernel
theorem dX13_typeAt_6 : decode cX13_typeAt 6 = .ok (.aload_n 0, 1) := by decide +kernel
theorem dX13_typeAt_60 : decode cX13_typeAt 60 = .ok (.aload_n 0, 1) := by decide +kernel
theorem dX13_typeAt_61 : decode cX13_typeAt 61 = .ok (.getfield 141, 3) := by decide +kernel
theorem dX13_typeAt_64 : decode cX13_typeAt 64 = .ok (.iload 4, 2) := by decide +kernel
theorem dX13_typeAt_66 : decode cX13_typeAt 66 = .ok (.iaload, 1) := by decide +kernel
theorem dX13_typeAt_67 : decode cX13_typeAt 67 = .ok (.aload_n 0, 1) := by decide +kernel
theorem dX13_typeAt_68 : decode cX13_typeAt 68 = .ok (.getfield 114, 3) := by decide +kernel
theorem dX13_typeAt_7 : decode cX13_typeAt 7 = .ok (.getfield 90, 3) := by decide +kernel
theorem dX13_typeAt_71 : decode cX13_typeAt 71 = .ok (.bipush 8, 2) := by decide +kernel
theorem dX13_typeAt_73 : decode cX13_typeAt 73 = .ok (.iload_n 2, 1) := by decide +kernel
theorem dX13_typeAt_74 : decode cX13_typeAt 74 = .ok (.imul, 1) := by decide +kernel
theorem dX13_typeAt_75 : decode cX13_typeAt 75 = .ok (.iload_n 3, 1) := by decide +kernel
theorem dX13_typeAt_76 : decode cX13_typeAt 76 = .ok (.iadd, 1) := by decide +kernel
theorem dX13_typeAt_77 : decode cX13_typeAt 77 = .ok (.iaload, 1) := by decide +kernel
theorem dX13_typeAt_78 : decode cX13_typeAt 78 = .ok (.if_icmp .ne 11, 3) := by decide +kernel
theorem dX13_typeAt_81 : decode cX13_typeAt 81 = .ok (.aload_n 0, 1) := by decide +kernel
theorem dX13_typeAt_82 : decode cX13_typeAt 82 = .ok (.getfield 135, 3) := by decide +kernel
theorem dX13_typeAt_85 : decode cX13_typeAt 85 = .ok (.iload 4, 2) := by decide +kernel
theorem dX13_typeAt_87 : decode cX13_typeAt 87 = .ok (.iaload, 1) := by decide +kernel
theorem dX13_typeAt_88 : decode cX13_typeAt 88 = .ok (.ireturn, 1) := by decide +kernel
theorem dX13_typeAt_89 : decode cX13_typeAt 89 = .ok (.iinc 4 1, 3) := by decide +kernel
theorem dX13_typeAt_92 : decode cX13_typeAt 92 = .ok (.goto (-63), 3) := by decide +kernel
theorem dX13_typeAt_95 : decode cX13_typeAt 95 = .ok (.iconst (-1), 1) := by decide +kernel
theorem dX13_typeAt_96 : decode cX13_typeAt 96 = .ok (.ireturn, 1) := by decide +kernel
noncomputable def k_X13_typeAt_89 (l2 : Int32) (l3 : Int32) (l4 : Int32) (s : t_S) : Option ((Int32 × Int32 × Int32) ⊕ (Int32)) :=
 some (.inl (l2, l3, (l4 + 1)))
set_option maxRecDepth 4000 in
set_option maxHeartbeats 1000000 in
theorem B_X13_typeAt_89 {D : va_G} {cy : Nat → ClassId} {ad : Nat → Nat} {bs : Nat} {X : State → Heap → Prop} (l2 : Int32) (l3 : Int32) (l4 : Int32) (s : t_S) (Q : (Int32 × Int32 × Int32) ⊕ (Int32) → Prop) (Hb29 : ∀ (y0 : Int32) (y1 : Int32) (y2 : Int32), Q (.inl (y0, y1, y2)) → mj_G D cy ad bs X cX13_typeAt 5 yX13_typeAt.cls (some .int) yX13_typeAt.name 0 0 0 1065 (t_P (fun v s' => s' = s ∧ ∃ x, v = some (.int x) ∧ Q (.inr (x)))) 29 [(0, .ref 950), (2, .int (y0)), (3, .int (y1)), (4, .int (y2))] [] (t_m s) 1065 0 0) (hk : t_hk (k_X13_typeAt_89 l2 l3 l4 s) Q) : mj_G D cy ad bs X cX13_typeAt 5 yX13_typeAt.cls (some .int) yX13_typeAt.name 0 0 0 1065 (t_P (fun v s' => s' = s ∧ ∃ x, v = some (.int x) ∧ Q (.inr (x)))) 89 [(0, .ref 950), (2, .int l2), (3, .int l3), (4, .int l4)] [] (t_m s) 1065 0 0 := by
  refine mj_iinc (k := 3) (v := (l4 + 1)) (lv2 := [(4, .int (l4 + 1)), (0, .ref 950), (2, .int l2), (3, .int l3)]) dX13_typeAt_89 rfl rfl (by decide) rfl ?_
  refine mj_goto 29 dX13_typeAt_92 (by decide) ?_
  refine mj_sublv [(0, .ref 950), (2, .int l2), (3, .int l3), (4, .int (l4 + 1))] [1, 2, 3, 0] rfl ?_
  exact t_somK hk (fun hf => Hb29 l2 l3 (l4 + 1) hf)
noncomputable def k_X13_typeAt_29 (l2 : Int32) (l3 : Int32) (l4 : Int32) (s : t_S) : Option ((Int32 × Int32 × Int32) ⊕ (Int32)) :=
 if (s.1 950 81) ≤ l4 then ((some (-1 : Int32)).map Sum.inr)
 else (if t_ix l4 401 = true then
  if (s.1 988 (l4.toNatClampNeg)) = (1 : Int32) then (if (s.1 1001 (l4.toNatClampNeg)) = l2 then (if t_ix (((8 : Int32) * l2) + l3) 320 = true then
  if (s.1 993 (l4.toNatClampNeg)) = (s.1 984 ((((8 : Int32) * l2) + l3).toNatClampNeg)) then ((some (s.1 991 (l4.toNatClampNeg))).map Sum.inr)
 else (k_X13_typeAt_89 l2 l3 l4 s)
else none)
 else (k_X13_typeAt_89 l2 l3 l4 s))
 else (k_X13_typeAt_89 l2 l3 l4 s)
else none)
set_option maxRecDepth 4000 in
set_option maxHeartbeats 1000000 in
theorem B_X13_typeAt_29 {D : va_G} {cy : Nat → ClassId} {ad : Nat → Nat} {bs : Nat} {X : State → Heap → Prop} (l2 : Int32) (l3 : Int32) (l4 : Int32) (s : t_S) (Q : (Int32 × Int32 × Int32) ⊕ (Int32) → Prop) (Hb29 : ∀ (y0 : Int32) (y1 : Int32) (y2 : Int32), Q (.inl (y0, y1, y2)) → mj_G D cy ad bs X cX13_typeAt 5 yX13_typeAt.cls (some .int) yX13_typeAt.name 0 0 0 1065 (t_P (fun v s' => s' = s ∧ ∃ x, v = some (.int x) ∧ Q (.inr (x)))) 29 [(0, .ref 950), (2, .int (y0)), (3, .int (y1)), (4, .int (y2))] [] (t_m s) 1065 0 0) (hk : t_hk (k_X13_typeAt_29 l2 l3 l4 s) Q) : mj_G D cy ad bs X cX13_typeAt 5 yX13_typeAt.cls (some .int) yX13_typeAt.name 0 0 0 1065 (t_P (fun v s' => s' = s ∧ ∃ x, v = some (.int x) ∧ Q (.inr (x)))) 29 [(0, .ref 950), (2, .int l2), (3, .int l3), (4, .int l4)] [] (t_m s) 1065 0 0 := by
  refine mj_iload dX13_typeAt_29 3 rfl ?_
  refine mj_aload_n dX13_typeAt_31 0 rfl ?_
  refine t_getI dX13_typeAt_32 F_X13_639 qf_950_81 ?_
  refine mj_icmp_ge 95 dX13_typeAt_35 (by decide) (fun z => t_posK hk z (fun hk => ?_)) (fun z => t_negK hk z (fun hk => ?_))
  · refine t_mapK hk (fun hk => ?_)
    refine mj_iconst (v := (-1)) dX13_typeAt_95 (by decide) ?_
    exact t_somK hk (fun hf => t_iret dX13_typeAt_96 rfl rfl ⟨rfl, _, rfl, hf⟩ (Nat.le_of_ble_eq_true rfl) (Nat.le_of_ble_eq_true rfl))
  · refine mj_aload_n dX13_typeAt_38 0 rfl ?_
    refine t_getR 988 dX13_typeAt_39 F_X13_126 qr_950_66 ?_
    refine mj_iload dX13_typeAt_42 3 rfl ?_
    refine t_chkK hk (fun c0 hk => ?_)
    refine t_iald dX13_typeAt_44 qa_988 (t_ixv c0) ?_
    refine mj_iconst (v := 1) dX13_typeAt_45 (by decide) ?_
    refine mj_icmp_ne 89 dX13_typeAt_46 (by decide) (fun z => t_negK hk z (fun hk => ?_)) (fun z => t_posK hk z (fun hk => ?_))
    · exact B_X13_typeAt_89 _ _ _ _ _ (fun y0 y1 y2 hx => Hb29 y0 y1 y2 hx) hk
    · refine mj_aload_n dX13_typeAt_49 0 rfl ?_
      refine t_getR 1001 dX13_typeAt_50 F_X13_165 qr_950_79 ?_
      refine mj_iload dX13_typeAt_53 3 rfl ?_
      refine t_iald dX13_typeAt_55 qa_1001 (t_ixv c0) ?_
      refine mj_iload_n dX13_typeAt_56 1 rfl ?_
      refine mj_icmp_ne 89 dX13_typeAt_57 (by decide) (fun z => t_negK hk z (fun hk => ?_)) (fun z => t_posK hk z (fun hk => ?_))
      · exact B_X13_typeAt_89 _ _ _ _ _ (fun y0 y1 y2 hx => Hb29 y0 y1 y2 hx) hk
      · refine mj_aload_n dX13_typeAt_60 0 rfl ?_
        refine t_getR 993 dX13_typeAt_61 F_X13_141 qr_950_71 ?_
        refine mj_iload dX13_typeAt_64 3 rfl ?_
        refine t_iald dX13_typeAt_66 qa_993 (t_ixv c0) ?_
        refine mj_aload_n dX13_typeAt_67 0 rfl ?_
        refine t_getR 984 dX13_typeAt_68 F_X13_114 qr_950_60 ?_
        refine mj_bipush (v := 8) dX13_typeAt_71 (by decide) ?_
        refine mj_iload_n dX13_typeAt_73 1 rfl ?_
        refine mj_imul dX13_typeAt_74 ?_
        refine mj_iload_n dX13_typeAt_75 2 rfl ?_
        refine mj_iadd dX13_typeAt_76 ?_
        refine t_chkK hk (fun c1 hk => ?_)
        refine t_iald dX13_typeAt_77 qa_984 (t_ixv c1) ?_
        refine mj_icmp_ne 89 dX13_typeAt_78 (by decide) (fun z => t_negK hk z (fun hk => ?_)) (fun z => t_posK hk z (fun hk => ?_))
        · exact B_X13_typeAt_89 _ _ _ _ _ (fun y0 y1 y2 hx => Hb29 y0 y1 y2 hx) hk
        · refine t_mapK hk (fun hk => ?_)
          refine mj_aload_n dX13_typeAt_81 0 rfl ?_
          refine t_getR 991 dX13_typeAt_82 F_X13_135 qr_950_69 ?_
          refine mj_iload dX13_typeAt_85 3 rfl ?_
          refine t_iald dX13_typeAt_87 qa_991 (t_ixv c0) ?_
          exact t_somK hk (fun hf => t_iret dX13_typeAt_88 rfl rfl ⟨rfl, _, rfl, hf⟩ (Nat.le_of_ble_eq_true rfl) (Nat.le_of_ble_eq_true rfl))
noncomputable def b_X13_typeAt_29 (s : t_S) (x : Int32 × Int32 × Int32) : Option ((Int32 × Int32 × Int32) ⊕ (Int32)) := k_X13_typeAt_29 x.1 x.2.1 x.2.2 s
set_option maxRecDepth 4000 in
set_option maxHeartbeats 1000000 in
theorem LH_X13_typeAt_29 {D : va_G} {cy : Nat → ClassId} {ad : Nat → Nat} {bs : Nat} {X : State → Heap → Prop} (s : t_S) : ∀ (n : Nat) (y0 : Int32) (y1 : Int32) (y2 : Int32) (Q : Int32 → Prop) (hk : t_hk (t_loop (b_X13_typeAt_29 s) n (y0, y1, y2)) Q), mj_G D cy ad bs X cX13_typeAt 5 yX13_typeAt.cls (some .int) yX13_typeAt.name 0 0 0 1065 (t_P (fun v s' => s' = s ∧ ∃ x, v = some (.int x) ∧ Q (x))) 29 [(0, .ref 950), (2, .int (y0)), (3, .int (y1)), (4, .int (y2))] [] (t_m s) 1065 0 0 := by
  intro n
  induction n with
  | zero => intro y0 y1 y2 Q hk; obtain ⟨r, hr, _⟩ := hk; cases hr
  | succ n ih =>
    intro y0 y1 y2 Q hk
    exact B_X13_typeAt_29 y0 y1 y2 s (fun y => t_lq (b_X13_typeAt_29 s) n Q y) (fun y0' y1' y2' hy => ih y0' y1' y2' Q hy) (t_lp (b := b_X13_typeAt_29 s) (n := n) (x := (y0, y1, y2)) hk)
noncomputable def f_X13_typeAt (x1 : Int32) (x2 : Int32) (x3 : Int32) (s : t_S) : Option (Int32) :=
 if x3 < (100 : Int32) then (t_loop (b_X13_typeAt_29 s) t_N (x2, x3, 0))
 else (if t_ix x1 8 = true then
  if t_ix ((((8 : Int32) * (s.1 1035 (x1.toNatClampNeg))) + x3) - (100 : Int32)) 64 = true then
  some (s.1 976 (((((8 : Int32) * (s.1 1035 (x1.toNatClampNeg))) + x3) - (100 : Int32)).toNatClampNeg))
else none
else none)
set_option maxRecDepth 4000 in
set_option maxHeartbeats 1000000 in
theorem C_X13_typeAt (x1 : Int32) (x2 : Int32) (x3 : Int32) (s : t_S) (r : Int32) (hr : f_X13_typeAt x1 x2 x3 s = some r) : t_C yX13_typeAt cX13_typeAt 5 (some .int) 0 [.ref 950, .int x1, .int x2, .int x3] s (fun v s' => v = some (.int r) ∧ s' = s) := by
  refine t_C.imp (P := fun v s' => s' = s ∧ ∃ x, v = some (.int x) ∧ (fun q => q = r) (x)) (t_C.of (by decide +kernel) (Nat.le_of_ble_eq_true rfl) ?_) (fun v s' hp => by obtain ⟨rfl, x, rfl, rfl⟩ := hp; exact ⟨rfl, rfl⟩)
  intro D cy ad bs X
  have hk : t_hk (f_X13_typeAt x1 x2 x3 s) (fun q => q = r) := ⟨r, hr, rfl⟩
  show mj_G D cy ad bs X cX13_typeAt 5 yX13_typeAt.cls (some .int) yX13_typeAt.name 0 0 0 1065 (t_P (fun v s' => s' = s ∧ ∃ x, v = some (.int x) ∧ (fun q => q = r) (x))) 0 [(0, .ref 950), (1, .int x1), (2, .int x2), (3, .int x3)] [] (t_m s) 1065 0 0
  refine mj_iload_n dX13_typeAt_0 3 rfl ?_
  refine mj_bipush (v := 100) dX13_typeAt_1 (by decide) ?_
  refine mj_icmp_lt 26 dX13_typeAt_3 (by decide) (fun z => t_posK hk z (fun hk => ?_)) (fun z => t_negK hk z (fun hk => ?_))
  · refine mj_iconst (v := 0) dX13_typeAt_26 (by decide) ?_
    refine mj_istore (lv2 := [(4, .int 0), (0, .ref 950), (1, .int x1), (2, .int x2), (3, .int x3)]) dX13_typeAt_27 (by decide) rfl ?_
    refine mj_sublv [(0, .ref 950), (2, .int x2), (3, .int x3), (4, .int 0)] [1, 3, 4, 0] rfl ?_
    exact LH_X13_typeAt_29 _ _ x2 x3 0 _ hk
  · refine mj_aload_n dX13_typeAt_6 0 rfl ?_
    refine t_getR 976 dX13_typeAt_7 F_X13_90 qr_950_51 ?_
    refine mj_bipush (v := 8) dX13_typeAt_10 (by decide) ?_
    refine mj_aload_n dX13_typeAt_12 0 rfl ?_
    refine t_getR 1035 dX13_typeAt_13 F_X13_273 qr_950_150 ?_
    refine mj_iload_n dX13_typeAt_16 1 rfl ?_
    refine t_chkK hk (fun c0 hk => ?_)
    refine t_iald dX13_typeAt_17 qa_1035 (t_ixv c0) ?_
    refine mj_imul dX13_typeAt_18 ?_
    refine mj_iload_n dX13_typeAt_19 3 rfl ?_
    refine mj_iadd dX13_typeAt_20 ?_
    refine mj_bipush (v := 100) dX13_typeAt_21 (by decide) ?_
    refine mj_isub dX13_typeAt_23 ?_
    refine t_chkK hk (fun c1 hk => ?_)
    refine t_iald dX13_typeAt_24 qa_976 (t_ixv c1) ?_
    exact t_somK hk (fun hf => t_iret dX13_typeAt_25 rfl rfl ⟨rfl, _, rfl, hf⟩ (Nat.le_of_ble_eq_true rfl) (Nat.le_of_ble_eq_true rfl))

theorem dX13_varPlace_0 : decode cX13_varPlace 0 = .ok (.aload_n 0, 1) := by decide +kernel
theorem dX13_varPlace_1 : decode cX13_varPlace 1 = .ok (.iload_n 1, 1) := by decide +kernel
theorem dX13_varPlace_11 : decode cX13_varPlace 11 = .ok (.ireturn, 1) := by decide +kernel
theorem dX13_varPlace_2 : decode cX13_varPlace 2 = .ok (.sipush 2000, 3) := by decide +kernel
theorem dX13_varPlace_5 : decode cX13_varPlace 5 = .ok (.iload_n 2, 1) := by decide +kernel
theorem dX13_varPlace_6 : decode cX13_varPlace 6 = .ok (.iadd, 1) := by decide +kernel
theorem dX13_varPlace_7 : decode cX13_varPlace 7 = .ok (.iload_n 3, 1) := by decide +kernel
theorem dX13_varPlace_8 : decode cX13_varPlace 8 = .ok (.invokevirtual 804, 3) := by decide +kernel
noncomputable def f_X13_varPlace (x1 : Int32) (x2 : Int32) (x3 : Int32) (s : t_S) : Option (Int32) :=
 (f_X13_varOf x1 ((2000 : Int32) + x2) x3 s).bind (fun r1 =>
 some (r1))
set_option maxRecDepth 4000 in
set_option maxHeartbeats 1000000 in
theorem C_X13_varPlace (x1 : Int32) (x2 : Int32) (x3 : Int32) (s : t_S) (r : Int32) (hr : f_X13_varPlace x1 x2 x3 s = some r) : t_C yX13_varPlace cX13_varPlace 4 (some .int) 3 [.ref 950, .int x1, .int x2, .int x3] s (fun v s' => v = some (.int r) ∧ s' = s) := by
  refine t_C.imp (P := fun v s' => s' = s ∧ ∃ x, v = some (.int x) ∧ (fun q => q = r) (x)) (t_C.of (by decide +kernel) (Nat.le_of_ble_eq_true rfl) ?_) (fun v s' hp => by obtain ⟨rfl, x, rfl, rfl⟩ := hp; exact ⟨rfl, rfl⟩)
  intro D cy ad bs X
  have hk : t_hk (f_X13_varPlace x1 x2 x3 s) (fun q => q = r) := ⟨r, hr, rfl⟩
  show mj_G D cy ad bs X cX13_varPlace 4 yX13_varPlace.cls (some .int) yX13_varPlace.name 3 0 0 1065 (t_P (fun v s' => s' = s ∧ ∃ x, v = some (.int x) ∧ (fun q => q = r) (x))) 0 [(0, .ref 950), (1, .int x1), (2, .int x2), (3, .int x3)] [] (t_m s) 1065 0 0
  refine mj_aload_n dX13_varPlace_0 0 rfl ?_
  refine mj_iload_n dX13_varPlace_1 1 rfl ?_
  refine mj_sipush (v := 2000) dX13_varPlace_2 (by decide) ?_
  refine mj_iload_n dX13_varPlace_5 2 rfl ?_
  refine mj_iadd dX13_varPlace_6 ?_
  refine mj_iload_n dX13_varPlace_7 3 rfl ?_
  refine t_bndK hk (fun r1 er1 hk => ?_)
  refine t_callViP dX13_varPlace_8 M_X13_varOf (C_X13_varOf _ _ _ _ _ er1) ML_X13_804 IM_X13_varOf SE_X13_varOf qc_950 rfl (As := [.int x1, .int ((2000 : Int32) + x2), .int x3]) rfl rfl (Nat.le_of_ble_eq_true rfl) (Nat.le_of_ble_eq_true rfl) (Nat.le_of_ble_eq_true rfl) (Nat.le_of_ble_eq_true rfl) ?_
  exact t_somK hk (fun hf => t_iret dX13_varPlace_11 rfl rfl ⟨rfl, _, rfl, hf⟩ (Nat.le_of_ble_eq_true rfl) (Nat.le_of_ble_eq_true rfl))

