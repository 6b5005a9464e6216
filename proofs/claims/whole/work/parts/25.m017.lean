/-! Methods as functions, 17: X1_openPart, J6_numberOfLeadingZeros_0f7a4, J13_numberOfLeadingZeros_95d88, X1_bitsFor, X1_take, X1_takeUpTo, X1_openChoice, X1_openList, X1_openRecord, X1_bytesFor -/
theorem qf_856_9 : t_okf 856 1 9 0 = true := by decide +kernel
theorem dX1_openPart_0 : decode cX1_openPart 0 = .ok (.aload_n 0, 1) := by decide +kernel
theorem dX1_openPart_1 : decode cX1_openPart 1 = .ok (.getfield 221, 3) := by decide +kernel
theorem dX1_openPart_11 : decode cX1_openPart 11 = .ok (.aload_n 0, 1) := by decide +kernel
theorem dX1_openPart_12 : decode cX1_openPart 12 = .ok (.getfield 25, 3) := by decide +kernel
theorem dX1_openPart_15 : decode cX1_openPart 15 = .ok (.arraylength, 1) := by decide +kernel
theorem dX1_openPart_16 : decode cX1_openPart 16 = .ok (.if_icmp .lt 4, 3) := by decide +kernel
theorem dX1_openPart_19 : decode cX1_openPart 19 = .ok (.return_, 1) := by decide +kernel
theorem dX1_openPart_20 : decode cX1_openPart 20 = .ok (.aload_n 0, 1) := by decide +kernel
theorem dX1_openPart_21 : decode cX1_openPart 21 = .ok (.getfield 25, 3) := by decide +kernel
theorem dX1_openPart_24 : decode cX1_openPart 24 = .ok (.aload_n 0, 1) := by decide +kernel
theorem dX1_openPart_25 : decode cX1_openPart 25 = .ok (.getfield 47, 3) := by decide +kernel
theorem dX1_openPart_28 : decode cX1_openPart 28 = .ok (.aload_n 0, 1) := by decide +kernel
theorem dX1_openPart_29 : decode cX1_openPart 29 = .ok (.getfield 212, 3) := by decide +kernel
theorem dX1_openPart_32 : decode cX1_openPart 32 = .ok (.iastore, 1) := by decide +kernel
theorem dX1_openPart_33 : decode cX1_openPart 33 = .ok (.aload_n 0, 1) := by decide +kernel
theorem dX1_openPart_34 : decode cX1_openPart 34 = .ok (.getfield 29, 3) := by decide +kernel
theorem dX1_openPart_37 : decode cX1_openPart 37 = .ok (.aload_n 0, 1) := by decide +kernel
theorem dX1_openPart_38 : decode cX1_openPart 38 = .ok (.getfield 47, 3) := by decide +kernel
theorem dX1_openPart_4 : decode cX1_openPart 4 = .ok (.ifCond .ge 15, 3) := by decide +kernel
theorem dX1_openPart_41 : decode cX1_openPart 41 = .ok (.iload_n 1, 1) := by decide +kernel
theorem dX1_openPart_42 : decode cX1_openPart 42 = .ok (.iastore, 1) := by decide +kernel
theorem dX1_openPart_43 : decode cX1_openPart 43 = .ok (.aload_n 0, 1) := by decide +kernel
theorem dX1_openPart_44 : decode cX1_openPart 44 = .ok (.getfield 32, 3) := by decide +kernel
theorem dX1_openPart_47 : decode cX1_openPart 47 = .ok (.aload_n 0, 1) := by decide +kernel
theorem dX1_openPart_48 : decode cX1_openPart 48 = .ok (.getfield 47, 3) := by decide +kernel
theorem dX1_openPart_51 : decode cX1_openPart 51 = .ok (.iload_n 2, 1) := by decide +kernel
theorem dX1_openPart_52 : decode cX1_openPart 52 = .ok (.iastore, 1) := by decide +kernel
theorem dX1_openPart_53 : decode cX1_openPart 53 = .ok (.aload_n 0, 1) := by decide +kernel
theorem dX1_openPart_54 : decode cX1_openPart 54 = .ok (.dup, 1) := by decide +kernel
theorem dX1_openPart_55 : decode cX1_openPart 55 = .ok (.getfield 47, 3) := by decide +kernel
theorem dX1_openPart_58 : decode cX1_openPart 58 = .ok (.iconst 1, 1) := by decide +kernel
theorem dX1_openPart_59 : decode cX1_openPart 59 = .ok (.iadd, 1) := by decide +kernel
theorem dX1_openPart_60 : decode cX1_openPart 60 = .ok (.putfield 47, 3) := by decide +kernel
theorem dX1_openPart_63 : decode cX1_openPart 63 = .ok (.aload_n 0, 1) := by decide +kernel
theorem dX1_openPart_64 : decode cX1_openPart 64 = .ok (.lload_n 3, 1) := by decide +kernel
theorem dX1_openPart_65 : decode cX1_openPart 65 = .ok (.invokevirtual 247, 3) := by decide +kernel
theorem dX1_openPart_68 : decode cX1_openPart 68 = .ok (.return_, 1) := by decide +kernel
theorem dX1_openPart_7 : decode cX1_openPart 7 = .ok (.aload_n 0, 1) := by decide +kernel
theorem dX1_openPart_8 : decode cX1_openPart 8 = .ok (.getfield 47, 3) := by decide +kernel
noncomputable def f_X1_openPart (x1 : Int32) (x2 : Int32) (x3 : Int64) (s : t_S) : Option (t_S) :=
 if (0 : Int32) ≤ (s.1 856 10) then (some (s))
 else (if (s.1 856 15) < (240 : Int32) then (if t_ix (s.1 856 15) 240 = true then
  t_let (t_setI s 861 ((s.1 856 15).toNatClampNeg) (s.1 856 7)) (fun s1 =>
 if t_ix (s1.1 856 15) 240 = true then
  t_let (t_setI s1 862 ((s1.1 856 15).toNatClampNeg) x1) (fun s2 =>
 if t_ix (s2.1 856 15) 240 = true then
  t_let (t_setI s2 863 ((s2.1 856 15).toNatClampNeg) x2) (fun s3 =>
 t_let (t_setI s3 856 15 ((s3.1 856 15) + (1 : Int32))) (fun s4 =>
 (f_X1_putCell x3 s4).bind (fun r4 =>
 some (r4))))
else none)
else none)
else none)
 else (some (s)))
set_option maxRecDepth 4000 in
set_option maxHeartbeats 1000000 in
theorem C_X1_openPart (x1 : Int32) (x2 : Int32) (x3 : Int64) (s : t_S) (r : t_S) (hr : f_X1_openPart x1 x2 x3 s = some r) : t_C yX1_openPart cX1_openPart 5 none 1 [.ref 856, .int x1, .int x2, .long x3] s (fun v s' => v = none ∧ s' = r) := by
  refine t_C.imp (P := fun v s' => v = none ∧ (fun q => q = r) (s')) (t_C.of (by decide +kernel) (Nat.le_of_ble_eq_true rfl) ?_) (fun v s' hp => hp)
  intro D cy ad bs X
  have hk : t_hk (f_X1_openPart x1 x2 x3 s) (fun q => q = r) := ⟨r, hr, rfl⟩
  show mj_G D cy ad bs X cX1_openPart 5 yX1_openPart.cls none yX1_openPart.name 1 0 0 1065 (t_P (fun v s' => v = none ∧ (fun q => q = r) (s'))) 0 [(0, .ref 856), (1, .int x1), (2, .int x2), (3, .long x3)] [] (t_m s) 1065 0 0
  refine mj_aload_n dX1_openPart_0 0 rfl ?_
  refine t_getI dX1_openPart_1 F_X1_221 qf_856_10 ?_
  refine mj_if_ge 19 dX1_openPart_4 (by decide) (fun z => t_posK hk z (fun hk => ?_)) (fun z => t_negK hk z (fun hk => ?_))
  · exact t_somK hk (fun hf => t_vret dX1_openPart_19 rfl ⟨rfl, hf⟩ (Nat.le_of_ble_eq_true rfl) (Nat.le_of_ble_eq_true rfl))
  · refine mj_aload_n dX1_openPart_7 0 rfl ?_
    refine t_getI dX1_openPart_8 F_X1_47 qf_856_15 ?_
    refine mj_aload_n dX1_openPart_11 0 rfl ?_
    refine t_getR 861 dX1_openPart_12 F_X1_25 qr_856_12 ?_
    refine t_alen1 (v := 240) dX1_openPart_15 qa_861 (by decide) ?_
    refine mj_icmp_lt 20 dX1_openPart_16 (by decide) (fun z => t_posK hk z (fun hk => ?_)) (fun z => t_negK hk z (fun hk => ?_))
    · refine mj_aload_n dX1_openPart_20 0 rfl ?_
      refine t_getR 861 dX1_openPart_21 F_X1_25 qr_856_12 ?_
      refine mj_aload_n dX1_openPart_24 0 rfl ?_
      refine t_getI dX1_openPart_25 F_X1_47 qf_856_15 ?_
      refine mj_aload_n dX1_openPart_28 0 rfl ?_
      refine t_getI dX1_openPart_29 F_X1_212 qf_856_7 ?_
      refine t_chkK hk (fun c0 hk => ?_)
      refine t_iastK dX1_openPart_32 qa_861 (t_ixv c0) (fun s1 ws1 => t_letE hk ws1 (fun hk => ?_))
      refine mj_aload_n dX1_openPart_33 0 rfl ?_
      refine t_getR 862 dX1_openPart_34 F_X1_29 qr_856_13 ?_
      refine mj_aload_n dX1_openPart_37 0 rfl ?_
      refine t_getI dX1_openPart_38 F_X1_47 qf_856_15 ?_
      refine mj_iload_n dX1_openPart_41 1 rfl ?_
      refine t_chkK hk (fun c1 hk => ?_)
      refine t_iastK dX1_openPart_42 qa_862 (t_ixv c1) (fun s2 ws2 => t_letE hk ws2 (fun hk => ?_))
      refine mj_aload_n dX1_openPart_43 0 rfl ?_
      refine t_getR 863 dX1_openPart_44 F_X1_32 qr_856_14 ?_
      refine mj_aload_n dX1_openPart_47 0 rfl ?_
      refine t_getI dX1_openPart_48 F_X1_47 qf_856_15 ?_
      refine mj_iload_n dX1_openPart_51 2 rfl ?_
      refine t_chkK hk (fun c2 hk => ?_)
      refine t_iastK dX1_openPart_52 qa_863 (t_ixv c2) (fun s3 ws3 => t_letE hk ws3 (fun hk => ?_))
      refine mj_aload_n dX1_openPart_53 0 rfl ?_
      refine mj_dup dX1_openPart_54 rfl ?_
      refine t_getI dX1_openPart_55 F_X1_47 qf_856_15 ?_
      refine mj_iconst (v := 1) dX1_openPart_58 (by decide) ?_
      refine mj_iadd dX1_openPart_59 ?_
      refine t_putIK dX1_openPart_60 F_X1_47 qf_856_15 rfl (fun s4 ws4 => t_letE hk ws4 (fun hk => ?_))
      refine mj_aload_n dX1_openPart_63 0 rfl ?_
      refine mj_lload_n dX1_openPart_64 3 rfl ?_
      refine t_bndK hk (fun r4 er4 hk => ?_)
      refine t_callVvE dX1_openPart_65 M_X1_putCell (C_X1_putCell _ _ _ er4) ML_X1_247 IM_X1_putCell SE_X1_putCell qc_856 rfl (As := [.long x3]) rfl rfl (Nat.le_of_ble_eq_true rfl) (Nat.le_of_ble_eq_true rfl) (Nat.le_of_ble_eq_true rfl) (Nat.le_of_ble_eq_true rfl) ?_
      exact t_somK hk (fun hf => t_vret dX1_openPart_68 rfl ⟨rfl, hf⟩ (Nat.le_of_ble_eq_true rfl) (Nat.le_of_ble_eq_true rfl))
    · exact t_somK hk (fun hf => t_vret dX1_openPart_19 rfl ⟨rfl, hf⟩ (Nat.le_of_ble_eq_true rfl) (Nat.le_of_ble_eq_true rfl))

theorem dJ6_numberOfLeadingZeros_0f7a4_0 : decode cJ6_numberOfLeadingZeros_0f7a4 0 = .ok (.iload_n 0, 1) := by decide +kernel
theorem dJ6_numberOfLeadingZeros_0f7a4_1 : decode cJ6_numberOfLeadingZeros_0f7a4 1 = .ok (.ifCond .gt 14, 3) := by decide +kernel
theorem dJ6_numberOfLeadingZeros_0f7a4_10 : decode cJ6_numberOfLeadingZeros_0f7a4 10 = .ok (.goto 4, 3) := by decide +kernel
theorem dJ6_numberOfLeadingZeros_0f7a4_13 : decode cJ6_numberOfLeadingZeros_0f7a4 13 = .ok (.iconst 0, 1) := by decide +kernel
theorem dJ6_numberOfLeadingZeros_0f7a4_14 : decode cJ6_numberOfLeadingZeros_0f7a4 14 = .ok (.ireturn, 1) := by decide +kernel
theorem dJ6_numberOfLeadingZeros_0f7a4_15 : decode cJ6_numberOfLeadingZeros_0f7a4 15 = .ok (.bipush 31, 2) := by decide +kernel
theorem dJ6_numberOfLeadingZeros_0f7a4_17 : decode cJ6_numberOfLeadingZeros_0f7a4 17 = .ok (.istore_n 1, 1) := by decide +kernel
theorem dJ6_numberOfLeadingZeros_0f7a4_18 : decode cJ6_numberOfLeadingZeros_0f7a4 18 = .ok (.iload_n 0, 1) := by decide +kernel
theorem dJ6_numberOfLeadingZeros_0f7a4_19 : decode cJ6_numberOfLeadingZeros_0f7a4 19 = .ok (.ldc_w 264, 3) := by decide +kernel
theorem dJ6_numberOfLeadingZeros_0f7a4_22 : decode cJ6_numberOfLeadingZeros_0f7a4 22 = .ok (.if_icmp .lt 11, 3) := by decide +kernel
theorem dJ6_numberOfLeadingZeros_0f7a4_25 : decode cJ6_numberOfLeadingZeros_0f7a4 25 = .ok (.iinc 1 (-16), 3) := by decide +kernel
theorem dJ6_numberOfLeadingZeros_0f7a4_28 : decode cJ6_numberOfLeadingZeros_0f7a4 28 = .ok (.iload_n 0, 1) := by decide +kernel
theorem dJ6_numberOfLeadingZeros_0f7a4_29 : decode cJ6_numberOfLeadingZeros_0f7a4 29 = .ok (.bipush 16, 2) := by decide +kernel
theorem dJ6_numberOfLeadingZeros_0f7a4_31 : decode cJ6_numberOfLeadingZeros_0f7a4 31 = .ok (.iushr, 1) := by decide +kernel
theorem dJ6_numberOfLeadingZeros_0f7a4_32 : decode cJ6_numberOfLeadingZeros_0f7a4 32 = .ok (.istore_n 0, 1) := by decide +kernel
theorem dJ6_numberOfLeadingZeros_0f7a4_33 : decode cJ6_numberOfLeadingZeros_0f7a4 33 = .ok (.iload_n 0, 1) := by decide +kernel
theorem dJ6_numberOfLeadingZeros_0f7a4_34 : decode cJ6_numberOfLeadingZeros_0f7a4 34 = .ok (.sipush 256, 3) := by decide +kernel
theorem dJ6_numberOfLeadingZeros_0f7a4_37 : decode cJ6_numberOfLeadingZeros_0f7a4 37 = .ok (.if_icmp .lt 11, 3) := by decide +kernel
theorem dJ6_numberOfLeadingZeros_0f7a4_4 : decode cJ6_numberOfLeadingZeros_0f7a4 4 = .ok (.iload_n 0, 1) := by decide +kernel
theorem dJ6_numberOfLeadingZeros_0f7a4_40 : decode cJ6_numberOfLeadingZeros_0f7a4 40 = .ok (.iinc 1 (-8), 3) := by decide +kernel
theorem dJ6_numberOfLeadingZeros_0f7a4_43 : decode cJ6_numberOfLeadingZeros_0f7a4 43 = .ok (.iload_n 0, 1) := by decide +kernel
theorem dJ6_numberOfLeadingZeros_0f7a4_44 : decode cJ6_numberOfLeadingZeros_0f7a4 44 = .ok (.bipush 8, 2) := by decide +kernel
theorem dJ6_numberOfLeadingZeros_0f7a4_46 : decode cJ6_numberOfLeadingZeros_0f7a4 46 = .ok (.iushr, 1) := by decide +kernel
theorem dJ6_numberOfLeadingZeros_0f7a4_47 : decode cJ6_numberOfLeadingZeros_0f7a4 47 = .ok (.istore_n 0, 1) := by decide +kernel
theorem dJ6_numberOfLeadingZeros_0f7a4_48 : decode cJ6_numberOfLeadingZeros_0f7a4 48 = .ok (.iload_n 0, 1) := by decide +kernel
theorem dJ6_numberOfLeadingZeros_0f7a4_49 : decode cJ6_numberOfLeadingZeros_0f7a4 49 = .ok (.bipush 16, 2) := by decide +kernel
theorem dJ6_numberOfLeadingZeros_0f7a4_5 : decode cJ6_numberOfLeadingZeros_0f7a4 5 = .ok (.ifCond .ne 8, 3) := by decide +kernel
theorem dJ6_numberOfLeadingZeros_0f7a4_51 : decode cJ6_numberOfLeadingZeros_0f7a4 51 = .ok (.if_icmp .lt 10, 3) := by decide +kernel
theorem dJ6_numberOfLeadingZeros_0f7a4_54 : decode cJ6_numberOfLeadingZeros_0f7a4 54 = .ok (.iinc 1 (-4), 3) := by decide +kernel
theorem dJ6_numberOfLeadingZeros_0f7a4_57 : decode cJ6_numberOfLeadingZeros_0f7a4 57 = .ok (.iload_n 0, 1) := by decide +kernel
theorem dJ6_numberOfLeadingZeros_0f7a4_58 : decode cJ6_numberOfLeadingZeros_0f7a4 58 = .ok (.iconst 4, 1) := by decide +kernel
theorem dJ6_numberOfLeadingZeros_0f7a4_59 : decode cJ6_numberOfLeadingZeros_0f7a4 59 = .ok (.iushr, 1) := by decide +kernel
theorem dJ6_numberOfLeadingZeros_0f7a4_60 : decode cJ6_numberOfLeadingZeros_0f7a4 60 = .ok (.istore_n 0, 1) := by decide +kernel
theorem dJ6_numberOfLeadingZeros_0f7a4_61 : decode cJ6_numberOfLeadingZeros_0f7a4 61 = .ok (.iload_n 0, 1) := by decide +kernel
theorem dJ6_numberOfLeadingZeros_0f7a4_62 : decode cJ6_numberOfLeadingZeros_0f7a4 62 = .ok (.iconst 4, 1) := by decide +kernel
theorem dJ6_numberOfLeadingZeros_0f7a4_63 : decode cJ6_numberOfLeadingZeros_0f7a4 63 = .ok (.if_icmp .lt 10, 3) := by decide +kernel
theorem dJ6_numberOfLeadingZeros_0f7a4_66 : decode cJ6_numberOfLeadingZeros_0f7a4 66 = .ok (.iinc 1 (-2), 3) := by decide +kernel
theorem dJ6_numberOfLeadingZeros_0f7a4_69 : decode cJ6_numberOfLeadingZeros_0f7a4 69 = .ok (.iload_n 0, 1) := by decide +kernel
theorem dJ6_numberOfLeadingZeros_0f7a4_70 : decode cJ6_numberOfLeadingZeros_0f7a4 70 = .ok (.iconst 2, 1) := by decide +kernel
theorem dJ6_numberOfLeadingZeros_0f7a4_71 : decode cJ6_numberOfLeadingZeros_0f7a4 71 = .ok (.iushr, 1) := by decide +kernel
theorem dJ6_numberOfLeadingZeros_0f7a4_72 : decode cJ6_numberOfLeadingZeros_0f7a4 72 = .ok (.istore_n 0, 1) := by decide +kernel
theorem dJ6_numberOfLeadingZeros_0f7a4_73 : decode cJ6_numberOfLeadingZeros_0f7a4 73 = .ok (.iload_n 1, 1) := by decide +kernel
theorem dJ6_numberOfLeadingZeros_0f7a4_74 : decode cJ6_numberOfLeadingZeros_0f7a4 74 = .ok (.iload_n 0, 1) := by decide +kernel
theorem dJ6_numberOfLeadingZeros_0f7a4_75 : decode cJ6_numberOfLeadingZeros_0f7a4 75 = .ok (.iconst 1, 1) := by decide +kernel
theorem dJ6_numberOfLeadingZeros_0f7a4_76 : decode cJ6_numberOfLeadingZeros_0f7a4 76 = .ok (.iushr, 1) := by decide +kernel
theorem dJ6_numberOfLeadingZeros_0f7a4_77 : decode cJ6_numberOfLeadingZeros_0f7a4 77 = .ok (.isub, 1) := by decide +kernel
theorem dJ6_numberOfLeadingZeros_0f7a4_78 : decode cJ6_numberOfLeadingZeros_0f7a4 78 = .ok (.ireturn, 1) := by decide +kernel
theorem dJ6_numberOfLeadingZeros_0f7a4_8 : decode cJ6_numberOfLeadingZeros_0f7a4 8 = .ok (.bipush 32, 2) := by decide +kernel
noncomputable def k_J6_numberOfLeadingZeros_0f7a4_73 (l0 : Int32) (l1 : Int32) (s : t_S) : Int32 :=
 (l1 - ((l0.toUInt32 >>> ((1 : Int32).toUInt32 &&& Int32.toUInt32 31)).toInt32))
set_option maxRecDepth 4000 in
set_option maxHeartbeats 1000000 in
theorem B_J6_numberOfLeadingZeros_0f7a4_73 {D : va_G} {cy : Nat → ClassId} {ad : Nat → Nat} {bs : Nat} {X : State → Heap → Prop} (l0 : Int32) (l1 : Int32) (s : t_S) (Q : Int32 → Prop) (hk : t_ht (k_J6_numberOfLeadingZeros_0f7a4_73 l0 l1 s) Q) : mj_G D cy ad bs X cJ6_numberOfLeadingZeros_0f7a4 2 yJ6_numberOfLeadingZeros_0f7a4.cls (some .int) yJ6_numberOfLeadingZeros_0f7a4.name 0 0 0 1065 (t_P (fun v s' => s' = s ∧ ∃ x, v = some (.int x) ∧ Q (x))) 73 [(0, .int l0), (1, .int l1)] [] (t_m s) 1065 0 0 := by
  refine mj_iload_n dJ6_numberOfLeadingZeros_0f7a4_73 1 rfl ?_
  refine mj_iload_n dJ6_numberOfLeadingZeros_0f7a4_74 0 rfl ?_
  refine mj_iconst (v := 1) dJ6_numberOfLeadingZeros_0f7a4_75 (by decide) ?_
  refine mj_iushr dJ6_numberOfLeadingZeros_0f7a4_76 rfl ?_
  refine mj_isub dJ6_numberOfLeadingZeros_0f7a4_77 ?_
  exact t_iret dJ6_numberOfLeadingZeros_0f7a4_78 rfl rfl ⟨rfl, _, rfl, hk⟩ (Nat.le_of_ble_eq_true rfl) (Nat.le_of_ble_eq_true rfl)
noncomputable def k_J6_numberOfLeadingZeros_0f7a4_61 (l0 : Int32) (l1 : Int32) (s : t_S) : Int32 :=
 if l0 < (4 : Int32) then (k_J6_numberOfLeadingZeros_0f7a4_73 l0 l1 s)
 else (k_J6_numberOfLeadingZeros_0f7a4_73 ((l0.toUInt32 >>> ((2 : Int32).toUInt32 &&& Int32.toUInt32 31)).toInt32) (l1 + (-2)) s)
set_option maxRecDepth 4000 in
set_option maxHeartbeats 1000000 in
theorem B_J6_numberOfLeadingZeros_0f7a4_61 {D : va_G} {cy : Nat → ClassId} {ad : Nat → Nat} {bs : Nat} {X : State → Heap → Prop} (l0 : Int32) (l1 : Int32) (s : t_S) (Q : Int32 → Prop) (hk : t_ht (k_J6_numberOfLeadingZeros_0f7a4_61 l0 l1 s) Q) : mj_G D cy ad bs X cJ6_numberOfLeadingZeros_0f7a4 2 yJ6_numberOfLeadingZeros_0f7a4.cls (some .int) yJ6_numberOfLeadingZeros_0f7a4.name 0 0 0 1065 (t_P (fun v s' => s' = s ∧ ∃ x, v = some (.int x) ∧ Q (x))) 61 [(0, .int l0), (1, .int l1)] [] (t_m s) 1065 0 0 := by
  refine mj_iload_n dJ6_numberOfLeadingZeros_0f7a4_61 0 rfl ?_
  refine mj_iconst (v := 4) dJ6_numberOfLeadingZeros_0f7a4_62 (by decide) ?_
  refine mj_icmp_lt 73 dJ6_numberOfLeadingZeros_0f7a4_63 (by decide) (fun z => t_posTK hk z (fun hk => ?_)) (fun z => t_negTK hk z (fun hk => ?_))
  · exact B_J6_numberOfLeadingZeros_0f7a4_73 _ _ _ _ hk
  · refine mj_iinc (k := 1) (v := (l1 + (-2))) (lv2 := [(1, .int (l1 + (-2))), (0, .int l0)]) dJ6_numberOfLeadingZeros_0f7a4_66 rfl rfl (by decide) rfl ?_
    refine mj_iload_n dJ6_numberOfLeadingZeros_0f7a4_69 1 rfl ?_
    refine mj_iconst (v := 2) dJ6_numberOfLeadingZeros_0f7a4_70 (by decide) ?_
    refine mj_iushr dJ6_numberOfLeadingZeros_0f7a4_71 rfl ?_
    refine mj_istore_n 0 (lv2 := [(0, .int ((l0.toUInt32 >>> ((2 : Int32).toUInt32 &&& Int32.toUInt32 31)).toInt32)), (1, .int (l1 + (-2)))]) dJ6_numberOfLeadingZeros_0f7a4_72 rfl (by decide) rfl ?_
    exact B_J6_numberOfLeadingZeros_0f7a4_73 _ _ _ _ hk
noncomputable def k_J6_numberOfLeadingZeros_0f7a4_48 (l0 : Int32) (l1 : Int32) (s : t_S) : Int32 :=
 if l0 < (16 : Int32) then (k_J6_numberOfLeadingZeros_0f7a4_61 l0 l1 s)
 else (k_J6_numberOfLeadingZeros_0f7a4_61 ((l0.toUInt32 >>> ((4 : Int32).toUInt32 &&& Int32.toUInt32 31)).toInt32) (l1 + (-4)) s)
set_option maxRecDepth 4000 in
set_option maxHeartbeats 1000000 in
theorem B_J6_numberOfLeadingZeros_0f7a4_48 {D : va_G} {cy : Nat → ClassId} {ad : Nat → Nat} {bs : Nat} {X : State → Heap → Prop} (l0 : Int32) (l1 : Int32) (s : t_S) (Q : Int32 → Prop) (hk : t_ht (k_J6_numberOfLeadingZeros_0f7a4_48 l0 l1 s) Q) : mj_G D cy ad bs X cJ6_numberOfLeadingZeros_0f7a4 2 yJ6_numberOfLeadingZeros_0f7a4.cls (some .int) yJ6_numberOfLeadingZeros_0f7a4.name 0 0 0 1065 (t_P (fun v s' => s' = s ∧ ∃ x, v = some (.int x) ∧ Q (x))) 48 [(0, .int l0), (1, .int l1)] [] (t_m s) 1065 0 0 := by
  refine mj_iload_n dJ6_numberOfLeadingZeros_0f7a4_48 0 rfl ?_
  refine mj_bipush (v := 16) dJ6_numberOfLeadingZeros_0f7a4_49 (by decide) ?_
  refine mj_icmp_lt 61 dJ6_numberOfLeadingZeros_0f7a4_51 (by decide) (fun z => t_posTK hk z (fun hk => ?_)) (fun z => t_negTK hk z (fun hk => ?_))
  · exact B_J6_numberOfLeadingZeros_0f7a4_61 _ _ _ _ hk
  · refine mj_iinc (k := 1) (v := (l1 + (-4))) (lv2 := [(1, .int (l1 + (-4))), (0, .int l0)]) dJ6_numberOfLeadingZeros_0f7a4_54 rfl rfl (by decide) rfl ?_
    refine mj_iload_n dJ6_numberOfLeadingZeros_0f7a4_57 1 rfl ?_
    refine mj_iconst (v := 4) dJ6_numberOfLeadingZeros_0f7a4_58 (by decide) ?_
    refine mj_iushr dJ6_numberOfLeadingZeros_0f7a4_59 rfl ?_
    refine mj_istore_n 0 (lv2 := [(0, .int ((l0.toUInt32 >>> ((4 : Int32).toUInt32 &&& Int32.toUInt32 31)).toInt32)), (1, .int (l1 + (-4)))]) dJ6_numberOfLeadingZeros_0f7a4_60 rfl (by decide) rfl ?_
    exact B_J6_numberOfLeadingZeros_0f7a4_61 _ _ _ _ hk
noncomputable def k_J6_numberOfLeadingZeros_0f7a4_33 (l0 : Int32) (l1 : Int32) (s : t_S) : Int32 :=
 if l0 < (256 : Int32) then (k_J6_numberOfLeadingZeros_0f7a4_48 l0 l1 s)
 else (k_J6_numberOfLeadingZeros_0f7a4_48 ((l0.toUInt32 >>> ((8 : Int32).toUInt32 &&& Int32.toUInt32 31)).toInt32) (l1 + (-8)) s)
set_option maxRecDepth 4000 in
set_option maxHeartbeats 1000000 in
theorem B_J6_numberOfLeadingZeros_0f7a4_33 {D : va_G} {cy : Nat → ClassId} {ad : Nat → Nat} {bs : Nat} {X : State → Heap → Prop} (l0 : Int32) (l1 : Int32) (s : t_S) (Q : Int32 → Prop) (hk : t_ht (k_J6_numberOfLeadingZeros_0f7a4_33 l0 l1 s) Q) : mj_G D cy ad bs X cJ6_numberOfLeadingZeros_0f7a4 2 yJ6_numberOfLeadingZeros_0f7a4.cls (some .int) yJ6_numberOfLeadingZeros_0f7a4.name 0 0 0 1065 (t_P (fun v s' => s' = s ∧ ∃ x, v = some (.int x) ∧ Q (x))) 33 [(0, .int l0), (1, .int l1)] [] (t_m s) 1065 0 0 := by
  refine mj_iload_n dJ6_numberOfLeadingZeros_0f7a4_33 0 rfl ?_
  refine mj_sipush (v := 256) dJ6_numberOfLeadingZeros_0f7a4_34 (by decide) ?_
  refine mj_icmp_lt 48 dJ6_numberOfLeadingZeros_0f7a4_37 (by decide) (fun z => t_posTK hk z (fun hk => ?_)) (fun z => t_negTK hk z (fun hk => ?_))
  · exact B_J6_numberOfLeadingZeros_0f7a4_48 _ _ _ _ hk
  · refine mj_iinc (k := 1) (v := (l1 + (-8))) (lv2 := [(1, .int (l1 + (-8))), (0, .int l0)]) dJ6_numberOfLeadingZeros_0f7a4_40 rfl rfl (by decide) rfl ?_
    refine mj_iload_n dJ6_numberOfLeadingZeros_0f7a4_43 1 rfl ?_
    refine mj_bipush (v := 8) dJ6_numberOfLeadingZeros_0f7a4_44 (by decide) ?_
    refine mj_iushr dJ6_numberOfLeadingZeros_0f7a4_46 rfl ?_
    refine mj_istore_n 0 (lv2 := [(0, .int ((l0.toUInt32 >>> ((8 : Int32).toUInt32 &&& Int32.toUInt32 31)).toInt32)), (1, .int (l1 + (-8)))]) dJ6_numberOfLeadingZeros_0f7a4_47 rfl (by decide) rfl ?_
    exact B_J6_numberOfLeadingZeros_0f7a4_48 _ _ _ _ hk
noncomputable def f_J6_numberOfLeadingZeros_0f7a4 (x1 : Int32) (s : t_S) : Int32 :=
 if (0 : Int32) < x1 then (if x1 < (65536 : Int32) then (k_J6_numberOfLeadingZeros_0f7a4_33 x1 31 s)
 else (k_J6_numberOfLeadingZeros_0f7a4_33 ((x1.toUInt32 >>> ((16 : Int32).toUInt32 &&& Int32.toUInt32 31)).toInt32) 15 s))
 else (if x1 = (0 : Int32) then ((32 : Int32))
 else ((0 : Int32)))
set_option maxRecDepth 4000 in
set_option maxHeartbeats 1000000 in
theorem C_J6_numberOfLeadingZeros_0f7a4 (x1 : Int32) (s : t_S) : t_C yJ6_numberOfLeadingZeros_0f7a4 cJ6_numberOfLeadingZeros_0f7a4 2 (some .int) 0 [.int x1] s (fun v s' => v = some (.int (f_J6_numberOfLeadingZeros_0f7a4 x1 s)) ∧ s' = s) := by
  refine t_C.imp (P := fun v s' => s' = s ∧ ∃ x, v = some (.int x) ∧ (fun r => r = f_J6_numberOfLeadingZeros_0f7a4 x1 s) (x)) (t_C.of (by decide +kernel) (Nat.le_of_ble_eq_true rfl) ?_) (fun v s' hp => by obtain ⟨rfl, x, rfl, rfl⟩ := hp; exact ⟨rfl, rfl⟩)
  intro D cy ad bs X
  have hk : t_ht (f_J6_numberOfLeadingZeros_0f7a4 x1 s) (fun r => r = f_J6_numberOfLeadingZeros_0f7a4 x1 s) := rfl
  show mj_G D cy ad bs X cJ6_numberOfLeadingZeros_0f7a4 2 yJ6_numberOfLeadingZeros_0f7a4.cls (some .int) yJ6_numberOfLeadingZeros_0f7a4.name 0 0 0 1065 (t_P (fun v s' => s' = s ∧ ∃ x, v = some (.int x) ∧ (fun r => r = f_J6_numberOfLeadingZeros_0f7a4 x1 s) (x))) 0 [(0, .int x1)] [] (t_m s) 1065 0 0
  refine mj_iload_n dJ6_numberOfLeadingZeros_0f7a4_0 0 rfl ?_
  refine mj_if_gt 15 dJ6_numberOfLeadingZeros_0f7a4_1 (by decide) (fun z => t_posTK hk z (fun hk => ?_)) (fun z => t_negTK hk z (fun hk => ?_))
  · refine mj_bipush (v := 31) dJ6_numberOfLeadingZeros_0f7a4_15 (by decide) ?_
    refine mj_istore_n 1 (lv2 := [(1, .int 31), (0, .int x1)]) dJ6_numberOfLeadingZeros_0f7a4_17 rfl (by decide) rfl ?_
    refine mj_iload_n dJ6_numberOfLeadingZeros_0f7a4_18 1 rfl ?_
    refine mj_ldcw dJ6_numberOfLeadingZeros_0f7a4_19 K_J6_264 ?_
    refine mj_icmp_lt 33 dJ6_numberOfLeadingZeros_0f7a4_22 (by decide) (fun z => t_posTK hk z (fun hk => ?_)) (fun z => t_negTK hk z (fun hk => ?_))
    · refine mj_sublv [(0, .int x1), (1, .int 31)] [1, 0] rfl ?_
      exact B_J6_numberOfLeadingZeros_0f7a4_33 _ _ _ _ hk
    · refine mj_iinc (k := 0) (v := 15) (lv2 := [(1, .int 15), (0, .int x1)]) dJ6_numberOfLeadingZeros_0f7a4_25 rfl (by decide) (by decide) rfl ?_
      refine mj_iload_n dJ6_numberOfLeadingZeros_0f7a4_28 1 rfl ?_
      refine mj_bipush (v := 16) dJ6_numberOfLeadingZeros_0f7a4_29 (by decide) ?_
      refine mj_iushr dJ6_numberOfLeadingZeros_0f7a4_31 rfl ?_
      refine mj_istore_n 0 (lv2 := [(0, .int ((x1.toUInt32 >>> ((16 : Int32).toUInt32 &&& Int32.toUInt32 31)).toInt32)), (1, .int 15)]) dJ6_numberOfLeadingZeros_0f7a4_32 rfl (by decide) rfl ?_
      exact B_J6_numberOfLeadingZeros_0f7a4_33 _ _ _ _ hk
  · refine mj_iload_n dJ6_numberOfLeadingZeros_0f7a4_4 0 rfl ?_
    refine mj_if_ne 13 dJ6_numberOfLeadingZeros_0f7a4_5 (by decide) (fun z => t_negTK hk z (fun hk => ?_)) (fun z => t_posTK hk z (fun hk => ?_))
    · refine mj_iconst (v := 0) dJ6_numberOfLeadingZeros_0f7a4_13 (by decide) ?_
      exact t_iret dJ6_numberOfLeadingZeros_0f7a4_14 rfl rfl ⟨rfl, _, rfl, hk⟩ (Nat.le_of_ble_eq_true rfl) (Nat.le_of_ble_eq_true rfl)
    · refine mj_bipush (v := 32) dJ6_numberOfLeadingZeros_0f7a4_8 (by decide) ?_
      refine mj_goto 14 dJ6_numberOfLeadingZeros_0f7a4_10 (by decide) ?_
      exact t_iret dJ6_numberOfLeadingZeros_0f7a4_14 rfl rfl ⟨rfl, _, rfl, hk⟩ (Nat.le_of_ble_eq_true rfl) (Nat.le_of_ble_eq_true rfl)

theorem dJ13_numberOfLeadingZeros_95d88_0 : decode cJ13_numberOfLeadingZeros_95d88 0 = .ok (.lload_n 0, 1) := by decide +kernel
theorem dJ13_numberOfLeadingZeros_95d88_1 : decode cJ13_numberOfLeadingZeros_95d88 1 = .ok (.bipush 32, 2) := by decide +kernel
theorem dJ13_numberOfLeadingZeros_95d88_10 : decode cJ13_numberOfLeadingZeros_95d88 10 = .ok (.bipush 32, 2) := by decide +kernel
theorem dJ13_numberOfLeadingZeros_95d88_12 : decode cJ13_numberOfLeadingZeros_95d88 12 = .ok (.lload_n 0, 1) := by decide +kernel
theorem dJ13_numberOfLeadingZeros_95d88_13 : decode cJ13_numberOfLeadingZeros_95d88 13 = .ok (.l2i, 1) := by decide +kernel
theorem dJ13_numberOfLeadingZeros_95d88_14 : decode cJ13_numberOfLeadingZeros_95d88 14 = .ok (.invokestatic 308, 3) := by decide +kernel
theorem dJ13_numberOfLeadingZeros_95d88_17 : decode cJ13_numberOfLeadingZeros_95d88 17 = .ok (.iadd, 1) := by decide +kernel
theorem dJ13_numberOfLeadingZeros_95d88_18 : decode cJ13_numberOfLeadingZeros_95d88 18 = .ok (.goto 7, 3) := by decide +kernel
theorem dJ13_numberOfLeadingZeros_95d88_21 : decode cJ13_numberOfLeadingZeros_95d88 21 = .ok (.iload_n 2, 1) := by decide +kernel
theorem dJ13_numberOfLeadingZeros_95d88_22 : decode cJ13_numberOfLeadingZeros_95d88 22 = .ok (.invokestatic 308, 3) := by decide +kernel
theorem dJ13_numberOfLeadingZeros_95d88_25 : decode cJ13_numberOfLeadingZeros_95d88 25 = .ok (.ireturn, 1) := by decide +kernel
theorem dJ13_numberOfLeadingZeros_95d88_3 : decode cJ13_numberOfLeadingZeros_95d88 3 = .ok (.lushr, 1) := by decide +kernel
theorem dJ13_numberOfLeadingZeros_95d88_4 : decode cJ13_numberOfLeadingZeros_95d88 4 = .ok (.l2i, 1) := by decide +kernel
theorem dJ13_numberOfLeadingZeros_95d88_5 : decode cJ13_numberOfLeadingZeros_95d88 5 = .ok (.istore_n 2, 1) := by decide +kernel
theorem dJ13_numberOfLeadingZeros_95d88_6 : decode cJ13_numberOfLeadingZeros_95d88 6 = .ok (.iload_n 2, 1) := by decide +kernel
theorem dJ13_numberOfLeadingZeros_95d88_7 : decode cJ13_numberOfLeadingZeros_95d88 7 = .ok (.ifCond .ne 14, 3) := by decide +kernel
noncomputable def f_J13_numberOfLeadingZeros_95d88 (x1 : Int64) (s : t_S) : Int32 :=
 if (((x1.toUInt64 >>> ((32 : Int32).toInt64.toUInt64 &&& Int64.toUInt64 63)).toInt64).toInt32) = (0 : Int32) then (((32 : Int32) + (f_J6_numberOfLeadingZeros_0f7a4 x1.toInt32 s)))
 else ((f_J6_numberOfLeadingZeros_0f7a4 (((x1.toUInt64 >>> ((32 : Int32).toInt64.toUInt64 &&& Int64.toUInt64 63)).toInt64).toInt32) s))
set_option maxRecDepth 4000 in
set_option maxHeartbeats 1000000 in
theorem C_J13_numberOfLeadingZeros_95d88 (x1 : Int64) (s : t_S) : t_C yJ13_numberOfLeadingZeros_95d88 cJ13_numberOfLeadingZeros_95d88 3 (some .int) 1 [.long x1] s (fun v s' => v = some (.int (f_J13_numberOfLeadingZeros_95d88 x1 s)) ∧ s' = s) := by
  refine t_C.imp (P := fun v s' => s' = s ∧ ∃ x, v = some (.int x) ∧ (fun r => r = f_J13_numberOfLeadingZeros_95d88 x1 s) (x)) (t_C.of (by decide +kernel) (Nat.le_of_ble_eq_true rfl) ?_) (fun v s' hp => by obtain ⟨rfl, x, rfl, rfl⟩ := hp; exact ⟨rfl, rfl⟩)
  intro D cy ad bs X
  have hk : t_ht (f_J13_numberOfLeadingZeros_95d88 x1 s) (fun r => r = f_J13_numberOfLeadingZeros_95d88 x1 s) := rfl
  show mj_G D cy ad bs X cJ13_numberOfLeadingZeros_95d88 3 yJ13_numberOfLeadingZeros_95d88.cls (some .int) yJ13_numberOfLeadingZeros_95d88.name 1 0 0 1065 (t_P (fun v s' => s' = s ∧ ∃ x, v = some (.int x) ∧ (fun r => r = f_J13_numberOfLeadingZeros_95d88 x1 s) (x))) 0 [(0, .long x1)] [] (t_m s) 1065 0 0
  refine mj_lload_n dJ13_numberOfLeadingZeros_95d88_0 0 rfl ?_
  refine mj_bipush (v := 32) dJ13_numberOfLeadingZeros_95d88_1 (by decide) ?_
  refine mj_lushr dJ13_numberOfLeadingZeros_95d88_3 rfl ?_
  refine mj_l2i (v := ((x1.toUInt64 >>> ((32 : Int32).toInt64.toUInt64 &&& Int64.toUInt64 63)).toInt64).toInt32) dJ13_numberOfLeadingZeros_95d88_4 rfl ?_
  refine mj_istore_n 2 (lv2 := [(2, .int (((x1.toUInt64 >>> ((32 : Int32).toInt64.toUInt64 &&& Int64.toUInt64 63)).toInt64).toInt32)), (0, .long x1)]) dJ13_numberOfLeadingZeros_95d88_5 rfl (by decide) rfl ?_
  refine mj_iload_n dJ13_numberOfLeadingZeros_95d88_6 0 rfl ?_
  refine mj_if_ne 21 dJ13_numberOfLeadingZeros_95d88_7 (by decide) (fun z => t_negTK hk z (fun hk => ?_)) (fun z => t_posTK hk z (fun hk => ?_))
  · refine mj_iload_n dJ13_numberOfLeadingZeros_95d88_21 0 rfl ?_
    refine t_callSiP dJ13_numberOfLeadingZeros_95d88_22 M_J6_numberOfLeadingZeros_0f7a4 (C_J6_numberOfLeadingZeros_0f7a4 _ _) ML_J13_308 SM_J6_numberOfLeadingZeros_0f7a4 (As := [.int (((x1.toUInt64 >>> ((32 : Int32).toInt64.toUInt64 &&& Int64.toUInt64 63)).toInt64).toInt32)]) rfl rfl (Nat.le_of_ble_eq_true rfl) (Nat.le_of_ble_eq_true rfl) (Nat.le_of_ble_eq_true rfl) (Nat.le_of_ble_eq_true rfl) ?_
    exact t_iret dJ13_numberOfLeadingZeros_95d88_25 rfl rfl ⟨rfl, _, rfl, hk⟩ (Nat.le_of_ble_eq_true rfl) (Nat.le_of_ble_eq_true rfl)
  · refine mj_bipush (v := 32) dJ13_numberOfLeadingZeros_95d88_10 (by decide) ?_
    refine mj_lload_n dJ13_numberOfLeadingZeros_95d88_12 1 rfl ?_
    refine mj_l2i (v := x1.toInt32) dJ13_numberOfLeadingZeros_95d88_13 rfl ?_
    refine t_callSiP dJ13_numberOfLeadingZeros_95d88_14 M_J6_numberOfLeadingZeros_0f7a4 (C_J6_numberOfLeadingZeros_0f7a4 _ _) ML_J13_308 SM_J6_numberOfLeadingZeros_0f7a4 (As := [.int x1.toInt32]) rfl rfl (Nat.le_of_ble_eq_true rfl) (Nat.le_of_ble_eq_true rfl) (Nat.le_of_ble_eq_true rfl) (Nat.le_of_ble_eq_true rfl) ?_
    refine mj_iadd dJ13_numberOfLeadingZeros_95d88_17 ?_
    refine mj_goto 25 dJ13_numberOfLeadingZeros_95d88_18 (by decide) ?_
    exact t_iret dJ13_numberOfLeadingZeros_95d88_25 rfl rfl ⟨rfl, _, rfl, hk⟩ (Nat.le_of_ble_eq_true rfl) (Nat.le_of_ble_eq_true rfl)

theorem dX1_bitsFor_0 : decode cX1_bitsFor 0 = .ok (.bipush 64, 2) := by decide +kernel
theorem dX1_bitsFor_2 : decode cX1_bitsFor 2 = .ok (.lload_n 0, 1) := by decide +kernel
theorem dX1_bitsFor_3 : decode cX1_bitsFor 3 = .ok (.invokestatic 127, 3) := by decide +kernel
theorem dX1_bitsFor_6 : decode cX1_bitsFor 6 = .ok (.isub, 1) := by decide +kernel
theorem dX1_bitsFor_7 : decode cX1_bitsFor 7 = .ok (.ireturn, 1) := by decide +kernel
noncomputable def f_X1_bitsFor (x1 : Int64) (s : t_S) : Int32 :=
 ((64 : Int32) - (f_J13_numberOfLeadingZeros_95d88 x1 s))
set_option maxRecDepth 4000 in
set_option maxHeartbeats 1000000 in
theorem C_X1_bitsFor (x1 : Int64) (s : t_S) : t_C yX1_bitsFor cX1_bitsFor 2 (some .int) 2 [.long x1] s (fun v s' => v = some (.int (f_X1_bitsFor x1 s)) ∧ s' = s) := by
  refine t_C.imp (P := fun v s' => s' = s ∧ ∃ x, v = some (.int x) ∧ (fun r => r = f_X1_bitsFor x1 s) (x)) (t_C.of (by decide +kernel) (Nat.le_of_ble_eq_true rfl) ?_) (fun v s' hp => by obtain ⟨rfl, x, rfl, rfl⟩ := hp; exact ⟨rfl, rfl⟩)
  intro D cy ad bs X
  have hk : t_ht (f_X1_bitsFor x1 s) (fun r => r = f_X1_bitsFor x1 s) := rfl
  show mj_G D cy ad bs X cX1_bitsFor 2 yX1_bitsFor.cls (some .int) yX1_bitsFor.name 2 0 0 1065 (t_P (fun v s' => s' = s ∧ ∃ x, v = some (.int x) ∧ (fun r => r = f_X1_bitsFor x1 s) (x))) 0 [(0, .long x1)] [] (t_m s) 1065 0 0
  refine mj_bipush (v := 64) dX1_bitsFor_0 (by decide) ?_
  refine mj_lload_n dX1_bitsFor_2 0 rfl ?_
  refine t_callSiP dX1_bitsFor_3 M_J13_numberOfLeadingZeros_95d88 (C_J13_numberOfLeadingZeros_95d88 _ _) ML_X1_127 SM_J13_numberOfLeadingZeros_95d88 (As := [.long x1]) rfl rfl (Nat.le_of_ble_eq_true rfl) (Nat.le_of_ble_eq_true rfl) (Nat.le_of_ble_eq_true rfl) (Nat.le_of_ble_eq_true rfl) ?_
  refine mj_isub dX1_bitsFor_6 ?_
  exact t_iret dX1_bitsFor_7 rfl rfl ⟨rfl, _, rfl, hk⟩ (Nat.le_of_ble_eq_true rfl) (Nat.le_of_ble_eq_true rfl)

theorem dX1_take_0 : decode cX1_take 0 = .ok (.aload_n 0, 1) := by decide +kernel
theorem dX1_take_1 : decode cX1_take 1 = .ok (.getfield 221, 3) := by decide +kernel
theorem dX1_take_10 : decode cX1_take 10 = .ok (.getfield 218, 3) := by decide +kernel
theorem dX1_take_13 : decode cX1_take 13 = .ok (.iload_n 1, 1) := by decide +kernel
theorem dX1_take_14 : decode cX1_take 14 = .ok (.iadd, 1) := by decide +kernel
theorem dX1_take_15 : decode cX1_take 15 = .ok (.aload_n 0, 1) := by decide +kernel
theorem dX1_take_16 : decode cX1_take 16 = .ok (.getfield 132, 3) := by decide +kernel
theorem dX1_take_19 : decode cX1_take 19 = .ok (.if_icmp .le 13, 3) := by decide +kernel
theorem dX1_take_22 : decode cX1_take 22 = .ok (.aload_n 0, 1) := by decide +kernel
theorem dX1_take_23 : decode cX1_take 23 = .ok (.aload_n 0, 1) := by decide +kernel
theorem dX1_take_24 : decode cX1_take 24 = .ok (.getfield 132, 3) := by decide +kernel
theorem dX1_take_27 : decode cX1_take 27 = .ok (.putfield 221, 3) := by decide +kernel
theorem dX1_take_30 : decode cX1_take 30 = .ok (.lconst 0, 1) := by decide +kernel
theorem dX1_take_31 : decode cX1_take 31 = .ok (.lreturn, 1) := by decide +kernel
theorem dX1_take_32 : decode cX1_take 32 = .ok (.lconst 0, 1) := by decide +kernel
theorem dX1_take_33 : decode cX1_take 33 = .ok (.lstore_n 2, 1) := by decide +kernel
theorem dX1_take_34 : decode cX1_take 34 = .ok (.iconst 0, 1) := by decide +kernel
theorem dX1_take_35 : decode cX1_take 35 = .ok (.istore 4, 2) := by decide +kernel
theorem dX1_take_37 : decode cX1_take 37 = .ok (.iload 4, 2) := by decide +kernel
theorem dX1_take_39 : decode cX1_take 39 = .ok (.iload_n 1, 1) := by decide +kernel
theorem dX1_take_4 : decode cX1_take 4 = .ok (.ifCond .lt 5, 3) := by decide +kernel
theorem dX1_take_40 : decode cX1_take 40 = .ok (.if_icmp .ge 34, 3) := by decide +kernel
theorem dX1_take_43 : decode cX1_take 43 = .ok (.lload_n 2, 1) := by decide +kernel
theorem dX1_take_44 : decode cX1_take 44 = .ok (.iconst 1, 1) := by decide +kernel
theorem dX1_take_45 : decode cX1_take 45 = .ok (.lshl, 1) := by decide +kernel
theorem dX1_take_46 : decode cX1_take 46 = .ok (.aload_n 0, 1) := by decide +kernel
theorem dX1_take_47 : decode cX1_take 47 = .ok (.getfield 13, 3) := by decide +kernel
theorem dX1_take_50 : decode cX1_take 50 = .ok (.aload_n 0, 1) := by decide +kernel
theorem dX1_take_51 : decode cX1_take 51 = .ok (.getfield 218, 3) := by decide +kernel
theorem dX1_take_54 : decode cX1_take 54 = .ok (.baload, 1) := by decide +kernel
theorem dX1_take_55 : decode cX1_take 55 = .ok (.i2l, 1) := by decide +kernel
theorem dX1_take_56 : decode cX1_take 56 = .ok (.lor, 1) := by decide +kernel
theorem dX1_take_57 : decode cX1_take 57 = .ok (.lstore_n 2, 1) := by decide +kernel
theorem dX1_take_58 : decode cX1_take 58 = .ok (.aload_n 0, 1) := by decide +kernel
theorem dX1_take_59 : decode cX1_take 59 = .ok (.dup, 1) := by decide +kernel
theorem dX1_take_60 : decode cX1_take 60 = .ok (.getfield 218, 3) := by decide +kernel
theorem dX1_take_63 : decode cX1_take 63 = .ok (.iconst 1, 1) := by decide +kernel
theorem dX1_take_64 : decode cX1_take 64 = .ok (.iadd, 1) := by decide +kernel
theorem dX1_take_65 : decode cX1_take 65 = .ok (.putfield 218, 3) := by decide +kernel
theorem dX1_take_68 : decode cX1_take 68 = .ok (.iinc 4 1, 3) := by decide +kernel
theorem dX1_take_7 : decode cX1_take 7 = .ok (.lconst 0, 1) := by decide +kernel
theorem dX1_take_71 : decode cX1_take 71 = .ok (.goto (-34), 3) := by decide +kernel
theorem dX1_take_74 : decode cX1_take 74 = .ok (.lload_n 2, 1) := by decide +kernel
theorem dX1_take_75 : decode cX1_take 75 = .ok (.lreturn, 1) := by decide +kernel
theorem dX1_take_8 : decode cX1_take 8 = .ok (.lreturn, 1) := by decide +kernel
theorem dX1_take_9 : decode cX1_take 9 = .ok (.aload_n 0, 1) := by decide +kernel
noncomputable def k_X1_take_37 (l1 : Int32) (l2 : Int64) (l4 : Int32) (s : t_S) : Option ((Int32 × Int64 × Int32 × t_S) ⊕ (Int64 × t_S)) :=
 if l1 ≤ l4 then ((some (l2, s)).map Sum.inr)
 else (if t_ix (s.1 856 9) 8000 = true then
  t_let (t_setI s 856 9 ((s.1 856 9) + (1 : Int32))) (fun s1 =>
 some (.inl (l1, ((l2 <<< ((1 : Int32).toInt64 &&& 63)) ||| ((s.1 858 ((s.1 856 9).toNatClampNeg)).toInt64)), (l4 + 1), s1)))
else none)
set_option maxRecDepth 4000 in
set_option maxHeartbeats 1000000 in
theorem B_X1_take_37 {D : va_G} {cy : Nat → ClassId} {ad : Nat → Nat} {bs : Nat} {X : State → Heap → Prop} (l1 : Int32) (l2 : Int64) (l4 : Int32) (s : t_S) (Q : (Int32 × Int64 × Int32 × t_S) ⊕ (Int64 × t_S) → Prop) (Hb37 : ∀ (y0 : Int32) (y1 : Int64) (y2 : Int32) (y3 : t_S), Q (.inl (y0, y1, y2, y3)) → mj_G D cy ad bs X cX1_take 5 yX1_take.cls (some .long) yX1_take.name 0 0 0 1065 (t_P (fun v s' => ∃ x, v = some (.long x) ∧ Q (.inr ((x, s'))))) 37 [(0, .ref 856), (1, .int (y0)), (2, .long (y1)), (4, .int (y2))] [] (t_m y3) 1065 0 0) (hk : t_hk (k_X1_take_37 l1 l2 l4 s) Q) : mj_G D cy ad bs X cX1_take 5 yX1_take.cls (some .long) yX1_take.name 0 0 0 1065 (t_P (fun v s' => ∃ x, v = some (.long x) ∧ Q (.inr ((x, s'))))) 37 [(0, .ref 856), (1, .int l1), (2, .long l2), (4, .int l4)] [] (t_m s) 1065 0 0 := by
  refine mj_iload dX1_take_37 3 rfl ?_
  refine mj_iload_n dX1_take_39 1 rfl ?_
  refine mj_icmp_ge 74 dX1_take_40 (by decide) (fun z => t_posK hk z (fun hk => ?_)) (fun z => t_negK hk z (fun hk => ?_))
  · refine t_mapK hk (fun hk => ?_)
    refine mj_lload_n dX1_take_74 2 rfl ?_
    exact t_somK hk (fun hf => t_lret dX1_take_75 rfl ⟨_, rfl, hf⟩ (Nat.le_of_ble_eq_true rfl) (Nat.le_of_ble_eq_true rfl))
  · refine mj_lload_n dX1_take_43 2 rfl ?_
    refine mj_iconst (v := 1) dX1_take_44 (by decide) ?_
    refine mj_lshl dX1_take_45 rfl ?_
    refine mj_aload_n dX1_take_46 0 rfl ?_
    refine t_getR 858 dX1_take_47 F_X1_13 qr_856_4 ?_
    refine mj_aload_n dX1_take_50 0 rfl ?_
    refine t_getI dX1_take_51 F_X1_218 qf_856_9 ?_
    refine t_chkK hk (fun c0 hk => ?_)
    refine t_bald dX1_take_54 qa_858 (t_ixv c0) ?_
    refine mj_i2l (v := (s.1 858 ((s.1 856 9).toNatClampNeg)).toInt64) dX1_take_55 rfl ?_
    refine mj_lor dX1_take_56 ?_
    refine mj_lstore_n 2 (lv2 := [(2, .long ((l2 <<< ((1 : Int32).toInt64 &&& 63)) ||| ((s.1 858 ((s.1 856 9).toNatClampNeg)).toInt64))), (0, .ref 856), (1, .int l1), (4, .int l4)]) dX1_take_57 rfl (by decide) rfl ?_
    refine mj_aload_n dX1_take_58 1 rfl ?_
    refine mj_dup dX1_take_59 rfl ?_
    refine t_getI dX1_take_60 F_X1_218 qf_856_9 ?_
    refine mj_iconst (v := 1) dX1_take_63 (by decide) ?_
    refine mj_iadd dX1_take_64 ?_
    refine t_putIK dX1_take_65 F_X1_218 qf_856_9 rfl (fun s1 ws1 => t_letE hk ws1 (fun hk => ?_))
    refine mj_iinc (k := 3) (v := (l4 + 1)) (lv2 := [(4, .int (l4 + 1)), (2, .long ((l2 <<< ((1 : Int32).toInt64 &&& 63)) ||| ((s.1 858 ((s.1 856 9).toNatClampNeg)).toInt64))), (0, .ref 856), (1, .int l1)]) dX1_take_68 rfl rfl (by decide) rfl ?_
    refine mj_goto 37 dX1_take_71 (by decide) ?_
    refine mj_sublv [(0, .ref 856), (1, .int l1), (2, .long ((l2 <<< ((1 : Int32).toInt64 &&& 63)) ||| ((s.1 858 ((s.1 856 9).toNatClampNeg)).toInt64))), (4, .int (l4 + 1))] [2, 3, 1, 0] rfl ?_
    exact t_somK hk (fun hf => Hb37 l1 ((l2 <<< ((1 : Int32).toInt64 &&& 63)) ||| ((s.1 858 ((s.1 856 9).toNatClampNeg)).toInt64)) (l4 + 1) s1 hf)
noncomputable def b_X1_take_37 (x : Int32 × Int64 × Int32 × t_S) : Option ((Int32 × Int64 × Int32 × t_S) ⊕ (Int64 × t_S)) := k_X1_take_37 x.1 x.2.1 x.2.2.1 x.2.2.2
set_option maxRecDepth 4000 in
set_option maxHeartbeats 1000000 in
theorem LH_X1_take_37 {D : va_G} {cy : Nat → ClassId} {ad : Nat → Nat} {bs : Nat} {X : State → Heap → Prop} : ∀ (n : Nat) (y0 : Int32) (y1 : Int64) (y2 : Int32) (y3 : t_S) (Q : Int64 × t_S → Prop) (hk : t_hk (t_loop (b_X1_take_37) n (y0, y1, y2, y3)) Q), mj_G D cy ad bs X cX1_take 5 yX1_take.cls (some .long) yX1_take.name 0 0 0 1065 (t_P (fun v s' => ∃ x, v = some (.long x) ∧ Q ((x, s')))) 37 [(0, .ref 856), (1, .int (y0)), (2, .long (y1)), (4, .int (y2))] [] (t_m y3) 1065 0 0 := by
  intro n
  induction n with
  | zero => intro y0 y1 y2 y3 Q hk; obtain ⟨r, hr, _⟩ := hk; cases hr
  | succ n ih =>
    intro y0 y1 y2 y3 Q hk
    exact B_X1_take_37 y0 y1 y2 y3 (fun y => t_lq (b_X1_take_37) n Q y) (fun y0' y1' y2' y3' hy => ih y0' y1' y2' y3' Q hy) (t_lp hk)
noncomputable def f_X1_take (x1 : Int32) (s : t_S) : Option (Int64 × t_S) :=
 if (s.1 856 10) < (0 : Int32) then (if ((s.1 856 9) + x1) ≤ (s.1 856 5) then (t_loop (b_X1_take_37) t_N (x1, 0, 0, s))
 else (t_let (t_setI s 856 10 (s.1 856 5)) (fun s1 =>
 some ((0 : Int64), s1))))
 else (some ((0 : Int64), s))
set_option maxRecDepth 4000 in
set_option maxHeartbeats 1000000 in
theorem C_X1_take (x1 : Int32) (s : t_S) (r : Int64 × t_S) (hr : f_X1_take x1 s = some r) : t_C yX1_take cX1_take 5 (some .long) 0 [.ref 856, .int x1] s (fun v s' => v = some (.long r.1) ∧ s' = r.2) := by
  refine t_C.imp (P := fun v s' => ∃ x, v = some (.long x) ∧ (fun q => q = r) ((x, s'))) (t_C.of (by decide +kernel) (Nat.le_of_ble_eq_true rfl) ?_) (fun v s' hp => by obtain ⟨x, rfl, rfl⟩ := hp; exact ⟨rfl, rfl⟩)
  intro D cy ad bs X
  have hk : t_hk (f_X1_take x1 s) (fun q => q = r) := ⟨r, hr, rfl⟩
  show mj_G D cy ad bs X cX1_take 5 yX1_take.cls (some .long) yX1_take.name 0 0 0 1065 (t_P (fun v s' => ∃ x, v = some (.long x) ∧ (fun q => q = r) ((x, s')))) 0 [(0, .ref 856), (1, .int x1)] [] (t_m s) 1065 0 0
  refine mj_aload_n dX1_take_0 0 rfl ?_
  refine t_getI dX1_take_1 F_X1_221 qf_856_10 ?_
  refine mj_if_lt 9 dX1_take_4 (by decide) (fun z => t_posK hk z (fun hk => ?_)) (fun z => t_negK hk z (fun hk => ?_))
  · refine mj_aload_n dX1_take_9 0 rfl ?_
    refine t_getI dX1_take_10 F_X1_218 qf_856_9 ?_
    refine mj_iload_n dX1_take_13 1 rfl ?_
    refine mj_iadd dX1_take_14 ?_
    refine mj_aload_n dX1_take_15 0 rfl ?_
    refine t_getI dX1_take_16 F_X1_132 qf_856_5 ?_
    refine mj_icmp_le 32 dX1_take_19 (by decide) (fun z => t_posK hk z (fun hk => ?_)) (fun z => t_negK hk z (fun hk => ?_))
    · refine mj_lconst (v := 0) dX1_take_32 (by decide) ?_
      refine mj_lstore_n 2 (lv2 := [(2, .long 0), (0, .ref 856), (1, .int x1)]) dX1_take_33 rfl (by decide) rfl ?_
      refine mj_iconst (v := 0) dX1_take_34 (by decide) ?_
      refine mj_istore (lv2 := [(4, .int 0), (2, .long 0), (0, .ref 856), (1, .int x1)]) dX1_take_35 (by decide) rfl ?_
      refine mj_sublv [(0, .ref 856), (1, .int x1), (2, .long 0), (4, .int 0)] [2, 3, 1, 0] rfl ?_
      exact LH_X1_take_37 _ x1 0 0 s _ hk
    · refine mj_aload_n dX1_take_22 0 rfl ?_
      refine mj_aload_n dX1_take_23 0 rfl ?_
      refine t_getI dX1_take_24 F_X1_132 qf_856_5 ?_
      refine t_putIK dX1_take_27 F_X1_221 qf_856_10 rfl (fun s1 ws1 => t_letE hk ws1 (fun hk => ?_))
      refine mj_lconst (v := 0) dX1_take_30 (by decide) ?_
      exact t_somK hk (fun hf => t_lret dX1_take_31 rfl ⟨_, rfl, hf⟩ (Nat.le_of_ble_eq_true rfl) (Nat.le_of_ble_eq_true rfl))
  · refine mj_lconst (v := 0) dX1_take_7 (by decide) ?_
    exact t_somK hk (fun hf => t_lret dX1_take_8 rfl ⟨_, rfl, hf⟩ (Nat.le_of_ble_eq_true rfl) (Nat.le_of_ble_eq_true rfl))

theorem dX1_takeUpTo_0 : decode cX1_takeUpTo 0 = .ok (.aload_n 0, 1) := by decide +kernel
theorem dX1_takeUpTo_1 : decode cX1_takeUpTo 1 = .ok (.getfield 218, 3) := by decide +kernel
theorem dX1_takeUpTo_10 : decode cX1_takeUpTo 10 = .ok (.invokevirtual 253, 3) := by decide +kernel
theorem dX1_takeUpTo_13 : decode cX1_takeUpTo 13 = .ok (.lstore 4, 2) := by decide +kernel
theorem dX1_takeUpTo_15 : decode cX1_takeUpTo 15 = .ok (.aload_n 0, 1) := by decide +kernel
theorem dX1_takeUpTo_16 : decode cX1_takeUpTo 16 = .ok (.getfield 221, 3) := by decide +kernel
theorem dX1_takeUpTo_19 : decode cX1_takeUpTo 19 = .ok (.ifCond .ge 15, 3) := by decide +kernel
theorem dX1_takeUpTo_22 : decode cX1_takeUpTo 22 = .ok (.lload 4, 2) := by decide +kernel
theorem dX1_takeUpTo_24 : decode cX1_takeUpTo 24 = .ok (.lload_n 1, 1) := by decide +kernel
theorem dX1_takeUpTo_25 : decode cX1_takeUpTo 25 = .ok (.lcmp, 1) := by decide +kernel
theorem dX1_takeUpTo_26 : decode cX1_takeUpTo 26 = .ok (.ifCond .le 8, 3) := by decide +kernel
theorem dX1_takeUpTo_29 : decode cX1_takeUpTo 29 = .ok (.aload_n 0, 1) := by decide +kernel
theorem dX1_takeUpTo_30 : decode cX1_takeUpTo 30 = .ok (.iload_n 3, 1) := by decide +kernel
theorem dX1_takeUpTo_31 : decode cX1_takeUpTo 31 = .ok (.putfield 221, 3) := by decide +kernel
theorem dX1_takeUpTo_34 : decode cX1_takeUpTo 34 = .ok (.aload_n 0, 1) := by decide +kernel
theorem dX1_takeUpTo_35 : decode cX1_takeUpTo 35 = .ok (.getfield 221, 3) := by decide +kernel
theorem dX1_takeUpTo_38 : decode cX1_takeUpTo 38 = .ok (.ifCond .ge 8, 3) := by decide +kernel
theorem dX1_takeUpTo_4 : decode cX1_takeUpTo 4 = .ok (.istore_n 3, 1) := by decide +kernel
theorem dX1_takeUpTo_41 : decode cX1_takeUpTo 41 = .ok (.lload 4, 2) := by decide +kernel
theorem dX1_takeUpTo_43 : decode cX1_takeUpTo 43 = .ok (.goto 4, 3) := by decide +kernel
theorem dX1_takeUpTo_46 : decode cX1_takeUpTo 46 = .ok (.lconst 0, 1) := by decide +kernel
theorem dX1_takeUpTo_47 : decode cX1_takeUpTo 47 = .ok (.lreturn, 1) := by decide +kernel
theorem dX1_takeUpTo_5 : decode cX1_takeUpTo 5 = .ok (.aload_n 0, 1) := by decide +kernel
theorem dX1_takeUpTo_6 : decode cX1_takeUpTo 6 = .ok (.lload_n 1, 1) := by decide +kernel
theorem dX1_takeUpTo_7 : decode cX1_takeUpTo 7 = .ok (.invokestatic 166, 3) := by decide +kernel
noncomputable def k_X1_takeUpTo_34 (l4 : Int64) (s : t_S) : Option (Int64 × t_S) :=
 if (0 : Int32) ≤ (s.1 856 10) then (some ((0 : Int64), s))
 else (some (l4, s))
set_option maxRecDepth 4000 in
set_option maxHeartbeats 1000000 in
theorem B_X1_takeUpTo_34 {D : va_G} {cy : Nat → ClassId} {ad : Nat → Nat} {bs : Nat} {X : State → Heap → Prop} (l4 : Int64) (s : t_S) (Q : Int64 × t_S → Prop) (hk : t_hk (k_X1_takeUpTo_34 l4 s) Q) : mj_G D cy ad bs X cX1_takeUpTo 6 yX1_takeUpTo.cls (some .long) yX1_takeUpTo.name 3 0 0 1065 (t_P (fun v s' => ∃ x, v = some (.long x) ∧ Q ((x, s')))) 34 [(0, .ref 856), (4, .long l4)] [] (t_m s) 1065 0 0 := by
  refine mj_aload_n dX1_takeUpTo_34 0 rfl ?_
  refine t_getI dX1_takeUpTo_35 F_X1_221 qf_856_10 ?_
  refine mj_if_ge 46 dX1_takeUpTo_38 (by decide) (fun z => t_posK hk z (fun hk => ?_)) (fun z => t_negK hk z (fun hk => ?_))
  · refine mj_lconst (v := 0) dX1_takeUpTo_46 (by decide) ?_
    exact t_somK hk (fun hf => t_lret dX1_takeUpTo_47 rfl ⟨_, rfl, hf⟩ (Nat.le_of_ble_eq_true rfl) (Nat.le_of_ble_eq_true rfl))
  · refine mj_lload dX1_takeUpTo_41 1 rfl ?_
    refine mj_goto 47 dX1_takeUpTo_43 (by decide) ?_
    exact t_somK hk (fun hf => t_lret dX1_takeUpTo_47 rfl ⟨_, rfl, hf⟩ (Nat.le_of_ble_eq_true rfl) (Nat.le_of_ble_eq_true rfl))
noncomputable def f_X1_takeUpTo (x1 : Int64) (s : t_S) : Option (Int64 × t_S) :=
 (f_X1_take (f_X1_bitsFor x1 s) s).bind (fun r2 =>
 if (0 : Int32) ≤ (r2.2.1 856 10) then (k_X1_takeUpTo_34 r2.1 r2.2)
 else (if (lg_cmp r2.1 x1) ≤ (0 : Int32) then (k_X1_takeUpTo_34 r2.1 r2.2)
 else (t_let (t_setI r2.2 856 10 (s.1 856 9)) (fun s1 =>
 k_X1_takeUpTo_34 r2.1 s1))))
set_option maxRecDepth 4000 in
set_option maxHeartbeats 1000000 in
theorem C_X1_takeUpTo (x1 : Int64) (s : t_S) (r : Int64 × t_S) (hr : f_X1_takeUpTo x1 s = some r) : t_C yX1_takeUpTo cX1_takeUpTo 6 (some .long) 3 [.ref 856, .long x1] s (fun v s' => v = some (.long r.1) ∧ s' = r.2) := by
  refine t_C.imp (P := fun v s' => ∃ x, v = some (.long x) ∧ (fun q => q = r) ((x, s'))) (t_C.of (by decide +kernel) (Nat.le_of_ble_eq_true rfl) ?_) (fun v s' hp => by obtain ⟨x, rfl, rfl⟩ := hp; exact ⟨rfl, rfl⟩)
  intro D cy ad bs X
  have hk : t_hk (f_X1_takeUpTo x1 s) (fun q => q = r) := ⟨r, hr, rfl⟩
  show mj_G D cy ad bs X cX1_takeUpTo 6 yX1_takeUpTo.cls (some .long) yX1_takeUpTo.name 3 0 0 1065 (t_P (fun v s' => ∃ x, v = some (.long x) ∧ (fun q => q = r) ((x, s')))) 0 [(0, .ref 856), (1, .long x1)] [] (t_m s) 1065 0 0
  refine mj_aload_n dX1_takeUpTo_0 0 rfl ?_
  refine t_getI dX1_takeUpTo_1 F_X1_218 qf_856_9 ?_
  refine mj_istore_n 3 (lv2 := [(3, .int (s.1 856 9)), (0, .ref 856), (1, .long x1)]) dX1_takeUpTo_4 rfl (by decide) rfl ?_
  refine mj_aload_n dX1_takeUpTo_5 1 rfl ?_
  refine mj_lload_n dX1_takeUpTo_6 2 rfl ?_
  refine t_callSiP dX1_takeUpTo_7 M_X1_bitsFor (C_X1_bitsFor _ _) ML_X1_166 SM_X1_bitsFor (As := [.long x1]) rfl rfl (Nat.le_of_ble_eq_true rfl) (Nat.le_of_ble_eq_true rfl) (Nat.le_of_ble_eq_true rfl) (Nat.le_of_ble_eq_true rfl) ?_
  refine t_bndK hk (fun r2 er2 hk => ?_)
  refine t_callVlE dX1_takeUpTo_10 M_X1_take (C_X1_take _ _ _ er2) ML_X1_253 IM_X1_take SE_X1_take qc_856 rfl (As := [.int (f_X1_bitsFor x1 s)]) rfl rfl (Nat.le_of_ble_eq_true rfl) (Nat.le_of_ble_eq_true rfl) (Nat.le_of_ble_eq_true rfl) (Nat.le_of_ble_eq_true rfl) ?_
  refine mj_lstore (lv2 := [(4, .long r2.1), (3, .int (s.1 856 9)), (0, .ref 856), (1, .long x1)]) dX1_takeUpTo_13 (by decide) rfl ?_
  refine mj_aload_n dX1_takeUpTo_15 2 rfl ?_
  refine t_getI dX1_takeUpTo_16 F_X1_221 qf_856_10 ?_
  refine mj_if_ge 34 dX1_takeUpTo_19 (by decide) (fun z => t_posK hk z (fun hk => ?_)) (fun z => t_negK hk z (fun hk => ?_))
  · refine mj_sublv [(0, .ref 856), (4, .long r2.1)] [2, 0] rfl ?_
    exact B_X1_takeUpTo_34 _ _ _ hk
  · refine mj_lload dX1_takeUpTo_22 0 rfl ?_
    refine mj_lload_n dX1_takeUpTo_24 3 rfl ?_
    refine mj_lcmp dX1_takeUpTo_25 ?_
    refine mj_if_le 34 dX1_takeUpTo_26 (by decide) (fun z => t_posK hk z (fun hk => ?_)) (fun z => t_negK hk z (fun hk => ?_))
    · refine mj_sublv [(0, .ref 856), (4, .long r2.1)] [2, 0] rfl ?_
      exact B_X1_takeUpTo_34 _ _ _ hk
    · refine mj_aload_n dX1_takeUpTo_29 2 rfl ?_
      refine mj_iload_n dX1_takeUpTo_30 1 rfl ?_
      refine t_putIK dX1_takeUpTo_31 F_X1_221 qf_856_10 rfl (fun s1 ws1 => t_letE hk ws1 (fun hk => ?_))
      refine mj_sublv [(0, .ref 856), (4, .long r2.1)] [2, 0] rfl ?_
      exact B_X1_takeUpTo_34 _ _ _ hk

theorem dX1_openChoice_0 : decode cX1_openChoice 0 = .ok (.aload_n 0, 1) := by decide +kernel
theorem dX1_openChoice_1 : decode cX1_openChoice 1 = .ok (.aload_n 0, 1) := by decide +kernel
theorem dX1_openChoice_10 : decode cX1_openChoice 10 = .ok (.iconst 1, 1) := by decide +kernel
theorem dX1_openChoice_11 : decode cX1_openChoice 11 = .ok (.isub, 1) := by decide +kernel
theorem dX1_openChoice_12 : decode cX1_openChoice 12 = .ok (.i2l, 1) := by decide +kernel
theorem dX1_openChoice_13 : decode cX1_openChoice 13 = .ok (.invokevirtual 263, 3) := by decide +kernel
theorem dX1_openChoice_16 : decode cX1_openChoice 16 = .ok (.l2i, 1) := by decide +kernel
theorem dX1_openChoice_17 : decode cX1_openChoice 17 = .ok (.istore_n 2, 1) := by decide +kernel
theorem dX1_openChoice_18 : decode cX1_openChoice 18 = .ok (.aload_n 0, 1) := by decide +kernel
theorem dX1_openChoice_19 : decode cX1_openChoice 19 = .ok (.iload_n 1, 1) := by decide +kernel
theorem dX1_openChoice_2 : decode cX1_openChoice 2 = .ok (.getfield 39, 3) := by decide +kernel
theorem dX1_openChoice_20 : decode cX1_openChoice 20 = .ok (.iload_n 2, 1) := by decide +kernel
theorem dX1_openChoice_21 : decode cX1_openChoice 21 = .ok (.invokevirtual 210, 3) := by decide +kernel
theorem dX1_openChoice_24 : decode cX1_openChoice 24 = .ok (.istore_n 3, 1) := by decide +kernel
theorem dX1_openChoice_25 : decode cX1_openChoice 25 = .ok (.iload_n 3, 1) := by decide +kernel
theorem dX1_openChoice_26 : decode cX1_openChoice 26 = .ok (.ifCond .lt 27, 3) := by decide +kernel
theorem dX1_openChoice_29 : decode cX1_openChoice 29 = .ok (.aload_n 0, 1) := by decide +kernel
theorem dX1_openChoice_30 : decode cX1_openChoice 30 = .ok (.iload_n 1, 1) := by decide +kernel
theorem dX1_openChoice_31 : decode cX1_openChoice 31 = .ok (.iload_n 2, 1) := by decide +kernel
theorem dX1_openChoice_32 : decode cX1_openChoice 32 = .ok (.iconst 1, 1) := by decide +kernel
theorem dX1_openChoice_33 : decode cX1_openChoice 33 = .ok (.iadd, 1) := by decide +kernel
theorem dX1_openChoice_34 : decode cX1_openChoice 34 = .ok (.bipush 7, 2) := by decide +kernel
theorem dX1_openChoice_36 : decode cX1_openChoice 36 = .ok (.iconst 0, 1) := by decide +kernel
theorem dX1_openChoice_37 : decode cX1_openChoice 37 = .ok (.aload_n 0, 1) := by decide +kernel
theorem dX1_openChoice_38 : decode cX1_openChoice 38 = .ok (.getfield 39, 3) := by decide +kernel
theorem dX1_openChoice_41 : decode cX1_openChoice 41 = .ok (.getfield 204, 3) := by decide +kernel
theorem dX1_openChoice_44 : decode cX1_openChoice 44 = .ok (.iload_n 3, 1) := by decide +kernel
theorem dX1_openChoice_45 : decode cX1_openChoice 45 = .ok (.iaload, 1) := by decide +kernel
theorem dX1_openChoice_46 : decode cX1_openChoice 46 = .ok (.i2l, 1) := by decide +kernel
theorem dX1_openChoice_47 : decode cX1_openChoice 47 = .ok (.invokestatic 292, 3) := by decide +kernel
theorem dX1_openChoice_5 : decode cX1_openChoice 5 = .ok (.getfield 163, 3) := by decide +kernel
theorem dX1_openChoice_50 : decode cX1_openChoice 50 = .ok (.invokevirtual 296, 3) := by decide +kernel
theorem dX1_openChoice_53 : decode cX1_openChoice 53 = .ok (.return_, 1) := by decide +kernel
theorem dX1_openChoice_8 : decode cX1_openChoice 8 = .ok (.iload_n 1, 1) := by decide +kernel
theorem dX1_openChoice_9 : decode cX1_openChoice 9 = .ok (.iaload, 1) := by decide +kernel
noncomputable def f_X1_openChoice (x1 : Int32) (s : t_S) : Option (t_S) :=
 if t_ix x1 3001 = true then
  (f_X1_takeUpTo (((s.1 321 (x1.toNatClampNeg)) - (1 : Int32)).toInt64) s).bind (fun r2 =>
 (f_X1_fieldAt x1 r2.1.toInt32 r2.2).bind (fun r3 =>
 if r3 < (0 : Int32) then (some (r2.2))
 else (if t_ix r3 3001 = true then
  (f_X1_openPart x1 (r2.1.toInt32 + (1 : Int32)) (f_X8_cell (7 : Int32) (0 : Int32) ((r2.2.1 320 (r3.toNatClampNeg)).toInt64) r2.2) r2.2).bind (fun r6 =>
 some (r6))
else none)))
else none
set_option maxRecDepth 4000 in
set_option maxHeartbeats 1000000 in
theorem C_X1_openChoice (x1 : Int32) (s : t_S) (r : t_S) (hr : f_X1_openChoice x1 s = some r) : t_C yX1_openChoice cX1_openChoice 4 none 4 [.ref 856, .int x1] s (fun v s' => v = none ∧ s' = r) := by
  refine t_C.imp (P := fun v s' => v = none ∧ (fun q => q = r) (s')) (t_C.of (by decide +kernel) (Nat.le_of_ble_eq_true rfl) ?_) (fun v s' hp => hp)
  intro D cy ad bs X
  have hk : t_hk (f_X1_openChoice x1 s) (fun q => q = r) := ⟨r, hr, rfl⟩
  show mj_G D cy ad bs X cX1_openChoice 4 yX1_openChoice.cls none yX1_openChoice.name 4 0 0 1065 (t_P (fun v s' => v = none ∧ (fun q => q = r) (s'))) 0 [(0, .ref 856), (1, .int x1)] [] (t_m s) 1065 0 0
  refine mj_aload_n dX1_openChoice_0 0 rfl ?_
  refine mj_aload_n dX1_openChoice_1 0 rfl ?_
  refine t_getR 316 dX1_openChoice_2 F_X1_39 qr_856_1 ?_
  refine t_getR 321 dX1_openChoice_5 F_X1_163 qr_316_4 ?_
  refine mj_iload_n dX1_openChoice_8 1 rfl ?_
  refine t_chkK hk (fun c0 hk => ?_)
  refine t_iald dX1_openChoice_9 qa_321 (t_ixv c0) ?_
  refine mj_iconst (v := 1) dX1_openChoice_10 (by decide) ?_
  refine mj_isub dX1_openChoice_11 ?_
  refine mj_i2l (v := ((s.1 321 (x1.toNatClampNeg)) - (1 : Int32)).toInt64) dX1_openChoice_12 rfl ?_
  refine t_bndK hk (fun r2 er2 hk => ?_)
  refine t_callVlE dX1_openChoice_13 M_X1_takeUpTo (C_X1_takeUpTo _ _ _ er2) ML_X1_263 IM_X1_takeUpTo SE_X1_takeUpTo qc_856 rfl (As := [.long (((s.1 321 (x1.toNatClampNeg)) - (1 : Int32)).toInt64)]) rfl rfl (Nat.le_of_ble_eq_true rfl) (Nat.le_of_ble_eq_true rfl) (Nat.le_of_ble_eq_true rfl) (Nat.le_of_ble_eq_true rfl) ?_
  refine mj_l2i (v := r2.1.toInt32) dX1_openChoice_16 rfl ?_
  refine mj_istore_n 2 (lv2 := [(2, .int r2.1.toInt32), (0, .ref 856), (1, .int x1)]) dX1_openChoice_17 rfl (by decide) rfl ?_
  refine mj_aload_n dX1_openChoice_18 1 rfl ?_
  refine mj_iload_n dX1_openChoice_19 2 rfl ?_
  refine mj_iload_n dX1_openChoice_20 0 rfl ?_
  refine t_bndK hk (fun r3 er3 hk => ?_)
  refine t_callViP dX1_openChoice_21 M_X1_fieldAt (C_X1_fieldAt _ _ _ _ er3) ML_X1_210 IM_X1_fieldAt SE_X1_fieldAt qc_856 rfl (As := [.int x1, .int r2.1.toInt32]) rfl rfl (Nat.le_of_ble_eq_true rfl) (Nat.le_of_ble_eq_true rfl) (Nat.le_of_ble_eq_true rfl) (Nat.le_of_ble_eq_true rfl) ?_
  refine mj_istore_n 3 (lv2 := [(3, .int r3), (2, .int r2.1.toInt32), (0, .ref 856), (1, .int x1)]) dX1_openChoice_24 rfl (by decide) rfl ?_
  refine mj_iload_n dX1_openChoice_25 0 rfl ?_
  refine mj_if_lt 53 dX1_openChoice_26 (by decide) (fun z => t_posK hk z (fun hk => ?_)) (fun z => t_negK hk z (fun hk => ?_))
  · exact t_somK hk (fun hf => t_vret dX1_openChoice_53 rfl ⟨rfl, hf⟩ (Nat.le_of_ble_eq_true rfl) (Nat.le_of_ble_eq_true rfl))
  · refine mj_aload_n dX1_openChoice_29 2 rfl ?_
    refine mj_iload_n dX1_openChoice_30 3 rfl ?_
    refine mj_iload_n dX1_openChoice_31 1 rfl ?_
    refine mj_iconst (v := 1) dX1_openChoice_32 (by decide) ?_
    refine mj_iadd dX1_openChoice_33 ?_
    refine mj_bipush (v := 7) dX1_openChoice_34 (by decide) ?_
    refine mj_iconst (v := 0) dX1_openChoice_36 (by decide) ?_
    refine mj_aload_n dX1_openChoice_37 2 rfl ?_
    refine t_getR 316 dX1_openChoice_38 F_X1_39 qr_856_1 ?_
    refine t_getR 320 dX1_openChoice_41 F_X1_204 qr_316_3 ?_
    refine mj_iload_n dX1_openChoice_44 0 rfl ?_
    refine t_chkK hk (fun c3 hk => ?_)
    refine t_iald dX1_openChoice_45 qa_320 (t_ixv c3) ?_
    refine mj_i2l (v := (r2.2.1 320 (r3.toNatClampNeg)).toInt64) dX1_openChoice_46 rfl ?_
    refine t_callSlP dX1_openChoice_47 M_X8_cell (C_X8_cell _ _ _ _) ML_X1_292 SM_X8_cell (As := [.int 7, .int 0, .long ((r2.2.1 320 (r3.toNatClampNeg)).toInt64)]) rfl rfl (Nat.le_of_ble_eq_true rfl) (Nat.le_of_ble_eq_true rfl) (Nat.le_of_ble_eq_true rfl) (Nat.le_of_ble_eq_true rfl) ?_
    refine t_bndK hk (fun r6 er6 hk => ?_)
    refine t_callVvE dX1_openChoice_50 M_X1_openPart (C_X1_openPart _ _ _ _ _ er6) ML_X1_296 IM_X1_openPart SE_X1_openPart qc_856 rfl (As := [.int x1, .int (r2.1.toInt32 + (1 : Int32)), .long (f_X8_cell (7 : Int32) (0 : Int32) ((r2.2.1 320 (r3.toNatClampNeg)).toInt64) r2.2)]) rfl rfl (Nat.le_of_ble_eq_true rfl) (Nat.le_of_ble_eq_true rfl) (Nat.le_of_ble_eq_true rfl) (Nat.le_of_ble_eq_true rfl) ?_
    exact t_somK hk (fun hf => t_vret dX1_openChoice_53 rfl ⟨rfl, hf⟩ (Nat.le_of_ble_eq_true rfl) (Nat.le_of_ble_eq_true rfl))

theorem dX1_openList_0 : decode cX1_openList 0 = .ok (.aload_n 0, 1) := by decide +kernel
theorem dX1_openList_1 : decode cX1_openList 1 = .ok (.getfield 39, 3) := by decide +kernel
theorem dX1_openList_10 : decode cX1_openList 10 = .ok (.aload_n 0, 1) := by decide +kernel
theorem dX1_openList_11 : decode cX1_openList 11 = .ok (.getfield 39, 3) := by decide +kernel
theorem dX1_openList_14 : decode cX1_openList 14 = .ok (.getfield 190, 3) := by decide +kernel
theorem dX1_openList_17 : decode cX1_openList 17 = .ok (.iload_n 1, 1) := by decide +kernel
theorem dX1_openList_18 : decode cX1_openList 18 = .ok (.laload, 1) := by decide +kernel
theorem dX1_openList_19 : decode cX1_openList 19 = .ok (.aload_n 0, 1) := by decide +kernel
theorem dX1_openList_20 : decode cX1_openList 20 = .ok (.getfield 39, 3) := by decide +kernel
theorem dX1_openList_23 : decode cX1_openList 23 = .ok (.getfield 187, 3) := by decide +kernel
theorem dX1_openList_26 : decode cX1_openList 26 = .ok (.iload_n 1, 1) := by decide +kernel
theorem dX1_openList_27 : decode cX1_openList 27 = .ok (.laload, 1) := by decide +kernel
theorem dX1_openList_28 : decode cX1_openList 28 = .ok (.lsub, 1) := by decide +kernel
theorem dX1_openList_29 : decode cX1_openList 29 = .ok (.invokevirtual 263, 3) := by decide +kernel
theorem dX1_openList_32 : decode cX1_openList 32 = .ok (.ladd, 1) := by decide +kernel
theorem dX1_openList_33 : decode cX1_openList 33 = .ok (.l2i, 1) := by decide +kernel
theorem dX1_openList_34 : decode cX1_openList 34 = .ok (.istore_n 2, 1) := by decide +kernel
theorem dX1_openList_35 : decode cX1_openList 35 = .ok (.aload_n 0, 1) := by decide +kernel
theorem dX1_openList_36 : decode cX1_openList 36 = .ok (.iload_n 1, 1) := by decide +kernel
theorem dX1_openList_37 : decode cX1_openList 37 = .ok (.iload_n 2, 1) := by decide +kernel
theorem dX1_openList_38 : decode cX1_openList 38 = .ok (.bipush 8, 2) := by decide +kernel
theorem dX1_openList_4 : decode cX1_openList 4 = .ok (.getfield 187, 3) := by decide +kernel
theorem dX1_openList_40 : decode cX1_openList 40 = .ok (.iconst 0, 1) := by decide +kernel
theorem dX1_openList_41 : decode cX1_openList 41 = .ok (.iload_n 2, 1) := by decide +kernel
theorem dX1_openList_42 : decode cX1_openList 42 = .ok (.i2l, 1) := by decide +kernel
theorem dX1_openList_43 : decode cX1_openList 43 = .ok (.invokestatic 292, 3) := by decide +kernel
theorem dX1_openList_46 : decode cX1_openList 46 = .ok (.invokevirtual 296, 3) := by decide +kernel
theorem dX1_openList_49 : decode cX1_openList 49 = .ok (.return_, 1) := by decide +kernel
theorem dX1_openList_7 : decode cX1_openList 7 = .ok (.iload_n 1, 1) := by decide +kernel
theorem dX1_openList_8 : decode cX1_openList 8 = .ok (.laload, 1) := by decide +kernel
theorem dX1_openList_9 : decode cX1_openList 9 = .ok (.aload_n 0, 1) := by decide +kernel
noncomputable def f_X1_openList (x1 : Int32) (s : t_S) : Option (t_S) :=
 if t_ix x1 3001 = true then
  (f_X1_takeUpTo ((s.2.1 323 (x1.toNatClampNeg)) - (s.2.1 322 (x1.toNatClampNeg))) s).bind (fun r2 =>
 (f_X1_openPart x1 (((s.2.1 322 (x1.toNatClampNeg)) + r2.1).toInt32) (f_X8_cell (8 : Int32) (0 : Int32) ((((s.2.1 322 (x1.toNatClampNeg)) + r2.1).toInt32).toInt64) r2.2) r2.2).bind (fun r4 =>
 some (r4)))
else none
set_option maxRecDepth 4000 in
set_option maxHeartbeats 1000000 in
theorem C_X1_openList (x1 : Int32) (s : t_S) (r : t_S) (hr : f_X1_openList x1 s = some r) : t_C yX1_openList cX1_openList 3 none 4 [.ref 856, .int x1] s (fun v s' => v = none ∧ s' = r) := by
  refine t_C.imp (P := fun v s' => v = none ∧ (fun q => q = r) (s')) (t_C.of (by decide +kernel) (Nat.le_of_ble_eq_true rfl) ?_) (fun v s' hp => hp)
  intro D cy ad bs X
  have hk : t_hk (f_X1_openList x1 s) (fun q => q = r) := ⟨r, hr, rfl⟩
  show mj_G D cy ad bs X cX1_openList 3 yX1_openList.cls none yX1_openList.name 4 0 0 1065 (t_P (fun v s' => v = none ∧ (fun q => q = r) (s'))) 0 [(0, .ref 856), (1, .int x1)] [] (t_m s) 1065 0 0
  refine mj_aload_n dX1_openList_0 0 rfl ?_
  refine t_getR 316 dX1_openList_1 F_X1_39 qr_856_1 ?_
  refine t_getR 322 dX1_openList_4 F_X1_187 qr_316_5 ?_
  refine mj_iload_n dX1_openList_7 1 rfl ?_
  refine t_chkK hk (fun c0 hk => ?_)
  refine t_lald dX1_openList_8 qa_322 (t_ixv c0) ?_
  refine mj_aload_n dX1_openList_9 0 rfl ?_
  refine mj_aload_n dX1_openList_10 0 rfl ?_
  refine t_getR 316 dX1_openList_11 F_X1_39 qr_856_1 ?_
  refine t_getR 323 dX1_openList_14 F_X1_190 qr_316_6 ?_
  refine mj_iload_n dX1_openList_17 1 rfl ?_
  refine t_lald dX1_openList_18 qa_323 (t_ixv c0) ?_
  refine mj_aload_n dX1_openList_19 0 rfl ?_
  refine t_getR 316 dX1_openList_20 F_X1_39 qr_856_1 ?_
  refine t_getR 322 dX1_openList_23 F_X1_187 qr_316_5 ?_
  refine mj_iload_n dX1_openList_26 1 rfl ?_
  refine t_lald dX1_openList_27 qa_322 (t_ixv c0) ?_
  refine mj_lsub dX1_openList_28 ?_
  refine t_bndK hk (fun r2 er2 hk => ?_)
  refine t_callVlE dX1_openList_29 M_X1_takeUpTo (C_X1_takeUpTo _ _ _ er2) ML_X1_263 IM_X1_takeUpTo SE_X1_takeUpTo qc_856 rfl (As := [.long ((s.2.1 323 (x1.toNatClampNeg)) - (s.2.1 322 (x1.toNatClampNeg)))]) rfl rfl (Nat.le_of_ble_eq_true rfl) (Nat.le_of_ble_eq_true rfl) (Nat.le_of_ble_eq_true rfl) (Nat.le_of_ble_eq_true rfl) ?_
  refine mj_ladd dX1_openList_32 ?_
  refine mj_l2i (v := ((s.2.1 322 (x1.toNatClampNeg)) + r2.1).toInt32) dX1_openList_33 rfl ?_
  refine mj_istore_n 2 (lv2 := [(2, .int (((s.2.1 322 (x1.toNatClampNeg)) + r2.1).toInt32)), (0, .ref 856), (1, .int x1)]) dX1_openList_34 rfl (by decide) rfl ?_
  refine mj_aload_n dX1_openList_35 1 rfl ?_
  refine mj_iload_n dX1_openList_36 2 rfl ?_
  refine mj_iload_n dX1_openList_37 0 rfl ?_
  refine mj_bipush (v := 8) dX1_openList_38 (by decide) ?_
  refine mj_iconst (v := 0) dX1_openList_40 (by decide) ?_
  refine mj_iload_n dX1_openList_41 0 rfl ?_
  refine mj_i2l (v := (((s.2.1 322 (x1.toNatClampNeg)) + r2.1).toInt32).toInt64) dX1_openList_42 rfl ?_
  refine t_callSlP dX1_openList_43 M_X8_cell (C_X8_cell _ _ _ _) ML_X1_292 SM_X8_cell (As := [.int 8, .int 0, .long ((((s.2.1 322 (x1.toNatClampNeg)) + r2.1).toInt32).toInt64)]) rfl rfl (Nat.le_of_ble_eq_true rfl) (Nat.le_of_ble_eq_true rfl) (Nat.le_of_ble_eq_true rfl) (Nat.le_of_ble_eq_true rfl) ?_
  refine t_bndK hk (fun r4 er4 hk => ?_)
  refine t_callVvE dX1_openList_46 M_X1_openPart (C_X1_openPart _ _ _ _ _ er4) ML_X1_296 IM_X1_openPart SE_X1_openPart qc_856 rfl (As := [.int x1, .int (((s.2.1 322 (x1.toNatClampNeg)) + r2.1).toInt32), .long (f_X8_cell (8 : Int32) (0 : Int32) ((((s.2.1 322 (x1.toNatClampNeg)) + r2.1).toInt32).toInt64) r2.2)]) rfl rfl (Nat.le_of_ble_eq_true rfl) (Nat.le_of_ble_eq_true rfl) (Nat.le_of_ble_eq_true rfl) (Nat.le_of_ble_eq_true rfl) ?_
  exact t_somK hk (fun hf => t_vret dX1_openList_49 rfl ⟨rfl, hf⟩ (Nat.le_of_ble_eq_true rfl) (Nat.le_of_ble_eq_true rfl))

theorem dX1_openRecord_0 : decode cX1_openRecord 0 = .ok (.iconst 0, 1) := by decide +kernel
theorem dX1_openRecord_1 : decode cX1_openRecord 1 = .ok (.istore_n 2, 1) := by decide +kernel
theorem dX1_openRecord_102 : decode cX1_openRecord 102 = .ok (.return_, 1) := by decide +kernel
theorem dX1_openRecord_11 : decode cX1_openRecord 11 = .ok (.iload_n 1, 1) := by decide +kernel
theorem dX1_openRecord_12 : decode cX1_openRecord 12 = .ok (.iaload, 1) := by decide +kernel
theorem dX1_openRecord_13 : decode cX1_openRecord 13 = .ok (.istore 4, 2) := by decide +kernel
theorem dX1_openRecord_15 : decode cX1_openRecord 15 = .ok (.iconst 0, 1) := by decide +kernel
theorem dX1_openRecord_16 : decode cX1_openRecord 16 = .ok (.istore 5, 2) := by decide +kernel
theorem dX1_openRecord_18 : decode cX1_openRecord 18 = .ok (.iload 5, 2) := by decide +kernel
theorem dX1_openRecord_2 : decode cX1_openRecord 2 = .ok (.iconst 0, 1) := by decide +kernel
theorem dX1_openRecord_20 : decode cX1_openRecord 20 = .ok (.aload_n 0, 1) := by decide +kernel
theorem dX1_openRecord_21 : decode cX1_openRecord 21 = .ok (.getfield 39, 3) := by decide +kernel
theorem dX1_openRecord_24 : decode cX1_openRecord 24 = .ok (.getfield 163, 3) := by decide +kernel
theorem dX1_openRecord_27 : decode cX1_openRecord 27 = .ok (.iload_n 1, 1) := by decide +kernel
theorem dX1_openRecord_28 : decode cX1_openRecord 28 = .ok (.iaload, 1) := by decide +kernel
theorem dX1_openRecord_29 : decode cX1_openRecord 29 = .ok (.if_icmp .ge 59, 3) := by decide +kernel
theorem dX1_openRecord_3 : decode cX1_openRecord 3 = .ok (.istore_n 3, 1) := by decide +kernel
theorem dX1_openRecord_32 : decode cX1_openRecord 32 = .ok (.iload 4, 2) := by decide +kernel
theorem dX1_openRecord_34 : decode cX1_openRecord 34 = .ok (.ifCond .lt 54, 3) := by decide +kernel
theorem dX1_openRecord_37 : decode cX1_openRecord 37 = .ok (.aload_n 0, 1) := by decide +kernel
theorem dX1_openRecord_38 : decode cX1_openRecord 38 = .ok (.getfield 39, 3) := by decide +kernel
theorem dX1_openRecord_4 : decode cX1_openRecord 4 = .ok (.aload_n 0, 1) := by decide +kernel
theorem dX1_openRecord_41 : decode cX1_openRecord 41 = .ok (.getfield 163, 3) := by decide +kernel
theorem dX1_openRecord_44 : decode cX1_openRecord 44 = .ok (.iload 4, 2) := by decide +kernel
theorem dX1_openRecord_46 : decode cX1_openRecord 46 = .ok (.iaload, 1) := by decide +kernel
theorem dX1_openRecord_47 : decode cX1_openRecord 47 = .ok (.ifCond .eq 13, 3) := by decide +kernel
theorem dX1_openRecord_5 : decode cX1_openRecord 5 = .ok (.getfield 39, 3) := by decide +kernel
theorem dX1_openRecord_50 : decode cX1_openRecord 50 = .ok (.aload_n 0, 1) := by decide +kernel
theorem dX1_openRecord_51 : decode cX1_openRecord 51 = .ok (.iconst 1, 1) := by decide +kernel
theorem dX1_openRecord_52 : decode cX1_openRecord 52 = .ok (.invokevirtual 253, 3) := by decide +kernel
theorem dX1_openRecord_55 : decode cX1_openRecord 55 = .ok (.lconst 1, 1) := by decide +kernel
theorem dX1_openRecord_56 : decode cX1_openRecord 56 = .ok (.lcmp, 1) := by decide +kernel
theorem dX1_openRecord_57 : decode cX1_openRecord 57 = .ok (.ifCond .ne 13, 3) := by decide +kernel
theorem dX1_openRecord_60 : decode cX1_openRecord 60 = .ok (.iload_n 2, 1) := by decide +kernel
theorem dX1_openRecord_61 : decode cX1_openRecord 61 = .ok (.iconst 1, 1) := by decide +kernel
theorem dX1_openRecord_62 : decode cX1_openRecord 62 = .ok (.iload 5, 2) := by decide +kernel
theorem dX1_openRecord_64 : decode cX1_openRecord 64 = .ok (.ishl, 1) := by decide +kernel
theorem dX1_openRecord_65 : decode cX1_openRecord 65 = .ok (.ior, 1) := by decide +kernel
theorem dX1_openRecord_66 : decode cX1_openRecord 66 = .ok (.istore_n 2, 1) := by decide +kernel
theorem dX1_openRecord_67 : decode cX1_openRecord 67 = .ok (.iinc 3 1, 3) := by decide +kernel
theorem dX1_openRecord_70 : decode cX1_openRecord 70 = .ok (.aload_n 0, 1) := by decide +kernel
theorem dX1_openRecord_71 : decode cX1_openRecord 71 = .ok (.getfield 39, 3) := by decide +kernel
theorem dX1_openRecord_74 : decode cX1_openRecord 74 = .ok (.getfield 198, 3) := by decide +kernel
theorem dX1_openRecord_77 : decode cX1_openRecord 77 = .ok (.iload 4, 2) := by decide +kernel
theorem dX1_openRecord_79 : decode cX1_openRecord 79 = .ok (.iaload, 1) := by decide +kernel
theorem dX1_openRecord_8 : decode cX1_openRecord 8 = .ok (.getfield 181, 3) := by decide +kernel
theorem dX1_openRecord_80 : decode cX1_openRecord 80 = .ok (.istore 4, 2) := by decide +kernel
theorem dX1_openRecord_82 : decode cX1_openRecord 82 = .ok (.iinc 5 1, 3) := by decide +kernel
theorem dX1_openRecord_85 : decode cX1_openRecord 85 = .ok (.goto (-67), 3) := by decide +kernel
theorem dX1_openRecord_88 : decode cX1_openRecord 88 = .ok (.aload_n 0, 1) := by decide +kernel
theorem dX1_openRecord_89 : decode cX1_openRecord 89 = .ok (.iload_n 1, 1) := by decide +kernel
theorem dX1_openRecord_90 : decode cX1_openRecord 90 = .ok (.iload_n 2, 1) := by decide +kernel
theorem dX1_openRecord_91 : decode cX1_openRecord 91 = .ok (.bipush 6, 2) := by decide +kernel
theorem dX1_openRecord_93 : decode cX1_openRecord 93 = .ok (.iconst 0, 1) := by decide +kernel
theorem dX1_openRecord_94 : decode cX1_openRecord 94 = .ok (.iload_n 3, 1) := by decide +kernel
theorem dX1_openRecord_95 : decode cX1_openRecord 95 = .ok (.i2l, 1) := by decide +kernel
theorem dX1_openRecord_96 : decode cX1_openRecord 96 = .ok (.invokestatic 292, 3) := by decide +kernel
theorem dX1_openRecord_99 : decode cX1_openRecord 99 = .ok (.invokevirtual 296, 3) := by decide +kernel
noncomputable def k_X1_openRecord_88 (l1 : Int32) (l2 : Int32) (l3 : Int32) (s : t_S) : Option (t_S) :=
 (f_X1_openPart l1 l2 (f_X8_cell (6 : Int32) (0 : Int32) l3.toInt64 s) s).bind (fun r2 =>
 some (r2))
set_option maxRecDepth 4000 in
set_option maxHeartbeats 1000000 in
theorem B_X1_openRecord_88 {D : va_G} {cy : Nat → ClassId} {ad : Nat → Nat} {bs : Nat} {X : State → Heap → Prop} (l1 : Int32) (l2 : Int32) (l3 : Int32) (s : t_S) (Q : t_S → Prop) (hk : t_hk (k_X1_openRecord_88 l1 l2 l3 s) Q) : mj_G D cy ad bs X cX1_openRecord 6 yX1_openRecord.cls none yX1_openRecord.name 2 0 0 1065 (t_P (fun v s' => v = none ∧ Q (s'))) 88 [(0, .ref 856), (1, .int l1), (2, .int l2), (3, .int l3)] [] (t_m s) 1065 0 0 := by
  refine mj_aload_n dX1_openRecord_88 0 rfl ?_
  refine mj_iload_n dX1_openRecord_89 1 rfl ?_
  refine mj_iload_n dX1_openRecord_90 2 rfl ?_
  refine mj_bipush (v := 6) dX1_openRecord_91 (by decide) ?_
  refine mj_iconst (v := 0) dX1_openRecord_93 (by decide) ?_
  refine mj_iload_n dX1_openRecord_94 3 rfl ?_
  refine mj_i2l (v := l3.toInt64) dX1_openRecord_95 rfl ?_
  refine t_callSlP dX1_openRecord_96 M_X8_cell (C_X8_cell _ _ _ _) ML_X1_292 SM_X8_cell (As := [.int 6, .int 0, .long l3.toInt64]) rfl rfl (Nat.le_of_ble_eq_true rfl) (Nat.le_of_ble_eq_true rfl) (Nat.le_of_ble_eq_true rfl) (Nat.le_of_ble_eq_true rfl) ?_
  refine t_bndK hk (fun r2 er2 hk => ?_)
  refine t_callVvE dX1_openRecord_99 M_X1_openPart (C_X1_openPart _ _ _ _ _ er2) ML_X1_296 IM_X1_openPart SE_X1_openPart qc_856 rfl (As := [.int l1, .int l2, .long (f_X8_cell (6 : Int32) (0 : Int32) l3.toInt64 s)]) rfl rfl (Nat.le_of_ble_eq_true rfl) (Nat.le_of_ble_eq_true rfl) (Nat.le_of_ble_eq_true rfl) (Nat.le_of_ble_eq_true rfl) ?_
  exact t_somK hk (fun hf => t_vret dX1_openRecord_102 rfl ⟨rfl, hf⟩ (Nat.le_of_ble_eq_true rfl) (Nat.le_of_ble_eq_true rfl))
noncomputable def k_X1_openRecord_70 (l1 : Int32) (l2 : Int32) (l3 : Int32) (l4 : Int32) (l5 : Int32) (s : t_S) : Option ((Int32 × Int32 × Int32 × Int32 × Int32 × t_S) ⊕ (t_S)) :=
 if t_ix l4 3001 = true then
  some (.inl (l1, l2, l3, (s.1 319 (l4.toNatClampNeg)), (l5 + 1), s))
else none
set_option maxRecDepth 4000 in
set_option maxHeartbeats 1000000 in
theorem B_X1_openRecord_70 {D : va_G} {cy : Nat → ClassId} {ad : Nat → Nat} {bs : Nat} {X : State → Heap → Prop} (l1 : Int32) (l2 : Int32) (l3 : Int32) (l4 : Int32) (l5 : Int32) (s : t_S) (Q : (Int32 × Int32 × Int32 × Int32 × Int32 × t_S) ⊕ (t_S) → Prop) (Hb18 : ∀ (y0 : Int32) (y1 : Int32) (y2 : Int32) (y3 : Int32) (y4 : Int32) (y5 : t_S), Q (.inl (y0, y1, y2, y3, y4, y5)) → mj_G D cy ad bs X cX1_openRecord 6 yX1_openRecord.cls none yX1_openRecord.name 2 0 0 1065 (t_P (fun v s' => v = none ∧ Q (.inr (s')))) 18 [(0, .ref 856), (1, .int (y0)), (2, .int (y1)), (3, .int (y2)), (4, .int (y3)), (5, .int (y4))] [] (t_m y5) 1065 0 0) (hk : t_hk (k_X1_openRecord_70 l1 l2 l3 l4 l5 s) Q) : mj_G D cy ad bs X cX1_openRecord 6 yX1_openRecord.cls none yX1_openRecord.name 2 0 0 1065 (t_P (fun v s' => v = none ∧ Q (.inr (s')))) 70 [(0, .ref 856), (1, .int l1), (2, .int l2), (3, .int l3), (4, .int l4), (5, .int l5)] [] (t_m s) 1065 0 0 := by
  refine mj_aload_n dX1_openRecord_70 0 rfl ?_
  refine t_getR 316 dX1_openRecord_71 F_X1_39 qr_856_1 ?_
  refine t_getR 319 dX1_openRecord_74 F_X1_198 qr_316_2 ?_
  refine mj_iload dX1_openRecord_77 4 rfl ?_
  refine t_chkK hk (fun c0 hk => ?_)
  refine t_iald dX1_openRecord_79 qa_319 (t_ixv c0) ?_
  refine mj_istore (lv2 := [(4, .int (s.1 319 (l4.toNatClampNeg))), (0, .ref 856), (1, .int l1), (2, .int l2), (3, .int l3), (5, .int l5)]) dX1_openRecord_80 (by decide) rfl ?_
  refine mj_iinc (k := 5) (v := (l5 + 1)) (lv2 := [(5, .int (l5 + 1)), (4, .int (s.1 319 (l4.toNatClampNeg))), (0, .ref 856), (1, .int l1), (2, .int l2), (3, .int l3)]) dX1_openRecord_82 rfl rfl (by decide) rfl ?_
  refine mj_goto 18 dX1_openRecord_85 (by decide) ?_
  refine mj_sublv [(0, .ref 856), (1, .int l1), (2, .int l2), (3, .int l3), (4, .int (s.1 319 (l4.toNatClampNeg))), (5, .int (l5 + 1))] [2, 3, 4, 5, 1, 0] rfl ?_
  exact t_somK hk (fun hf => Hb18 l1 l2 l3 (s.1 319 (l4.toNatClampNeg)) (l5 + 1) s hf)
noncomputable def k_X1_openRecord_60 (l1 : Int32) (l2 : Int32) (l3 : Int32) (l4 : Int32) (l5 : Int32) (s : t_S) : Option ((Int32 × Int32 × Int32 × Int32 × Int32 × t_S) ⊕ (t_S)) :=
 k_X1_openRecord_70 l1 (l2 ||| ((1 : Int32) <<< (l5 &&& 31))) (l3 + 1) l4 l5 s
set_option maxRecDepth 4000 in
set_option maxHeartbeats 1000000 in
theorem B_X1_openRecord_60 {D : va_G} {cy : Nat → ClassId} {ad : Nat → Nat} {bs : Nat} {X : State → Heap → Prop} (l1 : Int32) (l2 : Int32) (l3 : Int32) (l4 : Int32) (l5 : Int32) (s : t_S) (Q : (Int32 × Int32 × Int32 × Int32 × Int32 × t_S) ⊕ (t_S) → Prop) (Hb18 : ∀ (y0 : Int32) (y1 : Int32) (y2 : Int32) (y3 : Int32) (y4 : Int32) (y5 : t_S), Q (.inl (y0, y1, y2, y3, y4, y5)) → mj_G D cy ad bs X cX1_openRecord 6 yX1_openRecord.cls none yX1_openRecord.name 2 0 0 1065 (t_P (fun v s' => v = none ∧ Q (.inr (s')))) 18 [(0, .ref 856), (1, .int (y0)), (2, .int (y1)), (3, .int (y2)), (4, .int (y3)), (5, .int (y4))] [] (t_m y5) 1065 0 0) (hk : t_hk (k_X1_openRecord_60 l1 l2 l3 l4 l5 s) Q) : mj_G D cy ad bs X cX1_openRecord 6 yX1_openRecord.cls none yX1_openRecord.name 2 0 0 1065 (t_P (fun v s' => v = none ∧ Q (.inr (s')))) 60 [(0, .ref 856), (1, .int l1), (2, .int l2), (3, .int l3), (4, .int l4), (5, .int l5)] [] (t_m s) 1065 0 0 := by
  refine mj_iload_n dX1_openRecord_60 2 rfl ?_
  refine mj_iconst (v := 1) dX1_openRecord_61 (by decide) ?_
  refine mj_iload dX1_openRecord_62 5 rfl ?_
  refine mj_ishl dX1_openRecord_64 ?_
  refine mj_ior dX1_openRecord_65 ?_
  refine mj_istore_n 2 (lv2 := [(2, .int (l2 ||| ((1 : Int32) <<< (l5 &&& 31)))), (0, .ref 856), (1, .int l1), (3, .int l3), (4, .int l4), (5, .int l5)]) dX1_openRecord_66 rfl (by decide) rfl ?_
  refine mj_iinc (k := 3) (v := (l3 + 1)) (lv2 := [(3, .int (l3 + 1)), (2, .int (l2 ||| ((1 : Int32) <<< (l5 &&& 31)))), (0, .ref 856), (1, .int l1), (4, .int l4), (5, .int l5)]) dX1_openRecord_67 rfl rfl (by decide) rfl ?_
  refine mj_sublv [(0, .ref 856), (1, .int l1), (2, .int (l2 ||| ((1 : Int32) <<< (l5 &&& 31)))), (3, .int (l3 + 1)), (4, .int l4), (5, .int l5)] [2, 3, 1, 0, 4, 5] rfl ?_
  exact B_X1_openRecord_70 _ _ _ _ _ _ _ (fun y0 y1 y2 y3 y4 y5 hx => Hb18 y0 y1 y2 y3 y4 y5 hx) hk
noncomputable def k_X1_openRecord_18 (l1 : Int32) (l2 : Int32) (l3 : Int32) (l4 : Int32) (l5 : Int32) (s : t_S) : Option ((Int32 × Int32 × Int32 × Int32 × Int32 × t_S) ⊕ (t_S)) :=
 if t_ix l1 3001 = true then
  if (s.1 321 (l1.toNatClampNeg)) ≤ l5 then ((k_X1_openRecord_88 l1 l2 l3 s).map Sum.inr)
 else (if l4 < (0 : Int32) then ((k_X1_openRecord_88 l1 l2 l3 s).map Sum.inr)
 else (if t_ix l4 3001 = true then
  if (s.1 321 (l4.toNatClampNeg)) = (0 : Int32) then (k_X1_openRecord_60 l1 l2 l3 l4 l5 s)
 else ((f_X1_take (1 : Int32) s).bind (fun r3 =>
 if (lg_cmp r3.1 (1 : Int64)) = (0 : Int32) then (k_X1_openRecord_60 l1 l2 l3 l4 l5 r3.2)
 else (k_X1_openRecord_70 l1 l2 l3 l4 l5 r3.2)))
else none))
else none
set_option maxRecDepth 4000 in
set_option maxHeartbeats 1000000 in
theorem B_X1_openRecord_18 {D : va_G} {cy : Nat → ClassId} {ad : Nat → Nat} {bs : Nat} {X : State → Heap → Prop} (l1 : Int32) (l2 : Int32) (l3 : Int32) (l4 : Int32) (l5 : Int32) (s : t_S) (Q : (Int32 × Int32 × Int32 × Int32 × Int32 × t_S) ⊕ (t_S) → Prop) (Hb18 : ∀ (y0 : Int32) (y1 : Int32) (y2 : Int32) (y3 : Int32) (y4 : Int32) (y5 : t_S), Q (.inl (y0, y1, y2, y3, y4, y5)) → mj_G D cy ad bs X cX1_openRecord 6 yX1_openRecord.cls none yX1_openRecord.name 2 0 0 1065 (t_P (fun v s' => v = none ∧ Q (.inr (s')))) 18 [(0, .ref 856), (1, .int (y0)), (2, .int (y1)), (3, .int (y2)), (4, .int (y3)), (5, .int (y4))] [] (t_m y5) 1065 0 0) (hk : t_hk (k_X1_openRecord_18 l1 l2 l3 l4 l5 s) Q) : mj_G D cy ad bs X cX1_openRecord 6 yX1_openRecord.cls none yX1_openRecord.name 2 0 0 1065 (t_P (fun v s' => v = none ∧ Q (.inr (s')))) 18 [(0, .ref 856), (1, .int l1), (2, .int l2), (3, .int l3), (4, .int l4), (5, .int l5)] [] (t_m s) 1065 0 0 := by
  refine mj_iload dX1_openRecord_18 5 rfl ?_
  refine mj_aload_n dX1_openRecord_20 0 rfl ?_
  refine t_getR 316 dX1_openRecord_21 F_X1_39 qr_856_1 ?_
  refine t_getR 321 dX1_openRecord_24 F_X1_163 qr_316_4 ?_
  refine mj_iload_n dX1_openRecord_27 1 rfl ?_
  refine t_chkK hk (fun c0 hk => ?_)
  refine t_iald dX1_openRecord_28 qa_321 (t_ixv c0) ?_
  refine mj_icmp_ge 88 dX1_openRecord_29 (by decide) (fun z => t_posK hk z (fun hk => ?_)) (fun z => t_negK hk z (fun hk => ?_))
  · refine mj_sublv [(0, .ref 856), (1, .int l1), (2, .int l2), (3, .int l3)] [0, 1, 2, 3] rfl ?_
    refine t_mapK hk (fun hk => ?_)
    exact B_X1_openRecord_88 _ _ _ _ _ hk
  · refine mj_iload dX1_openRecord_32 4 rfl ?_
    refine mj_if_lt 88 dX1_openRecord_34 (by decide) (fun z => t_posK hk z (fun hk => ?_)) (fun z => t_negK hk z (fun hk => ?_))
    · refine mj_sublv [(0, .ref 856), (1, .int l1), (2, .int l2), (3, .int l3)] [0, 1, 2, 3] rfl ?_
      refine t_mapK hk (fun hk => ?_)
      exact B_X1_openRecord_88 _ _ _ _ _ hk
    · refine mj_aload_n dX1_openRecord_37 0 rfl ?_
      refine t_getR 316 dX1_openRecord_38 F_X1_39 qr_856_1 ?_
      refine t_getR 321 dX1_openRecord_41 F_X1_163 qr_316_4 ?_
      refine mj_iload dX1_openRecord_44 4 rfl ?_
      refine t_chkK hk (fun c1 hk => ?_)
      refine t_iald dX1_openRecord_46 qa_321 (t_ixv c1) ?_
      refine mj_if_eq 60 dX1_openRecord_47 (by decide) (fun z => t_posK hk z (fun hk => ?_)) (fun z => t_negK hk z (fun hk => ?_))
      · exact B_X1_openRecord_60 _ _ _ _ _ _ _ (fun y0 y1 y2 y3 y4 y5 hx => Hb18 y0 y1 y2 y3 y4 y5 hx) hk
      · refine mj_aload_n dX1_openRecord_50 0 rfl ?_
        refine mj_iconst (v := 1) dX1_openRecord_51 (by decide) ?_
        refine t_bndK hk (fun r3 er3 hk => ?_)
        refine t_callVlE dX1_openRecord_52 M_X1_take (C_X1_take _ _ _ er3) ML_X1_253 IM_X1_take SE_X1_take qc_856 rfl (As := [.int 1]) rfl rfl (Nat.le_of_ble_eq_true rfl) (Nat.le_of_ble_eq_true rfl) (Nat.le_of_ble_eq_true rfl) (Nat.le_of_ble_eq_true rfl) ?_
        refine mj_lconst (v := 1) dX1_openRecord_55 (by decide) ?_
        refine mj_lcmp dX1_openRecord_56 ?_
        refine mj_if_ne 70 dX1_openRecord_57 (by decide) (fun z => t_negK hk z (fun hk => ?_)) (fun z => t_posK hk z (fun hk => ?_))
        · exact B_X1_openRecord_70 _ _ _ _ _ _ _ (fun y0 y1 y2 y3 y4 y5 hx => Hb18 y0 y1 y2 y3 y4 y5 hx) hk
        · exact B_X1_openRecord_60 _ _ _ _ _ _ _ (fun y0 y1 y2 y3 y4 y5 hx => Hb18 y0 y1 y2 y3 y4 y5 hx) hk
noncomputable def b_X1_openRecord_18 (x : Int32 × Int32 × Int32 × Int32 × Int32 × t_S) : Option ((Int32 × Int32 × Int32 × Int32 × Int32 × t_S) ⊕ (t_S)) := k_X1_openRecord_18 x.1 x.2.1 x.2.2.1 x.2.2.2.1 x.2.2.2.2.1 x.2.2.2.2.2
set_option maxRecDepth 4000 in
set_option maxHeartbeats 1000000 in
theorem LH_X1_openRecord_18 {D : va_G} {cy : Nat → ClassId} {ad : Nat → Nat} {bs : Nat} {X : State → Heap → Prop} : ∀ (n : Nat) (y0 : Int32) (y1 : Int32) (y2 : Int32) (y3 : Int32) (y4 : Int32) (y5 : t_S) (Q : t_S → Prop) (hk : t_hk (t_loop (b_X1_openRecord_18) n (y0, y1, y2, y3, y4, y5)) Q), mj_G D cy ad bs X cX1_openRecord 6 yX1_openRecord.cls none yX1_openRecord.name 2 0 0 1065 (t_P (fun v s' => v = none ∧ Q (s'))) 18 [(0, .ref 856), (1, .int (y0)), (2, .int (y1)), (3, .int (y2)), (4, .int (y3)), (5, .int (y4))] [] (t_m y5) 1065 0 0 := by
  intro n
  induction n with
  | zero => intro y0 y1 y2 y3 y4 y5 Q hk; obtain ⟨r, hr, _⟩ := hk; cases hr
  | succ n ih =>
    intro y0 y1 y2 y3 y4 y5 Q hk
    exact B_X1_openRecord_18 y0 y1 y2 y3 y4 y5 (fun y => t_lq (b_X1_openRecord_18) n Q y) (fun y0' y1' y2' y3' y4' y5' hy => ih y0' y1' y2' y3' y4' y5' Q hy) (t_lp hk)
noncomputable def f_X1_openRecord (x1 : Int32) (s : t_S) : Option (t_S) :=
 if t_ix x1 3001 = true then
  t_loop (b_X1_openRecord_18) t_N (x1, 0, 0, (s.1 318 (x1.toNatClampNeg)), 0, s)
else none
set_option maxRecDepth 4000 in
set_option maxHeartbeats 1000000 in
theorem C_X1_openRecord (x1 : Int32) (s : t_S) (r : t_S) (hr : f_X1_openRecord x1 s = some r) : t_C yX1_openRecord cX1_openRecord 6 none 2 [.ref 856, .int x1] s (fun v s' => v = none ∧ s' = r) := by
  refine t_C.imp (P := fun v s' => v = none ∧ (fun q => q = r) (s')) (t_C.of (by decide +kernel) (Nat.le_of_ble_eq_true rfl) ?_) (fun v s' hp => hp)
  intro D cy ad bs X
  have hk : t_hk (f_X1_openRecord x1 s) (fun q => q = r) := ⟨r, hr, rfl⟩
  show mj_G D cy ad bs X cX1_openRecord 6 yX1_openRecord.cls none yX1_openRecord.name 2 0 0 1065 (t_P (fun v s' => v = none ∧ (fun q => q = r) (s'))) 0 [(0, .ref 856), (1, .int x1)] [] (t_m s) 1065 0 0
  refine mj_iconst (v := 0) dX1_openRecord_0 (by decide) ?_
  refine mj_istore_n 2 (lv2 := [(2, .int 0), (0, .ref 856), (1, .int x1)]) dX1_openRecord_1 rfl (by decide) rfl ?_
  refine mj_iconst (v := 0) dX1_openRecord_2 (by decide) ?_
  refine mj_istore_n 3 (lv2 := [(3, .int 0), (2, .int 0), (0, .ref 856), (1, .int x1)]) dX1_openRecord_3 rfl (by decide) rfl ?_
  refine mj_aload_n dX1_openRecord_4 2 rfl ?_
  refine t_getR 316 dX1_openRecord_5 F_X1_39 qr_856_1 ?_
  refine t_getR 318 dX1_openRecord_8 F_X1_181 qr_316_1 ?_
  refine mj_iload_n dX1_openRecord_11 3 rfl ?_
  refine t_chkK hk (fun c0 hk => ?_)
  refine t_iald dX1_openRecord_12 qa_318 (t_ixv c0) ?_
  refine mj_istore (lv2 := [(4, .int (s.1 318 (x1.toNatClampNeg))), (3, .int 0), (2, .int 0), (0, .ref 856), (1, .int x1)]) dX1_openRecord_13 (by decide) rfl ?_
  refine mj_iconst (v := 0) dX1_openRecord_15 (by decide) ?_
  refine mj_istore (lv2 := [(5, .int 0), (4, .int (s.1 318 (x1.toNatClampNeg))), (3, .int 0), (2, .int 0), (0, .ref 856), (1, .int x1)]) dX1_openRecord_16 (by decide) rfl ?_
  refine mj_sublv [(0, .ref 856), (1, .int x1), (2, .int 0), (3, .int 0), (4, .int (s.1 318 (x1.toNatClampNeg))), (5, .int 0)] [4, 5, 3, 2, 1, 0] rfl ?_
  exact LH_X1_openRecord_18 _ x1 0 0 (s.1 318 (x1.toNatClampNeg)) 0 s _ hk

theorem dX1_bytesFor_0 : decode cX1_bytesFor 0 = .ok (.iconst 1, 1) := by decide +kernel
theorem dX1_bytesFor_1 : decode cX1_bytesFor 1 = .ok (.istore_n 2, 1) := by decide +kernel
theorem dX1_bytesFor_11 : decode cX1_bytesFor 11 = .ok (.iload_n 2, 1) := by decide +kernel
theorem dX1_bytesFor_12 : decode cX1_bytesFor 12 = .ok (.imul, 1) := by decide +kernel
theorem dX1_bytesFor_13 : decode cX1_bytesFor 13 = .ok (.iconst 1, 1) := by decide +kernel
theorem dX1_bytesFor_14 : decode cX1_bytesFor 14 = .ok (.isub, 1) := by decide +kernel
theorem dX1_bytesFor_15 : decode cX1_bytesFor 15 = .ok (.lshr, 1) := by decide +kernel
theorem dX1_bytesFor_16 : decode cX1_bytesFor 16 = .ok (.lconst 0, 1) := by decide +kernel
theorem dX1_bytesFor_17 : decode cX1_bytesFor 17 = .ok (.lcmp, 1) := by decide +kernel
theorem dX1_bytesFor_18 : decode cX1_bytesFor 18 = .ok (.ifCond .eq 24, 3) := by decide +kernel
theorem dX1_bytesFor_2 : decode cX1_bytesFor 2 = .ok (.iload_n 2, 1) := by decide +kernel
theorem dX1_bytesFor_21 : decode cX1_bytesFor 21 = .ok (.lload_n 0, 1) := by decide +kernel
theorem dX1_bytesFor_22 : decode cX1_bytesFor 22 = .ok (.bipush 8, 2) := by decide +kernel
theorem dX1_bytesFor_24 : decode cX1_bytesFor 24 = .ok (.iload_n 2, 1) := by decide +kernel
theorem dX1_bytesFor_25 : decode cX1_bytesFor 25 = .ok (.imul, 1) := by decide +kernel
theorem dX1_bytesFor_26 : decode cX1_bytesFor 26 = .ok (.iconst 1, 1) := by decide +kernel
theorem dX1_bytesFor_27 : decode cX1_bytesFor 27 = .ok (.isub, 1) := by decide +kernel
theorem dX1_bytesFor_28 : decode cX1_bytesFor 28 = .ok (.lshr, 1) := by decide +kernel
theorem dX1_bytesFor_29 : decode cX1_bytesFor 29 = .ok (.ldc2_w 196, 3) := by decide +kernel
theorem dX1_bytesFor_3 : decode cX1_bytesFor 3 = .ok (.bipush 8, 2) := by decide +kernel
theorem dX1_bytesFor_32 : decode cX1_bytesFor 32 = .ok (.lcmp, 1) := by decide +kernel
theorem dX1_bytesFor_33 : decode cX1_bytesFor 33 = .ok (.ifCond .eq 9, 3) := by decide +kernel
theorem dX1_bytesFor_36 : decode cX1_bytesFor 36 = .ok (.iinc 2 1, 3) := by decide +kernel
theorem dX1_bytesFor_39 : decode cX1_bytesFor 39 = .ok (.goto (-37), 3) := by decide +kernel
theorem dX1_bytesFor_42 : decode cX1_bytesFor 42 = .ok (.iload_n 2, 1) := by decide +kernel
theorem dX1_bytesFor_43 : decode cX1_bytesFor 43 = .ok (.ireturn, 1) := by decide +kernel
theorem dX1_bytesFor_5 : decode cX1_bytesFor 5 = .ok (.if_icmp .ge 37, 3) := by decide +kernel
theorem dX1_bytesFor_8 : decode cX1_bytesFor 8 = .ok (.lload_n 0, 1) := by decide +kernel
theorem dX1_bytesFor_9 : decode cX1_bytesFor 9 = .ok (.bipush 8, 2) := by decide +kernel
noncomputable def k_X1_bytesFor_2 (l0 : Int64) (l2 : Int32) (s : t_S) : Option ((Int64 × Int32) ⊕ (Int32)) :=
 if (8 : Int32) ≤ l2 then ((some (l2)).map Sum.inr)
 else (if (lg_cmp (l0 >>> ((((8 : Int32) * l2) - (1 : Int32)).toInt64 &&& 63)) (0 : Int64)) = (0 : Int32) then ((some (l2)).map Sum.inr)
 else (if (lg_cmp (l0 >>> ((((8 : Int32) * l2) - (1 : Int32)).toInt64 &&& 63)) (-1 : Int64)) = (0 : Int32) then ((some (l2)).map Sum.inr)
 else (some (.inl (l0, (l2 + 1))))))
set_option maxRecDepth 4000 in
set_option maxHeartbeats 1000000 in
theorem B_X1_bytesFor_2 {D : va_G} {cy : Nat → ClassId} {ad : Nat → Nat} {bs : Nat} {X : State → Heap → Prop} (l0 : Int64) (l2 : Int32) (s : t_S) (Q : (Int64 × Int32) ⊕ (Int32) → Prop) (Hb2 : ∀ (y0 : Int64) (y1 : Int32), Q (.inl (y0, y1)) → mj_G D cy ad bs X cX1_bytesFor 3 yX1_bytesFor.cls (some .int) yX1_bytesFor.name 0 0 0 1065 (t_P (fun v s' => s' = s ∧ ∃ x, v = some (.int x) ∧ Q (.inr (x)))) 2 [(0, .long (y0)), (2, .int (y1))] [] (t_m s) 1065 0 0) (hk : t_hk (k_X1_bytesFor_2 l0 l2 s) Q) : mj_G D cy ad bs X cX1_bytesFor 3 yX1_bytesFor.cls (some .int) yX1_bytesFor.name 0 0 0 1065 (t_P (fun v s' => s' = s ∧ ∃ x, v = some (.int x) ∧ Q (.inr (x)))) 2 [(0, .long l0), (2, .int l2)] [] (t_m s) 1065 0 0 := by
  refine mj_iload_n dX1_bytesFor_2 1 rfl ?_
  refine mj_bipush (v := 8) dX1_bytesFor_3 (by decide) ?_
  refine mj_icmp_ge 42 dX1_bytesFor_5 (by decide) (fun z => t_posK hk z (fun hk => ?_)) (fun z => t_negK hk z (fun hk => ?_))
  · refine t_mapK hk (fun hk => ?_)
    refine mj_iload_n dX1_bytesFor_42 1 rfl ?_
    exact t_somK hk (fun hf => t_iret dX1_bytesFor_43 rfl rfl ⟨rfl, _, rfl, hf⟩ (Nat.le_of_ble_eq_true rfl) (Nat.le_of_ble_eq_true rfl))
  · refine mj_lload_n dX1_bytesFor_8 0 rfl ?_
    refine mj_bipush (v := 8) dX1_bytesFor_9 (by decide) ?_
    refine mj_iload_n dX1_bytesFor_11 1 rfl ?_
    refine mj_imul dX1_bytesFor_12 ?_
    refine mj_iconst (v := 1) dX1_bytesFor_13 (by decide) ?_
    refine mj_isub dX1_bytesFor_14 ?_
    refine mj_lshr dX1_bytesFor_15 rfl ?_
    refine mj_lconst (v := 0) dX1_bytesFor_16 (by decide) ?_
    refine mj_lcmp dX1_bytesFor_17 ?_
    refine mj_if_eq 42 dX1_bytesFor_18 (by decide) (fun z => t_posK hk z (fun hk => ?_)) (fun z => t_negK hk z (fun hk => ?_))
    · refine t_mapK hk (fun hk => ?_)
      refine mj_iload_n dX1_bytesFor_42 1 rfl ?_
      exact t_somK hk (fun hf => t_iret dX1_bytesFor_43 rfl rfl ⟨rfl, _, rfl, hf⟩ (Nat.le_of_ble_eq_true rfl) (Nat.le_of_ble_eq_true rfl))
    · refine mj_lload_n dX1_bytesFor_21 0 rfl ?_
      refine mj_bipush (v := 8) dX1_bytesFor_22 (by decide) ?_
      refine mj_iload_n dX1_bytesFor_24 1 rfl ?_
      refine mj_imul dX1_bytesFor_25 ?_
      refine mj_iconst (v := 1) dX1_bytesFor_26 (by decide) ?_
      refine mj_isub dX1_bytesFor_27 ?_
      refine mj_lshr dX1_bytesFor_28 rfl ?_
      refine mj_ldc2 dX1_bytesFor_29 K_X1_196 ?_
      refine mj_lcmp dX1_bytesFor_32 ?_
      refine mj_if_eq 42 dX1_bytesFor_33 (by decide) (fun z => t_posK hk z (fun hk => ?_)) (fun z => t_negK hk z (fun hk => ?_))
      · refine t_mapK hk (fun hk => ?_)
        refine mj_iload_n dX1_bytesFor_42 1 rfl ?_
        exact t_somK hk (fun hf => t_iret dX1_bytesFor_43 rfl rfl ⟨rfl, _, rfl, hf⟩ (Nat.le_of_ble_eq_true rfl) (Nat.le_of_ble_eq_true rfl))
      · refine mj_iinc (k := 1) (v := (l2 + 1)) (lv2 := [(2, .int (l2 + 1)), (0, .long l0)]) dX1_bytesFor_36 rfl rfl (by decide) rfl ?_
        refine mj_goto 2 dX1_bytesFor_39 (by decide) ?_
        refine mj_sublv [(0, .long l0), (2, .int (l2 + 1))] [1, 0] rfl ?_
        exact t_somK hk (fun hf => Hb2 l0 (l2 + 1) hf)
noncomputable def b_X1_bytesFor_2 (s : t_S) (x : Int64 × Int32) : Option ((Int64 × Int32) ⊕ (Int32)) := k_X1_bytesFor_2 x.1 x.2 s
set_option maxRecDepth 4000 in
set_option maxHeartbeats 1000000 in
theorem LH_X1_bytesFor_2 {D : va_G} {cy : Nat → ClassId} {ad : Nat → Nat} {bs : Nat} {X : State → Heap → Prop} (s : t_S) : ∀ (n : Nat) (y0 : Int64) (y1 : Int32) (Q : Int32 → Prop) (hk : t_hk (t_loop (b_X1_bytesFor_2 s) n (y0, y1)) Q), mj_G D cy ad bs X cX1_bytesFor 3 yX1_bytesFor.cls (some .int) yX1_bytesFor.name 0 0 0 1065 (t_P (fun v s' => s' = s ∧ ∃ x, v = some (.int x) ∧ Q (x))) 2 [(0, .long (y0)), (2, .int (y1))] [] (t_m s) 1065 0 0 := by
  intro n
  induction n with
  | zero => intro y0 y1 Q hk; obtain ⟨r, hr, _⟩ := hk; cases hr
  | succ n ih =>
    intro y0 y1 Q hk
    exact B_X1_bytesFor_2 y0 y1 s (fun y => t_lq (b_X1_bytesFor_2 s) n Q y) (fun y0' y1' hy => ih y0' y1' Q hy) (t_lp hk)
noncomputable def f_X1_bytesFor (x1 : Int64) (s : t_S) : Option (Int32) :=
 t_loop (b_X1_bytesFor_2 s) t_N (x1, 1)
set_option maxRecDepth 4000 in
set_option maxHeartbeats 1000000 in
theorem C_X1_bytesFor (x1 : Int64) (s : t_S) (r : Int32) (hr : f_X1_bytesFor x1 s = some r) : t_C yX1_bytesFor cX1_bytesFor 3 (some .int) 0 [.long x1] s (fun v s' => v = some (.int r) ∧ s' = s) := by
  refine t_C.imp (P := fun v s' => s' = s ∧ ∃ x, v = some (.int x) ∧ (fun q => q = r) (x)) (t_C.of (by decide +kernel) (Nat.le_of_ble_eq_true rfl) ?_) (fun v s' hp => by obtain ⟨rfl, x, rfl, rfl⟩ := hp; exact ⟨rfl, rfl⟩)
  intro D cy ad bs X
  have hk : t_hk (f_X1_bytesFor x1 s) (fun q => q = r) := ⟨r, hr, rfl⟩
  show mj_G D cy ad bs X cX1_bytesFor 3 yX1_bytesFor.cls (some .int) yX1_bytesFor.name 0 0 0 1065 (t_P (fun v s' => s' = s ∧ ∃ x, v = some (.int x) ∧ (fun q => q = r) (x))) 0 [(0, .long x1)] [] (t_m s) 1065 0 0
  refine mj_iconst (v := 1) dX1_bytesFor_0 (by decide) ?_
  refine mj_istore_n 2 (lv2 := [(2, .int 1), (0, .long x1)]) dX1_bytesFor_1 rfl (by decide) rfl ?_
  refine mj_sublv [(0, .long x1), (2, .int 1)] [1, 0] rfl ?_
  exact LH_X1_bytesFor_2 _ _ x1 1 _ hk

