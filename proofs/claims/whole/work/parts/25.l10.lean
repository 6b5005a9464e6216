/-! Methods as functions, 10: X11_add, X11_plus, X11_lastNamed, X11_resolve, X11_waysAt, X11_choicesOf, X11_clear, X11_fieldOf, X11_pairUp, X11_fieldsInside, X11_holdsList, X11_holdsRecord, X11_inRanges, X11_memberOf, X11_holdsHere, X11_holds, J6_numberOfTrailingZeros_0f7a4 -/
theorem qa_324 : t_oka 324 1 3001 = true := by decide +kernel
theorem qa_325 : t_oka 325 1 6002 = true := by decide +kernel
theorem qa_326 : t_oka 326 1 60 = true := by decide +kernel
theorem qa_328 : t_oka 328 2 63021 = true := by decide +kernel
theorem qa_332 : t_oka 332 1 1000 = true := by decide +kernel
theorem qa_333 : t_oka 333 1 120 = true := by decide +kernel
theorem qc_316 : t_okc 316 11 = true := by decide +kernel
theorem qf_316_10 : t_okf 316 11 10 0 = true := by decide +kernel
theorem qf_316_13 : t_okf 316 11 13 0 = true := by decide +kernel
theorem qr_316_11 : t_okr 316 11 11 326 = true := by decide +kernel
theorem qr_316_14 : t_okr 316 11 14 328 = true := by decide +kernel
theorem qr_316_19 : t_okr 316 11 19 332 = true := by decide +kernel
theorem qr_316_20 : t_okr 316 11 20 333 = true := by decide +kernel
theorem qr_316_7 : t_okr 316 11 7 324 = true := by decide +kernel
theorem qr_316_9 : t_okr 316 11 9 325 = true := by decide +kernel
theorem dX11_add_0 : decode cX11_add 0 = .ok (.aload_n 0, 1) := by decide +kernel
theorem dX11_add_1 : decode cX11_add 1 = .ok (.getfield 65, 3) := by decide +kernel
theorem dX11_add_10 : decode cX11_add 10 = .ok (.sipush 3000, 3) := by decide +kernel
theorem dX11_add_13 : decode cX11_add 13 = .ok (.ireturn, 1) := by decide +kernel
theorem dX11_add_14 : decode cX11_add 14 = .ok (.aload_n 0, 1) := by decide +kernel
theorem dX11_add_15 : decode cX11_add 15 = .ok (.getfield 65, 3) := by decide +kernel
theorem dX11_add_18 : decode cX11_add 18 = .ok (.istore_n 2, 1) := by decide +kernel
theorem dX11_add_19 : decode cX11_add 19 = .ok (.aload_n 0, 1) := by decide +kernel
theorem dX11_add_20 : decode cX11_add 20 = .ok (.dup, 1) := by decide +kernel
theorem dX11_add_21 : decode cX11_add 21 = .ok (.getfield 65, 3) := by decide +kernel
theorem dX11_add_24 : decode cX11_add 24 = .ok (.iconst 1, 1) := by decide +kernel
theorem dX11_add_25 : decode cX11_add 25 = .ok (.iadd, 1) := by decide +kernel
theorem dX11_add_26 : decode cX11_add 26 = .ok (.putfield 65, 3) := by decide +kernel
theorem dX11_add_29 : decode cX11_add 29 = .ok (.aload_n 0, 1) := by decide +kernel
theorem dX11_add_30 : decode cX11_add 30 = .ok (.getfield 9, 3) := by decide +kernel
theorem dX11_add_33 : decode cX11_add 33 = .ok (.iload_n 2, 1) := by decide +kernel
theorem dX11_add_34 : decode cX11_add 34 = .ok (.iload_n 1, 1) := by decide +kernel
theorem dX11_add_35 : decode cX11_add 35 = .ok (.iastore, 1) := by decide +kernel
theorem dX11_add_36 : decode cX11_add 36 = .ok (.aload_n 0, 1) := by decide +kernel
theorem dX11_add_37 : decode cX11_add 37 = .ok (.getfield 13, 3) := by decide +kernel
theorem dX11_add_4 : decode cX11_add 4 = .ok (.sipush 3001, 3) := by decide +kernel
theorem dX11_add_40 : decode cX11_add 40 = .ok (.iload_n 2, 1) := by decide +kernel
theorem dX11_add_41 : decode cX11_add 41 = .ok (.iconst (-1), 1) := by decide +kernel
theorem dX11_add_42 : decode cX11_add 42 = .ok (.iastore, 1) := by decide +kernel
theorem dX11_add_43 : decode cX11_add 43 = .ok (.aload_n 0, 1) := by decide +kernel
theorem dX11_add_44 : decode cX11_add 44 = .ok (.getfield 16, 3) := by decide +kernel
theorem dX11_add_47 : decode cX11_add 47 = .ok (.iload_n 2, 1) := by decide +kernel
theorem dX11_add_48 : decode cX11_add 48 = .ok (.iconst (-1), 1) := by decide +kernel
theorem dX11_add_49 : decode cX11_add 49 = .ok (.iastore, 1) := by decide +kernel
theorem dX11_add_50 : decode cX11_add 50 = .ok (.aload_n 0, 1) := by decide +kernel
theorem dX11_add_51 : decode cX11_add 51 = .ok (.getfield 19, 3) := by decide +kernel
theorem dX11_add_54 : decode cX11_add 54 = .ok (.iload_n 2, 1) := by decide +kernel
theorem dX11_add_55 : decode cX11_add 55 = .ok (.iconst (-1), 1) := by decide +kernel
theorem dX11_add_56 : decode cX11_add 56 = .ok (.iastore, 1) := by decide +kernel
theorem dX11_add_57 : decode cX11_add 57 = .ok (.aload_n 0, 1) := by decide +kernel
theorem dX11_add_58 : decode cX11_add 58 = .ok (.getfield 22, 3) := by decide +kernel
theorem dX11_add_61 : decode cX11_add 61 = .ok (.iload_n 2, 1) := by decide +kernel
theorem dX11_add_62 : decode cX11_add 62 = .ok (.iconst 0, 1) := by decide +kernel
theorem dX11_add_63 : decode cX11_add 63 = .ok (.iastore, 1) := by decide +kernel
theorem dX11_add_64 : decode cX11_add 64 = .ok (.aload_n 0, 1) := by decide +kernel
theorem dX11_add_65 : decode cX11_add 65 = .ok (.getfield 25, 3) := by decide +kernel
theorem dX11_add_68 : decode cX11_add 68 = .ok (.iload_n 2, 1) := by decide +kernel
theorem dX11_add_69 : decode cX11_add 69 = .ok (.lconst 0, 1) := by decide +kernel
theorem dX11_add_7 : decode cX11_add 7 = .ok (.if_icmp .lt 7, 3) := by decide +kernel
theorem dX11_add_70 : decode cX11_add 70 = .ok (.lastore, 1) := by decide +kernel
theorem dX11_add_71 : decode cX11_add 71 = .ok (.aload_n 0, 1) := by decide +kernel
theorem dX11_add_72 : decode cX11_add 72 = .ok (.getfield 29, 3) := by decide +kernel
theorem dX11_add_75 : decode cX11_add 75 = .ok (.iload_n 2, 1) := by decide +kernel
theorem dX11_add_76 : decode cX11_add 76 = .ok (.lconst 0, 1) := by decide +kernel
theorem dX11_add_77 : decode cX11_add 77 = .ok (.lastore, 1) := by decide +kernel
theorem dX11_add_78 : decode cX11_add 78 = .ok (.iload_n 2, 1) := by decide +kernel
theorem dX11_add_79 : decode cX11_add 79 = .ok (.ireturn, 1) := by decide +kernel
noncomputable def f_X11_add (x1 : Int32) (s : t_S) : Option (Int32 × t_S) :=
 if (s.1 316 8) < (3001 : Int32) then (t_let (t_setI s 316 8 ((s.1 316 8) + (1 : Int32))) (fun s1 =>
 if t_ix (s.1 316 8) 3001 = true then
  t_let (t_setI s1 317 ((s.1 316 8).toNatClampNeg) x1) (fun s2 =>
 t_let (t_setI s2 318 ((s.1 316 8).toNatClampNeg) (-1 : Int32)) (fun s3 =>
 t_let (t_setI s3 319 ((s.1 316 8).toNatClampNeg) (-1 : Int32)) (fun s4 =>
 t_let (t_setI s4 320 ((s.1 316 8).toNatClampNeg) (-1 : Int32)) (fun s5 =>
 t_let (t_setI s5 321 ((s.1 316 8).toNatClampNeg) (0 : Int32)) (fun s6 =>
 t_let (t_setJ s6 322 ((s.1 316 8).toNatClampNeg) (0 : Int64)) (fun s7 =>
 t_let (t_setJ s7 323 ((s.1 316 8).toNatClampNeg) (0 : Int64)) (fun s8 =>
 some ((s.1 316 8), s8))))))))
else none))
 else (some ((3000 : Int32), s))
set_option maxRecDepth 4000 in
set_option maxHeartbeats 1000000 in
theorem C_X11_add (x1 : Int32) (s : t_S) (r : Int32 × t_S) (hr : f_X11_add x1 s = some r) : t_C yX11_add cX11_add 3 (some .int) 0 [.ref 316, .int x1] s (fun v s' => v = some (.int r.1) ∧ s' = r.2) := by
  refine t_C.imp (P := fun v s' => ∃ x, v = some (.int x) ∧ (fun q => q = r) ((x, s'))) (t_C.of (by decide +kernel) (Nat.le_of_ble_eq_true rfl) ?_) (fun v s' hp => by obtain ⟨x, rfl, rfl⟩ := hp; exact ⟨rfl, rfl⟩)
  intro D cy ad bs X
  have hk : t_hk (f_X11_add x1 s) (fun q => q = r) := ⟨r, hr, rfl⟩
  show mj_G D cy ad bs X cX11_add 3 yX11_add.cls (some .int) yX11_add.name 0 0 0 1065 (t_P (fun v s' => ∃ x, v = some (.int x) ∧ (fun q => q = r) ((x, s')))) 0 [(0, .ref 316), (1, .int x1)] [] (t_m s) 1065 0 0
  refine mj_aload_n dX11_add_0 0 rfl ?_
  refine t_getI dX11_add_1 F_X11_65 qf_316_8 ?_
  refine mj_sipush (v := 3001) dX11_add_4 (by decide) ?_
  refine mj_icmp_lt 14 dX11_add_7 (by decide) (fun z => t_posK hk z (fun hk => ?_)) (fun z => t_negK hk z (fun hk => ?_))
  · refine mj_aload_n dX11_add_14 0 rfl ?_
    refine t_getI dX11_add_15 F_X11_65 qf_316_8 ?_
    refine mj_istore_n 2 (lv2 := [(2, .int (s.1 316 8)), (0, .ref 316), (1, .int x1)]) dX11_add_18 rfl (by decide) rfl ?_
    refine mj_aload_n dX11_add_19 1 rfl ?_
    refine mj_dup dX11_add_20 rfl ?_
    refine t_getI dX11_add_21 F_X11_65 qf_316_8 ?_
    refine mj_iconst (v := 1) dX11_add_24 (by decide) ?_
    refine mj_iadd dX11_add_25 ?_
    refine t_putIK dX11_add_26 F_X11_65 qf_316_8 rfl (fun s1 ws1 => t_letE hk ws1 (fun hk => ?_))
    refine mj_aload_n dX11_add_29 1 rfl ?_
    refine t_getR 317 dX11_add_30 F_X11_9 qr_316_0 ?_
    refine mj_iload_n dX11_add_33 0 rfl ?_
    refine mj_iload_n dX11_add_34 2 rfl ?_
    refine t_chkK hk (fun c0 hk => ?_)
    refine t_iastK dX11_add_35 qa_317 (t_ixv c0) (fun s2 ws2 => t_letE hk ws2 (fun hk => ?_))
    refine mj_aload_n dX11_add_36 1 rfl ?_
    refine t_getR 318 dX11_add_37 F_X11_13 qr_316_1 ?_
    refine mj_iload_n dX11_add_40 0 rfl ?_
    refine mj_iconst (v := (-1)) dX11_add_41 (by decide) ?_
    refine t_iastK dX11_add_42 qa_318 (t_ixv c0) (fun s3 ws3 => t_letE hk ws3 (fun hk => ?_))
    refine mj_aload_n dX11_add_43 1 rfl ?_
    refine t_getR 319 dX11_add_44 F_X11_16 qr_316_2 ?_
    refine mj_iload_n dX11_add_47 0 rfl ?_
    refine mj_iconst (v := (-1)) dX11_add_48 (by decide) ?_
    refine t_iastK dX11_add_49 qa_319 (t_ixv c0) (fun s4 ws4 => t_letE hk ws4 (fun hk => ?_))
    refine mj_aload_n dX11_add_50 1 rfl ?_
    refine t_getR 320 dX11_add_51 F_X11_19 qr_316_3 ?_
    refine mj_iload_n dX11_add_54 0 rfl ?_
    refine mj_iconst (v := (-1)) dX11_add_55 (by decide) ?_
    refine t_iastK dX11_add_56 qa_320 (t_ixv c0) (fun s5 ws5 => t_letE hk ws5 (fun hk => ?_))
    refine mj_aload_n dX11_add_57 1 rfl ?_
    refine t_getR 321 dX11_add_58 F_X11_22 qr_316_4 ?_
    refine mj_iload_n dX11_add_61 0 rfl ?_
    refine mj_iconst (v := 0) dX11_add_62 (by decide) ?_
    refine t_iastK dX11_add_63 qa_321 (t_ixv c0) (fun s6 ws6 => t_letE hk ws6 (fun hk => ?_))
    refine mj_aload_n dX11_add_64 1 rfl ?_
    refine t_getR 322 dX11_add_65 F_X11_25 qr_316_5 ?_
    refine mj_iload_n dX11_add_68 0 rfl ?_
    refine mj_lconst (v := 0) dX11_add_69 (by decide) ?_
    refine t_lastK dX11_add_70 qa_322 (t_ixv c0) (fun s7 ws7 => t_letE hk ws7 (fun hk => ?_))
    refine mj_aload_n dX11_add_71 1 rfl ?_
    refine t_getR 323 dX11_add_72 F_X11_29 qr_316_6 ?_
    refine mj_iload_n dX11_add_75 0 rfl ?_
    refine mj_lconst (v := 0) dX11_add_76 (by decide) ?_
    refine t_lastK dX11_add_77 qa_323 (t_ixv c0) (fun s8 ws8 => t_letE hk ws8 (fun hk => ?_))
    refine mj_iload_n dX11_add_78 0 rfl ?_
    exact t_somK hk (fun hf => t_iret dX11_add_79 rfl rfl ⟨_, rfl, hf⟩ (Nat.le_of_ble_eq_true rfl) (Nat.le_of_ble_eq_true rfl))
  · refine mj_sipush (v := 3000) dX11_add_10 (by decide) ?_
    exact t_somK hk (fun hf => t_iret dX11_add_13 rfl rfl ⟨_, rfl, hf⟩ (Nat.le_of_ble_eq_true rfl) (Nat.le_of_ble_eq_true rfl))

theorem dX11_plus_0 : decode cX11_plus 0 = .ok (.lload_n 0, 1) := by decide +kernel
theorem dX11_plus_1 : decode cX11_plus 1 = .ok (.ldc2_w 215, 3) := by decide +kernel
theorem dX11_plus_10 : decode cX11_plus 10 = .ok (.ldc2_w 215, 3) := by decide +kernel
theorem dX11_plus_13 : decode cX11_plus 13 = .ok (.goto 6, 3) := by decide +kernel
theorem dX11_plus_16 : decode cX11_plus 16 = .ok (.lload_n 0, 1) := by decide +kernel
theorem dX11_plus_17 : decode cX11_plus 17 = .ok (.lload_n 2, 1) := by decide +kernel
theorem dX11_plus_18 : decode cX11_plus 18 = .ok (.ladd, 1) := by decide +kernel
theorem dX11_plus_19 : decode cX11_plus 19 = .ok (.lreturn, 1) := by decide +kernel
theorem dX11_plus_4 : decode cX11_plus 4 = .ok (.lload_n 2, 1) := by decide +kernel
theorem dX11_plus_5 : decode cX11_plus 5 = .ok (.lsub, 1) := by decide +kernel
theorem dX11_plus_6 : decode cX11_plus 6 = .ok (.lcmp, 1) := by decide +kernel
theorem dX11_plus_7 : decode cX11_plus 7 = .ok (.ifCond .lt 9, 3) := by decide +kernel
noncomputable def f_X11_plus (x1 : Int64) (x2 : Int64) (s : t_S) : Int64 :=
 if (lg_cmp x1 ((4000000000000000000 : Int64) - x2)) < (0 : Int32) then ((x1 + x2))
 else ((4000000000000000000 : Int64))
set_option maxRecDepth 4000 in
set_option maxHeartbeats 1000000 in
theorem C_X11_plus (x1 : Int64) (x2 : Int64) (s : t_S) : t_C yX11_plus cX11_plus 4 (some .long) 0 [.long x1, .long x2] s (fun v s' => v = some (.long (f_X11_plus x1 x2 s)) ∧ s' = s) := by
  refine t_C.imp (P := fun v s' => s' = s ∧ ∃ x, v = some (.long x) ∧ (fun r => r = f_X11_plus x1 x2 s) (x)) (t_C.of (by decide +kernel) (Nat.le_of_ble_eq_true rfl) ?_) (fun v s' hp => by obtain ⟨rfl, x, rfl, rfl⟩ := hp; exact ⟨rfl, rfl⟩)
  intro D cy ad bs X
  have hk : t_ht (f_X11_plus x1 x2 s) (fun r => r = f_X11_plus x1 x2 s) := rfl
  show mj_G D cy ad bs X cX11_plus 4 yX11_plus.cls (some .long) yX11_plus.name 0 0 0 1065 (t_P (fun v s' => s' = s ∧ ∃ x, v = some (.long x) ∧ (fun r => r = f_X11_plus x1 x2 s) (x))) 0 [(0, .long x1), (2, .long x2)] [] (t_m s) 1065 0 0
  refine mj_lload_n dX11_plus_0 0 rfl ?_
  refine mj_ldc2 dX11_plus_1 K_X11_215 ?_
  refine mj_lload_n dX11_plus_4 1 rfl ?_
  refine mj_lsub dX11_plus_5 ?_
  refine mj_lcmp dX11_plus_6 ?_
  refine mj_if_lt 16 dX11_plus_7 (by decide) (fun z => t_posTK hk z (fun hk => ?_)) (fun z => t_negTK hk z (fun hk => ?_))
  · refine mj_lload_n dX11_plus_16 0 rfl ?_
    refine mj_lload_n dX11_plus_17 1 rfl ?_
    refine mj_ladd dX11_plus_18 ?_
    exact t_lret dX11_plus_19 rfl ⟨rfl, _, rfl, hk⟩ (Nat.le_of_ble_eq_true rfl) (Nat.le_of_ble_eq_true rfl)
  · refine mj_ldc2 dX11_plus_10 K_X11_215 ?_
    refine mj_goto 19 dX11_plus_13 (by decide) ?_
    exact t_lret dX11_plus_19 rfl ⟨rfl, _, rfl, hk⟩ (Nat.le_of_ble_eq_true rfl) (Nat.le_of_ble_eq_true rfl)

theorem dX11_lastNamed_0 : decode cX11_lastNamed 0 = .ok (.iload_n 1, 1) := by decide +kernel
theorem dX11_lastNamed_1 : decode cX11_lastNamed 1 = .ok (.istore_n 2, 1) := by decide +kernel
theorem dX11_lastNamed_10 : decode cX11_lastNamed 10 = .ok (.aload_n 0, 1) := by decide +kernel
theorem dX11_lastNamed_11 : decode cX11_lastNamed 11 = .ok (.getfield 9, 3) := by decide +kernel
theorem dX11_lastNamed_14 : decode cX11_lastNamed 14 = .ok (.aload_n 0, 1) := by decide +kernel
theorem dX11_lastNamed_15 : decode cX11_lastNamed 15 = .ok (.getfield 38, 3) := by decide +kernel
theorem dX11_lastNamed_18 : decode cX11_lastNamed 18 = .ok (.iload_n 2, 1) := by decide +kernel
theorem dX11_lastNamed_19 : decode cX11_lastNamed 19 = .ok (.iaload, 1) := by decide +kernel
theorem dX11_lastNamed_2 : decode cX11_lastNamed 2 = .ok (.iconst 0, 1) := by decide +kernel
theorem dX11_lastNamed_20 : decode cX11_lastNamed 20 = .ok (.iaload, 1) := by decide +kernel
theorem dX11_lastNamed_21 : decode cX11_lastNamed 21 = .ok (.bipush 8, 2) := by decide +kernel
theorem dX11_lastNamed_23 : decode cX11_lastNamed 23 = .ok (.if_icmp .ne 21, 3) := by decide +kernel
theorem dX11_lastNamed_26 : decode cX11_lastNamed 26 = .ok (.aload_n 0, 1) := by decide +kernel
theorem dX11_lastNamed_27 : decode cX11_lastNamed 27 = .ok (.getfield 22, 3) := by decide +kernel
theorem dX11_lastNamed_3 : decode cX11_lastNamed 3 = .ok (.istore_n 3, 1) := by decide +kernel
theorem dX11_lastNamed_30 : decode cX11_lastNamed 30 = .ok (.aload_n 0, 1) := by decide +kernel
theorem dX11_lastNamed_31 : decode cX11_lastNamed 31 = .ok (.getfield 38, 3) := by decide +kernel
theorem dX11_lastNamed_34 : decode cX11_lastNamed 34 = .ok (.iload_n 2, 1) := by decide +kernel
theorem dX11_lastNamed_35 : decode cX11_lastNamed 35 = .ok (.iaload, 1) := by decide +kernel
theorem dX11_lastNamed_36 : decode cX11_lastNamed 36 = .ok (.iaload, 1) := by decide +kernel
theorem dX11_lastNamed_37 : decode cX11_lastNamed 37 = .ok (.istore_n 2, 1) := by decide +kernel
theorem dX11_lastNamed_38 : decode cX11_lastNamed 38 = .ok (.iinc 3 1, 3) := by decide +kernel
theorem dX11_lastNamed_4 : decode cX11_lastNamed 4 = .ok (.iload_n 3, 1) := by decide +kernel
theorem dX11_lastNamed_41 : decode cX11_lastNamed 41 = .ok (.goto (-37), 3) := by decide +kernel
theorem dX11_lastNamed_44 : decode cX11_lastNamed 44 = .ok (.iload_n 2, 1) := by decide +kernel
theorem dX11_lastNamed_45 : decode cX11_lastNamed 45 = .ok (.ireturn, 1) := by decide +kernel
theorem dX11_lastNamed_5 : decode cX11_lastNamed 5 = .ok (.bipush 60, 2) := by decide +kernel
theorem dX11_lastNamed_7 : decode cX11_lastNamed 7 = .ok (.if_icmp .ge 37, 3) := by decide +kernel
noncomputable def k_X11_lastNamed_4 (l2 : Int32) (l3 : Int32) (s : t_S) : Option ((Int32 × Int32) ⊕ (Int32)) :=
 if (60 : Int32) ≤ l3 then ((some (l2)).map Sum.inr)
 else (if t_ix l2 60 = true then
  if t_ix (s.1 326 (l2.toNatClampNeg)) 3001 = true then
  if (s.1 317 ((s.1 326 (l2.toNatClampNeg)).toNatClampNeg)) = (8 : Int32) then (some (.inl ((s.1 321 ((s.1 326 (l2.toNatClampNeg)).toNatClampNeg)), (l3 + 1))))
 else ((some (l2)).map Sum.inr)
else none
else none)
set_option maxRecDepth 4000 in
set_option maxHeartbeats 1000000 in
theorem B_X11_lastNamed_4 {D : va_G} {cy : Nat → ClassId} {ad : Nat → Nat} {bs : Nat} {X : State → Heap → Prop} (l2 : Int32) (l3 : Int32) (s : t_S) (Q : (Int32 × Int32) ⊕ (Int32) → Prop) (Hb4 : ∀ (y0 : Int32) (y1 : Int32), Q (.inl (y0, y1)) → mj_G D cy ad bs X cX11_lastNamed 4 yX11_lastNamed.cls (some .int) yX11_lastNamed.name 0 0 0 1065 (t_P (fun v s' => s' = s ∧ ∃ x, v = some (.int x) ∧ Q (.inr (x)))) 4 [(0, .ref 316), (2, .int (y0)), (3, .int (y1))] [] (t_m s) 1065 0 0) (hk : t_hk (k_X11_lastNamed_4 l2 l3 s) Q) : mj_G D cy ad bs X cX11_lastNamed 4 yX11_lastNamed.cls (some .int) yX11_lastNamed.name 0 0 0 1065 (t_P (fun v s' => s' = s ∧ ∃ x, v = some (.int x) ∧ Q (.inr (x)))) 4 [(0, .ref 316), (2, .int l2), (3, .int l3)] [] (t_m s) 1065 0 0 := by
  refine mj_iload_n dX11_lastNamed_4 2 rfl ?_
  refine mj_bipush (v := 60) dX11_lastNamed_5 (by decide) ?_
  refine mj_icmp_ge 44 dX11_lastNamed_7 (by decide) (fun z => t_posK hk z (fun hk => ?_)) (fun z => t_negK hk z (fun hk => ?_))
  · refine t_mapK hk (fun hk => ?_)
    refine mj_iload_n dX11_lastNamed_44 1 rfl ?_
    exact t_somK hk (fun hf => t_iret dX11_lastNamed_45 rfl rfl ⟨rfl, _, rfl, hf⟩ (Nat.le_of_ble_eq_true rfl) (Nat.le_of_ble_eq_true rfl))
  · refine mj_aload_n dX11_lastNamed_10 0 rfl ?_
    refine t_getR 317 dX11_lastNamed_11 F_X11_9 qr_316_0 ?_
    refine mj_aload_n dX11_lastNamed_14 0 rfl ?_
    refine t_getR 326 dX11_lastNamed_15 F_X11_38 qr_316_11 ?_
    refine mj_iload_n dX11_lastNamed_18 1 rfl ?_
    refine t_chkK hk (fun c0 hk => ?_)
    refine t_iald dX11_lastNamed_19 qa_326 (t_ixv c0) ?_
    refine t_chkK hk (fun c1 hk => ?_)
    refine t_iald dX11_lastNamed_20 qa_317 (t_ixv c1) ?_
    refine mj_bipush (v := 8) dX11_lastNamed_21 (by decide) ?_
    refine mj_icmp_ne 44 dX11_lastNamed_23 (by decide) (fun z => t_negK hk z (fun hk => ?_)) (fun z => t_posK hk z (fun hk => ?_))
    · refine t_mapK hk (fun hk => ?_)
      refine mj_iload_n dX11_lastNamed_44 1 rfl ?_
      exact t_somK hk (fun hf => t_iret dX11_lastNamed_45 rfl rfl ⟨rfl, _, rfl, hf⟩ (Nat.le_of_ble_eq_true rfl) (Nat.le_of_ble_eq_true rfl))
    · refine mj_aload_n dX11_lastNamed_26 0 rfl ?_
      refine t_getR 321 dX11_lastNamed_27 F_X11_22 qr_316_4 ?_
      refine mj_aload_n dX11_lastNamed_30 0 rfl ?_
      refine t_getR 326 dX11_lastNamed_31 F_X11_38 qr_316_11 ?_
      refine mj_iload_n dX11_lastNamed_34 1 rfl ?_
      refine t_iald dX11_lastNamed_35 qa_326 (t_ixv c0) ?_
      refine t_iald dX11_lastNamed_36 qa_321 (t_ixv c1) ?_
      refine mj_istore_n 2 (lv2 := [(2, .int (s.1 321 ((s.1 326 (l2.toNatClampNeg)).toNatClampNeg))), (0, .ref 316), (3, .int l3)]) dX11_lastNamed_37 rfl (by decide) rfl ?_
      refine mj_iinc (k := 2) (v := (l3 + 1)) (lv2 := [(3, .int (l3 + 1)), (2, .int (s.1 321 ((s.1 326 (l2.toNatClampNeg)).toNatClampNeg))), (0, .ref 316)]) dX11_lastNamed_38 rfl rfl (by decide) rfl ?_
      refine mj_goto 4 dX11_lastNamed_41 (by decide) ?_
      refine mj_sublv [(0, .ref 316), (2, .int (s.1 321 ((s.1 326 (l2.toNatClampNeg)).toNatClampNeg))), (3, .int (l3 + 1))] [2, 1, 0] rfl ?_
      exact t_somK hk (fun hf => Hb4 (s.1 321 ((s.1 326 (l2.toNatClampNeg)).toNatClampNeg)) (l3 + 1) hf)
noncomputable def b_X11_lastNamed_4 (s : t_S) (x : Int32 × Int32) : Option ((Int32 × Int32) ⊕ (Int32)) := k_X11_lastNamed_4 x.1 x.2 s
set_option maxRecDepth 4000 in
set_option maxHeartbeats 1000000 in
theorem LH_X11_lastNamed_4 {D : va_G} {cy : Nat → ClassId} {ad : Nat → Nat} {bs : Nat} {X : State → Heap → Prop} (s : t_S) : ∀ (n : Nat) (y0 : Int32) (y1 : Int32) (Q : Int32 → Prop) (hk : t_hk (t_loop (b_X11_lastNamed_4 s) n (y0, y1)) Q), mj_G D cy ad bs X cX11_lastNamed 4 yX11_lastNamed.cls (some .int) yX11_lastNamed.name 0 0 0 1065 (t_P (fun v s' => s' = s ∧ ∃ x, v = some (.int x) ∧ Q (x))) 4 [(0, .ref 316), (2, .int (y0)), (3, .int (y1))] [] (t_m s) 1065 0 0 := by
  intro n
  induction n with
  | zero => intro y0 y1 Q hk; obtain ⟨r, hr, _⟩ := hk; cases hr
  | succ n ih =>
    intro y0 y1 Q hk
    exact B_X11_lastNamed_4 y0 y1 s (fun y => t_lq (b_X11_lastNamed_4 s) n Q y) (fun y0' y1' hy => ih y0' y1' Q hy) (t_lp hk)
noncomputable def f_X11_lastNamed (x1 : Int32) (s : t_S) : Option (Int32) :=
 t_loop (b_X11_lastNamed_4 s) t_N (x1, 0)
set_option maxRecDepth 4000 in
set_option maxHeartbeats 1000000 in
theorem C_X11_lastNamed (x1 : Int32) (s : t_S) (r : Int32) (hr : f_X11_lastNamed x1 s = some r) : t_C yX11_lastNamed cX11_lastNamed 4 (some .int) 0 [.ref 316, .int x1] s (fun v s' => v = some (.int r) ∧ s' = s) := by
  refine t_C.imp (P := fun v s' => s' = s ∧ ∃ x, v = some (.int x) ∧ (fun q => q = r) (x)) (t_C.of (by decide +kernel) (Nat.le_of_ble_eq_true rfl) ?_) (fun v s' hp => by obtain ⟨rfl, x, rfl, rfl⟩ := hp; exact ⟨rfl, rfl⟩)
  intro D cy ad bs X
  have hk : t_hk (f_X11_lastNamed x1 s) (fun q => q = r) := ⟨r, hr, rfl⟩
  show mj_G D cy ad bs X cX11_lastNamed 4 yX11_lastNamed.cls (some .int) yX11_lastNamed.name 0 0 0 1065 (t_P (fun v s' => s' = s ∧ ∃ x, v = some (.int x) ∧ (fun q => q = r) (x))) 0 [(0, .ref 316), (1, .int x1)] [] (t_m s) 1065 0 0
  refine mj_iload_n dX11_lastNamed_0 1 rfl ?_
  refine mj_istore_n 2 (lv2 := [(2, .int x1), (0, .ref 316), (1, .int x1)]) dX11_lastNamed_1 rfl (by decide) rfl ?_
  refine mj_iconst (v := 0) dX11_lastNamed_2 (by decide) ?_
  refine mj_istore_n 3 (lv2 := [(3, .int 0), (2, .int x1), (0, .ref 316), (1, .int x1)]) dX11_lastNamed_3 rfl (by decide) rfl ?_
  refine mj_sublv [(0, .ref 316), (2, .int x1), (3, .int 0)] [2, 1, 0] rfl ?_
  exact LH_X11_lastNamed_4 _ _ x1 0 _ hk

theorem dX11_resolve_0 : decode cX11_resolve 0 = .ok (.aload_n 0, 1) := by decide +kernel
theorem dX11_resolve_1 : decode cX11_resolve 1 = .ok (.getfield 9, 3) := by decide +kernel
theorem dX11_resolve_11 : decode cX11_resolve 11 = .ok (.aload_n 0, 1) := by decide +kernel
theorem dX11_resolve_12 : decode cX11_resolve 12 = .ok (.getfield 38, 3) := by decide +kernel
theorem dX11_resolve_15 : decode cX11_resolve 15 = .ok (.aload_n 0, 1) := by decide +kernel
theorem dX11_resolve_16 : decode cX11_resolve 16 = .ok (.aload_n 0, 1) := by decide +kernel
theorem dX11_resolve_17 : decode cX11_resolve 17 = .ok (.getfield 22, 3) := by decide +kernel
theorem dX11_resolve_20 : decode cX11_resolve 20 = .ok (.iload_n 1, 1) := by decide +kernel
theorem dX11_resolve_21 : decode cX11_resolve 21 = .ok (.iaload, 1) := by decide +kernel
theorem dX11_resolve_22 : decode cX11_resolve 22 = .ok (.invokevirtual 75, 3) := by decide +kernel
theorem dX11_resolve_25 : decode cX11_resolve 25 = .ok (.iaload, 1) := by decide +kernel
theorem dX11_resolve_26 : decode cX11_resolve 26 = .ok (.goto 4, 3) := by decide +kernel
theorem dX11_resolve_29 : decode cX11_resolve 29 = .ok (.iload_n 1, 1) := by decide +kernel
theorem dX11_resolve_30 : decode cX11_resolve 30 = .ok (.ireturn, 1) := by decide +kernel
theorem dX11_resolve_4 : decode cX11_resolve 4 = .ok (.iload_n 1, 1) := by decide +kernel
theorem dX11_resolve_5 : decode cX11_resolve 5 = .ok (.iaload, 1) := by decide +kernel
theorem dX11_resolve_6 : decode cX11_resolve 6 = .ok (.bipush 8, 2) := by decide +kernel
theorem dX11_resolve_8 : decode cX11_resolve 8 = .ok (.if_icmp .ne 21, 3) := by decide +kernel
noncomputable def f_X11_resolve (x1 : Int32) (s : t_S) : Option (Int32) :=
 if t_ix x1 3001 = true then
  if (s.1 317 (x1.toNatClampNeg)) = (8 : Int32) then ((f_X11_lastNamed (s.1 321 (x1.toNatClampNeg)) s).bind (fun r2 =>
 if t_ix r2 60 = true then
  some (s.1 326 (r2.toNatClampNeg))
else none))
 else (some (x1))
else none
set_option maxRecDepth 4000 in
set_option maxHeartbeats 1000000 in
theorem C_X11_resolve (x1 : Int32) (s : t_S) (r : Int32) (hr : f_X11_resolve x1 s = some r) : t_C yX11_resolve cX11_resolve 2 (some .int) 1 [.ref 316, .int x1] s (fun v s' => v = some (.int r) ∧ s' = s) := by
  refine t_C.imp (P := fun v s' => s' = s ∧ ∃ x, v = some (.int x) ∧ (fun q => q = r) (x)) (t_C.of (by decide +kernel) (Nat.le_of_ble_eq_true rfl) ?_) (fun v s' hp => by obtain ⟨rfl, x, rfl, rfl⟩ := hp; exact ⟨rfl, rfl⟩)
  intro D cy ad bs X
  have hk : t_hk (f_X11_resolve x1 s) (fun q => q = r) := ⟨r, hr, rfl⟩
  show mj_G D cy ad bs X cX11_resolve 2 yX11_resolve.cls (some .int) yX11_resolve.name 1 0 0 1065 (t_P (fun v s' => s' = s ∧ ∃ x, v = some (.int x) ∧ (fun q => q = r) (x))) 0 [(0, .ref 316), (1, .int x1)] [] (t_m s) 1065 0 0
  refine mj_aload_n dX11_resolve_0 0 rfl ?_
  refine t_getR 317 dX11_resolve_1 F_X11_9 qr_316_0 ?_
  refine mj_iload_n dX11_resolve_4 1 rfl ?_
  refine t_chkK hk (fun c0 hk => ?_)
  refine t_iald dX11_resolve_5 qa_317 (t_ixv c0) ?_
  refine mj_bipush (v := 8) dX11_resolve_6 (by decide) ?_
  refine mj_icmp_ne 29 dX11_resolve_8 (by decide) (fun z => t_negK hk z (fun hk => ?_)) (fun z => t_posK hk z (fun hk => ?_))
  · refine mj_iload_n dX11_resolve_29 1 rfl ?_
    exact t_somK hk (fun hf => t_iret dX11_resolve_30 rfl rfl ⟨rfl, _, rfl, hf⟩ (Nat.le_of_ble_eq_true rfl) (Nat.le_of_ble_eq_true rfl))
  · refine mj_aload_n dX11_resolve_11 0 rfl ?_
    refine t_getR 326 dX11_resolve_12 F_X11_38 qr_316_11 ?_
    refine mj_aload_n dX11_resolve_15 0 rfl ?_
    refine mj_aload_n dX11_resolve_16 0 rfl ?_
    refine t_getR 321 dX11_resolve_17 F_X11_22 qr_316_4 ?_
    refine mj_iload_n dX11_resolve_20 1 rfl ?_
    refine t_iald dX11_resolve_21 qa_321 (t_ixv c0) ?_
    refine t_bndK hk (fun r2 er2 hk => ?_)
    refine t_callViP dX11_resolve_22 M_X11_lastNamed (C_X11_lastNamed _ _ _ er2) ML_X11_75 IM_X11_lastNamed SE_X11_lastNamed qc_316 rfl (As := [.int (s.1 321 (x1.toNatClampNeg))]) rfl rfl (Nat.le_of_ble_eq_true rfl) (Nat.le_of_ble_eq_true rfl) (Nat.le_of_ble_eq_true rfl) (Nat.le_of_ble_eq_true rfl) ?_
    refine t_chkK hk (fun c2 hk => ?_)
    refine t_iald dX11_resolve_25 qa_326 (t_ixv c2) ?_
    refine mj_goto 30 dX11_resolve_26 (by decide) ?_
    exact t_somK hk (fun hf => t_iret dX11_resolve_30 rfl rfl ⟨rfl, _, rfl, hf⟩ (Nat.le_of_ble_eq_true rfl) (Nat.le_of_ble_eq_true rfl))

theorem dX11_waysAt_0 : decode cX11_waysAt 0 = .ok (.iload_n 2, 1) := by decide +kernel
theorem dX11_waysAt_1 : decode cX11_waysAt 1 = .ok (.iconst 1, 1) := by decide +kernel
theorem dX11_waysAt_10 : decode cX11_waysAt 10 = .ok (.getfield 45, 3) := by decide +kernel
theorem dX11_waysAt_13 : decode cX11_waysAt 13 = .ok (.aload_n 0, 1) := by decide +kernel
theorem dX11_waysAt_14 : decode cX11_waysAt 14 = .ok (.iload_n 1, 1) := by decide +kernel
theorem dX11_waysAt_15 : decode cX11_waysAt 15 = .ok (.invokevirtual 111, 3) := by decide +kernel
theorem dX11_waysAt_18 : decode cX11_waysAt 18 = .ok (.bipush 21, 2) := by decide +kernel
theorem dX11_waysAt_2 : decode cX11_waysAt 2 = .ok (.if_icmp .ge 7, 3) := by decide +kernel
theorem dX11_waysAt_20 : decode cX11_waysAt 20 = .ok (.imul, 1) := by decide +kernel
theorem dX11_waysAt_21 : decode cX11_waysAt 21 = .ok (.iload_n 2, 1) := by decide +kernel
theorem dX11_waysAt_22 : decode cX11_waysAt 22 = .ok (.iadd, 1) := by decide +kernel
theorem dX11_waysAt_23 : decode cX11_waysAt 23 = .ok (.laload, 1) := by decide +kernel
theorem dX11_waysAt_24 : decode cX11_waysAt 24 = .ok (.lreturn, 1) := by decide +kernel
theorem dX11_waysAt_5 : decode cX11_waysAt 5 = .ok (.lconst 0, 1) := by decide +kernel
theorem dX11_waysAt_6 : decode cX11_waysAt 6 = .ok (.goto 18, 3) := by decide +kernel
theorem dX11_waysAt_9 : decode cX11_waysAt 9 = .ok (.aload_n 0, 1) := by decide +kernel
noncomputable def f_X11_waysAt (x1 : Int32) (x2 : Int32) (s : t_S) : Option (Int64) :=
 if (1 : Int32) ≤ x2 then ((f_X11_resolve x1 s).bind (fun r1 =>
 if t_ix ((r1 * (21 : Int32)) + x2) 63021 = true then
  some (s.2.1 328 (((r1 * (21 : Int32)) + x2).toNatClampNeg))
else none))
 else (some (0 : Int64))
set_option maxRecDepth 4000 in
set_option maxHeartbeats 1000000 in
theorem C_X11_waysAt (x1 : Int32) (x2 : Int32) (s : t_S) (r : Int64) (hr : f_X11_waysAt x1 x2 s = some r) : t_C yX11_waysAt cX11_waysAt 3 (some .long) 2 [.ref 316, .int x1, .int x2] s (fun v s' => v = some (.long r) ∧ s' = s) := by
  refine t_C.imp (P := fun v s' => s' = s ∧ ∃ x, v = some (.long x) ∧ (fun q => q = r) (x)) (t_C.of (by decide +kernel) (Nat.le_of_ble_eq_true rfl) ?_) (fun v s' hp => by obtain ⟨rfl, x, rfl, rfl⟩ := hp; exact ⟨rfl, rfl⟩)
  intro D cy ad bs X
  have hk : t_hk (f_X11_waysAt x1 x2 s) (fun q => q = r) := ⟨r, hr, rfl⟩
  show mj_G D cy ad bs X cX11_waysAt 3 yX11_waysAt.cls (some .long) yX11_waysAt.name 2 0 0 1065 (t_P (fun v s' => s' = s ∧ ∃ x, v = some (.long x) ∧ (fun q => q = r) (x))) 0 [(0, .ref 316), (1, .int x1), (2, .int x2)] [] (t_m s) 1065 0 0
  refine mj_iload_n dX11_waysAt_0 2 rfl ?_
  refine mj_iconst (v := 1) dX11_waysAt_1 (by decide) ?_
  refine mj_icmp_ge 9 dX11_waysAt_2 (by decide) (fun z => t_posK hk z (fun hk => ?_)) (fun z => t_negK hk z (fun hk => ?_))
  · refine mj_aload_n dX11_waysAt_9 0 rfl ?_
    refine t_getR 328 dX11_waysAt_10 F_X11_45 qr_316_14 ?_
    refine mj_aload_n dX11_waysAt_13 0 rfl ?_
    refine mj_iload_n dX11_waysAt_14 1 rfl ?_
    refine t_bndK hk (fun r1 er1 hk => ?_)
    refine t_callViP dX11_waysAt_15 M_X11_resolve (C_X11_resolve _ _ _ er1) ML_X11_111 IM_X11_resolve SE_X11_resolve qc_316 rfl (As := [.int x1]) rfl rfl (Nat.le_of_ble_eq_true rfl) (Nat.le_of_ble_eq_true rfl) (Nat.le_of_ble_eq_true rfl) (Nat.le_of_ble_eq_true rfl) ?_
    refine mj_bipush (v := 21) dX11_waysAt_18 (by decide) ?_
    refine mj_imul dX11_waysAt_20 ?_
    refine mj_iload_n dX11_waysAt_21 2 rfl ?_
    refine mj_iadd dX11_waysAt_22 ?_
    refine t_chkK hk (fun c1 hk => ?_)
    refine t_lald dX11_waysAt_23 qa_328 (t_ixv c1) ?_
    exact t_somK hk (fun hf => t_lret dX11_waysAt_24 rfl ⟨rfl, _, rfl, hf⟩ (Nat.le_of_ble_eq_true rfl) (Nat.le_of_ble_eq_true rfl))
  · refine mj_lconst (v := 0) dX11_waysAt_5 (by decide) ?_
    refine mj_goto 24 dX11_waysAt_6 (by decide) ?_
    exact t_somK hk (fun hf => t_lret dX11_waysAt_24 rfl ⟨rfl, _, rfl, hf⟩ (Nat.le_of_ble_eq_true rfl) (Nat.le_of_ble_eq_true rfl))

theorem dX11_choicesOf_0 : decode cX11_choicesOf 0 = .ok (.lconst 0, 1) := by decide +kernel
theorem dX11_choicesOf_1 : decode cX11_choicesOf 1 = .ok (.lstore_n 3, 1) := by decide +kernel
theorem dX11_choicesOf_10 : decode cX11_choicesOf 10 = .ok (.iconst 0, 1) := by decide +kernel
theorem dX11_choicesOf_11 : decode cX11_choicesOf 11 = .ok (.istore 6, 2) := by decide +kernel
theorem dX11_choicesOf_13 : decode cX11_choicesOf 13 = .ok (.iload 6, 2) := by decide +kernel
theorem dX11_choicesOf_15 : decode cX11_choicesOf 15 = .ok (.aload_n 0, 1) := by decide +kernel
theorem dX11_choicesOf_16 : decode cX11_choicesOf 16 = .ok (.getfield 22, 3) := by decide +kernel
theorem dX11_choicesOf_19 : decode cX11_choicesOf 19 = .ok (.iload_n 1, 1) := by decide +kernel
theorem dX11_choicesOf_2 : decode cX11_choicesOf 2 = .ok (.aload_n 0, 1) := by decide +kernel
theorem dX11_choicesOf_20 : decode cX11_choicesOf 20 = .ok (.iaload, 1) := by decide +kernel
theorem dX11_choicesOf_21 : decode cX11_choicesOf 21 = .ok (.if_icmp .ge 42, 3) := by decide +kernel
theorem dX11_choicesOf_24 : decode cX11_choicesOf 24 = .ok (.iload 5, 2) := by decide +kernel
theorem dX11_choicesOf_26 : decode cX11_choicesOf 26 = .ok (.ifCond .lt 37, 3) := by decide +kernel
theorem dX11_choicesOf_29 : decode cX11_choicesOf 29 = .ok (.lload_n 3, 1) := by decide +kernel
theorem dX11_choicesOf_3 : decode cX11_choicesOf 3 = .ok (.getfield 13, 3) := by decide +kernel
theorem dX11_choicesOf_30 : decode cX11_choicesOf 30 = .ok (.aload_n 0, 1) := by decide +kernel
theorem dX11_choicesOf_31 : decode cX11_choicesOf 31 = .ok (.aload_n 0, 1) := by decide +kernel
theorem dX11_choicesOf_32 : decode cX11_choicesOf 32 = .ok (.getfield 13, 3) := by decide +kernel
theorem dX11_choicesOf_35 : decode cX11_choicesOf 35 = .ok (.iload 5, 2) := by decide +kernel
theorem dX11_choicesOf_37 : decode cX11_choicesOf 37 = .ok (.iaload, 1) := by decide +kernel
theorem dX11_choicesOf_38 : decode cX11_choicesOf 38 = .ok (.iload_n 2, 1) := by decide +kernel
theorem dX11_choicesOf_39 : decode cX11_choicesOf 39 = .ok (.iconst 1, 1) := by decide +kernel
theorem dX11_choicesOf_40 : decode cX11_choicesOf 40 = .ok (.isub, 1) := by decide +kernel
theorem dX11_choicesOf_41 : decode cX11_choicesOf 41 = .ok (.invokevirtual 188, 3) := by decide +kernel
theorem dX11_choicesOf_44 : decode cX11_choicesOf 44 = .ok (.invokestatic 217, 3) := by decide +kernel
theorem dX11_choicesOf_47 : decode cX11_choicesOf 47 = .ok (.lstore_n 3, 1) := by decide +kernel
theorem dX11_choicesOf_48 : decode cX11_choicesOf 48 = .ok (.aload_n 0, 1) := by decide +kernel
theorem dX11_choicesOf_49 : decode cX11_choicesOf 49 = .ok (.getfield 16, 3) := by decide +kernel
theorem dX11_choicesOf_52 : decode cX11_choicesOf 52 = .ok (.iload 5, 2) := by decide +kernel
theorem dX11_choicesOf_54 : decode cX11_choicesOf 54 = .ok (.iaload, 1) := by decide +kernel
theorem dX11_choicesOf_55 : decode cX11_choicesOf 55 = .ok (.istore 5, 2) := by decide +kernel
theorem dX11_choicesOf_57 : decode cX11_choicesOf 57 = .ok (.iinc 6 1, 3) := by decide +kernel
theorem dX11_choicesOf_6 : decode cX11_choicesOf 6 = .ok (.iload_n 1, 1) := by decide +kernel
theorem dX11_choicesOf_60 : decode cX11_choicesOf 60 = .ok (.goto (-47), 3) := by decide +kernel
theorem dX11_choicesOf_63 : decode cX11_choicesOf 63 = .ok (.lload_n 3, 1) := by decide +kernel
theorem dX11_choicesOf_64 : decode cX11_choicesOf 64 = .ok (.lreturn, 1) := by decide +kernel
theorem dX11_choicesOf_7 : decode cX11_choicesOf 7 = .ok (.iaload, 1) := by decide +kernel
theorem dX11_choicesOf_8 : decode cX11_choicesOf 8 = .ok (.istore 5, 2) := by decide +kernel
noncomputable def k_X11_choicesOf_13 (l1 : Int32) (l2 : Int32) (l3 : Int64) (l5 : Int32) (l6 : Int32) (s : t_S) : Option ((Int32 × Int32 × Int64 × Int32 × Int32) ⊕ (Int64)) :=
 if t_ix l1 3001 = true then
  if (s.1 321 (l1.toNatClampNeg)) ≤ l6 then ((some (l3)).map Sum.inr)
 else (if l5 < (0 : Int32) then ((some (l3)).map Sum.inr)
 else (if t_ix l5 3001 = true then
  (f_X11_waysAt (s.1 318 (l5.toNatClampNeg)) (l2 - (1 : Int32)) s).bind (fun r3 =>
 some (.inl (l1, l2, (f_X11_plus l3 r3 s), (s.1 319 (l5.toNatClampNeg)), (l6 + 1))))
else none))
else none
set_option maxRecDepth 4000 in
set_option maxHeartbeats 1000000 in
theorem B_X11_choicesOf_13 {D : va_G} {cy : Nat → ClassId} {ad : Nat → Nat} {bs : Nat} {X : State → Heap → Prop} (l1 : Int32) (l2 : Int32) (l3 : Int64) (l5 : Int32) (l6 : Int32) (s : t_S) (Q : (Int32 × Int32 × Int64 × Int32 × Int32) ⊕ (Int64) → Prop) (Hb13 : ∀ (y0 : Int32) (y1 : Int32) (y2 : Int64) (y3 : Int32) (y4 : Int32), Q (.inl (y0, y1, y2, y3, y4)) → mj_G D cy ad bs X cX11_choicesOf 7 yX11_choicesOf.cls (some .long) yX11_choicesOf.name 3 0 0 1065 (t_P (fun v s' => s' = s ∧ ∃ x, v = some (.long x) ∧ Q (.inr (x)))) 13 [(0, .ref 316), (1, .int (y0)), (2, .int (y1)), (3, .long (y2)), (5, .int (y3)), (6, .int (y4))] [] (t_m s) 1065 0 0) (hk : t_hk (k_X11_choicesOf_13 l1 l2 l3 l5 l6 s) Q) : mj_G D cy ad bs X cX11_choicesOf 7 yX11_choicesOf.cls (some .long) yX11_choicesOf.name 3 0 0 1065 (t_P (fun v s' => s' = s ∧ ∃ x, v = some (.long x) ∧ Q (.inr (x)))) 13 [(0, .ref 316), (1, .int l1), (2, .int l2), (3, .long l3), (5, .int l5), (6, .int l6)] [] (t_m s) 1065 0 0 := by
  refine mj_iload dX11_choicesOf_13 5 rfl ?_
  refine mj_aload_n dX11_choicesOf_15 0 rfl ?_
  refine t_getR 321 dX11_choicesOf_16 F_X11_22 qr_316_4 ?_
  refine mj_iload_n dX11_choicesOf_19 1 rfl ?_
  refine t_chkK hk (fun c0 hk => ?_)
  refine t_iald dX11_choicesOf_20 qa_321 (t_ixv c0) ?_
  refine mj_icmp_ge 63 dX11_choicesOf_21 (by decide) (fun z => t_posK hk z (fun hk => ?_)) (fun z => t_negK hk z (fun hk => ?_))
  · refine t_mapK hk (fun hk => ?_)
    refine mj_lload_n dX11_choicesOf_63 3 rfl ?_
    exact t_somK hk (fun hf => t_lret dX11_choicesOf_64 rfl ⟨rfl, _, rfl, hf⟩ (Nat.le_of_ble_eq_true rfl) (Nat.le_of_ble_eq_true rfl))
  · refine mj_iload dX11_choicesOf_24 4 rfl ?_
    refine mj_if_lt 63 dX11_choicesOf_26 (by decide) (fun z => t_posK hk z (fun hk => ?_)) (fun z => t_negK hk z (fun hk => ?_))
    · refine t_mapK hk (fun hk => ?_)
      refine mj_lload_n dX11_choicesOf_63 3 rfl ?_
      exact t_somK hk (fun hf => t_lret dX11_choicesOf_64 rfl ⟨rfl, _, rfl, hf⟩ (Nat.le_of_ble_eq_true rfl) (Nat.le_of_ble_eq_true rfl))
    · refine mj_lload_n dX11_choicesOf_29 3 rfl ?_
      refine mj_aload_n dX11_choicesOf_30 0 rfl ?_
      refine mj_aload_n dX11_choicesOf_31 0 rfl ?_
      refine t_getR 318 dX11_choicesOf_32 F_X11_13 qr_316_1 ?_
      refine mj_iload dX11_choicesOf_35 4 rfl ?_
      refine t_chkK hk (fun c1 hk => ?_)
      refine t_iald dX11_choicesOf_37 qa_318 (t_ixv c1) ?_
      refine mj_iload_n dX11_choicesOf_38 2 rfl ?_
      refine mj_iconst (v := 1) dX11_choicesOf_39 (by decide) ?_
      refine mj_isub dX11_choicesOf_40 ?_
      refine t_bndK hk (fun r3 er3 hk => ?_)
      refine t_callVlP dX11_choicesOf_41 M_X11_waysAt (C_X11_waysAt _ _ _ _ er3) ML_X11_188 IM_X11_waysAt SE_X11_waysAt qc_316 rfl (As := [.int (s.1 318 (l5.toNatClampNeg)), .int (l2 - (1 : Int32))]) rfl rfl (Nat.le_of_ble_eq_true rfl) (Nat.le_of_ble_eq_true rfl) (Nat.le_of_ble_eq_true rfl) (Nat.le_of_ble_eq_true rfl) ?_
      refine t_callSlP dX11_choicesOf_44 M_X11_plus (C_X11_plus _ _ _) ML_X11_217 SM_X11_plus (As := [.long l3, .long r3]) rfl rfl (Nat.le_of_ble_eq_true rfl) (Nat.le_of_ble_eq_true rfl) (Nat.le_of_ble_eq_true rfl) (Nat.le_of_ble_eq_true rfl) ?_
      refine mj_lstore_n 3 (lv2 := [(3, .long (f_X11_plus l3 r3 s)), (0, .ref 316), (1, .int l1), (2, .int l2), (5, .int l5), (6, .int l6)]) dX11_choicesOf_47 rfl (by decide) rfl ?_
      refine mj_aload_n dX11_choicesOf_48 1 rfl ?_
      refine t_getR 319 dX11_choicesOf_49 F_X11_16 qr_316_2 ?_
      refine mj_iload dX11_choicesOf_52 4 rfl ?_
      refine t_iald dX11_choicesOf_54 qa_319 (t_ixv c1) ?_
      refine mj_istore (lv2 := [(5, .int (s.1 319 (l5.toNatClampNeg))), (3, .long (f_X11_plus l3 r3 s)), (0, .ref 316), (1, .int l1), (2, .int l2), (6, .int l6)]) dX11_choicesOf_55 (by decide) rfl ?_
      refine mj_iinc (k := 5) (v := (l6 + 1)) (lv2 := [(6, .int (l6 + 1)), (5, .int (s.1 319 (l5.toNatClampNeg))), (3, .long (f_X11_plus l3 r3 s)), (0, .ref 316), (1, .int l1), (2, .int l2)]) dX11_choicesOf_57 rfl rfl (by decide) rfl ?_
      refine mj_goto 13 dX11_choicesOf_60 (by decide) ?_
      refine mj_sublv [(0, .ref 316), (1, .int l1), (2, .int l2), (3, .long (f_X11_plus l3 r3 s)), (5, .int (s.1 319 (l5.toNatClampNeg))), (6, .int (l6 + 1))] [3, 4, 5, 2, 1, 0] rfl ?_
      exact t_somK hk (fun hf => Hb13 l1 l2 (f_X11_plus l3 r3 s) (s.1 319 (l5.toNatClampNeg)) (l6 + 1) hf)
noncomputable def b_X11_choicesOf_13 (s : t_S) (x : Int32 × Int32 × Int64 × Int32 × Int32) : Option ((Int32 × Int32 × Int64 × Int32 × Int32) ⊕ (Int64)) := k_X11_choicesOf_13 x.1 x.2.1 x.2.2.1 x.2.2.2.1 x.2.2.2.2 s
set_option maxRecDepth 4000 in
set_option maxHeartbeats 1000000 in
theorem LH_X11_choicesOf_13 {D : va_G} {cy : Nat → ClassId} {ad : Nat → Nat} {bs : Nat} {X : State → Heap → Prop} (s : t_S) : ∀ (n : Nat) (y0 : Int32) (y1 : Int32) (y2 : Int64) (y3 : Int32) (y4 : Int32) (Q : Int64 → Prop) (hk : t_hk (t_loop (b_X11_choicesOf_13 s) n (y0, y1, y2, y3, y4)) Q), mj_G D cy ad bs X cX11_choicesOf 7 yX11_choicesOf.cls (some .long) yX11_choicesOf.name 3 0 0 1065 (t_P (fun v s' => s' = s ∧ ∃ x, v = some (.long x) ∧ Q (x))) 13 [(0, .ref 316), (1, .int (y0)), (2, .int (y1)), (3, .long (y2)), (5, .int (y3)), (6, .int (y4))] [] (t_m s) 1065 0 0 := by
  intro n
  induction n with
  | zero => intro y0 y1 y2 y3 y4 Q hk; obtain ⟨r, hr, _⟩ := hk; cases hr
  | succ n ih =>
    intro y0 y1 y2 y3 y4 Q hk
    exact B_X11_choicesOf_13 y0 y1 y2 y3 y4 s (fun y => t_lq (b_X11_choicesOf_13 s) n Q y) (fun y0' y1' y2' y3' y4' hy => ih y0' y1' y2' y3' y4' Q hy) (t_lp hk)
noncomputable def f_X11_choicesOf (x1 : Int32) (x2 : Int32) (s : t_S) : Option (Int64) :=
 if t_ix x1 3001 = true then
  t_loop (b_X11_choicesOf_13 s) t_N (x1, x2, 0, (s.1 318 (x1.toNatClampNeg)), 0)
else none
set_option maxRecDepth 4000 in
set_option maxHeartbeats 1000000 in
theorem C_X11_choicesOf (x1 : Int32) (x2 : Int32) (s : t_S) (r : Int64) (hr : f_X11_choicesOf x1 x2 s = some r) : t_C yX11_choicesOf cX11_choicesOf 7 (some .long) 3 [.ref 316, .int x1, .int x2] s (fun v s' => v = some (.long r) ∧ s' = s) := by
  refine t_C.imp (P := fun v s' => s' = s ∧ ∃ x, v = some (.long x) ∧ (fun q => q = r) (x)) (t_C.of (by decide +kernel) (Nat.le_of_ble_eq_true rfl) ?_) (fun v s' hp => by obtain ⟨rfl, x, rfl, rfl⟩ := hp; exact ⟨rfl, rfl⟩)
  intro D cy ad bs X
  have hk : t_hk (f_X11_choicesOf x1 x2 s) (fun q => q = r) := ⟨r, hr, rfl⟩
  show mj_G D cy ad bs X cX11_choicesOf 7 yX11_choicesOf.cls (some .long) yX11_choicesOf.name 3 0 0 1065 (t_P (fun v s' => s' = s ∧ ∃ x, v = some (.long x) ∧ (fun q => q = r) (x))) 0 [(0, .ref 316), (1, .int x1), (2, .int x2)] [] (t_m s) 1065 0 0
  refine mj_lconst (v := 0) dX11_choicesOf_0 (by decide) ?_
  refine mj_lstore_n 3 (lv2 := [(3, .long 0), (0, .ref 316), (1, .int x1), (2, .int x2)]) dX11_choicesOf_1 rfl (by decide) rfl ?_
  refine mj_aload_n dX11_choicesOf_2 1 rfl ?_
  refine t_getR 318 dX11_choicesOf_3 F_X11_13 qr_316_1 ?_
  refine mj_iload_n dX11_choicesOf_6 2 rfl ?_
  refine t_chkK hk (fun c0 hk => ?_)
  refine t_iald dX11_choicesOf_7 qa_318 (t_ixv c0) ?_
  refine mj_istore (lv2 := [(5, .int (s.1 318 (x1.toNatClampNeg))), (3, .long 0), (0, .ref 316), (1, .int x1), (2, .int x2)]) dX11_choicesOf_8 (by decide) rfl ?_
  refine mj_iconst (v := 0) dX11_choicesOf_10 (by decide) ?_
  refine mj_istore (lv2 := [(6, .int 0), (5, .int (s.1 318 (x1.toNatClampNeg))), (3, .long 0), (0, .ref 316), (1, .int x1), (2, .int x2)]) dX11_choicesOf_11 (by decide) rfl ?_
  refine mj_sublv [(0, .ref 316), (1, .int x1), (2, .int x2), (3, .long 0), (5, .int (s.1 318 (x1.toNatClampNeg))), (6, .int 0)] [3, 4, 5, 2, 1, 0] rfl ?_
  exact LH_X11_choicesOf_13 _ _ x1 x2 0 (s.1 318 (x1.toNatClampNeg)) 0 _ hk

theorem dX11_clear_0 : decode cX11_clear 0 = .ok (.aload_n 0, 1) := by decide +kernel
theorem dX11_clear_1 : decode cX11_clear 1 = .ok (.iconst 0, 1) := by decide +kernel
theorem dX11_clear_10 : decode cX11_clear 10 = .ok (.aload_n 0, 1) := by decide +kernel
theorem dX11_clear_11 : decode cX11_clear 11 = .ok (.iconst 0, 1) := by decide +kernel
theorem dX11_clear_12 : decode cX11_clear 12 = .ok (.putfield 72, 3) := by decide +kernel
theorem dX11_clear_15 : decode cX11_clear 15 = .ok (.return_, 1) := by decide +kernel
theorem dX11_clear_2 : decode cX11_clear 2 = .ok (.putfield 65, 3) := by decide +kernel
theorem dX11_clear_5 : decode cX11_clear 5 = .ok (.aload_n 0, 1) := by decide +kernel
theorem dX11_clear_6 : decode cX11_clear 6 = .ok (.iconst 0, 1) := by decide +kernel
theorem dX11_clear_7 : decode cX11_clear 7 = .ok (.putfield 69, 3) := by decide +kernel
noncomputable def f_X11_clear (s : t_S) : Option (t_S) :=
 t_let (t_setI s 316 8 (0 : Int32)) (fun s1 =>
 t_let (t_setI s1 316 10 (0 : Int32)) (fun s2 =>
 t_let (t_setI s2 316 13 (0 : Int32)) (fun s3 =>
 some (s3))))
set_option maxRecDepth 4000 in
set_option maxHeartbeats 1000000 in
theorem C_X11_clear (s : t_S) (r : t_S) (hr : f_X11_clear s = some r) : t_C yX11_clear cX11_clear 1 none 0 [.ref 316] s (fun v s' => v = none ∧ s' = r) := by
  refine t_C.imp (P := fun v s' => v = none ∧ (fun q => q = r) (s')) (t_C.of (by decide +kernel) (Nat.le_of_ble_eq_true rfl) ?_) (fun v s' hp => hp)
  intro D cy ad bs X
  have hk : t_hk (f_X11_clear s) (fun q => q = r) := ⟨r, hr, rfl⟩
  show mj_G D cy ad bs X cX11_clear 1 yX11_clear.cls none yX11_clear.name 0 0 0 1065 (t_P (fun v s' => v = none ∧ (fun q => q = r) (s'))) 0 [(0, .ref 316)] [] (t_m s) 1065 0 0
  refine mj_aload_n dX11_clear_0 0 rfl ?_
  refine mj_iconst (v := 0) dX11_clear_1 (by decide) ?_
  refine t_putIK dX11_clear_2 F_X11_65 qf_316_8 rfl (fun s1 ws1 => t_letE hk ws1 (fun hk => ?_))
  refine mj_aload_n dX11_clear_5 0 rfl ?_
  refine mj_iconst (v := 0) dX11_clear_6 (by decide) ?_
  refine t_putIK dX11_clear_7 F_X11_69 qf_316_10 rfl (fun s2 ws2 => t_letE hk ws2 (fun hk => ?_))
  refine mj_aload_n dX11_clear_10 0 rfl ?_
  refine mj_iconst (v := 0) dX11_clear_11 (by decide) ?_
  refine t_putIK dX11_clear_12 F_X11_72 qf_316_13 rfl (fun s3 ws3 => t_letE hk ws3 (fun hk => ?_))
  exact t_somK hk (fun hf => t_vret dX11_clear_15 rfl ⟨rfl, hf⟩ (Nat.le_of_ble_eq_true rfl) (Nat.le_of_ble_eq_true rfl))

theorem dX11_fieldOf_0 : decode cX11_fieldOf 0 = .ok (.aload_n 0, 1) := by decide +kernel
theorem dX11_fieldOf_1 : decode cX11_fieldOf 1 = .ok (.getfield 13, 3) := by decide +kernel
theorem dX11_fieldOf_10 : decode cX11_fieldOf 10 = .ok (.iload 4, 2) := by decide +kernel
theorem dX11_fieldOf_12 : decode cX11_fieldOf 12 = .ok (.aload_n 0, 1) := by decide +kernel
theorem dX11_fieldOf_13 : decode cX11_fieldOf 13 = .ok (.getfield 22, 3) := by decide +kernel
theorem dX11_fieldOf_16 : decode cX11_fieldOf 16 = .ok (.iload_n 1, 1) := by decide +kernel
theorem dX11_fieldOf_17 : decode cX11_fieldOf 17 = .ok (.iaload, 1) := by decide +kernel
theorem dX11_fieldOf_18 : decode cX11_fieldOf 18 = .ok (.if_icmp .ge 32, 3) := by decide +kernel
theorem dX11_fieldOf_21 : decode cX11_fieldOf 21 = .ok (.iload_n 3, 1) := by decide +kernel
theorem dX11_fieldOf_22 : decode cX11_fieldOf 22 = .ok (.ifCond .lt 28, 3) := by decide +kernel
theorem dX11_fieldOf_25 : decode cX11_fieldOf 25 = .ok (.aload_n 0, 1) := by decide +kernel
theorem dX11_fieldOf_26 : decode cX11_fieldOf 26 = .ok (.getfield 19, 3) := by decide +kernel
theorem dX11_fieldOf_29 : decode cX11_fieldOf 29 = .ok (.iload_n 3, 1) := by decide +kernel
theorem dX11_fieldOf_30 : decode cX11_fieldOf 30 = .ok (.iaload, 1) := by decide +kernel
theorem dX11_fieldOf_31 : decode cX11_fieldOf 31 = .ok (.iload_n 2, 1) := by decide +kernel
theorem dX11_fieldOf_32 : decode cX11_fieldOf 32 = .ok (.if_icmp .ne 5, 3) := by decide +kernel
theorem dX11_fieldOf_35 : decode cX11_fieldOf 35 = .ok (.iload_n 3, 1) := by decide +kernel
theorem dX11_fieldOf_36 : decode cX11_fieldOf 36 = .ok (.ireturn, 1) := by decide +kernel
theorem dX11_fieldOf_37 : decode cX11_fieldOf 37 = .ok (.aload_n 0, 1) := by decide +kernel
theorem dX11_fieldOf_38 : decode cX11_fieldOf 38 = .ok (.getfield 16, 3) := by decide +kernel
theorem dX11_fieldOf_4 : decode cX11_fieldOf 4 = .ok (.iload_n 1, 1) := by decide +kernel
theorem dX11_fieldOf_41 : decode cX11_fieldOf 41 = .ok (.iload_n 3, 1) := by decide +kernel
theorem dX11_fieldOf_42 : decode cX11_fieldOf 42 = .ok (.iaload, 1) := by decide +kernel
theorem dX11_fieldOf_43 : decode cX11_fieldOf 43 = .ok (.istore_n 3, 1) := by decide +kernel
theorem dX11_fieldOf_44 : decode cX11_fieldOf 44 = .ok (.iinc 4 1, 3) := by decide +kernel
theorem dX11_fieldOf_47 : decode cX11_fieldOf 47 = .ok (.goto (-37), 3) := by decide +kernel
theorem dX11_fieldOf_5 : decode cX11_fieldOf 5 = .ok (.iaload, 1) := by decide +kernel
theorem dX11_fieldOf_50 : decode cX11_fieldOf 50 = .ok (.iconst (-1), 1) := by decide +kernel
theorem dX11_fieldOf_51 : decode cX11_fieldOf 51 = .ok (.ireturn, 1) := by decide +kernel
theorem dX11_fieldOf_6 : decode cX11_fieldOf 6 = .ok (.istore_n 3, 1) := by decide +kernel
theorem dX11_fieldOf_7 : decode cX11_fieldOf 7 = .ok (.iconst 0, 1) := by decide +kernel
theorem dX11_fieldOf_8 : decode cX11_fieldOf 8 = .ok (.istore 4, 2) := by decide +kernel
noncomputable def k_X11_fieldOf_10 (l1 : Int32) (l2 : Int32) (l3 : Int32) (l4 : Int32) (s : t_S) : Option ((Int32 × Int32 × Int32 × Int32) ⊕ (Int32)) :=
 if t_ix l1 3001 = true then
  if (s.1 321 (l1.toNatClampNeg)) ≤ l4 then ((some (-1 : Int32)).map Sum.inr)
 else (if l3 < (0 : Int32) then ((some (-1 : Int32)).map Sum.inr)
 else (if t_ix l3 3001 = true then
  if (s.1 320 (l3.toNatClampNeg)) = l2 then ((some (l3)).map Sum.inr)
 else (some (.inl (l1, l2, (s.1 319 (l3.toNatClampNeg)), (l4 + 1))))
else none))
else none
set_option maxRecDepth 4000 in
set_option maxHeartbeats 1000000 in
theorem B_X11_fieldOf_10 {D : va_G} {cy : Nat → ClassId} {ad : Nat → Nat} {bs : Nat} {X : State → Heap → Prop} (l1 : Int32) (l2 : Int32) (l3 : Int32) (l4 : Int32) (s : t_S) (Q : (Int32 × Int32 × Int32 × Int32) ⊕ (Int32) → Prop) (Hb10 : ∀ (y0 : Int32) (y1 : Int32) (y2 : Int32) (y3 : Int32), Q (.inl (y0, y1, y2, y3)) → mj_G D cy ad bs X cX11_fieldOf 5 yX11_fieldOf.cls (some .int) yX11_fieldOf.name 0 0 0 1065 (t_P (fun v s' => s' = s ∧ ∃ x, v = some (.int x) ∧ Q (.inr (x)))) 10 [(0, .ref 316), (1, .int (y0)), (2, .int (y1)), (3, .int (y2)), (4, .int (y3))] [] (t_m s) 1065 0 0) (hk : t_hk (k_X11_fieldOf_10 l1 l2 l3 l4 s) Q) : mj_G D cy ad bs X cX11_fieldOf 5 yX11_fieldOf.cls (some .int) yX11_fieldOf.name 0 0 0 1065 (t_P (fun v s' => s' = s ∧ ∃ x, v = some (.int x) ∧ Q (.inr (x)))) 10 [(0, .ref 316), (1, .int l1), (2, .int l2), (3, .int l3), (4, .int l4)] [] (t_m s) 1065 0 0 := by
  refine mj_iload dX11_fieldOf_10 4 rfl ?_
  refine mj_aload_n dX11_fieldOf_12 0 rfl ?_
  refine t_getR 321 dX11_fieldOf_13 F_X11_22 qr_316_4 ?_
  refine mj_iload_n dX11_fieldOf_16 1 rfl ?_
  refine t_chkK hk (fun c0 hk => ?_)
  refine t_iald dX11_fieldOf_17 qa_321 (t_ixv c0) ?_
  refine mj_icmp_ge 50 dX11_fieldOf_18 (by decide) (fun z => t_posK hk z (fun hk => ?_)) (fun z => t_negK hk z (fun hk => ?_))
  · refine t_mapK hk (fun hk => ?_)
    refine mj_iconst (v := (-1)) dX11_fieldOf_50 (by decide) ?_
    exact t_somK hk (fun hf => t_iret dX11_fieldOf_51 rfl rfl ⟨rfl, _, rfl, hf⟩ (Nat.le_of_ble_eq_true rfl) (Nat.le_of_ble_eq_true rfl))
  · refine mj_iload_n dX11_fieldOf_21 3 rfl ?_
    refine mj_if_lt 50 dX11_fieldOf_22 (by decide) (fun z => t_posK hk z (fun hk => ?_)) (fun z => t_negK hk z (fun hk => ?_))
    · refine t_mapK hk (fun hk => ?_)
      refine mj_iconst (v := (-1)) dX11_fieldOf_50 (by decide) ?_
      exact t_somK hk (fun hf => t_iret dX11_fieldOf_51 rfl rfl ⟨rfl, _, rfl, hf⟩ (Nat.le_of_ble_eq_true rfl) (Nat.le_of_ble_eq_true rfl))
    · refine mj_aload_n dX11_fieldOf_25 0 rfl ?_
      refine t_getR 320 dX11_fieldOf_26 F_X11_19 qr_316_3 ?_
      refine mj_iload_n dX11_fieldOf_29 3 rfl ?_
      refine t_chkK hk (fun c1 hk => ?_)
      refine t_iald dX11_fieldOf_30 qa_320 (t_ixv c1) ?_
      refine mj_iload_n dX11_fieldOf_31 2 rfl ?_
      refine mj_icmp_ne 37 dX11_fieldOf_32 (by decide) (fun z => t_negK hk z (fun hk => ?_)) (fun z => t_posK hk z (fun hk => ?_))
      · refine mj_aload_n dX11_fieldOf_37 0 rfl ?_
        refine t_getR 319 dX11_fieldOf_38 F_X11_16 qr_316_2 ?_
        refine mj_iload_n dX11_fieldOf_41 3 rfl ?_
        refine t_iald dX11_fieldOf_42 qa_319 (t_ixv c1) ?_
        refine mj_istore_n 3 (lv2 := [(3, .int (s.1 319 (l3.toNatClampNeg))), (0, .ref 316), (1, .int l1), (2, .int l2), (4, .int l4)]) dX11_fieldOf_43 rfl (by decide) rfl ?_
        refine mj_iinc (k := 4) (v := (l4 + 1)) (lv2 := [(4, .int (l4 + 1)), (3, .int (s.1 319 (l3.toNatClampNeg))), (0, .ref 316), (1, .int l1), (2, .int l2)]) dX11_fieldOf_44 rfl rfl (by decide) rfl ?_
        refine mj_goto 10 dX11_fieldOf_47 (by decide) ?_
        refine mj_sublv [(0, .ref 316), (1, .int l1), (2, .int l2), (3, .int (s.1 319 (l3.toNatClampNeg))), (4, .int (l4 + 1))] [2, 3, 4, 1, 0] rfl ?_
        exact t_somK hk (fun hf => Hb10 l1 l2 (s.1 319 (l3.toNatClampNeg)) (l4 + 1) hf)
      · refine t_mapK hk (fun hk => ?_)
        refine mj_iload_n dX11_fieldOf_35 3 rfl ?_
        exact t_somK hk (fun hf => t_iret dX11_fieldOf_36 rfl rfl ⟨rfl, _, rfl, hf⟩ (Nat.le_of_ble_eq_true rfl) (Nat.le_of_ble_eq_true rfl))
noncomputable def b_X11_fieldOf_10 (s : t_S) (x : Int32 × Int32 × Int32 × Int32) : Option ((Int32 × Int32 × Int32 × Int32) ⊕ (Int32)) := k_X11_fieldOf_10 x.1 x.2.1 x.2.2.1 x.2.2.2 s
set_option maxRecDepth 4000 in
set_option maxHeartbeats 1000000 in
theorem LH_X11_fieldOf_10 {D : va_G} {cy : Nat → ClassId} {ad : Nat → Nat} {bs : Nat} {X : State → Heap → Prop} (s : t_S) : ∀ (n : Nat) (y0 : Int32) (y1 : Int32) (y2 : Int32) (y3 : Int32) (Q : Int32 → Prop) (hk : t_hk (t_loop (b_X11_fieldOf_10 s) n (y0, y1, y2, y3)) Q), mj_G D cy ad bs X cX11_fieldOf 5 yX11_fieldOf.cls (some .int) yX11_fieldOf.name 0 0 0 1065 (t_P (fun v s' => s' = s ∧ ∃ x, v = some (.int x) ∧ Q (x))) 10 [(0, .ref 316), (1, .int (y0)), (2, .int (y1)), (3, .int (y2)), (4, .int (y3))] [] (t_m s) 1065 0 0 := by
  intro n
  induction n with
  | zero => intro y0 y1 y2 y3 Q hk; obtain ⟨r, hr, _⟩ := hk; cases hr
  | succ n ih =>
    intro y0 y1 y2 y3 Q hk
    exact B_X11_fieldOf_10 y0 y1 y2 y3 s (fun y => t_lq (b_X11_fieldOf_10 s) n Q y) (fun y0' y1' y2' y3' hy => ih y0' y1' y2' y3' Q hy) (t_lp hk)
noncomputable def f_X11_fieldOf (x1 : Int32) (x2 : Int32) (s : t_S) : Option (Int32) :=
 if t_ix x1 3001 = true then
  t_loop (b_X11_fieldOf_10 s) t_N (x1, x2, (s.1 318 (x1.toNatClampNeg)), 0)
else none
set_option maxRecDepth 4000 in
set_option maxHeartbeats 1000000 in
theorem C_X11_fieldOf (x1 : Int32) (x2 : Int32) (s : t_S) (r : Int32) (hr : f_X11_fieldOf x1 x2 s = some r) : t_C yX11_fieldOf cX11_fieldOf 5 (some .int) 0 [.ref 316, .int x1, .int x2] s (fun v s' => v = some (.int r) ∧ s' = s) := by
  refine t_C.imp (P := fun v s' => s' = s ∧ ∃ x, v = some (.int x) ∧ (fun q => q = r) (x)) (t_C.of (by decide +kernel) (Nat.le_of_ble_eq_true rfl) ?_) (fun v s' hp => by obtain ⟨rfl, x, rfl, rfl⟩ := hp; exact ⟨rfl, rfl⟩)
  intro D cy ad bs X
  have hk : t_hk (f_X11_fieldOf x1 x2 s) (fun q => q = r) := ⟨r, hr, rfl⟩
  show mj_G D cy ad bs X cX11_fieldOf 5 yX11_fieldOf.cls (some .int) yX11_fieldOf.name 0 0 0 1065 (t_P (fun v s' => s' = s ∧ ∃ x, v = some (.int x) ∧ (fun q => q = r) (x))) 0 [(0, .ref 316), (1, .int x1), (2, .int x2)] [] (t_m s) 1065 0 0
  refine mj_aload_n dX11_fieldOf_0 0 rfl ?_
  refine t_getR 318 dX11_fieldOf_1 F_X11_13 qr_316_1 ?_
  refine mj_iload_n dX11_fieldOf_4 1 rfl ?_
  refine t_chkK hk (fun c0 hk => ?_)
  refine t_iald dX11_fieldOf_5 qa_318 (t_ixv c0) ?_
  refine mj_istore_n 3 (lv2 := [(3, .int (s.1 318 (x1.toNatClampNeg))), (0, .ref 316), (1, .int x1), (2, .int x2)]) dX11_fieldOf_6 rfl (by decide) rfl ?_
  refine mj_iconst (v := 0) dX11_fieldOf_7 (by decide) ?_
  refine mj_istore (lv2 := [(4, .int 0), (3, .int (s.1 318 (x1.toNatClampNeg))), (0, .ref 316), (1, .int x1), (2, .int x2)]) dX11_fieldOf_8 (by decide) rfl ?_
  refine mj_sublv [(0, .ref 316), (1, .int x1), (2, .int x2), (3, .int (s.1 318 (x1.toNatClampNeg))), (4, .int 0)] [2, 3, 4, 1, 0] rfl ?_
  exact LH_X11_fieldOf_10 _ _ x1 x2 (s.1 318 (x1.toNatClampNeg)) 0 _ hk

theorem dX11_pairUp_0 : decode cX11_pairUp 0 = .ok (.iconst 2, 1) := by decide +kernel
theorem dX11_pairUp_1 : decode cX11_pairUp 1 = .ok (.iload_n 3, 1) := by decide +kernel
theorem dX11_pairUp_10 : decode cX11_pairUp 10 = .ok (.if_icmp .lt 5, 3) := by decide +kernel
theorem dX11_pairUp_13 : decode cX11_pairUp 13 = .ok (.iconst (-1), 1) := by decide +kernel
theorem dX11_pairUp_14 : decode cX11_pairUp 14 = .ok (.ireturn, 1) := by decide +kernel
theorem dX11_pairUp_15 : decode cX11_pairUp 15 = .ok (.aload_n 0, 1) := by decide +kernel
theorem dX11_pairUp_16 : decode cX11_pairUp 16 = .ok (.getfield 57, 3) := by decide +kernel
theorem dX11_pairUp_19 : decode cX11_pairUp 19 = .ok (.iconst 2, 1) := by decide +kernel
theorem dX11_pairUp_2 : decode cX11_pairUp 2 = .ok (.imul, 1) := by decide +kernel
theorem dX11_pairUp_20 : decode cX11_pairUp 20 = .ok (.iload_n 3, 1) := by decide +kernel
theorem dX11_pairUp_21 : decode cX11_pairUp 21 = .ok (.imul, 1) := by decide +kernel
theorem dX11_pairUp_22 : decode cX11_pairUp 22 = .ok (.iload_n 1, 1) := by decide +kernel
theorem dX11_pairUp_23 : decode cX11_pairUp 23 = .ok (.iastore, 1) := by decide +kernel
theorem dX11_pairUp_24 : decode cX11_pairUp 24 = .ok (.aload_n 0, 1) := by decide +kernel
theorem dX11_pairUp_25 : decode cX11_pairUp 25 = .ok (.getfield 57, 3) := by decide +kernel
theorem dX11_pairUp_28 : decode cX11_pairUp 28 = .ok (.iconst 2, 1) := by decide +kernel
theorem dX11_pairUp_29 : decode cX11_pairUp 29 = .ok (.iload_n 3, 1) := by decide +kernel
theorem dX11_pairUp_3 : decode cX11_pairUp 3 = .ok (.iconst 1, 1) := by decide +kernel
theorem dX11_pairUp_30 : decode cX11_pairUp 30 = .ok (.imul, 1) := by decide +kernel
theorem dX11_pairUp_31 : decode cX11_pairUp 31 = .ok (.iconst 1, 1) := by decide +kernel
theorem dX11_pairUp_32 : decode cX11_pairUp 32 = .ok (.iadd, 1) := by decide +kernel
theorem dX11_pairUp_33 : decode cX11_pairUp 33 = .ok (.iload_n 2, 1) := by decide +kernel
theorem dX11_pairUp_34 : decode cX11_pairUp 34 = .ok (.iastore, 1) := by decide +kernel
theorem dX11_pairUp_35 : decode cX11_pairUp 35 = .ok (.iload_n 3, 1) := by decide +kernel
theorem dX11_pairUp_36 : decode cX11_pairUp 36 = .ok (.iconst 1, 1) := by decide +kernel
theorem dX11_pairUp_37 : decode cX11_pairUp 37 = .ok (.iadd, 1) := by decide +kernel
theorem dX11_pairUp_38 : decode cX11_pairUp 38 = .ok (.ireturn, 1) := by decide +kernel
theorem dX11_pairUp_4 : decode cX11_pairUp 4 = .ok (.iadd, 1) := by decide +kernel
theorem dX11_pairUp_5 : decode cX11_pairUp 5 = .ok (.aload_n 0, 1) := by decide +kernel
theorem dX11_pairUp_6 : decode cX11_pairUp 6 = .ok (.getfield 57, 3) := by decide +kernel
theorem dX11_pairUp_9 : decode cX11_pairUp 9 = .ok (.arraylength, 1) := by decide +kernel
noncomputable def f_X11_pairUp (x1 : Int32) (x2 : Int32) (x3 : Int32) (s : t_S) : Option (Int32 × t_S) :=
 if (((2 : Int32) * x3) + (1 : Int32)) < (1000 : Int32) then (if t_ix ((2 : Int32) * x3) 1000 = true then
  t_let (t_setI s 332 (((2 : Int32) * x3).toNatClampNeg) x1) (fun s1 =>
 if t_ix (((2 : Int32) * x3) + (1 : Int32)) 1000 = true then
  t_let (t_setI s1 332 ((((2 : Int32) * x3) + (1 : Int32)).toNatClampNeg) x2) (fun s2 =>
 some ((x3 + (1 : Int32)), s2))
else none)
else none)
 else (some ((-1 : Int32), s))
set_option maxRecDepth 4000 in
set_option maxHeartbeats 1000000 in
theorem C_X11_pairUp (x1 : Int32) (x2 : Int32) (x3 : Int32) (s : t_S) (r : Int32 × t_S) (hr : f_X11_pairUp x1 x2 x3 s = some r) : t_C yX11_pairUp cX11_pairUp 4 (some .int) 0 [.ref 316, .int x1, .int x2, .int x3] s (fun v s' => v = some (.int r.1) ∧ s' = r.2) := by
  refine t_C.imp (P := fun v s' => ∃ x, v = some (.int x) ∧ (fun q => q = r) ((x, s'))) (t_C.of (by decide +kernel) (Nat.le_of_ble_eq_true rfl) ?_) (fun v s' hp => by obtain ⟨x, rfl, rfl⟩ := hp; exact ⟨rfl, rfl⟩)
  intro D cy ad bs X
  have hk : t_hk (f_X11_pairUp x1 x2 x3 s) (fun q => q = r) := ⟨r, hr, rfl⟩
  show mj_G D cy ad bs X cX11_pairUp 4 yX11_pairUp.cls (some .int) yX11_pairUp.name 0 0 0 1065 (t_P (fun v s' => ∃ x, v = some (.int x) ∧ (fun q => q = r) ((x, s')))) 0 [(0, .ref 316), (1, .int x1), (2, .int x2), (3, .int x3)] [] (t_m s) 1065 0 0
  refine mj_iconst (v := 2) dX11_pairUp_0 (by decide) ?_
  refine mj_iload_n dX11_pairUp_1 3 rfl ?_
  refine mj_imul dX11_pairUp_2 ?_
  refine mj_iconst (v := 1) dX11_pairUp_3 (by decide) ?_
  refine mj_iadd dX11_pairUp_4 ?_
  refine mj_aload_n dX11_pairUp_5 0 rfl ?_
  refine t_getR 332 dX11_pairUp_6 F_X11_57 qr_316_19 ?_
  refine t_alen1 (v := 1000) dX11_pairUp_9 qa_332 (by decide) ?_
  refine mj_icmp_lt 15 dX11_pairUp_10 (by decide) (fun z => t_posK hk z (fun hk => ?_)) (fun z => t_negK hk z (fun hk => ?_))
  · refine mj_aload_n dX11_pairUp_15 0 rfl ?_
    refine t_getR 332 dX11_pairUp_16 F_X11_57 qr_316_19 ?_
    refine mj_iconst (v := 2) dX11_pairUp_19 (by decide) ?_
    refine mj_iload_n dX11_pairUp_20 3 rfl ?_
    refine mj_imul dX11_pairUp_21 ?_
    refine mj_iload_n dX11_pairUp_22 1 rfl ?_
    refine t_chkK hk (fun c0 hk => ?_)
    refine t_iastK dX11_pairUp_23 qa_332 (t_ixv c0) (fun s1 ws1 => t_letE hk ws1 (fun hk => ?_))
    refine mj_aload_n dX11_pairUp_24 0 rfl ?_
    refine t_getR 332 dX11_pairUp_25 F_X11_57 qr_316_19 ?_
    refine mj_iconst (v := 2) dX11_pairUp_28 (by decide) ?_
    refine mj_iload_n dX11_pairUp_29 3 rfl ?_
    refine mj_imul dX11_pairUp_30 ?_
    refine mj_iconst (v := 1) dX11_pairUp_31 (by decide) ?_
    refine mj_iadd dX11_pairUp_32 ?_
    refine mj_iload_n dX11_pairUp_33 2 rfl ?_
    refine t_chkK hk (fun c1 hk => ?_)
    refine t_iastK dX11_pairUp_34 qa_332 (t_ixv c1) (fun s2 ws2 => t_letE hk ws2 (fun hk => ?_))
    refine mj_iload_n dX11_pairUp_35 3 rfl ?_
    refine mj_iconst (v := 1) dX11_pairUp_36 (by decide) ?_
    refine mj_iadd dX11_pairUp_37 ?_
    exact t_somK hk (fun hf => t_iret dX11_pairUp_38 rfl rfl ⟨_, rfl, hf⟩ (Nat.le_of_ble_eq_true rfl) (Nat.le_of_ble_eq_true rfl))
  · refine mj_iconst (v := (-1)) dX11_pairUp_13 (by decide) ?_
    exact t_somK hk (fun hf => t_iret dX11_pairUp_14 rfl rfl ⟨_, rfl, hf⟩ (Nat.le_of_ble_eq_true rfl) (Nat.le_of_ble_eq_true rfl))

theorem dX11_fieldsInside_0 : decode cX11_fieldsInside 0 = .ok (.iload_n 3, 1) := by decide +kernel
theorem dX11_fieldsInside_1 : decode cX11_fieldsInside 1 = .ok (.istore 4, 2) := by decide +kernel
theorem dX11_fieldsInside_101 : decode cX11_fieldsInside 101 = .ok (.iload 5, 2) := by decide +kernel
theorem dX11_fieldsInside_103 : decode cX11_fieldsInside 103 = .ok (.iaload, 1) := by decide +kernel
theorem dX11_fieldsInside_104 : decode cX11_fieldsInside 104 = .ok (.istore 5, 2) := by decide +kernel
theorem dX11_fieldsInside_106 : decode cX11_fieldsInside 106 = .ok (.iinc 6 1, 3) := by decide +kernel
theorem dX11_fieldsInside_109 : decode cX11_fieldsInside 109 = .ok (.goto (-95), 3) := by decide +kernel
theorem dX11_fieldsInside_11 : decode cX11_fieldsInside 11 = .ok (.iconst 0, 1) := by decide +kernel
theorem dX11_fieldsInside_112 : decode cX11_fieldsInside 112 = .ok (.iload 4, 2) := by decide +kernel
theorem dX11_fieldsInside_114 : decode cX11_fieldsInside 114 = .ok (.ireturn, 1) := by decide +kernel
theorem dX11_fieldsInside_12 : decode cX11_fieldsInside 12 = .ok (.istore 6, 2) := by decide +kernel
theorem dX11_fieldsInside_14 : decode cX11_fieldsInside 14 = .ok (.iload 6, 2) := by decide +kernel
theorem dX11_fieldsInside_16 : decode cX11_fieldsInside 16 = .ok (.aload_n 0, 1) := by decide +kernel
theorem dX11_fieldsInside_17 : decode cX11_fieldsInside 17 = .ok (.getfield 22, 3) := by decide +kernel
theorem dX11_fieldsInside_20 : decode cX11_fieldsInside 20 = .ok (.iload_n 1, 1) := by decide +kernel
theorem dX11_fieldsInside_21 : decode cX11_fieldsInside 21 = .ok (.iaload, 1) := by decide +kernel
theorem dX11_fieldsInside_22 : decode cX11_fieldsInside 22 = .ok (.if_icmp .ge 90, 3) := by decide +kernel
theorem dX11_fieldsInside_25 : decode cX11_fieldsInside 25 = .ok (.iload 5, 2) := by decide +kernel
theorem dX11_fieldsInside_27 : decode cX11_fieldsInside 27 = .ok (.ifCond .lt 85, 3) := by decide +kernel
theorem dX11_fieldsInside_3 : decode cX11_fieldsInside 3 = .ok (.aload_n 0, 1) := by decide +kernel
theorem dX11_fieldsInside_30 : decode cX11_fieldsInside 30 = .ok (.iload 4, 2) := by decide +kernel
theorem dX11_fieldsInside_32 : decode cX11_fieldsInside 32 = .ok (.ifCond .lt 80, 3) := by decide +kernel
theorem dX11_fieldsInside_35 : decode cX11_fieldsInside 35 = .ok (.aload_n 0, 1) := by decide +kernel
theorem dX11_fieldsInside_36 : decode cX11_fieldsInside 36 = .ok (.getfield 32, 3) := by decide +kernel
theorem dX11_fieldsInside_39 : decode cX11_fieldsInside 39 = .ok (.aload_n 0, 1) := by decide +kernel
theorem dX11_fieldsInside_4 : decode cX11_fieldsInside 4 = .ok (.getfield 13, 3) := by decide +kernel
theorem dX11_fieldsInside_40 : decode cX11_fieldsInside 40 = .ok (.getfield 13, 3) := by decide +kernel
theorem dX11_fieldsInside_43 : decode cX11_fieldsInside 43 = .ok (.iload 5, 2) := by decide +kernel
theorem dX11_fieldsInside_45 : decode cX11_fieldsInside 45 = .ok (.iaload, 1) := by decide +kernel
theorem dX11_fieldsInside_46 : decode cX11_fieldsInside 46 = .ok (.iaload, 1) := by decide +kernel
theorem dX11_fieldsInside_47 : decode cX11_fieldsInside 47 = .ok (.ldc 82, 2) := by decide +kernel
theorem dX11_fieldsInside_49 : decode cX11_fieldsInside 49 = .ok (.if_icmp .ge 48, 3) := by decide +kernel
theorem dX11_fieldsInside_52 : decode cX11_fieldsInside 52 = .ok (.aload_n 0, 1) := by decide +kernel
theorem dX11_fieldsInside_53 : decode cX11_fieldsInside 53 = .ok (.iload_n 2, 1) := by decide +kernel
theorem dX11_fieldsInside_54 : decode cX11_fieldsInside 54 = .ok (.aload_n 0, 1) := by decide +kernel
theorem dX11_fieldsInside_55 : decode cX11_fieldsInside 55 = .ok (.getfield 19, 3) := by decide +kernel
theorem dX11_fieldsInside_58 : decode cX11_fieldsInside 58 = .ok (.iload 5, 2) := by decide +kernel
theorem dX11_fieldsInside_60 : decode cX11_fieldsInside 60 = .ok (.iaload, 1) := by decide +kernel
theorem dX11_fieldsInside_61 : decode cX11_fieldsInside 61 = .ok (.invokevirtual 139, 3) := by decide +kernel
theorem dX11_fieldsInside_64 : decode cX11_fieldsInside 64 = .ok (.istore 7, 2) := by decide +kernel
theorem dX11_fieldsInside_66 : decode cX11_fieldsInside 66 = .ok (.iload 7, 2) := by decide +kernel
theorem dX11_fieldsInside_68 : decode cX11_fieldsInside 68 = .ok (.ifCond .ge 7, 3) := by decide +kernel
theorem dX11_fieldsInside_7 : decode cX11_fieldsInside 7 = .ok (.iload_n 1, 1) := by decide +kernel
theorem dX11_fieldsInside_71 : decode cX11_fieldsInside 71 = .ok (.iconst (-1), 1) := by decide +kernel
theorem dX11_fieldsInside_72 : decode cX11_fieldsInside 72 = .ok (.goto 23, 3) := by decide +kernel
theorem dX11_fieldsInside_75 : decode cX11_fieldsInside 75 = .ok (.aload_n 0, 1) := by decide +kernel
theorem dX11_fieldsInside_76 : decode cX11_fieldsInside 76 = .ok (.aload_n 0, 1) := by decide +kernel
theorem dX11_fieldsInside_77 : decode cX11_fieldsInside 77 = .ok (.getfield 13, 3) := by decide +kernel
theorem dX11_fieldsInside_8 : decode cX11_fieldsInside 8 = .ok (.iaload, 1) := by decide +kernel
theorem dX11_fieldsInside_80 : decode cX11_fieldsInside 80 = .ok (.iload 5, 2) := by decide +kernel
theorem dX11_fieldsInside_82 : decode cX11_fieldsInside 82 = .ok (.iaload, 1) := by decide +kernel
theorem dX11_fieldsInside_83 : decode cX11_fieldsInside 83 = .ok (.aload_n 0, 1) := by decide +kernel
theorem dX11_fieldsInside_84 : decode cX11_fieldsInside 84 = .ok (.getfield 13, 3) := by decide +kernel
theorem dX11_fieldsInside_87 : decode cX11_fieldsInside 87 = .ok (.iload 7, 2) := by decide +kernel
theorem dX11_fieldsInside_89 : decode cX11_fieldsInside 89 = .ok (.iaload, 1) := by decide +kernel
theorem dX11_fieldsInside_9 : decode cX11_fieldsInside 9 = .ok (.istore 5, 2) := by decide +kernel
theorem dX11_fieldsInside_90 : decode cX11_fieldsInside 90 = .ok (.iload 4, 2) := by decide +kernel
theorem dX11_fieldsInside_92 : decode cX11_fieldsInside 92 = .ok (.invokevirtual 171, 3) := by decide +kernel
theorem dX11_fieldsInside_95 : decode cX11_fieldsInside 95 = .ok (.istore 4, 2) := by decide +kernel
theorem dX11_fieldsInside_97 : decode cX11_fieldsInside 97 = .ok (.aload_n 0, 1) := by decide +kernel
theorem dX11_fieldsInside_98 : decode cX11_fieldsInside 98 = .ok (.getfield 16, 3) := by decide +kernel
noncomputable def k_X11_fieldsInside_97 (l1 : Int32) (l2 : Int32) (l4 : Int32) (l5 : Int32) (l6 : Int32) (s : t_S) : Option ((Int32 × Int32 × Int32 × Int32 × Int32 × t_S) ⊕ (Int32 × t_S)) :=
 if t_ix l5 3001 = true then
  some (.inl (l1, l2, l4, (s.1 319 (l5.toNatClampNeg)), (l6 + 1), s))
else none
set_option maxRecDepth 4000 in
set_option maxHeartbeats 1000000 in
theorem B_X11_fieldsInside_97 {D : va_G} {cy : Nat → ClassId} {ad : Nat → Nat} {bs : Nat} {X : State → Heap → Prop} (l1 : Int32) (l2 : Int32) (l4 : Int32) (l5 : Int32) (l6 : Int32) (s : t_S) (Q : (Int32 × Int32 × Int32 × Int32 × Int32 × t_S) ⊕ (Int32 × t_S) → Prop) (Hb14 : ∀ (y0 : Int32) (y1 : Int32) (y2 : Int32) (y3 : Int32) (y4 : Int32) (y5 : t_S), Q (.inl (y0, y1, y2, y3, y4, y5)) → mj_G D cy ad bs X cX11_fieldsInside 8 yX11_fieldsInside.cls (some .int) yX11_fieldsInside.name 1 0 0 1065 (t_P (fun v s' => ∃ x, v = some (.int x) ∧ Q (.inr ((x, s'))))) 14 [(0, .ref 316), (1, .int (y0)), (2, .int (y1)), (4, .int (y2)), (5, .int (y3)), (6, .int (y4))] [] (t_m y5) 1065 0 0) (hk : t_hk (k_X11_fieldsInside_97 l1 l2 l4 l5 l6 s) Q) : mj_G D cy ad bs X cX11_fieldsInside 8 yX11_fieldsInside.cls (some .int) yX11_fieldsInside.name 1 0 0 1065 (t_P (fun v s' => ∃ x, v = some (.int x) ∧ Q (.inr ((x, s'))))) 97 [(0, .ref 316), (1, .int l1), (2, .int l2), (4, .int l4), (5, .int l5), (6, .int l6)] [] (t_m s) 1065 0 0 := by
  refine mj_aload_n dX11_fieldsInside_97 0 rfl ?_
  refine t_getR 319 dX11_fieldsInside_98 F_X11_16 qr_316_2 ?_
  refine mj_iload dX11_fieldsInside_101 4 rfl ?_
  refine t_chkK hk (fun c0 hk => ?_)
  refine t_iald dX11_fieldsInside_103 qa_319 (t_ixv c0) ?_
  refine mj_istore (lv2 := [(5, .int (s.1 319 (l5.toNatClampNeg))), (0, .ref 316), (1, .int l1), (2, .int l2), (4, .int l4), (6, .int l6)]) dX11_fieldsInside_104 (by decide) rfl ?_
  refine mj_iinc (k := 5) (v := (l6 + 1)) (lv2 := [(6, .int (l6 + 1)), (5, .int (s.1 319 (l5.toNatClampNeg))), (0, .ref 316), (1, .int l1), (2, .int l2), (4, .int l4)]) dX11_fieldsInside_106 rfl rfl (by decide) rfl ?_
  refine mj_goto 14 dX11_fieldsInside_109 (by decide) ?_
  refine mj_sublv [(0, .ref 316), (1, .int l1), (2, .int l2), (4, .int l4), (5, .int (s.1 319 (l5.toNatClampNeg))), (6, .int (l6 + 1))] [2, 3, 4, 5, 1, 0] rfl ?_
  exact t_somK hk (fun hf => Hb14 l1 l2 l4 (s.1 319 (l5.toNatClampNeg)) (l6 + 1) s hf)
noncomputable def k_X11_fieldsInside_95 (l1 : Int32) (l2 : Int32) (l5 : Int32) (l6 : Int32) (k0 : Int32) (s : t_S) : Option ((Int32 × Int32 × Int32 × Int32 × Int32 × t_S) ⊕ (Int32 × t_S)) :=
 k_X11_fieldsInside_97 l1 l2 k0 l5 l6 s
set_option maxRecDepth 4000 in
set_option maxHeartbeats 1000000 in
theorem B_X11_fieldsInside_95 {D : va_G} {cy : Nat → ClassId} {ad : Nat → Nat} {bs : Nat} {X : State → Heap → Prop} (l1 : Int32) (l2 : Int32) (l5 : Int32) (l6 : Int32) (k0 : Int32) (s : t_S) (Q : (Int32 × Int32 × Int32 × Int32 × Int32 × t_S) ⊕ (Int32 × t_S) → Prop) (Hb14 : ∀ (y0 : Int32) (y1 : Int32) (y2 : Int32) (y3 : Int32) (y4 : Int32) (y5 : t_S), Q (.inl (y0, y1, y2, y3, y4, y5)) → mj_G D cy ad bs X cX11_fieldsInside 8 yX11_fieldsInside.cls (some .int) yX11_fieldsInside.name 1 0 0 1065 (t_P (fun v s' => ∃ x, v = some (.int x) ∧ Q (.inr ((x, s'))))) 14 [(0, .ref 316), (1, .int (y0)), (2, .int (y1)), (4, .int (y2)), (5, .int (y3)), (6, .int (y4))] [] (t_m y5) 1065 0 0) (hk : t_hk (k_X11_fieldsInside_95 l1 l2 l5 l6 k0 s) Q) : mj_G D cy ad bs X cX11_fieldsInside 8 yX11_fieldsInside.cls (some .int) yX11_fieldsInside.name 1 0 0 1065 (t_P (fun v s' => ∃ x, v = some (.int x) ∧ Q (.inr ((x, s'))))) 95 [(0, .ref 316), (1, .int l1), (2, .int l2), (5, .int l5), (6, .int l6)] [.int k0] (t_m s) 1065 0 0 := by
  refine mj_istore (lv2 := [(4, .int k0), (0, .ref 316), (1, .int l1), (2, .int l2), (5, .int l5), (6, .int l6)]) dX11_fieldsInside_95 (by decide) rfl ?_
  refine mj_sublv [(0, .ref 316), (1, .int l1), (2, .int l2), (4, .int k0), (5, .int l5), (6, .int l6)] [1, 2, 3, 0, 4, 5] rfl ?_
  exact B_X11_fieldsInside_97 _ _ _ _ _ _ _ (fun y0 y1 y2 y3 y4 y5 hx => Hb14 y0 y1 y2 y3 y4 y5 hx) hk
noncomputable def k_X11_fieldsInside_14 (l1 : Int32) (l2 : Int32) (l4 : Int32) (l5 : Int32) (l6 : Int32) (s : t_S) : Option ((Int32 × Int32 × Int32 × Int32 × Int32 × t_S) ⊕ (Int32 × t_S)) :=
 if t_ix l1 3001 = true then
  if (s.1 321 (l1.toNatClampNeg)) ≤ l6 then ((some (l4, s)).map Sum.inr)
 else (if l5 < (0 : Int32) then ((some (l4, s)).map Sum.inr)
 else (if l4 < (0 : Int32) then ((some (l4, s)).map Sum.inr)
 else (if t_ix l5 3001 = true then
  if t_ix (s.1 318 (l5.toNatClampNeg)) 3001 = true then
  if (2000000 : Int32) ≤ (s.1 324 ((s.1 318 (l5.toNatClampNeg)).toNatClampNeg)) then (k_X11_fieldsInside_97 l1 l2 l4 l5 l6 s)
 else ((f_X11_fieldOf l2 (s.1 320 (l5.toNatClampNeg)) s).bind (fun r4 =>
 if (0 : Int32) ≤ r4 then (if t_ix r4 3001 = true then
  (f_X11_pairUp (s.1 318 (l5.toNatClampNeg)) (s.1 318 (r4.toNatClampNeg)) l4 s).bind (fun r6 =>
 k_X11_fieldsInside_95 l1 l2 l5 l6 r6.1 r6.2)
else none)
 else (k_X11_fieldsInside_95 l1 l2 l5 l6 (-1) s)))
else none
else none)))
else none
set_option maxRecDepth 4000 in
set_option maxHeartbeats 1000000 in
theorem B_X11_fieldsInside_14 {D : va_G} {cy : Nat → ClassId} {ad : Nat → Nat} {bs : Nat} {X : State → Heap → Prop} (l1 : Int32) (l2 : Int32) (l4 : Int32) (l5 : Int32) (l6 : Int32) (s : t_S) (Q : (Int32 × Int32 × Int32 × Int32 × Int32 × t_S) ⊕ (Int32 × t_S) → Prop) (Hb14 : ∀ (y0 : Int32) (y1 : Int32) (y2 : Int32) (y3 : Int32) (y4 : Int32) (y5 : t_S), Q (.inl (y0, y1, y2, y3, y4, y5)) → mj_G D cy ad bs X cX11_fieldsInside 8 yX11_fieldsInside.cls (some .int) yX11_fieldsInside.name 1 0 0 1065 (t_P (fun v s' => ∃ x, v = some (.int x) ∧ Q (.inr ((x, s'))))) 14 [(0, .ref 316), (1, .int (y0)), (2, .int (y1)), (4, .int (y2)), (5, .int (y3)), (6, .int (y4))] [] (t_m y5) 1065 0 0) (hk : t_hk (k_X11_fieldsInside_14 l1 l2 l4 l5 l6 s) Q) : mj_G D cy ad bs X cX11_fieldsInside 8 yX11_fieldsInside.cls (some .int) yX11_fieldsInside.name 1 0 0 1065 (t_P (fun v s' => ∃ x, v = some (.int x) ∧ Q (.inr ((x, s'))))) 14 [(0, .ref 316), (1, .int l1), (2, .int l2), (4, .int l4), (5, .int l5), (6, .int l6)] [] (t_m s) 1065 0 0 := by
  refine mj_iload dX11_fieldsInside_14 5 rfl ?_
  refine mj_aload_n dX11_fieldsInside_16 0 rfl ?_
  refine t_getR 321 dX11_fieldsInside_17 F_X11_22 qr_316_4 ?_
  refine mj_iload_n dX11_fieldsInside_20 1 rfl ?_
  refine t_chkK hk (fun c0 hk => ?_)
  refine t_iald dX11_fieldsInside_21 qa_321 (t_ixv c0) ?_
  refine mj_icmp_ge 112 dX11_fieldsInside_22 (by decide) (fun z => t_posK hk z (fun hk => ?_)) (fun z => t_negK hk z (fun hk => ?_))
  · refine t_mapK hk (fun hk => ?_)
    refine mj_iload dX11_fieldsInside_112 3 rfl ?_
    exact t_somK hk (fun hf => t_iret dX11_fieldsInside_114 rfl rfl ⟨_, rfl, hf⟩ (Nat.le_of_ble_eq_true rfl) (Nat.le_of_ble_eq_true rfl))
  · refine mj_iload dX11_fieldsInside_25 4 rfl ?_
    refine mj_if_lt 112 dX11_fieldsInside_27 (by decide) (fun z => t_posK hk z (fun hk => ?_)) (fun z => t_negK hk z (fun hk => ?_))
    · refine t_mapK hk (fun hk => ?_)
      refine mj_iload dX11_fieldsInside_112 3 rfl ?_
      exact t_somK hk (fun hf => t_iret dX11_fieldsInside_114 rfl rfl ⟨_, rfl, hf⟩ (Nat.le_of_ble_eq_true rfl) (Nat.le_of_ble_eq_true rfl))
    · refine mj_iload dX11_fieldsInside_30 3 rfl ?_
      refine mj_if_lt 112 dX11_fieldsInside_32 (by decide) (fun z => t_posK hk z (fun hk => ?_)) (fun z => t_negK hk z (fun hk => ?_))
      · refine t_mapK hk (fun hk => ?_)
        refine mj_iload dX11_fieldsInside_112 3 rfl ?_
        exact t_somK hk (fun hf => t_iret dX11_fieldsInside_114 rfl rfl ⟨_, rfl, hf⟩ (Nat.le_of_ble_eq_true rfl) (Nat.le_of_ble_eq_true rfl))
      · refine mj_aload_n dX11_fieldsInside_35 0 rfl ?_
        refine t_getR 324 dX11_fieldsInside_36 F_X11_32 qr_316_7 ?_
        refine mj_aload_n dX11_fieldsInside_39 0 rfl ?_
        refine t_getR 318 dX11_fieldsInside_40 F_X11_13 qr_316_1 ?_
        refine mj_iload dX11_fieldsInside_43 4 rfl ?_
        refine t_chkK hk (fun c1 hk => ?_)
        refine t_iald dX11_fieldsInside_45 qa_318 (t_ixv c1) ?_
        refine t_chkK hk (fun c2 hk => ?_)
        refine t_iald dX11_fieldsInside_46 qa_324 (t_ixv c2) ?_
        refine mj_ldc dX11_fieldsInside_47 K_X11_82 ?_
        refine mj_icmp_ge 97 dX11_fieldsInside_49 (by decide) (fun z => t_posK hk z (fun hk => ?_)) (fun z => t_negK hk z (fun hk => ?_))
        · exact B_X11_fieldsInside_97 _ _ _ _ _ _ _ (fun y0 y1 y2 y3 y4 y5 hx => Hb14 y0 y1 y2 y3 y4 y5 hx) hk
        · refine mj_aload_n dX11_fieldsInside_52 0 rfl ?_
          refine mj_iload_n dX11_fieldsInside_53 2 rfl ?_
          refine mj_aload_n dX11_fieldsInside_54 0 rfl ?_
          refine t_getR 320 dX11_fieldsInside_55 F_X11_19 qr_316_3 ?_
          refine mj_iload dX11_fieldsInside_58 4 rfl ?_
          refine t_iald dX11_fieldsInside_60 qa_320 (t_ixv c1) ?_
          refine t_bndK hk (fun r4 er4 hk => ?_)
          refine t_callViP dX11_fieldsInside_61 M_X11_fieldOf (C_X11_fieldOf _ _ _ _ er4) ML_X11_139 IM_X11_fieldOf SE_X11_fieldOf qc_316 rfl (As := [.int l2, .int (s.1 320 (l5.toNatClampNeg))]) rfl rfl (Nat.le_of_ble_eq_true rfl) (Nat.le_of_ble_eq_true rfl) (Nat.le_of_ble_eq_true rfl) (Nat.le_of_ble_eq_true rfl) ?_
          refine mj_istore (lv2 := [(7, .int r4), (0, .ref 316), (1, .int l1), (2, .int l2), (4, .int l4), (5, .int l5), (6, .int l6)]) dX11_fieldsInside_64 (by decide) rfl ?_
          refine mj_iload dX11_fieldsInside_66 0 rfl ?_
          refine mj_if_ge 75 dX11_fieldsInside_68 (by decide) (fun z => t_posK hk z (fun hk => ?_)) (fun z => t_negK hk z (fun hk => ?_))
          · refine mj_aload_n dX11_fieldsInside_75 1 rfl ?_
            refine mj_aload_n dX11_fieldsInside_76 1 rfl ?_
            refine t_getR 318 dX11_fieldsInside_77 F_X11_13 qr_316_1 ?_
            refine mj_iload dX11_fieldsInside_80 5 rfl ?_
            refine t_iald dX11_fieldsInside_82 qa_318 (t_ixv c1) ?_
            refine mj_aload_n dX11_fieldsInside_83 1 rfl ?_
            refine t_getR 318 dX11_fieldsInside_84 F_X11_13 qr_316_1 ?_
            refine mj_iload dX11_fieldsInside_87 0 rfl ?_
            refine t_chkK hk (fun c4 hk => ?_)
            refine t_iald dX11_fieldsInside_89 qa_318 (t_ixv c4) ?_
            refine mj_iload dX11_fieldsInside_90 4 rfl ?_
            refine t_bndK hk (fun r6 er6 hk => ?_)
            refine t_callViE dX11_fieldsInside_92 M_X11_pairUp (C_X11_pairUp _ _ _ _ _ er6) ML_X11_171 IM_X11_pairUp SE_X11_pairUp qc_316 rfl (As := [.int (s.1 318 (l5.toNatClampNeg)), .int (s.1 318 (r4.toNatClampNeg)), .int l4]) rfl rfl (Nat.le_of_ble_eq_true rfl) (Nat.le_of_ble_eq_true rfl) (Nat.le_of_ble_eq_true rfl) (Nat.le_of_ble_eq_true rfl) ?_
            refine mj_sublv [(0, .ref 316), (1, .int l1), (2, .int l2), (5, .int l5), (6, .int l6)] [1, 2, 3, 5, 6] rfl ?_
            exact B_X11_fieldsInside_95 _ _ _ _ _ _ _ (fun y0 y1 y2 y3 y4 y5 hx => Hb14 y0 y1 y2 y3 y4 y5 hx) hk
          · refine mj_iconst (v := (-1)) dX11_fieldsInside_71 (by decide) ?_
            refine mj_goto 95 dX11_fieldsInside_72 (by decide) ?_
            refine mj_sublv [(0, .ref 316), (1, .int l1), (2, .int l2), (5, .int l5), (6, .int l6)] [1, 2, 3, 5, 6] rfl ?_
            exact B_X11_fieldsInside_95 _ _ _ _ _ _ _ (fun y0 y1 y2 y3 y4 y5 hx => Hb14 y0 y1 y2 y3 y4 y5 hx) hk
noncomputable def b_X11_fieldsInside_14 (x : Int32 × Int32 × Int32 × Int32 × Int32 × t_S) : Option ((Int32 × Int32 × Int32 × Int32 × Int32 × t_S) ⊕ (Int32 × t_S)) := k_X11_fieldsInside_14 x.1 x.2.1 x.2.2.1 x.2.2.2.1 x.2.2.2.2.1 x.2.2.2.2.2
set_option maxRecDepth 4000 in
set_option maxHeartbeats 1000000 in
theorem LH_X11_fieldsInside_14 {D : va_G} {cy : Nat → ClassId} {ad : Nat → Nat} {bs : Nat} {X : State → Heap → Prop} : ∀ (n : Nat) (y0 : Int32) (y1 : Int32) (y2 : Int32) (y3 : Int32) (y4 : Int32) (y5 : t_S) (Q : Int32 × t_S → Prop) (hk : t_hk (t_loop (b_X11_fieldsInside_14) n (y0, y1, y2, y3, y4, y5)) Q), mj_G D cy ad bs X cX11_fieldsInside 8 yX11_fieldsInside.cls (some .int) yX11_fieldsInside.name 1 0 0 1065 (t_P (fun v s' => ∃ x, v = some (.int x) ∧ Q ((x, s')))) 14 [(0, .ref 316), (1, .int (y0)), (2, .int (y1)), (4, .int (y2)), (5, .int (y3)), (6, .int (y4))] [] (t_m y5) 1065 0 0 := by
  intro n
  induction n with
  | zero => intro y0 y1 y2 y3 y4 y5 Q hk; obtain ⟨r, hr, _⟩ := hk; cases hr
  | succ n ih =>
    intro y0 y1 y2 y3 y4 y5 Q hk
    exact B_X11_fieldsInside_14 y0 y1 y2 y3 y4 y5 (fun y => t_lq (b_X11_fieldsInside_14) n Q y) (fun y0' y1' y2' y3' y4' y5' hy => ih y0' y1' y2' y3' y4' y5' Q hy) (t_lp hk)
noncomputable def f_X11_fieldsInside (x1 : Int32) (x2 : Int32) (x3 : Int32) (s : t_S) : Option (Int32 × t_S) :=
 if t_ix x1 3001 = true then
  t_loop (b_X11_fieldsInside_14) t_N (x1, x2, x3, (s.1 318 (x1.toNatClampNeg)), 0, s)
else none
set_option maxRecDepth 4000 in
set_option maxHeartbeats 1000000 in
theorem C_X11_fieldsInside (x1 : Int32) (x2 : Int32) (x3 : Int32) (s : t_S) (r : Int32 × t_S) (hr : f_X11_fieldsInside x1 x2 x3 s = some r) : t_C yX11_fieldsInside cX11_fieldsInside 8 (some .int) 1 [.ref 316, .int x1, .int x2, .int x3] s (fun v s' => v = some (.int r.1) ∧ s' = r.2) := by
  refine t_C.imp (P := fun v s' => ∃ x, v = some (.int x) ∧ (fun q => q = r) ((x, s'))) (t_C.of (by decide +kernel) (Nat.le_of_ble_eq_true rfl) ?_) (fun v s' hp => by obtain ⟨x, rfl, rfl⟩ := hp; exact ⟨rfl, rfl⟩)
  intro D cy ad bs X
  have hk : t_hk (f_X11_fieldsInside x1 x2 x3 s) (fun q => q = r) := ⟨r, hr, rfl⟩
  show mj_G D cy ad bs X cX11_fieldsInside 8 yX11_fieldsInside.cls (some .int) yX11_fieldsInside.name 1 0 0 1065 (t_P (fun v s' => ∃ x, v = some (.int x) ∧ (fun q => q = r) ((x, s')))) 0 [(0, .ref 316), (1, .int x1), (2, .int x2), (3, .int x3)] [] (t_m s) 1065 0 0
  refine mj_iload_n dX11_fieldsInside_0 3 rfl ?_
  refine mj_istore (lv2 := [(4, .int x3), (0, .ref 316), (1, .int x1), (2, .int x2), (3, .int x3)]) dX11_fieldsInside_1 (by decide) rfl ?_
  refine mj_aload_n dX11_fieldsInside_3 1 rfl ?_
  refine t_getR 318 dX11_fieldsInside_4 F_X11_13 qr_316_1 ?_
  refine mj_iload_n dX11_fieldsInside_7 2 rfl ?_
  refine t_chkK hk (fun c0 hk => ?_)
  refine t_iald dX11_fieldsInside_8 qa_318 (t_ixv c0) ?_
  refine mj_istore (lv2 := [(5, .int (s.1 318 (x1.toNatClampNeg))), (4, .int x3), (0, .ref 316), (1, .int x1), (2, .int x2), (3, .int x3)]) dX11_fieldsInside_9 (by decide) rfl ?_
  refine mj_iconst (v := 0) dX11_fieldsInside_11 (by decide) ?_
  refine mj_istore (lv2 := [(6, .int 0), (5, .int (s.1 318 (x1.toNatClampNeg))), (4, .int x3), (0, .ref 316), (1, .int x1), (2, .int x2), (3, .int x3)]) dX11_fieldsInside_12 (by decide) rfl ?_
  refine mj_sublv [(0, .ref 316), (1, .int x1), (2, .int x2), (4, .int x3), (5, .int (s.1 318 (x1.toNatClampNeg))), (6, .int 0)] [3, 4, 5, 2, 1, 0] rfl ?_
  exact LH_X11_fieldsInside_14 _ x1 x2 x3 (s.1 318 (x1.toNatClampNeg)) 0 s _ hk

theorem dX11_holdsList_0 : decode cX11_holdsList 0 = .ok (.aload_n 1, 1) := by decide +kernel
theorem dX11_holdsList_1 : decode cX11_holdsList 1 = .ok (.iload_n 2, 1) := by decide +kernel
theorem dX11_holdsList_10 : decode cX11_holdsList 10 = .ok (.iload 5, 2) := by decide +kernel
theorem dX11_holdsList_12 : decode cX11_holdsList 12 = .ok (.i2l, 1) := by decide +kernel
theorem dX11_holdsList_13 : decode cX11_holdsList 13 = .ok (.aload_n 0, 1) := by decide +kernel
theorem dX11_holdsList_14 : decode cX11_holdsList 14 = .ok (.getfield 25, 3) := by decide +kernel
theorem dX11_holdsList_17 : decode cX11_holdsList 17 = .ok (.iload 4, 2) := by decide +kernel
theorem dX11_holdsList_19 : decode cX11_holdsList 19 = .ok (.laload, 1) := by decide +kernel
theorem dX11_holdsList_2 : decode cX11_holdsList 2 = .ok (.iload_n 3, 1) := by decide +kernel
theorem dX11_holdsList_20 : decode cX11_holdsList 20 = .ok (.lcmp, 1) := by decide +kernel
theorem dX11_holdsList_21 : decode cX11_holdsList 21 = .ok (.ifCond .lt 17, 3) := by decide +kernel
theorem dX11_holdsList_24 : decode cX11_holdsList 24 = .ok (.iload 5, 2) := by decide +kernel
theorem dX11_holdsList_26 : decode cX11_holdsList 26 = .ok (.i2l, 1) := by decide +kernel
theorem dX11_holdsList_27 : decode cX11_holdsList 27 = .ok (.aload_n 0, 1) := by decide +kernel
theorem dX11_holdsList_28 : decode cX11_holdsList 28 = .ok (.getfield 29, 3) := by decide +kernel
theorem dX11_holdsList_3 : decode cX11_holdsList 3 = .ok (.iadd, 1) := by decide +kernel
theorem dX11_holdsList_31 : decode cX11_holdsList 31 = .ok (.iload 4, 2) := by decide +kernel
theorem dX11_holdsList_33 : decode cX11_holdsList 33 = .ok (.laload, 1) := by decide +kernel
theorem dX11_holdsList_34 : decode cX11_holdsList 34 = .ok (.lcmp, 1) := by decide +kernel
theorem dX11_holdsList_35 : decode cX11_holdsList 35 = .ok (.ifCond .le 5, 3) := by decide +kernel
theorem dX11_holdsList_38 : decode cX11_holdsList 38 = .ok (.iconst 0, 1) := by decide +kernel
theorem dX11_holdsList_39 : decode cX11_holdsList 39 = .ok (.ireturn, 1) := by decide +kernel
theorem dX11_holdsList_4 : decode cX11_holdsList 4 = .ok (.laload, 1) := by decide +kernel
theorem dX11_holdsList_40 : decode cX11_holdsList 40 = .ok (.iload_n 3, 1) := by decide +kernel
theorem dX11_holdsList_41 : decode cX11_holdsList 41 = .ok (.iconst 1, 1) := by decide +kernel
theorem dX11_holdsList_42 : decode cX11_holdsList 42 = .ok (.iadd, 1) := by decide +kernel
theorem dX11_holdsList_43 : decode cX11_holdsList 43 = .ok (.istore 6, 2) := by decide +kernel
theorem dX11_holdsList_45 : decode cX11_holdsList 45 = .ok (.iconst 0, 1) := by decide +kernel
theorem dX11_holdsList_46 : decode cX11_holdsList 46 = .ok (.istore 7, 2) := by decide +kernel
theorem dX11_holdsList_48 : decode cX11_holdsList 48 = .ok (.iload 7, 2) := by decide +kernel
theorem dX11_holdsList_5 : decode cX11_holdsList 5 = .ok (.invokestatic 142, 3) := by decide +kernel
theorem dX11_holdsList_50 : decode cX11_holdsList 50 = .ok (.iload 5, 2) := by decide +kernel
theorem dX11_holdsList_52 : decode cX11_holdsList 52 = .ok (.if_icmp .ge 37, 3) := by decide +kernel
theorem dX11_holdsList_55 : decode cX11_holdsList 55 = .ok (.aload_n 0, 1) := by decide +kernel
theorem dX11_holdsList_56 : decode cX11_holdsList 56 = .ok (.getfield 62, 3) := by decide +kernel
theorem dX11_holdsList_59 : decode cX11_holdsList 59 = .ok (.iload 6, 2) := by decide +kernel
theorem dX11_holdsList_61 : decode cX11_holdsList 61 = .ok (.aload_n 0, 1) := by decide +kernel
theorem dX11_holdsList_62 : decode cX11_holdsList 62 = .ok (.getfield 13, 3) := by decide +kernel
theorem dX11_holdsList_65 : decode cX11_holdsList 65 = .ok (.iload 4, 2) := by decide +kernel
theorem dX11_holdsList_67 : decode cX11_holdsList 67 = .ok (.iaload, 1) := by decide +kernel
theorem dX11_holdsList_68 : decode cX11_holdsList 68 = .ok (.iastore, 1) := by decide +kernel
theorem dX11_holdsList_69 : decode cX11_holdsList 69 = .ok (.iload 6, 2) := by decide +kernel
theorem dX11_holdsList_71 : decode cX11_holdsList 71 = .ok (.aload_n 1, 1) := by decide +kernel
theorem dX11_holdsList_72 : decode cX11_holdsList 72 = .ok (.iload_n 2, 1) := by decide +kernel
theorem dX11_holdsList_73 : decode cX11_holdsList 73 = .ok (.iload 6, 2) := by decide +kernel
theorem dX11_holdsList_75 : decode cX11_holdsList 75 = .ok (.iadd, 1) := by decide +kernel
theorem dX11_holdsList_76 : decode cX11_holdsList 76 = .ok (.laload, 1) := by decide +kernel
theorem dX11_holdsList_77 : decode cX11_holdsList 77 = .ok (.invokestatic 107, 3) := by decide +kernel
theorem dX11_holdsList_8 : decode cX11_holdsList 8 = .ok (.istore 5, 2) := by decide +kernel
theorem dX11_holdsList_80 : decode cX11_holdsList 80 = .ok (.iadd, 1) := by decide +kernel
theorem dX11_holdsList_81 : decode cX11_holdsList 81 = .ok (.istore 6, 2) := by decide +kernel
theorem dX11_holdsList_83 : decode cX11_holdsList 83 = .ok (.iinc 7 1, 3) := by decide +kernel
theorem dX11_holdsList_86 : decode cX11_holdsList 86 = .ok (.goto (-38), 3) := by decide +kernel
theorem dX11_holdsList_89 : decode cX11_holdsList 89 = .ok (.iconst 1, 1) := by decide +kernel
theorem dX11_holdsList_90 : decode cX11_holdsList 90 = .ok (.ireturn, 1) := by decide +kernel
noncomputable def k_X11_holdsList_48 (l1 : Nat) (l2 : Int32) (l4 : Int32) (l5 : Int32) (l6 : Int32) (l7 : Int32) (s : t_S) : Option ((Nat × Int32 × Int32 × Int32 × Int32 × Int32 × t_S) ⊕ (Int32 × t_S)) :=
 if l5 ≤ l7 then ((some ((1 : Int32), s)).map Sum.inr)
 else (if t_ix l4 3001 = true then
  if t_ix l6 120 = true then
  t_let (t_setI s 333 (l6.toNatClampNeg) (s.1 318 (l4.toNatClampNeg))) (fun s1 =>
 if t_oka l1 2 (t_ln l1) = true then
  if t_ix (l2 + l6) (t_ln l1) = true then
  some (.inl (l1, l2, l4, l5, (l6 + (f_X8_size (s1.2.1 l1 ((l2 + l6).toNatClampNeg)) s1)), (l7 + 1), s1))
else none
else none)
else none
else none)
set_option maxRecDepth 4000 in
set_option maxHeartbeats 1000000 in
theorem B_X11_holdsList_48 {D : va_G} {cy : Nat → ClassId} {ad : Nat → Nat} {bs : Nat} {X : State → Heap → Prop} (l1 : Nat) (l2 : Int32) (l4 : Int32) (l5 : Int32) (l6 : Int32) (l7 : Int32) (s : t_S) (Q : (Nat × Int32 × Int32 × Int32 × Int32 × Int32 × t_S) ⊕ (Int32 × t_S) → Prop) (Hb48 : ∀ (y0 : Nat) (y1 : Int32) (y2 : Int32) (y3 : Int32) (y4 : Int32) (y5 : Int32) (y6 : t_S), Q (.inl (y0, y1, y2, y3, y4, y5, y6)) → mj_G D cy ad bs X cX11_holdsList 8 yX11_holdsList.cls (some .boolean) yX11_holdsList.name 1 0 0 1065 (t_P (fun v s' => ∃ x, v = some (.int x) ∧ Q (.inr ((x, s'))))) 48 [(0, .ref 316), (1, .ref (y0)), (2, .int (y1)), (4, .int (y2)), (5, .int (y3)), (6, .int (y4)), (7, .int (y5))] [] (t_m y6) 1065 0 0) (hk : t_hk (k_X11_holdsList_48 l1 l2 l4 l5 l6 l7 s) Q) : mj_G D cy ad bs X cX11_holdsList 8 yX11_holdsList.cls (some .boolean) yX11_holdsList.name 1 0 0 1065 (t_P (fun v s' => ∃ x, v = some (.int x) ∧ Q (.inr ((x, s'))))) 48 [(0, .ref 316), (1, .ref l1), (2, .int l2), (4, .int l4), (5, .int l5), (6, .int l6), (7, .int l7)] [] (t_m s) 1065 0 0 := by
  refine mj_iload dX11_holdsList_48 6 rfl ?_
  refine mj_iload dX11_holdsList_50 4 rfl ?_
  refine mj_icmp_ge 89 dX11_holdsList_52 (by decide) (fun z => t_posK hk z (fun hk => ?_)) (fun z => t_negK hk z (fun hk => ?_))
  · refine t_mapK hk (fun hk => ?_)
    refine mj_iconst (v := 1) dX11_holdsList_89 (by decide) ?_
    exact t_somK hk (fun hf => t_iret dX11_holdsList_90 rfl (by decide) ⟨_, rfl, hf⟩ (Nat.le_of_ble_eq_true rfl) (Nat.le_of_ble_eq_true rfl))
  · refine mj_aload_n dX11_holdsList_55 0 rfl ?_
    refine t_getR 333 dX11_holdsList_56 F_X11_62 qr_316_20 ?_
    refine mj_iload dX11_holdsList_59 5 rfl ?_
    refine mj_aload_n dX11_holdsList_61 0 rfl ?_
    refine t_getR 318 dX11_holdsList_62 F_X11_13 qr_316_1 ?_
    refine mj_iload dX11_holdsList_65 3 rfl ?_
    refine t_chkK hk (fun c0 hk => ?_)
    refine t_iald dX11_holdsList_67 qa_318 (t_ixv c0) ?_
    refine t_chkK hk (fun c1 hk => ?_)
    refine t_iastK dX11_holdsList_68 qa_333 (t_ixv c1) (fun s1 ws1 => t_letE hk ws1 (fun hk => ?_))
    refine mj_iload dX11_holdsList_69 5 rfl ?_
    refine mj_aload_n dX11_holdsList_71 1 rfl ?_
    refine mj_iload_n dX11_holdsList_72 2 rfl ?_
    refine mj_iload dX11_holdsList_73 5 rfl ?_
    refine mj_iadd dX11_holdsList_75 ?_
    refine t_chkK hk (fun c2 hk => ?_)
    refine t_chkK hk (fun c3 hk => ?_)
    refine t_lald dX11_holdsList_76 c2 (t_ixv c3) ?_
    refine t_callSiP dX11_holdsList_77 M_X8_size (C_X8_size _ _) ML_X11_107 SM_X8_size (As := [.long (s1.2.1 l1 ((l2 + l6).toNatClampNeg))]) rfl rfl (Nat.le_of_ble_eq_true rfl) (Nat.le_of_ble_eq_true rfl) (Nat.le_of_ble_eq_true rfl) (Nat.le_of_ble_eq_true rfl) ?_
    refine mj_iadd dX11_holdsList_80 ?_
    refine mj_istore (lv2 := [(6, .int (l6 + (f_X8_size (s1.2.1 l1 ((l2 + l6).toNatClampNeg)) s1))), (0, .ref 316), (1, .ref l1), (2, .int l2), (4, .int l4), (5, .int l5), (7, .int l7)]) dX11_holdsList_81 (by decide) rfl ?_
    refine mj_iinc (k := 6) (v := (l7 + 1)) (lv2 := [(7, .int (l7 + 1)), (6, .int (l6 + (f_X8_size (s1.2.1 l1 ((l2 + l6).toNatClampNeg)) s1))), (0, .ref 316), (1, .ref l1), (2, .int l2), (4, .int l4), (5, .int l5)]) dX11_holdsList_83 rfl rfl (by decide) rfl ?_
    refine mj_goto 48 dX11_holdsList_86 (by decide) ?_
    refine mj_sublv [(0, .ref 316), (1, .ref l1), (2, .int l2), (4, .int l4), (5, .int l5), (6, .int (l6 + (f_X8_size (s1.2.1 l1 ((l2 + l6).toNatClampNeg)) s1))), (7, .int (l7 + 1))] [2, 3, 4, 5, 6, 1, 0] rfl ?_
    exact t_somK hk (fun hf => Hb48 l1 l2 l4 l5 (l6 + (f_X8_size (s1.2.1 l1 ((l2 + l6).toNatClampNeg)) s1)) (l7 + 1) s1 hf)
noncomputable def b_X11_holdsList_48 (x : Nat × Int32 × Int32 × Int32 × Int32 × Int32 × t_S) : Option ((Nat × Int32 × Int32 × Int32 × Int32 × Int32 × t_S) ⊕ (Int32 × t_S)) := k_X11_holdsList_48 x.1 x.2.1 x.2.2.1 x.2.2.2.1 x.2.2.2.2.1 x.2.2.2.2.2.1 x.2.2.2.2.2.2
set_option maxRecDepth 4000 in
set_option maxHeartbeats 1000000 in
theorem LH_X11_holdsList_48 {D : va_G} {cy : Nat → ClassId} {ad : Nat → Nat} {bs : Nat} {X : State → Heap → Prop} : ∀ (n : Nat) (y0 : Nat) (y1 : Int32) (y2 : Int32) (y3 : Int32) (y4 : Int32) (y5 : Int32) (y6 : t_S) (Q : Int32 × t_S → Prop) (hk : t_hk (t_loop (b_X11_holdsList_48) n (y0, y1, y2, y3, y4, y5, y6)) Q), mj_G D cy ad bs X cX11_holdsList 8 yX11_holdsList.cls (some .boolean) yX11_holdsList.name 1 0 0 1065 (t_P (fun v s' => ∃ x, v = some (.int x) ∧ Q ((x, s')))) 48 [(0, .ref 316), (1, .ref (y0)), (2, .int (y1)), (4, .int (y2)), (5, .int (y3)), (6, .int (y4)), (7, .int (y5))] [] (t_m y6) 1065 0 0 := by
  intro n
  induction n with
  | zero => intro y0 y1 y2 y3 y4 y5 y6 Q hk; obtain ⟨r, hr, _⟩ := hk; cases hr
  | succ n ih =>
    intro y0 y1 y2 y3 y4 y5 y6 Q hk
    exact B_X11_holdsList_48 y0 y1 y2 y3 y4 y5 y6 (fun y => t_lq (b_X11_holdsList_48) n Q y) (fun y0' y1' y2' y3' y4' y5' y6' hy => ih y0' y1' y2' y3' y4' y5' y6' Q hy) (t_lp hk)
noncomputable def f_X11_holdsList (x1 : Nat) (x2 : Int32) (x3 : Int32) (x4 : Int32) (s : t_S) : Option (Int32 × t_S) :=
 if t_oka x1 2 (t_ln x1) = true then
  if t_ix (x2 + x3) (t_ln x1) = true then
  if t_ix x4 3001 = true then
  if (lg_cmp ((f_X8_partsOf (s.2.1 x1 ((x2 + x3).toNatClampNeg)) s).toInt64) (s.2.1 322 (x4.toNatClampNeg))) < (0 : Int32) then (some ((0 : Int32), s))
 else (if (lg_cmp ((f_X8_partsOf (s.2.1 x1 ((x2 + x3).toNatClampNeg)) s).toInt64) (s.2.1 323 (x4.toNatClampNeg))) ≤ (0 : Int32) then (t_loop (b_X11_holdsList_48) t_N (x1, x2, x4, (f_X8_partsOf (s.2.1 x1 ((x2 + x3).toNatClampNeg)) s), (x3 + (1 : Int32)), 0, s))
 else (some ((0 : Int32), s)))
else none
else none
else none
set_option maxRecDepth 4000 in
set_option maxHeartbeats 1000000 in
theorem C_X11_holdsList (x1 : Nat) (x2 : Int32) (x3 : Int32) (x4 : Int32) (s : t_S) (r : Int32 × t_S) (hr : f_X11_holdsList x1 x2 x3 x4 s = some r) : t_C yX11_holdsList cX11_holdsList 8 (some .boolean) 1 [.ref 316, .ref x1, .int x2, .int x3, .int x4] s (fun v s' => v = some (.int r.1) ∧ s' = r.2) := by
  refine t_C.imp (P := fun v s' => ∃ x, v = some (.int x) ∧ (fun q => q = r) ((x, s'))) (t_C.of (by decide +kernel) (Nat.le_of_ble_eq_true rfl) ?_) (fun v s' hp => by obtain ⟨x, rfl, rfl⟩ := hp; exact ⟨rfl, rfl⟩)
  intro D cy ad bs X
  have hk : t_hk (f_X11_holdsList x1 x2 x3 x4 s) (fun q => q = r) := ⟨r, hr, rfl⟩
  show mj_G D cy ad bs X cX11_holdsList 8 yX11_holdsList.cls (some .boolean) yX11_holdsList.name 1 0 0 1065 (t_P (fun v s' => ∃ x, v = some (.int x) ∧ (fun q => q = r) ((x, s')))) 0 [(0, .ref 316), (1, .ref x1), (2, .int x2), (3, .int x3), (4, .int x4)] [] (t_m s) 1065 0 0
  refine mj_aload_n dX11_holdsList_0 1 rfl ?_
  refine mj_iload_n dX11_holdsList_1 2 rfl ?_
  refine mj_iload_n dX11_holdsList_2 3 rfl ?_
  refine mj_iadd dX11_holdsList_3 ?_
  refine t_chkK hk (fun c0 hk => ?_)
  refine t_chkK hk (fun c1 hk => ?_)
  refine t_lald dX11_holdsList_4 c0 (t_ixv c1) ?_
  refine t_callSiP dX11_holdsList_5 M_X8_partsOf (C_X8_partsOf _ _) ML_X11_142 SM_X8_partsOf (As := [.long (s.2.1 x1 ((x2 + x3).toNatClampNeg))]) rfl rfl (Nat.le_of_ble_eq_true rfl) (Nat.le_of_ble_eq_true rfl) (Nat.le_of_ble_eq_true rfl) (Nat.le_of_ble_eq_true rfl) ?_
  refine mj_istore (lv2 := [(5, .int (f_X8_partsOf (s.2.1 x1 ((x2 + x3).toNatClampNeg)) s)), (0, .ref 316), (1, .ref x1), (2, .int x2), (3, .int x3), (4, .int x4)]) dX11_holdsList_8 (by decide) rfl ?_
  refine mj_iload dX11_holdsList_10 0 rfl ?_
  refine mj_i2l (v := (f_X8_partsOf (s.2.1 x1 ((x2 + x3).toNatClampNeg)) s).toInt64) dX11_holdsList_12 rfl ?_
  refine mj_aload_n dX11_holdsList_13 1 rfl ?_
  refine t_getR 322 dX11_holdsList_14 F_X11_25 qr_316_5 ?_
  refine mj_iload dX11_holdsList_17 5 rfl ?_
  refine t_chkK hk (fun c3 hk => ?_)
  refine t_lald dX11_holdsList_19 qa_322 (t_ixv c3) ?_
  refine mj_lcmp dX11_holdsList_20 ?_
  refine mj_if_lt 38 dX11_holdsList_21 (by decide) (fun z => t_posK hk z (fun hk => ?_)) (fun z => t_negK hk z (fun hk => ?_))
  · refine mj_iconst (v := 0) dX11_holdsList_38 (by decide) ?_
    exact t_somK hk (fun hf => t_iret dX11_holdsList_39 rfl (by decide) ⟨_, rfl, hf⟩ (Nat.le_of_ble_eq_true rfl) (Nat.le_of_ble_eq_true rfl))
  · refine mj_iload dX11_holdsList_24 0 rfl ?_
    refine mj_i2l (v := (f_X8_partsOf (s.2.1 x1 ((x2 + x3).toNatClampNeg)) s).toInt64) dX11_holdsList_26 rfl ?_
    refine mj_aload_n dX11_holdsList_27 1 rfl ?_
    refine t_getR 323 dX11_holdsList_28 F_X11_29 qr_316_6 ?_
    refine mj_iload dX11_holdsList_31 5 rfl ?_
    refine t_lald dX11_holdsList_33 qa_323 (t_ixv c3) ?_
    refine mj_lcmp dX11_holdsList_34 ?_
    refine mj_if_le 40 dX11_holdsList_35 (by decide) (fun z => t_posK hk z (fun hk => ?_)) (fun z => t_negK hk z (fun hk => ?_))
    · refine mj_iload_n dX11_holdsList_40 4 rfl ?_
      refine mj_iconst (v := 1) dX11_holdsList_41 (by decide) ?_
      refine mj_iadd dX11_holdsList_42 ?_
      refine mj_istore (lv2 := [(6, .int (x3 + (1 : Int32))), (5, .int (f_X8_partsOf (s.2.1 x1 ((x2 + x3).toNatClampNeg)) s)), (0, .ref 316), (1, .ref x1), (2, .int x2), (3, .int x3), (4, .int x4)]) dX11_holdsList_43 (by decide) rfl ?_
      refine mj_iconst (v := 0) dX11_holdsList_45 (by decide) ?_
      refine mj_istore (lv2 := [(7, .int 0), (6, .int (x3 + (1 : Int32))), (5, .int (f_X8_partsOf (s.2.1 x1 ((x2 + x3).toNatClampNeg)) s)), (0, .ref 316), (1, .ref x1), (2, .int x2), (3, .int x3), (4, .int x4)]) dX11_holdsList_46 (by decide) rfl ?_
      refine mj_sublv [(0, .ref 316), (1, .ref x1), (2, .int x2), (4, .int x4), (5, .int (f_X8_partsOf (s.2.1 x1 ((x2 + x3).toNatClampNeg)) s)), (6, .int (x3 + (1 : Int32))), (7, .int 0)] [3, 4, 5, 7, 2, 1, 0] rfl ?_
      exact LH_X11_holdsList_48 _ x1 x2 x4 (f_X8_partsOf (s.2.1 x1 ((x2 + x3).toNatClampNeg)) s) (x3 + (1 : Int32)) 0 s _ hk
    · refine mj_iconst (v := 0) dX11_holdsList_38 (by decide) ?_
      exact t_somK hk (fun hf => t_iret dX11_holdsList_39 rfl (by decide) ⟨_, rfl, hf⟩ (Nat.le_of_ble_eq_true rfl) (Nat.le_of_ble_eq_true rfl))

theorem dX11_holdsRecord_0 : decode cX11_holdsRecord 0 = .ok (.aload_n 1, 1) := by decide +kernel
theorem dX11_holdsRecord_1 : decode cX11_holdsRecord 1 = .ok (.iload_n 2, 1) := by decide +kernel
theorem dX11_holdsRecord_10 : decode cX11_holdsRecord 10 = .ok (.iconst 0, 1) := by decide +kernel
theorem dX11_holdsRecord_100 : decode cX11_holdsRecord 100 = .ok (.istore 10, 2) := by decide +kernel
theorem dX11_holdsRecord_102 : decode cX11_holdsRecord 102 = .ok (.iload 10, 2) := by decide +kernel
theorem dX11_holdsRecord_104 : decode cX11_holdsRecord 104 = .ok (.ifCond .ge 5, 3) := by decide +kernel
theorem dX11_holdsRecord_107 : decode cX11_holdsRecord 107 = .ok (.iconst 0, 1) := by decide +kernel
theorem dX11_holdsRecord_108 : decode cX11_holdsRecord 108 = .ok (.ireturn, 1) := by decide +kernel
theorem dX11_holdsRecord_109 : decode cX11_holdsRecord 109 = .ok (.aload_n 0, 1) := by decide +kernel
theorem dX11_holdsRecord_11 : decode cX11_holdsRecord 11 = .ok (.istore 6, 2) := by decide +kernel
theorem dX11_holdsRecord_110 : decode cX11_holdsRecord 110 = .ok (.getfield 22, 3) := by decide +kernel
theorem dX11_holdsRecord_113 : decode cX11_holdsRecord 113 = .ok (.iload 10, 2) := by decide +kernel
theorem dX11_holdsRecord_115 : decode cX11_holdsRecord 115 = .ok (.iaload, 1) := by decide +kernel
theorem dX11_holdsRecord_116 : decode cX11_holdsRecord 116 = .ok (.ifCond .ne 6, 3) := by decide +kernel
theorem dX11_holdsRecord_119 : decode cX11_holdsRecord 119 = .ok (.iinc 6 (-1), 3) := by decide +kernel
theorem dX11_holdsRecord_122 : decode cX11_holdsRecord 122 = .ok (.aload_n 0, 1) := by decide +kernel
theorem dX11_holdsRecord_123 : decode cX11_holdsRecord 123 = .ok (.getfield 62, 3) := by decide +kernel
theorem dX11_holdsRecord_126 : decode cX11_holdsRecord 126 = .ok (.iload 8, 2) := by decide +kernel
theorem dX11_holdsRecord_128 : decode cX11_holdsRecord 128 = .ok (.iconst 1, 1) := by decide +kernel
theorem dX11_holdsRecord_129 : decode cX11_holdsRecord 129 = .ok (.iadd, 1) := by decide +kernel
theorem dX11_holdsRecord_13 : decode cX11_holdsRecord 13 = .ok (.aload_n 0, 1) := by decide +kernel
theorem dX11_holdsRecord_130 : decode cX11_holdsRecord 130 = .ok (.aload_n 0, 1) := by decide +kernel
theorem dX11_holdsRecord_131 : decode cX11_holdsRecord 131 = .ok (.getfield 13, 3) := by decide +kernel
theorem dX11_holdsRecord_134 : decode cX11_holdsRecord 134 = .ok (.iload 10, 2) := by decide +kernel
theorem dX11_holdsRecord_136 : decode cX11_holdsRecord 136 = .ok (.iaload, 1) := by decide +kernel
theorem dX11_holdsRecord_137 : decode cX11_holdsRecord 137 = .ok (.iastore, 1) := by decide +kernel
theorem dX11_holdsRecord_138 : decode cX11_holdsRecord 138 = .ok (.iload 8, 2) := by decide +kernel
theorem dX11_holdsRecord_14 : decode cX11_holdsRecord 14 = .ok (.getfield 13, 3) := by decide +kernel
theorem dX11_holdsRecord_140 : decode cX11_holdsRecord 140 = .ok (.iconst 1, 1) := by decide +kernel
theorem dX11_holdsRecord_141 : decode cX11_holdsRecord 141 = .ok (.aload_n 1, 1) := by decide +kernel
theorem dX11_holdsRecord_142 : decode cX11_holdsRecord 142 = .ok (.iload_n 2, 1) := by decide +kernel
theorem dX11_holdsRecord_143 : decode cX11_holdsRecord 143 = .ok (.iload 8, 2) := by decide +kernel
theorem dX11_holdsRecord_145 : decode cX11_holdsRecord 145 = .ok (.iadd, 1) := by decide +kernel
theorem dX11_holdsRecord_146 : decode cX11_holdsRecord 146 = .ok (.iconst 1, 1) := by decide +kernel
theorem dX11_holdsRecord_147 : decode cX11_holdsRecord 147 = .ok (.iadd, 1) := by decide +kernel
theorem dX11_holdsRecord_148 : decode cX11_holdsRecord 148 = .ok (.laload, 1) := by decide +kernel
theorem dX11_holdsRecord_149 : decode cX11_holdsRecord 149 = .ok (.invokestatic 107, 3) := by decide +kernel
theorem dX11_holdsRecord_152 : decode cX11_holdsRecord 152 = .ok (.iadd, 1) := by decide +kernel
theorem dX11_holdsRecord_153 : decode cX11_holdsRecord 153 = .ok (.iadd, 1) := by decide +kernel
theorem dX11_holdsRecord_154 : decode cX11_holdsRecord 154 = .ok (.istore 8, 2) := by decide +kernel
theorem dX11_holdsRecord_156 : decode cX11_holdsRecord 156 = .ok (.iinc 9 1, 3) := by decide +kernel
theorem dX11_holdsRecord_159 : decode cX11_holdsRecord 159 = .ok (.goto (-81), 3) := by decide +kernel
theorem dX11_holdsRecord_162 : decode cX11_holdsRecord 162 = .ok (.iload 6, 2) := by decide +kernel
theorem dX11_holdsRecord_164 : decode cX11_holdsRecord 164 = .ok (.ifCond .ne 7, 3) := by decide +kernel
theorem dX11_holdsRecord_167 : decode cX11_holdsRecord 167 = .ok (.iconst 1, 1) := by decide +kernel
theorem dX11_holdsRecord_168 : decode cX11_holdsRecord 168 = .ok (.goto 4, 3) := by decide +kernel
theorem dX11_holdsRecord_17 : decode cX11_holdsRecord 17 = .ok (.iload 4, 2) := by decide +kernel
theorem dX11_holdsRecord_171 : decode cX11_holdsRecord 171 = .ok (.iconst 0, 1) := by decide +kernel
theorem dX11_holdsRecord_172 : decode cX11_holdsRecord 172 = .ok (.ireturn, 1) := by decide +kernel
theorem dX11_holdsRecord_19 : decode cX11_holdsRecord 19 = .ok (.iaload, 1) := by decide +kernel
theorem dX11_holdsRecord_2 : decode cX11_holdsRecord 2 = .ok (.iload_n 3, 1) := by decide +kernel
theorem dX11_holdsRecord_20 : decode cX11_holdsRecord 20 = .ok (.istore 7, 2) := by decide +kernel
theorem dX11_holdsRecord_22 : decode cX11_holdsRecord 22 = .ok (.iconst 0, 1) := by decide +kernel
theorem dX11_holdsRecord_23 : decode cX11_holdsRecord 23 = .ok (.istore 8, 2) := by decide +kernel
theorem dX11_holdsRecord_25 : decode cX11_holdsRecord 25 = .ok (.iload 8, 2) := by decide +kernel
theorem dX11_holdsRecord_27 : decode cX11_holdsRecord 27 = .ok (.aload_n 0, 1) := by decide +kernel
theorem dX11_holdsRecord_28 : decode cX11_holdsRecord 28 = .ok (.getfield 22, 3) := by decide +kernel
theorem dX11_holdsRecord_3 : decode cX11_holdsRecord 3 = .ok (.iadd, 1) := by decide +kernel
theorem dX11_holdsRecord_31 : decode cX11_holdsRecord 31 = .ok (.iload 4, 2) := by decide +kernel
theorem dX11_holdsRecord_33 : decode cX11_holdsRecord 33 = .ok (.iaload, 1) := by decide +kernel
theorem dX11_holdsRecord_34 : decode cX11_holdsRecord 34 = .ok (.if_icmp .ge 36, 3) := by decide +kernel
theorem dX11_holdsRecord_37 : decode cX11_holdsRecord 37 = .ok (.iload 7, 2) := by decide +kernel
theorem dX11_holdsRecord_39 : decode cX11_holdsRecord 39 = .ok (.ifCond .lt 31, 3) := by decide +kernel
theorem dX11_holdsRecord_4 : decode cX11_holdsRecord 4 = .ok (.laload, 1) := by decide +kernel
theorem dX11_holdsRecord_42 : decode cX11_holdsRecord 42 = .ok (.aload_n 0, 1) := by decide +kernel
theorem dX11_holdsRecord_43 : decode cX11_holdsRecord 43 = .ok (.getfield 22, 3) := by decide +kernel
theorem dX11_holdsRecord_46 : decode cX11_holdsRecord 46 = .ok (.iload 7, 2) := by decide +kernel
theorem dX11_holdsRecord_48 : decode cX11_holdsRecord 48 = .ok (.iaload, 1) := by decide +kernel
theorem dX11_holdsRecord_49 : decode cX11_holdsRecord 49 = .ok (.ifCond .ne 6, 3) := by decide +kernel
theorem dX11_holdsRecord_5 : decode cX11_holdsRecord 5 = .ok (.invokestatic 142, 3) := by decide +kernel
theorem dX11_holdsRecord_52 : decode cX11_holdsRecord 52 = .ok (.iinc 6 1, 3) := by decide +kernel
theorem dX11_holdsRecord_55 : decode cX11_holdsRecord 55 = .ok (.aload_n 0, 1) := by decide +kernel
theorem dX11_holdsRecord_56 : decode cX11_holdsRecord 56 = .ok (.getfield 16, 3) := by decide +kernel
theorem dX11_holdsRecord_59 : decode cX11_holdsRecord 59 = .ok (.iload 7, 2) := by decide +kernel
theorem dX11_holdsRecord_61 : decode cX11_holdsRecord 61 = .ok (.iaload, 1) := by decide +kernel
theorem dX11_holdsRecord_62 : decode cX11_holdsRecord 62 = .ok (.istore 7, 2) := by decide +kernel
theorem dX11_holdsRecord_64 : decode cX11_holdsRecord 64 = .ok (.iinc 8 1, 3) := by decide +kernel
theorem dX11_holdsRecord_67 : decode cX11_holdsRecord 67 = .ok (.goto (-42), 3) := by decide +kernel
theorem dX11_holdsRecord_70 : decode cX11_holdsRecord 70 = .ok (.iload_n 3, 1) := by decide +kernel
theorem dX11_holdsRecord_71 : decode cX11_holdsRecord 71 = .ok (.iconst 1, 1) := by decide +kernel
theorem dX11_holdsRecord_72 : decode cX11_holdsRecord 72 = .ok (.iadd, 1) := by decide +kernel
theorem dX11_holdsRecord_73 : decode cX11_holdsRecord 73 = .ok (.istore 8, 2) := by decide +kernel
theorem dX11_holdsRecord_75 : decode cX11_holdsRecord 75 = .ok (.iconst 0, 1) := by decide +kernel
theorem dX11_holdsRecord_76 : decode cX11_holdsRecord 76 = .ok (.istore 9, 2) := by decide +kernel
theorem dX11_holdsRecord_78 : decode cX11_holdsRecord 78 = .ok (.iload 9, 2) := by decide +kernel
theorem dX11_holdsRecord_8 : decode cX11_holdsRecord 8 = .ok (.istore 5, 2) := by decide +kernel
theorem dX11_holdsRecord_80 : decode cX11_holdsRecord 80 = .ok (.iload 5, 2) := by decide +kernel
theorem dX11_holdsRecord_82 : decode cX11_holdsRecord 82 = .ok (.if_icmp .ge 80, 3) := by decide +kernel
theorem dX11_holdsRecord_85 : decode cX11_holdsRecord 85 = .ok (.aload_n 0, 1) := by decide +kernel
theorem dX11_holdsRecord_86 : decode cX11_holdsRecord 86 = .ok (.iload 4, 2) := by decide +kernel
theorem dX11_holdsRecord_88 : decode cX11_holdsRecord 88 = .ok (.aload_n 1, 1) := by decide +kernel
theorem dX11_holdsRecord_89 : decode cX11_holdsRecord 89 = .ok (.iload_n 2, 1) := by decide +kernel
theorem dX11_holdsRecord_90 : decode cX11_holdsRecord 90 = .ok (.iload 8, 2) := by decide +kernel
theorem dX11_holdsRecord_92 : decode cX11_holdsRecord 92 = .ok (.iadd, 1) := by decide +kernel
theorem dX11_holdsRecord_93 : decode cX11_holdsRecord 93 = .ok (.laload, 1) := by decide +kernel
theorem dX11_holdsRecord_94 : decode cX11_holdsRecord 94 = .ok (.invokestatic 127, 3) := by decide +kernel
theorem dX11_holdsRecord_97 : decode cX11_holdsRecord 97 = .ok (.invokevirtual 139, 3) := by decide +kernel
noncomputable def k_X11_holdsRecord_122 (l1 : Nat) (l2 : Int32) (l4 : Int32) (l5 : Int32) (l6 : Int32) (l8 : Int32) (l9 : Int32) (l10 : Int32) (s : t_S) : Option ((Nat × Int32 × Int32 × Int32 × Int32 × Int32 × Int32 × t_S) ⊕ (Int32 × t_S)) :=
 if t_ix l10 3001 = true then
  if t_ix (l8 + (1 : Int32)) 120 = true then
  t_let (t_setI s 333 ((l8 + (1 : Int32)).toNatClampNeg) (s.1 318 (l10.toNatClampNeg))) (fun s1 =>
 if t_oka l1 2 (t_ln l1) = true then
  if t_ix ((l2 + l8) + (1 : Int32)) (t_ln l1) = true then
  some (.inl (l1, l2, l4, l5, l6, (l8 + ((1 : Int32) + (f_X8_size (s1.2.1 l1 (((l2 + l8) + (1 : Int32)).toNatClampNeg)) s1))), (l9 + 1), s1))
else none
else none)
else none
else none
set_option maxRecDepth 4000 in
set_option maxHeartbeats 1000000 in
theorem B_X11_holdsRecord_122 {D : va_G} {cy : Nat → ClassId} {ad : Nat → Nat} {bs : Nat} {X : State → Heap → Prop} (l1 : Nat) (l2 : Int32) (l4 : Int32) (l5 : Int32) (l6 : Int32) (l8 : Int32) (l9 : Int32) (l10 : Int32) (s : t_S) (Q : (Nat × Int32 × Int32 × Int32 × Int32 × Int32 × Int32 × t_S) ⊕ (Int32 × t_S) → Prop) (Hb78 : ∀ (y0 : Nat) (y1 : Int32) (y2 : Int32) (y3 : Int32) (y4 : Int32) (y5 : Int32) (y6 : Int32) (y7 : t_S), Q (.inl (y0, y1, y2, y3, y4, y5, y6, y7)) → mj_G D cy ad bs X cX11_holdsRecord 11 yX11_holdsRecord.cls (some .boolean) yX11_holdsRecord.name 1 0 0 1065 (t_P (fun v s' => ∃ x, v = some (.int x) ∧ Q (.inr ((x, s'))))) 78 [(0, .ref 316), (1, .ref (y0)), (2, .int (y1)), (4, .int (y2)), (5, .int (y3)), (6, .int (y4)), (8, .int (y5)), (9, .int (y6))] [] (t_m y7) 1065 0 0) (hk : t_hk (k_X11_holdsRecord_122 l1 l2 l4 l5 l6 l8 l9 l10 s) Q) : mj_G D cy ad bs X cX11_holdsRecord 11 yX11_holdsRecord.cls (some .boolean) yX11_holdsRecord.name 1 0 0 1065 (t_P (fun v s' => ∃ x, v = some (.int x) ∧ Q (.inr ((x, s'))))) 122 [(0, .ref 316), (1, .ref l1), (2, .int l2), (4, .int l4), (5, .int l5), (6, .int l6), (8, .int l8), (9, .int l9), (10, .int l10)] [] (t_m s) 1065 0 0 := by
  refine mj_aload_n dX11_holdsRecord_122 0 rfl ?_
  refine t_getR 333 dX11_holdsRecord_123 F_X11_62 qr_316_20 ?_
  refine mj_iload dX11_holdsRecord_126 6 rfl ?_
  refine mj_iconst (v := 1) dX11_holdsRecord_128 (by decide) ?_
  refine mj_iadd dX11_holdsRecord_129 ?_
  refine mj_aload_n dX11_holdsRecord_130 0 rfl ?_
  refine t_getR 318 dX11_holdsRecord_131 F_X11_13 qr_316_1 ?_
  refine mj_iload dX11_holdsRecord_134 8 rfl ?_
  refine t_chkK hk (fun c0 hk => ?_)
  refine t_iald dX11_holdsRecord_136 qa_318 (t_ixv c0) ?_
  refine t_chkK hk (fun c1 hk => ?_)
  refine t_iastK dX11_holdsRecord_137 qa_333 (t_ixv c1) (fun s1 ws1 => t_letE hk ws1 (fun hk => ?_))
  refine mj_iload dX11_holdsRecord_138 6 rfl ?_
  refine mj_iconst (v := 1) dX11_holdsRecord_140 (by decide) ?_
  refine mj_aload_n dX11_holdsRecord_141 1 rfl ?_
  refine mj_iload_n dX11_holdsRecord_142 2 rfl ?_
  refine mj_iload dX11_holdsRecord_143 6 rfl ?_
  refine mj_iadd dX11_holdsRecord_145 ?_
  refine mj_iconst (v := 1) dX11_holdsRecord_146 (by decide) ?_
  refine mj_iadd dX11_holdsRecord_147 ?_
  refine t_chkK hk (fun c2 hk => ?_)
  refine t_chkK hk (fun c3 hk => ?_)
  refine t_lald dX11_holdsRecord_148 c2 (t_ixv c3) ?_
  refine t_callSiP dX11_holdsRecord_149 M_X8_size (C_X8_size _ _) ML_X11_107 SM_X8_size (As := [.long (s1.2.1 l1 (((l2 + l8) + (1 : Int32)).toNatClampNeg))]) rfl rfl (Nat.le_of_ble_eq_true rfl) (Nat.le_of_ble_eq_true rfl) (Nat.le_of_ble_eq_true rfl) (Nat.le_of_ble_eq_true rfl) ?_
  refine mj_iadd dX11_holdsRecord_152 ?_
  refine mj_iadd dX11_holdsRecord_153 ?_
  refine mj_istore (lv2 := [(8, .int (l8 + ((1 : Int32) + (f_X8_size (s1.2.1 l1 (((l2 + l8) + (1 : Int32)).toNatClampNeg)) s1)))), (0, .ref 316), (1, .ref l1), (2, .int l2), (4, .int l4), (5, .int l5), (6, .int l6), (9, .int l9), (10, .int l10)]) dX11_holdsRecord_154 (by decide) rfl ?_
  refine mj_iinc (k := 7) (v := (l9 + 1)) (lv2 := [(9, .int (l9 + 1)), (8, .int (l8 + ((1 : Int32) + (f_X8_size (s1.2.1 l1 (((l2 + l8) + (1 : Int32)).toNatClampNeg)) s1)))), (0, .ref 316), (1, .ref l1), (2, .int l2), (4, .int l4), (5, .int l5), (6, .int l6), (10, .int l10)]) dX11_holdsRecord_156 rfl rfl (by decide) rfl ?_
  refine mj_goto 78 dX11_holdsRecord_159 (by decide) ?_
  refine mj_sublv [(0, .ref 316), (1, .ref l1), (2, .int l2), (4, .int l4), (5, .int l5), (6, .int l6), (8, .int (l8 + ((1 : Int32) + (f_X8_size (s1.2.1 l1 (((l2 + l8) + (1 : Int32)).toNatClampNeg)) s1)))), (9, .int (l9 + 1))] [2, 3, 4, 5, 6, 7, 1, 0] rfl ?_
  exact t_somK hk (fun hf => Hb78 l1 l2 l4 l5 l6 (l8 + ((1 : Int32) + (f_X8_size (s1.2.1 l1 (((l2 + l8) + (1 : Int32)).toNatClampNeg)) s1))) (l9 + 1) s1 hf)
noncomputable def k_X11_holdsRecord_78 (l1 : Nat) (l2 : Int32) (l4 : Int32) (l5 : Int32) (l6 : Int32) (l8 : Int32) (l9 : Int32) (s : t_S) : Option ((Nat × Int32 × Int32 × Int32 × Int32 × Int32 × Int32 × t_S) ⊕ (Int32 × t_S)) :=
 if l5 ≤ l9 then ((if l6 = (0 : Int32) then (some ((1 : Int32), s))
 else (some ((0 : Int32), s))).map Sum.inr)
 else (if t_oka l1 2 (t_ln l1) = true then
  if t_ix (l2 + l8) (t_ln l1) = true then
  (f_X11_fieldOf l4 (f_X8_wordOf (s.2.1 l1 ((l2 + l8).toNatClampNeg)) s) s).bind (fun r4 =>
 if (0 : Int32) ≤ r4 then (if t_ix r4 3001 = true then
  if (s.1 321 (r4.toNatClampNeg)) = (0 : Int32) then (k_X11_holdsRecord_122 l1 l2 l4 l5 (l6 + (-1)) l8 l9 r4 s)
 else (k_X11_holdsRecord_122 l1 l2 l4 l5 l6 l8 l9 r4 s)
else none)
 else ((some ((0 : Int32), s)).map Sum.inr))
else none
else none)
set_option maxRecDepth 4000 in
set_option maxHeartbeats 1000000 in
theorem B_X11_holdsRecord_78 {D : va_G} {cy : Nat → ClassId} {ad : Nat → Nat} {bs : Nat} {X : State → Heap → Prop} (l1 : Nat) (l2 : Int32) (l4 : Int32) (l5 : Int32) (l6 : Int32) (l8 : Int32) (l9 : Int32) (s : t_S) (Q : (Nat × Int32 × Int32 × Int32 × Int32 × Int32 × Int32 × t_S) ⊕ (Int32 × t_S) → Prop) (Hb78 : ∀ (y0 : Nat) (y1 : Int32) (y2 : Int32) (y3 : Int32) (y4 : Int32) (y5 : Int32) (y6 : Int32) (y7 : t_S), Q (.inl (y0, y1, y2, y3, y4, y5, y6, y7)) → mj_G D cy ad bs X cX11_holdsRecord 11 yX11_holdsRecord.cls (some .boolean) yX11_holdsRecord.name 1 0 0 1065 (t_P (fun v s' => ∃ x, v = some (.int x) ∧ Q (.inr ((x, s'))))) 78 [(0, .ref 316), (1, .ref (y0)), (2, .int (y1)), (4, .int (y2)), (5, .int (y3)), (6, .int (y4)), (8, .int (y5)), (9, .int (y6))] [] (t_m y7) 1065 0 0) (hk : t_hk (k_X11_holdsRecord_78 l1 l2 l4 l5 l6 l8 l9 s) Q) : mj_G D cy ad bs X cX11_holdsRecord 11 yX11_holdsRecord.cls (some .boolean) yX11_holdsRecord.name 1 0 0 1065 (t_P (fun v s' => ∃ x, v = some (.int x) ∧ Q (.inr ((x, s'))))) 78 [(0, .ref 316), (1, .ref l1), (2, .int l2), (4, .int l4), (5, .int l5), (6, .int l6), (8, .int l8), (9, .int l9)] [] (t_m s) 1065 0 0 := by
  refine mj_iload dX11_holdsRecord_78 7 rfl ?_
  refine mj_iload dX11_holdsRecord_80 4 rfl ?_
  refine mj_icmp_ge 162 dX11_holdsRecord_82 (by decide) (fun z => t_posK hk z (fun hk => ?_)) (fun z => t_negK hk z (fun hk => ?_))
  · refine t_mapK hk (fun hk => ?_)
    refine mj_iload dX11_holdsRecord_162 5 rfl ?_
    refine mj_if_ne 171 dX11_holdsRecord_164 (by decide) (fun z => t_negK hk z (fun hk => ?_)) (fun z => t_posK hk z (fun hk => ?_))
    · refine mj_iconst (v := 0) dX11_holdsRecord_171 (by decide) ?_
      exact t_somK hk (fun hf => t_iret dX11_holdsRecord_172 rfl (by decide) ⟨_, rfl, hf⟩ (Nat.le_of_ble_eq_true rfl) (Nat.le_of_ble_eq_true rfl))
    · refine mj_iconst (v := 1) dX11_holdsRecord_167 (by decide) ?_
      refine mj_goto 172 dX11_holdsRecord_168 (by decide) ?_
      exact t_somK hk (fun hf => t_iret dX11_holdsRecord_172 rfl (by decide) ⟨_, rfl, hf⟩ (Nat.le_of_ble_eq_true rfl) (Nat.le_of_ble_eq_true rfl))
  · refine mj_aload_n dX11_holdsRecord_85 0 rfl ?_
    refine mj_iload dX11_holdsRecord_86 3 rfl ?_
    refine mj_aload_n dX11_holdsRecord_88 1 rfl ?_
    refine mj_iload_n dX11_holdsRecord_89 2 rfl ?_
    refine mj_iload dX11_holdsRecord_90 6 rfl ?_
    refine mj_iadd dX11_holdsRecord_92 ?_
    refine t_chkK hk (fun c0 hk => ?_)
    refine t_chkK hk (fun c1 hk => ?_)
    refine t_lald dX11_holdsRecord_93 c0 (t_ixv c1) ?_
    refine t_callSiP dX11_holdsRecord_94 M_X8_wordOf (C_X8_wordOf _ _) ML_X11_127 SM_X8_wordOf (As := [.long (s.2.1 l1 ((l2 + l8).toNatClampNeg))]) rfl rfl (Nat.le_of_ble_eq_true rfl) (Nat.le_of_ble_eq_true rfl) (Nat.le_of_ble_eq_true rfl) (Nat.le_of_ble_eq_true rfl) ?_
    refine t_bndK hk (fun r4 er4 hk => ?_)
    refine t_callViP dX11_holdsRecord_97 M_X11_fieldOf (C_X11_fieldOf _ _ _ _ er4) ML_X11_139 IM_X11_fieldOf SE_X11_fieldOf qc_316 rfl (As := [.int l4, .int (f_X8_wordOf (s.2.1 l1 ((l2 + l8).toNatClampNeg)) s)]) rfl rfl (Nat.le_of_ble_eq_true rfl) (Nat.le_of_ble_eq_true rfl) (Nat.le_of_ble_eq_true rfl) (Nat.le_of_ble_eq_true rfl) ?_
    refine mj_istore (lv2 := [(10, .int r4), (0, .ref 316), (1, .ref l1), (2, .int l2), (4, .int l4), (5, .int l5), (6, .int l6), (8, .int l8), (9, .int l9)]) dX11_holdsRecord_100 (by decide) rfl ?_
    refine mj_iload dX11_holdsRecord_102 0 rfl ?_
    refine mj_if_ge 109 dX11_holdsRecord_104 (by decide) (fun z => t_posK hk z (fun hk => ?_)) (fun z => t_negK hk z (fun hk => ?_))
    · refine mj_aload_n dX11_holdsRecord_109 1 rfl ?_
      refine t_getR 321 dX11_holdsRecord_110 F_X11_22 qr_316_4 ?_
      refine mj_iload dX11_holdsRecord_113 0 rfl ?_
      refine t_chkK hk (fun c4 hk => ?_)
      refine t_iald dX11_holdsRecord_115 qa_321 (t_ixv c4) ?_
      refine mj_if_ne 122 dX11_holdsRecord_116 (by decide) (fun z => t_negK hk z (fun hk => ?_)) (fun z => t_posK hk z (fun hk => ?_))
      · refine mj_sublv [(0, .ref 316), (1, .ref l1), (2, .int l2), (4, .int l4), (5, .int l5), (6, .int l6), (8, .int l8), (9, .int l9), (10, .int r4)] [1, 2, 3, 4, 5, 6, 7, 8, 0] rfl ?_
        exact B_X11_holdsRecord_122 _ _ _ _ _ _ _ _ _ _ (fun y0 y1 y2 y3 y4 y5 y6 y7 hx => Hb78 y0 y1 y2 y3 y4 y5 y6 y7 hx) hk
      · refine mj_iinc (k := 6) (v := (l6 + (-1))) (lv2 := [(6, .int (l6 + (-1))), (10, .int r4), (0, .ref 316), (1, .ref l1), (2, .int l2), (4, .int l4), (5, .int l5), (8, .int l8), (9, .int l9)]) dX11_holdsRecord_119 rfl rfl (by decide) rfl ?_
        refine mj_sublv [(0, .ref 316), (1, .ref l1), (2, .int l2), (4, .int l4), (5, .int l5), (6, .int (l6 + (-1))), (8, .int l8), (9, .int l9), (10, .int r4)] [2, 3, 4, 5, 6, 0, 7, 8, 1] rfl ?_
        exact B_X11_holdsRecord_122 _ _ _ _ _ _ _ _ _ _ (fun y0 y1 y2 y3 y4 y5 y6 y7 hx => Hb78 y0 y1 y2 y3 y4 y5 y6 y7 hx) hk
    · refine t_mapK hk (fun hk => ?_)
      refine mj_iconst (v := 0) dX11_holdsRecord_107 (by decide) ?_
      exact t_somK hk (fun hf => t_iret dX11_holdsRecord_108 rfl (by decide) ⟨_, rfl, hf⟩ (Nat.le_of_ble_eq_true rfl) (Nat.le_of_ble_eq_true rfl))
noncomputable def b_X11_holdsRecord_78 (x : Nat × Int32 × Int32 × Int32 × Int32 × Int32 × Int32 × t_S) : Option ((Nat × Int32 × Int32 × Int32 × Int32 × Int32 × Int32 × t_S) ⊕ (Int32 × t_S)) := k_X11_holdsRecord_78 x.1 x.2.1 x.2.2.1 x.2.2.2.1 x.2.2.2.2.1 x.2.2.2.2.2.1 x.2.2.2.2.2.2.1 x.2.2.2.2.2.2.2
set_option maxRecDepth 4000 in
set_option maxHeartbeats 1000000 in
theorem LH_X11_holdsRecord_78 {D : va_G} {cy : Nat → ClassId} {ad : Nat → Nat} {bs : Nat} {X : State → Heap → Prop} : ∀ (n : Nat) (y0 : Nat) (y1 : Int32) (y2 : Int32) (y3 : Int32) (y4 : Int32) (y5 : Int32) (y6 : Int32) (y7 : t_S) (Q : Int32 × t_S → Prop) (hk : t_hk (t_loop (b_X11_holdsRecord_78) n (y0, y1, y2, y3, y4, y5, y6, y7)) Q), mj_G D cy ad bs X cX11_holdsRecord 11 yX11_holdsRecord.cls (some .boolean) yX11_holdsRecord.name 1 0 0 1065 (t_P (fun v s' => ∃ x, v = some (.int x) ∧ Q ((x, s')))) 78 [(0, .ref 316), (1, .ref (y0)), (2, .int (y1)), (4, .int (y2)), (5, .int (y3)), (6, .int (y4)), (8, .int (y5)), (9, .int (y6))] [] (t_m y7) 1065 0 0 := by
  intro n
  induction n with
  | zero => intro y0 y1 y2 y3 y4 y5 y6 y7 Q hk; obtain ⟨r, hr, _⟩ := hk; cases hr
  | succ n ih =>
    intro y0 y1 y2 y3 y4 y5 y6 y7 Q hk
    exact B_X11_holdsRecord_78 y0 y1 y2 y3 y4 y5 y6 y7 (fun y => t_lq (b_X11_holdsRecord_78) n Q y) (fun y0' y1' y2' y3' y4' y5' y6' y7' hy => ih y0' y1' y2' y3' y4' y5' y6' y7' Q hy) (t_lp hk)
noncomputable def k_X11_holdsRecord_70 (l1 : Nat) (l2 : Int32) (l3 : Int32) (l4 : Int32) (l5 : Int32) (l6 : Int32) (s : t_S) : Option (Int32 × t_S) :=
 t_loop (b_X11_holdsRecord_78) t_N (l1, l2, l4, l5, l6, (l3 + (1 : Int32)), 0, s)
set_option maxRecDepth 4000 in
set_option maxHeartbeats 1000000 in
theorem B_X11_holdsRecord_70 {D : va_G} {cy : Nat → ClassId} {ad : Nat → Nat} {bs : Nat} {X : State → Heap → Prop} (l1 : Nat) (l2 : Int32) (l3 : Int32) (l4 : Int32) (l5 : Int32) (l6 : Int32) (s : t_S) (Q : Int32 × t_S → Prop) (hk : t_hk (k_X11_holdsRecord_70 l1 l2 l3 l4 l5 l6 s) Q) : mj_G D cy ad bs X cX11_holdsRecord 11 yX11_holdsRecord.cls (some .boolean) yX11_holdsRecord.name 1 0 0 1065 (t_P (fun v s' => ∃ x, v = some (.int x) ∧ Q ((x, s')))) 70 [(0, .ref 316), (1, .ref l1), (2, .int l2), (3, .int l3), (4, .int l4), (5, .int l5), (6, .int l6)] [] (t_m s) 1065 0 0 := by
  refine mj_iload_n dX11_holdsRecord_70 3 rfl ?_
  refine mj_iconst (v := 1) dX11_holdsRecord_71 (by decide) ?_
  refine mj_iadd dX11_holdsRecord_72 ?_
  refine mj_istore (lv2 := [(8, .int (l3 + (1 : Int32))), (0, .ref 316), (1, .ref l1), (2, .int l2), (3, .int l3), (4, .int l4), (5, .int l5), (6, .int l6)]) dX11_holdsRecord_73 (by decide) rfl ?_
  refine mj_iconst (v := 0) dX11_holdsRecord_75 (by decide) ?_
  refine mj_istore (lv2 := [(9, .int 0), (8, .int (l3 + (1 : Int32))), (0, .ref 316), (1, .ref l1), (2, .int l2), (3, .int l3), (4, .int l4), (5, .int l5), (6, .int l6)]) dX11_holdsRecord_76 (by decide) rfl ?_
  refine mj_sublv [(0, .ref 316), (1, .ref l1), (2, .int l2), (4, .int l4), (5, .int l5), (6, .int l6), (8, .int (l3 + (1 : Int32))), (9, .int 0)] [2, 3, 4, 6, 7, 8, 1, 0] rfl ?_
  exact LH_X11_holdsRecord_78 _ l1 l2 l4 l5 l6 (l3 + (1 : Int32)) 0 s _ hk
noncomputable def k_X11_holdsRecord_55 (l1 : Nat) (l2 : Int32) (l3 : Int32) (l4 : Int32) (l5 : Int32) (l6 : Int32) (l7 : Int32) (l8 : Int32) (s : t_S) : Option ((Nat × Int32 × Int32 × Int32 × Int32 × Int32 × Int32 × Int32 × t_S) ⊕ (Int32 × t_S)) :=
 if t_ix l7 3001 = true then
  some (.inl (l1, l2, l3, l4, l5, l6, (s.1 319 (l7.toNatClampNeg)), (l8 + 1), s))
else none
set_option maxRecDepth 4000 in
set_option maxHeartbeats 1000000 in
theorem B_X11_holdsRecord_55 {D : va_G} {cy : Nat → ClassId} {ad : Nat → Nat} {bs : Nat} {X : State → Heap → Prop} (l1 : Nat) (l2 : Int32) (l3 : Int32) (l4 : Int32) (l5 : Int32) (l6 : Int32) (l7 : Int32) (l8 : Int32) (s : t_S) (Q : (Nat × Int32 × Int32 × Int32 × Int32 × Int32 × Int32 × Int32 × t_S) ⊕ (Int32 × t_S) → Prop) (Hb25 : ∀ (y0 : Nat) (y1 : Int32) (y2 : Int32) (y3 : Int32) (y4 : Int32) (y5 : Int32) (y6 : Int32) (y7 : Int32) (y8 : t_S), Q (.inl (y0, y1, y2, y3, y4, y5, y6, y7, y8)) → mj_G D cy ad bs X cX11_holdsRecord 11 yX11_holdsRecord.cls (some .boolean) yX11_holdsRecord.name 1 0 0 1065 (t_P (fun v s' => ∃ x, v = some (.int x) ∧ Q (.inr ((x, s'))))) 25 [(0, .ref 316), (1, .ref (y0)), (2, .int (y1)), (3, .int (y2)), (4, .int (y3)), (5, .int (y4)), (6, .int (y5)), (7, .int (y6)), (8, .int (y7))] [] (t_m y8) 1065 0 0) (hk : t_hk (k_X11_holdsRecord_55 l1 l2 l3 l4 l5 l6 l7 l8 s) Q) : mj_G D cy ad bs X cX11_holdsRecord 11 yX11_holdsRecord.cls (some .boolean) yX11_holdsRecord.name 1 0 0 1065 (t_P (fun v s' => ∃ x, v = some (.int x) ∧ Q (.inr ((x, s'))))) 55 [(0, .ref 316), (1, .ref l1), (2, .int l2), (3, .int l3), (4, .int l4), (5, .int l5), (6, .int l6), (7, .int l7), (8, .int l8)] [] (t_m s) 1065 0 0 := by
  refine mj_aload_n dX11_holdsRecord_55 0 rfl ?_
  refine t_getR 319 dX11_holdsRecord_56 F_X11_16 qr_316_2 ?_
  refine mj_iload dX11_holdsRecord_59 7 rfl ?_
  refine t_chkK hk (fun c0 hk => ?_)
  refine t_iald dX11_holdsRecord_61 qa_319 (t_ixv c0) ?_
  refine mj_istore (lv2 := [(7, .int (s.1 319 (l7.toNatClampNeg))), (0, .ref 316), (1, .ref l1), (2, .int l2), (3, .int l3), (4, .int l4), (5, .int l5), (6, .int l6), (8, .int l8)]) dX11_holdsRecord_62 (by decide) rfl ?_
  refine mj_iinc (k := 8) (v := (l8 + 1)) (lv2 := [(8, .int (l8 + 1)), (7, .int (s.1 319 (l7.toNatClampNeg))), (0, .ref 316), (1, .ref l1), (2, .int l2), (3, .int l3), (4, .int l4), (5, .int l5), (6, .int l6)]) dX11_holdsRecord_64 rfl rfl (by decide) rfl ?_
  refine mj_goto 25 dX11_holdsRecord_67 (by decide) ?_
  refine mj_sublv [(0, .ref 316), (1, .ref l1), (2, .int l2), (3, .int l3), (4, .int l4), (5, .int l5), (6, .int l6), (7, .int (s.1 319 (l7.toNatClampNeg))), (8, .int (l8 + 1))] [2, 3, 4, 5, 6, 7, 8, 1, 0] rfl ?_
  exact t_somK hk (fun hf => Hb25 l1 l2 l3 l4 l5 l6 (s.1 319 (l7.toNatClampNeg)) (l8 + 1) s hf)
noncomputable def k_X11_holdsRecord_25 (l1 : Nat) (l2 : Int32) (l3 : Int32) (l4 : Int32) (l5 : Int32) (l6 : Int32) (l7 : Int32) (l8 : Int32) (s : t_S) : Option ((Nat × Int32 × Int32 × Int32 × Int32 × Int32 × Int32 × Int32 × t_S) ⊕ (Int32 × t_S)) :=
 if t_ix l4 3001 = true then
  if (s.1 321 (l4.toNatClampNeg)) ≤ l8 then ((k_X11_holdsRecord_70 l1 l2 l3 l4 l5 l6 s).map Sum.inr)
 else (if l7 < (0 : Int32) then ((k_X11_holdsRecord_70 l1 l2 l3 l4 l5 l6 s).map Sum.inr)
 else (if t_ix l7 3001 = true then
  if (s.1 321 (l7.toNatClampNeg)) = (0 : Int32) then (k_X11_holdsRecord_55 l1 l2 l3 l4 l5 (l6 + 1) l7 l8 s)
 else (k_X11_holdsRecord_55 l1 l2 l3 l4 l5 l6 l7 l8 s)
else none))
else none
set_option maxRecDepth 4000 in
set_option maxHeartbeats 1000000 in
theorem B_X11_holdsRecord_25 {D : va_G} {cy : Nat → ClassId} {ad : Nat → Nat} {bs : Nat} {X : State → Heap → Prop} (l1 : Nat) (l2 : Int32) (l3 : Int32) (l4 : Int32) (l5 : Int32) (l6 : Int32) (l7 : Int32) (l8 : Int32) (s : t_S) (Q : (Nat × Int32 × Int32 × Int32 × Int32 × Int32 × Int32 × Int32 × t_S) ⊕ (Int32 × t_S) → Prop) (Hb25 : ∀ (y0 : Nat) (y1 : Int32) (y2 : Int32) (y3 : Int32) (y4 : Int32) (y5 : Int32) (y6 : Int32) (y7 : Int32) (y8 : t_S), Q (.inl (y0, y1, y2, y3, y4, y5, y6, y7, y8)) → mj_G D cy ad bs X cX11_holdsRecord 11 yX11_holdsRecord.cls (some .boolean) yX11_holdsRecord.name 1 0 0 1065 (t_P (fun v s' => ∃ x, v = some (.int x) ∧ Q (.inr ((x, s'))))) 25 [(0, .ref 316), (1, .ref (y0)), (2, .int (y1)), (3, .int (y2)), (4, .int (y3)), (5, .int (y4)), (6, .int (y5)), (7, .int (y6)), (8, .int (y7))] [] (t_m y8) 1065 0 0) (hk : t_hk (k_X11_holdsRecord_25 l1 l2 l3 l4 l5 l6 l7 l8 s) Q) : mj_G D cy ad bs X cX11_holdsRecord 11 yX11_holdsRecord.cls (some .boolean) yX11_holdsRecord.name 1 0 0 1065 (t_P (fun v s' => ∃ x, v = some (.int x) ∧ Q (.inr ((x, s'))))) 25 [(0, .ref 316), (1, .ref l1), (2, .int l2), (3, .int l3), (4, .int l4), (5, .int l5), (6, .int l6), (7, .int l7), (8, .int l8)] [] (t_m s) 1065 0 0 := by
  refine mj_iload dX11_holdsRecord_25 8 rfl ?_
  refine mj_aload_n dX11_holdsRecord_27 0 rfl ?_
  refine t_getR 321 dX11_holdsRecord_28 F_X11_22 qr_316_4 ?_
  refine mj_iload dX11_holdsRecord_31 4 rfl ?_
  refine t_chkK hk (fun c0 hk => ?_)
  refine t_iald dX11_holdsRecord_33 qa_321 (t_ixv c0) ?_
  refine mj_icmp_ge 70 dX11_holdsRecord_34 (by decide) (fun z => t_posK hk z (fun hk => ?_)) (fun z => t_negK hk z (fun hk => ?_))
  · refine mj_sublv [(0, .ref 316), (1, .ref l1), (2, .int l2), (3, .int l3), (4, .int l4), (5, .int l5), (6, .int l6)] [0, 1, 2, 3, 4, 5, 6] rfl ?_
    refine t_mapK hk (fun hk => ?_)
    exact B_X11_holdsRecord_70 _ _ _ _ _ _ _ _ hk
  · refine mj_iload dX11_holdsRecord_37 7 rfl ?_
    refine mj_if_lt 70 dX11_holdsRecord_39 (by decide) (fun z => t_posK hk z (fun hk => ?_)) (fun z => t_negK hk z (fun hk => ?_))
    · refine mj_sublv [(0, .ref 316), (1, .ref l1), (2, .int l2), (3, .int l3), (4, .int l4), (5, .int l5), (6, .int l6)] [0, 1, 2, 3, 4, 5, 6] rfl ?_
      refine t_mapK hk (fun hk => ?_)
      exact B_X11_holdsRecord_70 _ _ _ _ _ _ _ _ hk
    · refine mj_aload_n dX11_holdsRecord_42 0 rfl ?_
      refine t_getR 321 dX11_holdsRecord_43 F_X11_22 qr_316_4 ?_
      refine mj_iload dX11_holdsRecord_46 7 rfl ?_
      refine t_chkK hk (fun c1 hk => ?_)
      refine t_iald dX11_holdsRecord_48 qa_321 (t_ixv c1) ?_
      refine mj_if_ne 55 dX11_holdsRecord_49 (by decide) (fun z => t_negK hk z (fun hk => ?_)) (fun z => t_posK hk z (fun hk => ?_))
      · exact B_X11_holdsRecord_55 _ _ _ _ _ _ _ _ _ _ (fun y0 y1 y2 y3 y4 y5 y6 y7 y8 hx => Hb25 y0 y1 y2 y3 y4 y5 y6 y7 y8 hx) hk
      · refine mj_iinc (k := 6) (v := (l6 + 1)) (lv2 := [(6, .int (l6 + 1)), (0, .ref 316), (1, .ref l1), (2, .int l2), (3, .int l3), (4, .int l4), (5, .int l5), (7, .int l7), (8, .int l8)]) dX11_holdsRecord_52 rfl rfl (by decide) rfl ?_
        refine mj_sublv [(0, .ref 316), (1, .ref l1), (2, .int l2), (3, .int l3), (4, .int l4), (5, .int l5), (6, .int (l6 + 1)), (7, .int l7), (8, .int l8)] [1, 2, 3, 4, 5, 6, 0, 7, 8] rfl ?_
        exact B_X11_holdsRecord_55 _ _ _ _ _ _ _ _ _ _ (fun y0 y1 y2 y3 y4 y5 y6 y7 y8 hx => Hb25 y0 y1 y2 y3 y4 y5 y6 y7 y8 hx) hk
noncomputable def b_X11_holdsRecord_25 (x : Nat × Int32 × Int32 × Int32 × Int32 × Int32 × Int32 × Int32 × t_S) : Option ((Nat × Int32 × Int32 × Int32 × Int32 × Int32 × Int32 × Int32 × t_S) ⊕ (Int32 × t_S)) := k_X11_holdsRecord_25 x.1 x.2.1 x.2.2.1 x.2.2.2.1 x.2.2.2.2.1 x.2.2.2.2.2.1 x.2.2.2.2.2.2.1 x.2.2.2.2.2.2.2.1 x.2.2.2.2.2.2.2.2
set_option maxRecDepth 4000 in
set_option maxHeartbeats 1000000 in
theorem LH_X11_holdsRecord_25 {D : va_G} {cy : Nat → ClassId} {ad : Nat → Nat} {bs : Nat} {X : State → Heap → Prop} : ∀ (n : Nat) (y0 : Nat) (y1 : Int32) (y2 : Int32) (y3 : Int32) (y4 : Int32) (y5 : Int32) (y6 : Int32) (y7 : Int32) (y8 : t_S) (Q : Int32 × t_S → Prop) (hk : t_hk (t_loop (b_X11_holdsRecord_25) n (y0, y1, y2, y3, y4, y5, y6, y7, y8)) Q), mj_G D cy ad bs X cX11_holdsRecord 11 yX11_holdsRecord.cls (some .boolean) yX11_holdsRecord.name 1 0 0 1065 (t_P (fun v s' => ∃ x, v = some (.int x) ∧ Q ((x, s')))) 25 [(0, .ref 316), (1, .ref (y0)), (2, .int (y1)), (3, .int (y2)), (4, .int (y3)), (5, .int (y4)), (6, .int (y5)), (7, .int (y6)), (8, .int (y7))] [] (t_m y8) 1065 0 0 := by
  intro n
  induction n with
  | zero => intro y0 y1 y2 y3 y4 y5 y6 y7 y8 Q hk; obtain ⟨r, hr, _⟩ := hk; cases hr
  | succ n ih =>
    intro y0 y1 y2 y3 y4 y5 y6 y7 y8 Q hk
    exact B_X11_holdsRecord_25 y0 y1 y2 y3 y4 y5 y6 y7 y8 (fun y => t_lq (b_X11_holdsRecord_25) n Q y) (fun y0' y1' y2' y3' y4' y5' y6' y7' y8' hy => ih y0' y1' y2' y3' y4' y5' y6' y7' y8' Q hy) (t_lp hk)
noncomputable def f_X11_holdsRecord (x1 : Nat) (x2 : Int32) (x3 : Int32) (x4 : Int32) (s : t_S) : Option (Int32 × t_S) :=
 if t_oka x1 2 (t_ln x1) = true then
  if t_ix (x2 + x3) (t_ln x1) = true then
  if t_ix x4 3001 = true then
  t_loop (b_X11_holdsRecord_25) t_N (x1, x2, x3, x4, (f_X8_partsOf (s.2.1 x1 ((x2 + x3).toNatClampNeg)) s), 0, (s.1 318 (x4.toNatClampNeg)), 0, s)
else none
else none
else none
set_option maxRecDepth 4000 in
set_option maxHeartbeats 1000000 in
theorem C_X11_holdsRecord (x1 : Nat) (x2 : Int32) (x3 : Int32) (x4 : Int32) (s : t_S) (r : Int32 × t_S) (hr : f_X11_holdsRecord x1 x2 x3 x4 s = some r) : t_C yX11_holdsRecord cX11_holdsRecord 11 (some .boolean) 1 [.ref 316, .ref x1, .int x2, .int x3, .int x4] s (fun v s' => v = some (.int r.1) ∧ s' = r.2) := by
  refine t_C.imp (P := fun v s' => ∃ x, v = some (.int x) ∧ (fun q => q = r) ((x, s'))) (t_C.of (by decide +kernel) (Nat.le_of_ble_eq_true rfl) ?_) (fun v s' hp => by obtain ⟨x, rfl, rfl⟩ := hp; exact ⟨rfl, rfl⟩)
  intro D cy ad bs X
  have hk : t_hk (f_X11_holdsRecord x1 x2 x3 x4 s) (fun q => q = r) := ⟨r, hr, rfl⟩
  show mj_G D cy ad bs X cX11_holdsRecord 11 yX11_holdsRecord.cls (some .boolean) yX11_holdsRecord.name 1 0 0 1065 (t_P (fun v s' => ∃ x, v = some (.int x) ∧ (fun q => q = r) ((x, s')))) 0 [(0, .ref 316), (1, .ref x1), (2, .int x2), (3, .int x3), (4, .int x4)] [] (t_m s) 1065 0 0
  refine mj_aload_n dX11_holdsRecord_0 1 rfl ?_
  refine mj_iload_n dX11_holdsRecord_1 2 rfl ?_
  refine mj_iload_n dX11_holdsRecord_2 3 rfl ?_
  refine mj_iadd dX11_holdsRecord_3 ?_
  refine t_chkK hk (fun c0 hk => ?_)
  refine t_chkK hk (fun c1 hk => ?_)
  refine t_lald dX11_holdsRecord_4 c0 (t_ixv c1) ?_
  refine t_callSiP dX11_holdsRecord_5 M_X8_partsOf (C_X8_partsOf _ _) ML_X11_142 SM_X8_partsOf (As := [.long (s.2.1 x1 ((x2 + x3).toNatClampNeg))]) rfl rfl (Nat.le_of_ble_eq_true rfl) (Nat.le_of_ble_eq_true rfl) (Nat.le_of_ble_eq_true rfl) (Nat.le_of_ble_eq_true rfl) ?_
  refine mj_istore (lv2 := [(5, .int (f_X8_partsOf (s.2.1 x1 ((x2 + x3).toNatClampNeg)) s)), (0, .ref 316), (1, .ref x1), (2, .int x2), (3, .int x3), (4, .int x4)]) dX11_holdsRecord_8 (by decide) rfl ?_
  refine mj_iconst (v := 0) dX11_holdsRecord_10 (by decide) ?_
  refine mj_istore (lv2 := [(6, .int 0), (5, .int (f_X8_partsOf (s.2.1 x1 ((x2 + x3).toNatClampNeg)) s)), (0, .ref 316), (1, .ref x1), (2, .int x2), (3, .int x3), (4, .int x4)]) dX11_holdsRecord_11 (by decide) rfl ?_
  refine mj_aload_n dX11_holdsRecord_13 2 rfl ?_
  refine t_getR 318 dX11_holdsRecord_14 F_X11_13 qr_316_1 ?_
  refine mj_iload dX11_holdsRecord_17 6 rfl ?_
  refine t_chkK hk (fun c3 hk => ?_)
  refine t_iald dX11_holdsRecord_19 qa_318 (t_ixv c3) ?_
  refine mj_istore (lv2 := [(7, .int (s.1 318 (x4.toNatClampNeg))), (6, .int 0), (5, .int (f_X8_partsOf (s.2.1 x1 ((x2 + x3).toNatClampNeg)) s)), (0, .ref 316), (1, .ref x1), (2, .int x2), (3, .int x3), (4, .int x4)]) dX11_holdsRecord_20 (by decide) rfl ?_
  refine mj_iconst (v := 0) dX11_holdsRecord_22 (by decide) ?_
  refine mj_istore (lv2 := [(8, .int 0), (7, .int (s.1 318 (x4.toNatClampNeg))), (6, .int 0), (5, .int (f_X8_partsOf (s.2.1 x1 ((x2 + x3).toNatClampNeg)) s)), (0, .ref 316), (1, .ref x1), (2, .int x2), (3, .int x3), (4, .int x4)]) dX11_holdsRecord_23 (by decide) rfl ?_
  refine mj_sublv [(0, .ref 316), (1, .ref x1), (2, .int x2), (3, .int x3), (4, .int x4), (5, .int (f_X8_partsOf (s.2.1 x1 ((x2 + x3).toNatClampNeg)) s)), (6, .int 0), (7, .int (s.1 318 (x4.toNatClampNeg))), (8, .int 0)] [4, 5, 6, 7, 8, 3, 2, 1, 0] rfl ?_
  exact LH_X11_holdsRecord_25 _ x1 x2 x3 x4 (f_X8_partsOf (s.2.1 x1 ((x2 + x3).toNatClampNeg)) s) 0 (s.1 318 (x4.toNatClampNeg)) 0 s _ hk

theorem dX11_inRanges_0 : decode cX11_inRanges 0 = .ok (.aload_n 0, 1) := by decide +kernel
theorem dX11_inRanges_1 : decode cX11_inRanges 1 = .ok (.getfield 22, 3) := by decide +kernel
theorem dX11_inRanges_10 : decode cX11_inRanges 10 = .ok (.aload_n 0, 1) := by decide +kernel
theorem dX11_inRanges_102 : decode cX11_inRanges 102 = .ok (.goto (-54), 3) := by decide +kernel
theorem dX11_inRanges_105 : decode cX11_inRanges 105 = .ok (.iconst 0, 1) := by decide +kernel
theorem dX11_inRanges_106 : decode cX11_inRanges 106 = .ok (.ireturn, 1) := by decide +kernel
theorem dX11_inRanges_11 : decode cX11_inRanges 11 = .ok (.getfield 25, 3) := by decide +kernel
theorem dX11_inRanges_14 : decode cX11_inRanges 14 = .ok (.iload_n 1, 1) := by decide +kernel
theorem dX11_inRanges_15 : decode cX11_inRanges 15 = .ok (.laload, 1) := by decide +kernel
theorem dX11_inRanges_16 : decode cX11_inRanges 16 = .ok (.lcmp, 1) := by decide +kernel
theorem dX11_inRanges_17 : decode cX11_inRanges 17 = .ok (.ifCond .lt 18, 3) := by decide +kernel
theorem dX11_inRanges_20 : decode cX11_inRanges 20 = .ok (.lload_n 2, 1) := by decide +kernel
theorem dX11_inRanges_21 : decode cX11_inRanges 21 = .ok (.aload_n 0, 1) := by decide +kernel
theorem dX11_inRanges_22 : decode cX11_inRanges 22 = .ok (.getfield 29, 3) := by decide +kernel
theorem dX11_inRanges_25 : decode cX11_inRanges 25 = .ok (.iload_n 1, 1) := by decide +kernel
theorem dX11_inRanges_26 : decode cX11_inRanges 26 = .ok (.laload, 1) := by decide +kernel
theorem dX11_inRanges_27 : decode cX11_inRanges 27 = .ok (.lcmp, 1) := by decide +kernel
theorem dX11_inRanges_28 : decode cX11_inRanges 28 = .ok (.ifCond .gt 7, 3) := by decide +kernel
theorem dX11_inRanges_31 : decode cX11_inRanges 31 = .ok (.iconst 1, 1) := by decide +kernel
theorem dX11_inRanges_32 : decode cX11_inRanges 32 = .ok (.goto 4, 3) := by decide +kernel
theorem dX11_inRanges_35 : decode cX11_inRanges 35 = .ok (.iconst 0, 1) := by decide +kernel
theorem dX11_inRanges_36 : decode cX11_inRanges 36 = .ok (.ireturn, 1) := by decide +kernel
theorem dX11_inRanges_37 : decode cX11_inRanges 37 = .ok (.aload_n 0, 1) := by decide +kernel
theorem dX11_inRanges_38 : decode cX11_inRanges 38 = .ok (.getfield 13, 3) := by decide +kernel
theorem dX11_inRanges_4 : decode cX11_inRanges 4 = .ok (.iload_n 1, 1) := by decide +kernel
theorem dX11_inRanges_41 : decode cX11_inRanges 41 = .ok (.iload_n 1, 1) := by decide +kernel
theorem dX11_inRanges_42 : decode cX11_inRanges 42 = .ok (.iaload, 1) := by decide +kernel
theorem dX11_inRanges_43 : decode cX11_inRanges 43 = .ok (.istore 4, 2) := by decide +kernel
theorem dX11_inRanges_45 : decode cX11_inRanges 45 = .ok (.iconst 0, 1) := by decide +kernel
theorem dX11_inRanges_46 : decode cX11_inRanges 46 = .ok (.istore 5, 2) := by decide +kernel
theorem dX11_inRanges_48 : decode cX11_inRanges 48 = .ok (.iload 5, 2) := by decide +kernel
theorem dX11_inRanges_5 : decode cX11_inRanges 5 = .ok (.iaload, 1) := by decide +kernel
theorem dX11_inRanges_50 : decode cX11_inRanges 50 = .ok (.aload_n 0, 1) := by decide +kernel
theorem dX11_inRanges_51 : decode cX11_inRanges 51 = .ok (.getfield 22, 3) := by decide +kernel
theorem dX11_inRanges_54 : decode cX11_inRanges 54 = .ok (.iload_n 1, 1) := by decide +kernel
theorem dX11_inRanges_55 : decode cX11_inRanges 55 = .ok (.iaload, 1) := by decide +kernel
theorem dX11_inRanges_56 : decode cX11_inRanges 56 = .ok (.if_icmp .ge 49, 3) := by decide +kernel
theorem dX11_inRanges_59 : decode cX11_inRanges 59 = .ok (.iload 4, 2) := by decide +kernel
theorem dX11_inRanges_6 : decode cX11_inRanges 6 = .ok (.ifCond .ne 31, 3) := by decide +kernel
theorem dX11_inRanges_61 : decode cX11_inRanges 61 = .ok (.ifCond .lt 44, 3) := by decide +kernel
theorem dX11_inRanges_64 : decode cX11_inRanges 64 = .ok (.lload_n 2, 1) := by decide +kernel
theorem dX11_inRanges_65 : decode cX11_inRanges 65 = .ok (.aload_n 0, 1) := by decide +kernel
theorem dX11_inRanges_66 : decode cX11_inRanges 66 = .ok (.getfield 25, 3) := by decide +kernel
theorem dX11_inRanges_69 : decode cX11_inRanges 69 = .ok (.iload 4, 2) := by decide +kernel
theorem dX11_inRanges_71 : decode cX11_inRanges 71 = .ok (.laload, 1) := by decide +kernel
theorem dX11_inRanges_72 : decode cX11_inRanges 72 = .ok (.lcmp, 1) := by decide +kernel
theorem dX11_inRanges_73 : decode cX11_inRanges 73 = .ok (.ifCond .lt 17, 3) := by decide +kernel
theorem dX11_inRanges_76 : decode cX11_inRanges 76 = .ok (.lload_n 2, 1) := by decide +kernel
theorem dX11_inRanges_77 : decode cX11_inRanges 77 = .ok (.aload_n 0, 1) := by decide +kernel
theorem dX11_inRanges_78 : decode cX11_inRanges 78 = .ok (.getfield 29, 3) := by decide +kernel
theorem dX11_inRanges_81 : decode cX11_inRanges 81 = .ok (.iload 4, 2) := by decide +kernel
theorem dX11_inRanges_83 : decode cX11_inRanges 83 = .ok (.laload, 1) := by decide +kernel
theorem dX11_inRanges_84 : decode cX11_inRanges 84 = .ok (.lcmp, 1) := by decide +kernel
theorem dX11_inRanges_85 : decode cX11_inRanges 85 = .ok (.ifCond .gt 5, 3) := by decide +kernel
theorem dX11_inRanges_88 : decode cX11_inRanges 88 = .ok (.iconst 1, 1) := by decide +kernel
theorem dX11_inRanges_89 : decode cX11_inRanges 89 = .ok (.ireturn, 1) := by decide +kernel
theorem dX11_inRanges_9 : decode cX11_inRanges 9 = .ok (.lload_n 2, 1) := by decide +kernel
theorem dX11_inRanges_90 : decode cX11_inRanges 90 = .ok (.aload_n 0, 1) := by decide +kernel
theorem dX11_inRanges_91 : decode cX11_inRanges 91 = .ok (.getfield 16, 3) := by decide +kernel
theorem dX11_inRanges_94 : decode cX11_inRanges 94 = .ok (.iload 4, 2) := by decide +kernel
theorem dX11_inRanges_96 : decode cX11_inRanges 96 = .ok (.iaload, 1) := by decide +kernel
theorem dX11_inRanges_97 : decode cX11_inRanges 97 = .ok (.istore 4, 2) := by decide +kernel
theorem dX11_inRanges_99 : decode cX11_inRanges 99 = .ok (.iinc 5 1, 3) := by decide +kernel
noncomputable def k_X11_inRanges_90 (l1 : Int32) (l2 : Int64) (l4 : Int32) (l5 : Int32) (s : t_S) : Option ((Int32 × Int64 × Int32 × Int32) ⊕ (Int32)) :=
 if t_ix l4 3001 = true then
  some (.inl (l1, l2, (s.1 319 (l4.toNatClampNeg)), (l5 + 1)))
else none
set_option maxRecDepth 4000 in
set_option maxHeartbeats 1000000 in
theorem B_X11_inRanges_90 {D : va_G} {cy : Nat → ClassId} {ad : Nat → Nat} {bs : Nat} {X : State → Heap → Prop} (l1 : Int32) (l2 : Int64) (l4 : Int32) (l5 : Int32) (s : t_S) (Q : (Int32 × Int64 × Int32 × Int32) ⊕ (Int32) → Prop) (Hb48 : ∀ (y0 : Int32) (y1 : Int64) (y2 : Int32) (y3 : Int32), Q (.inl (y0, y1, y2, y3)) → mj_G D cy ad bs X cX11_inRanges 6 yX11_inRanges.cls (some .boolean) yX11_inRanges.name 0 0 0 1065 (t_P (fun v s' => s' = s ∧ ∃ x, v = some (.int x) ∧ Q (.inr (x)))) 48 [(0, .ref 316), (1, .int (y0)), (2, .long (y1)), (4, .int (y2)), (5, .int (y3))] [] (t_m s) 1065 0 0) (hk : t_hk (k_X11_inRanges_90 l1 l2 l4 l5 s) Q) : mj_G D cy ad bs X cX11_inRanges 6 yX11_inRanges.cls (some .boolean) yX11_inRanges.name 0 0 0 1065 (t_P (fun v s' => s' = s ∧ ∃ x, v = some (.int x) ∧ Q (.inr (x)))) 90 [(0, .ref 316), (1, .int l1), (2, .long l2), (4, .int l4), (5, .int l5)] [] (t_m s) 1065 0 0 := by
  refine mj_aload_n dX11_inRanges_90 0 rfl ?_
  refine t_getR 319 dX11_inRanges_91 F_X11_16 qr_316_2 ?_
  refine mj_iload dX11_inRanges_94 3 rfl ?_
  refine t_chkK hk (fun c0 hk => ?_)
  refine t_iald dX11_inRanges_96 qa_319 (t_ixv c0) ?_
  refine mj_istore (lv2 := [(4, .int (s.1 319 (l4.toNatClampNeg))), (0, .ref 316), (1, .int l1), (2, .long l2), (5, .int l5)]) dX11_inRanges_97 (by decide) rfl ?_
  refine mj_iinc (k := 4) (v := (l5 + 1)) (lv2 := [(5, .int (l5 + 1)), (4, .int (s.1 319 (l4.toNatClampNeg))), (0, .ref 316), (1, .int l1), (2, .long l2)]) dX11_inRanges_99 rfl rfl (by decide) rfl ?_
  refine mj_goto 48 dX11_inRanges_102 (by decide) ?_
  refine mj_sublv [(0, .ref 316), (1, .int l1), (2, .long l2), (4, .int (s.1 319 (l4.toNatClampNeg))), (5, .int (l5 + 1))] [2, 3, 4, 1, 0] rfl ?_
  exact t_somK hk (fun hf => Hb48 l1 l2 (s.1 319 (l4.toNatClampNeg)) (l5 + 1) hf)
noncomputable def k_X11_inRanges_48 (l1 : Int32) (l2 : Int64) (l4 : Int32) (l5 : Int32) (s : t_S) : Option ((Int32 × Int64 × Int32 × Int32) ⊕ (Int32)) :=
 if t_ix l1 3001 = true then
  if (s.1 321 (l1.toNatClampNeg)) ≤ l5 then ((some (0 : Int32)).map Sum.inr)
 else (if l4 < (0 : Int32) then ((some (0 : Int32)).map Sum.inr)
 else (if t_ix l4 3001 = true then
  if (lg_cmp l2 (s.2.1 322 (l4.toNatClampNeg))) < (0 : Int32) then (k_X11_inRanges_90 l1 l2 l4 l5 s)
 else (if (0 : Int32) < (lg_cmp l2 (s.2.1 323 (l4.toNatClampNeg))) then (k_X11_inRanges_90 l1 l2 l4 l5 s)
 else ((some (1 : Int32)).map Sum.inr))
else none))
else none
set_option maxRecDepth 4000 in
set_option maxHeartbeats 1000000 in
theorem B_X11_inRanges_48 {D : va_G} {cy : Nat → ClassId} {ad : Nat → Nat} {bs : Nat} {X : State → Heap → Prop} (l1 : Int32) (l2 : Int64) (l4 : Int32) (l5 : Int32) (s : t_S) (Q : (Int32 × Int64 × Int32 × Int32) ⊕ (Int32) → Prop) (Hb48 : ∀ (y0 : Int32) (y1 : Int64) (y2 : Int32) (y3 : Int32), Q (.inl (y0, y1, y2, y3)) → mj_G D cy ad bs X cX11_inRanges 6 yX11_inRanges.cls (some .boolean) yX11_inRanges.name 0 0 0 1065 (t_P (fun v s' => s' = s ∧ ∃ x, v = some (.int x) ∧ Q (.inr (x)))) 48 [(0, .ref 316), (1, .int (y0)), (2, .long (y1)), (4, .int (y2)), (5, .int (y3))] [] (t_m s) 1065 0 0) (hk : t_hk (k_X11_inRanges_48 l1 l2 l4 l5 s) Q) : mj_G D cy ad bs X cX11_inRanges 6 yX11_inRanges.cls (some .boolean) yX11_inRanges.name 0 0 0 1065 (t_P (fun v s' => s' = s ∧ ∃ x, v = some (.int x) ∧ Q (.inr (x)))) 48 [(0, .ref 316), (1, .int l1), (2, .long l2), (4, .int l4), (5, .int l5)] [] (t_m s) 1065 0 0 := by
  refine mj_iload dX11_inRanges_48 4 rfl ?_
  refine mj_aload_n dX11_inRanges_50 0 rfl ?_
  refine t_getR 321 dX11_inRanges_51 F_X11_22 qr_316_4 ?_
  refine mj_iload_n dX11_inRanges_54 1 rfl ?_
  refine t_chkK hk (fun c0 hk => ?_)
  refine t_iald dX11_inRanges_55 qa_321 (t_ixv c0) ?_
  refine mj_icmp_ge 105 dX11_inRanges_56 (by decide) (fun z => t_posK hk z (fun hk => ?_)) (fun z => t_negK hk z (fun hk => ?_))
  · refine t_mapK hk (fun hk => ?_)
    refine mj_iconst (v := 0) dX11_inRanges_105 (by decide) ?_
    exact t_somK hk (fun hf => t_iret dX11_inRanges_106 rfl (by decide) ⟨rfl, _, rfl, hf⟩ (Nat.le_of_ble_eq_true rfl) (Nat.le_of_ble_eq_true rfl))
  · refine mj_iload dX11_inRanges_59 3 rfl ?_
    refine mj_if_lt 105 dX11_inRanges_61 (by decide) (fun z => t_posK hk z (fun hk => ?_)) (fun z => t_negK hk z (fun hk => ?_))
    · refine t_mapK hk (fun hk => ?_)
      refine mj_iconst (v := 0) dX11_inRanges_105 (by decide) ?_
      exact t_somK hk (fun hf => t_iret dX11_inRanges_106 rfl (by decide) ⟨rfl, _, rfl, hf⟩ (Nat.le_of_ble_eq_true rfl) (Nat.le_of_ble_eq_true rfl))
    · refine mj_lload_n dX11_inRanges_64 2 rfl ?_
      refine mj_aload_n dX11_inRanges_65 0 rfl ?_
      refine t_getR 322 dX11_inRanges_66 F_X11_25 qr_316_5 ?_
      refine mj_iload dX11_inRanges_69 3 rfl ?_
      refine t_chkK hk (fun c1 hk => ?_)
      refine t_lald dX11_inRanges_71 qa_322 (t_ixv c1) ?_
      refine mj_lcmp dX11_inRanges_72 ?_
      refine mj_if_lt 90 dX11_inRanges_73 (by decide) (fun z => t_posK hk z (fun hk => ?_)) (fun z => t_negK hk z (fun hk => ?_))
      · exact B_X11_inRanges_90 _ _ _ _ _ _ (fun y0 y1 y2 y3 hx => Hb48 y0 y1 y2 y3 hx) hk
      · refine mj_lload_n dX11_inRanges_76 2 rfl ?_
        refine mj_aload_n dX11_inRanges_77 0 rfl ?_
        refine t_getR 323 dX11_inRanges_78 F_X11_29 qr_316_6 ?_
        refine mj_iload dX11_inRanges_81 3 rfl ?_
        refine t_lald dX11_inRanges_83 qa_323 (t_ixv c1) ?_
        refine mj_lcmp dX11_inRanges_84 ?_
        refine mj_if_gt 90 dX11_inRanges_85 (by decide) (fun z => t_posK hk z (fun hk => ?_)) (fun z => t_negK hk z (fun hk => ?_))
        · exact B_X11_inRanges_90 _ _ _ _ _ _ (fun y0 y1 y2 y3 hx => Hb48 y0 y1 y2 y3 hx) hk
        · refine t_mapK hk (fun hk => ?_)
          refine mj_iconst (v := 1) dX11_inRanges_88 (by decide) ?_
          exact t_somK hk (fun hf => t_iret dX11_inRanges_89 rfl (by decide) ⟨rfl, _, rfl, hf⟩ (Nat.le_of_ble_eq_true rfl) (Nat.le_of_ble_eq_true rfl))
noncomputable def b_X11_inRanges_48 (s : t_S) (x : Int32 × Int64 × Int32 × Int32) : Option ((Int32 × Int64 × Int32 × Int32) ⊕ (Int32)) := k_X11_inRanges_48 x.1 x.2.1 x.2.2.1 x.2.2.2 s
set_option maxRecDepth 4000 in
set_option maxHeartbeats 1000000 in
theorem LH_X11_inRanges_48 {D : va_G} {cy : Nat → ClassId} {ad : Nat → Nat} {bs : Nat} {X : State → Heap → Prop} (s : t_S) : ∀ (n : Nat) (y0 : Int32) (y1 : Int64) (y2 : Int32) (y3 : Int32) (Q : Int32 → Prop) (hk : t_hk (t_loop (b_X11_inRanges_48 s) n (y0, y1, y2, y3)) Q), mj_G D cy ad bs X cX11_inRanges 6 yX11_inRanges.cls (some .boolean) yX11_inRanges.name 0 0 0 1065 (t_P (fun v s' => s' = s ∧ ∃ x, v = some (.int x) ∧ Q (x))) 48 [(0, .ref 316), (1, .int (y0)), (2, .long (y1)), (4, .int (y2)), (5, .int (y3))] [] (t_m s) 1065 0 0 := by
  intro n
  induction n with
  | zero => intro y0 y1 y2 y3 Q hk; obtain ⟨r, hr, _⟩ := hk; cases hr
  | succ n ih =>
    intro y0 y1 y2 y3 Q hk
    exact B_X11_inRanges_48 y0 y1 y2 y3 s (fun y => t_lq (b_X11_inRanges_48 s) n Q y) (fun y0' y1' y2' y3' hy => ih y0' y1' y2' y3' Q hy) (t_lp hk)
noncomputable def f_X11_inRanges (x1 : Int32) (x2 : Int64) (s : t_S) : Option (Int32) :=
 if t_ix x1 3001 = true then
  if (s.1 321 (x1.toNatClampNeg)) = (0 : Int32) then (if (lg_cmp x2 (s.2.1 322 (x1.toNatClampNeg))) < (0 : Int32) then (some (0 : Int32))
 else (if (0 : Int32) < (lg_cmp x2 (s.2.1 323 (x1.toNatClampNeg))) then (some (0 : Int32))
 else (some (1 : Int32))))
 else (t_loop (b_X11_inRanges_48 s) t_N (x1, x2, (s.1 318 (x1.toNatClampNeg)), 0))
else none
set_option maxRecDepth 4000 in
set_option maxHeartbeats 1000000 in
theorem C_X11_inRanges (x1 : Int32) (x2 : Int64) (s : t_S) (r : Int32) (hr : f_X11_inRanges x1 x2 s = some r) : t_C yX11_inRanges cX11_inRanges 6 (some .boolean) 0 [.ref 316, .int x1, .long x2] s (fun v s' => v = some (.int r) ∧ s' = s) := by
  refine t_C.imp (P := fun v s' => s' = s ∧ ∃ x, v = some (.int x) ∧ (fun q => q = r) (x)) (t_C.of (by decide +kernel) (Nat.le_of_ble_eq_true rfl) ?_) (fun v s' hp => by obtain ⟨rfl, x, rfl, rfl⟩ := hp; exact ⟨rfl, rfl⟩)
  intro D cy ad bs X
  have hk : t_hk (f_X11_inRanges x1 x2 s) (fun q => q = r) := ⟨r, hr, rfl⟩
  show mj_G D cy ad bs X cX11_inRanges 6 yX11_inRanges.cls (some .boolean) yX11_inRanges.name 0 0 0 1065 (t_P (fun v s' => s' = s ∧ ∃ x, v = some (.int x) ∧ (fun q => q = r) (x))) 0 [(0, .ref 316), (1, .int x1), (2, .long x2)] [] (t_m s) 1065 0 0
  refine mj_aload_n dX11_inRanges_0 0 rfl ?_
  refine t_getR 321 dX11_inRanges_1 F_X11_22 qr_316_4 ?_
  refine mj_iload_n dX11_inRanges_4 1 rfl ?_
  refine t_chkK hk (fun c0 hk => ?_)
  refine t_iald dX11_inRanges_5 qa_321 (t_ixv c0) ?_
  refine mj_if_ne 37 dX11_inRanges_6 (by decide) (fun z => t_negK hk z (fun hk => ?_)) (fun z => t_posK hk z (fun hk => ?_))
  · refine mj_aload_n dX11_inRanges_37 0 rfl ?_
    refine t_getR 318 dX11_inRanges_38 F_X11_13 qr_316_1 ?_
    refine mj_iload_n dX11_inRanges_41 1 rfl ?_
    refine t_iald dX11_inRanges_42 qa_318 (t_ixv c0) ?_
    refine mj_istore (lv2 := [(4, .int (s.1 318 (x1.toNatClampNeg))), (0, .ref 316), (1, .int x1), (2, .long x2)]) dX11_inRanges_43 (by decide) rfl ?_
    refine mj_iconst (v := 0) dX11_inRanges_45 (by decide) ?_
    refine mj_istore (lv2 := [(5, .int 0), (4, .int (s.1 318 (x1.toNatClampNeg))), (0, .ref 316), (1, .int x1), (2, .long x2)]) dX11_inRanges_46 (by decide) rfl ?_
    refine mj_sublv [(0, .ref 316), (1, .int x1), (2, .long x2), (4, .int (s.1 318 (x1.toNatClampNeg))), (5, .int 0)] [2, 3, 4, 1, 0] rfl ?_
    exact LH_X11_inRanges_48 _ _ x1 x2 (s.1 318 (x1.toNatClampNeg)) 0 _ hk
  · refine mj_lload_n dX11_inRanges_9 2 rfl ?_
    refine mj_aload_n dX11_inRanges_10 0 rfl ?_
    refine t_getR 322 dX11_inRanges_11 F_X11_25 qr_316_5 ?_
    refine mj_iload_n dX11_inRanges_14 1 rfl ?_
    refine t_lald dX11_inRanges_15 qa_322 (t_ixv c0) ?_
    refine mj_lcmp dX11_inRanges_16 ?_
    refine mj_if_lt 35 dX11_inRanges_17 (by decide) (fun z => t_posK hk z (fun hk => ?_)) (fun z => t_negK hk z (fun hk => ?_))
    · refine mj_iconst (v := 0) dX11_inRanges_35 (by decide) ?_
      exact t_somK hk (fun hf => t_iret dX11_inRanges_36 rfl (by decide) ⟨rfl, _, rfl, hf⟩ (Nat.le_of_ble_eq_true rfl) (Nat.le_of_ble_eq_true rfl))
    · refine mj_lload_n dX11_inRanges_20 2 rfl ?_
      refine mj_aload_n dX11_inRanges_21 0 rfl ?_
      refine t_getR 323 dX11_inRanges_22 F_X11_29 qr_316_6 ?_
      refine mj_iload_n dX11_inRanges_25 1 rfl ?_
      refine t_lald dX11_inRanges_26 qa_323 (t_ixv c0) ?_
      refine mj_lcmp dX11_inRanges_27 ?_
      refine mj_if_gt 35 dX11_inRanges_28 (by decide) (fun z => t_posK hk z (fun hk => ?_)) (fun z => t_negK hk z (fun hk => ?_))
      · refine mj_iconst (v := 0) dX11_inRanges_35 (by decide) ?_
        exact t_somK hk (fun hf => t_iret dX11_inRanges_36 rfl (by decide) ⟨rfl, _, rfl, hf⟩ (Nat.le_of_ble_eq_true rfl) (Nat.le_of_ble_eq_true rfl))
      · refine mj_iconst (v := 1) dX11_inRanges_31 (by decide) ?_
        refine mj_goto 36 dX11_inRanges_32 (by decide) ?_
        exact t_somK hk (fun hf => t_iret dX11_inRanges_36 rfl (by decide) ⟨rfl, _, rfl, hf⟩ (Nat.le_of_ble_eq_true rfl) (Nat.le_of_ble_eq_true rfl))

theorem dX11_memberOf_0 : decode cX11_memberOf 0 = .ok (.iconst 0, 1) := by decide +kernel
theorem dX11_memberOf_1 : decode cX11_memberOf 1 = .ok (.istore_n 3, 1) := by decide +kernel
theorem dX11_memberOf_12 : decode cX11_memberOf 12 = .ok (.aload_n 0, 1) := by decide +kernel
theorem dX11_memberOf_13 : decode cX11_memberOf 13 = .ok (.getfield 35, 3) := by decide +kernel
theorem dX11_memberOf_16 : decode cX11_memberOf 16 = .ok (.aload_n 0, 1) := by decide +kernel
theorem dX11_memberOf_17 : decode cX11_memberOf 17 = .ok (.getfield 13, 3) := by decide +kernel
theorem dX11_memberOf_2 : decode cX11_memberOf 2 = .ok (.iload_n 3, 1) := by decide +kernel
theorem dX11_memberOf_20 : decode cX11_memberOf 20 = .ok (.iload_n 1, 1) := by decide +kernel
theorem dX11_memberOf_21 : decode cX11_memberOf 21 = .ok (.iaload, 1) := by decide +kernel
theorem dX11_memberOf_22 : decode cX11_memberOf 22 = .ok (.iload_n 3, 1) := by decide +kernel
theorem dX11_memberOf_23 : decode cX11_memberOf 23 = .ok (.iadd, 1) := by decide +kernel
theorem dX11_memberOf_24 : decode cX11_memberOf 24 = .ok (.iaload, 1) := by decide +kernel
theorem dX11_memberOf_25 : decode cX11_memberOf 25 = .ok (.iload_n 2, 1) := by decide +kernel
theorem dX11_memberOf_26 : decode cX11_memberOf 26 = .ok (.if_icmp .ne 5, 3) := by decide +kernel
theorem dX11_memberOf_29 : decode cX11_memberOf 29 = .ok (.iload_n 3, 1) := by decide +kernel
theorem dX11_memberOf_3 : decode cX11_memberOf 3 = .ok (.aload_n 0, 1) := by decide +kernel
theorem dX11_memberOf_30 : decode cX11_memberOf 30 = .ok (.ireturn, 1) := by decide +kernel
theorem dX11_memberOf_31 : decode cX11_memberOf 31 = .ok (.iinc 3 1, 3) := by decide +kernel
theorem dX11_memberOf_34 : decode cX11_memberOf 34 = .ok (.goto (-32), 3) := by decide +kernel
theorem dX11_memberOf_37 : decode cX11_memberOf 37 = .ok (.iconst (-1), 1) := by decide +kernel
theorem dX11_memberOf_38 : decode cX11_memberOf 38 = .ok (.ireturn, 1) := by decide +kernel
theorem dX11_memberOf_4 : decode cX11_memberOf 4 = .ok (.getfield 22, 3) := by decide +kernel
theorem dX11_memberOf_7 : decode cX11_memberOf 7 = .ok (.iload_n 1, 1) := by decide +kernel
theorem dX11_memberOf_8 : decode cX11_memberOf 8 = .ok (.iaload, 1) := by decide +kernel
theorem dX11_memberOf_9 : decode cX11_memberOf 9 = .ok (.if_icmp .ge 28, 3) := by decide +kernel
noncomputable def k_X11_memberOf_2 (l1 : Int32) (l2 : Int32) (l3 : Int32) (s : t_S) : Option ((Int32 × Int32 × Int32) ⊕ (Int32)) :=
 if t_ix l1 3001 = true then
  if (s.1 321 (l1.toNatClampNeg)) ≤ l3 then ((some (-1 : Int32)).map Sum.inr)
 else (if t_ix ((s.1 318 (l1.toNatClampNeg)) + l3) 6002 = true then
  if (s.1 325 (((s.1 318 (l1.toNatClampNeg)) + l3).toNatClampNeg)) = l2 then ((some (l3)).map Sum.inr)
 else (some (.inl (l1, l2, (l3 + 1))))
else none)
else none
set_option maxRecDepth 4000 in
set_option maxHeartbeats 1000000 in
theorem B_X11_memberOf_2 {D : va_G} {cy : Nat → ClassId} {ad : Nat → Nat} {bs : Nat} {X : State → Heap → Prop} (l1 : Int32) (l2 : Int32) (l3 : Int32) (s : t_S) (Q : (Int32 × Int32 × Int32) ⊕ (Int32) → Prop) (Hb2 : ∀ (y0 : Int32) (y1 : Int32) (y2 : Int32), Q (.inl (y0, y1, y2)) → mj_G D cy ad bs X cX11_memberOf 4 yX11_memberOf.cls (some .int) yX11_memberOf.name 0 0 0 1065 (t_P (fun v s' => s' = s ∧ ∃ x, v = some (.int x) ∧ Q (.inr (x)))) 2 [(0, .ref 316), (1, .int (y0)), (2, .int (y1)), (3, .int (y2))] [] (t_m s) 1065 0 0) (hk : t_hk (k_X11_memberOf_2 l1 l2 l3 s) Q) : mj_G D cy ad bs X cX11_memberOf 4 yX11_memberOf.cls (some .int) yX11_memberOf.name 0 0 0 1065 (t_P (fun v s' => s' = s ∧ ∃ x, v = some (.int x) ∧ Q (.inr (x)))) 2 [(0, .ref 316), (1, .int l1), (2, .int l2), (3, .int l3)] [] (t_m s) 1065 0 0 := by
  refine mj_iload_n dX11_memberOf_2 3 rfl ?_
  refine mj_aload_n dX11_memberOf_3 0 rfl ?_
  refine t_getR 321 dX11_memberOf_4 F_X11_22 qr_316_4 ?_
  refine mj_iload_n dX11_memberOf_7 1 rfl ?_
  refine t_chkK hk (fun c0 hk => ?_)
  refine t_iald dX11_memberOf_8 qa_321 (t_ixv c0) ?_
  refine mj_icmp_ge 37 dX11_memberOf_9 (by decide) (fun z => t_posK hk z (fun hk => ?_)) (fun z => t_negK hk z (fun hk => ?_))
  · refine t_mapK hk (fun hk => ?_)
    refine mj_iconst (v := (-1)) dX11_memberOf_37 (by decide) ?_
    exact t_somK hk (fun hf => t_iret dX11_memberOf_38 rfl rfl ⟨rfl, _, rfl, hf⟩ (Nat.le_of_ble_eq_true rfl) (Nat.le_of_ble_eq_true rfl))
  · refine mj_aload_n dX11_memberOf_12 0 rfl ?_
    refine t_getR 325 dX11_memberOf_13 F_X11_35 qr_316_9 ?_
    refine mj_aload_n dX11_memberOf_16 0 rfl ?_
    refine t_getR 318 dX11_memberOf_17 F_X11_13 qr_316_1 ?_
    refine mj_iload_n dX11_memberOf_20 1 rfl ?_
    refine t_iald dX11_memberOf_21 qa_318 (t_ixv c0) ?_
    refine mj_iload_n dX11_memberOf_22 3 rfl ?_
    refine mj_iadd dX11_memberOf_23 ?_
    refine t_chkK hk (fun c1 hk => ?_)
    refine t_iald dX11_memberOf_24 qa_325 (t_ixv c1) ?_
    refine mj_iload_n dX11_memberOf_25 2 rfl ?_
    refine mj_icmp_ne 31 dX11_memberOf_26 (by decide) (fun z => t_negK hk z (fun hk => ?_)) (fun z => t_posK hk z (fun hk => ?_))
    · refine mj_iinc (k := 3) (v := (l3 + 1)) (lv2 := [(3, .int (l3 + 1)), (0, .ref 316), (1, .int l1), (2, .int l2)]) dX11_memberOf_31 rfl rfl (by decide) rfl ?_
      refine mj_goto 2 dX11_memberOf_34 (by decide) ?_
      refine mj_sublv [(0, .ref 316), (1, .int l1), (2, .int l2), (3, .int (l3 + 1))] [1, 2, 3, 0] rfl ?_
      exact t_somK hk (fun hf => Hb2 l1 l2 (l3 + 1) hf)
    · refine t_mapK hk (fun hk => ?_)
      refine mj_iload_n dX11_memberOf_29 3 rfl ?_
      exact t_somK hk (fun hf => t_iret dX11_memberOf_30 rfl rfl ⟨rfl, _, rfl, hf⟩ (Nat.le_of_ble_eq_true rfl) (Nat.le_of_ble_eq_true rfl))
noncomputable def b_X11_memberOf_2 (s : t_S) (x : Int32 × Int32 × Int32) : Option ((Int32 × Int32 × Int32) ⊕ (Int32)) := k_X11_memberOf_2 x.1 x.2.1 x.2.2 s
set_option maxRecDepth 4000 in
set_option maxHeartbeats 1000000 in
theorem LH_X11_memberOf_2 {D : va_G} {cy : Nat → ClassId} {ad : Nat → Nat} {bs : Nat} {X : State → Heap → Prop} (s : t_S) : ∀ (n : Nat) (y0 : Int32) (y1 : Int32) (y2 : Int32) (Q : Int32 → Prop) (hk : t_hk (t_loop (b_X11_memberOf_2 s) n (y0, y1, y2)) Q), mj_G D cy ad bs X cX11_memberOf 4 yX11_memberOf.cls (some .int) yX11_memberOf.name 0 0 0 1065 (t_P (fun v s' => s' = s ∧ ∃ x, v = some (.int x) ∧ Q (x))) 2 [(0, .ref 316), (1, .int (y0)), (2, .int (y1)), (3, .int (y2))] [] (t_m s) 1065 0 0 := by
  intro n
  induction n with
  | zero => intro y0 y1 y2 Q hk; obtain ⟨r, hr, _⟩ := hk; cases hr
  | succ n ih =>
    intro y0 y1 y2 Q hk
    exact B_X11_memberOf_2 y0 y1 y2 s (fun y => t_lq (b_X11_memberOf_2 s) n Q y) (fun y0' y1' y2' hy => ih y0' y1' y2' Q hy) (t_lp hk)
noncomputable def f_X11_memberOf (x1 : Int32) (x2 : Int32) (s : t_S) : Option (Int32) :=
 t_loop (b_X11_memberOf_2 s) t_N (x1, x2, 0)
set_option maxRecDepth 4000 in
set_option maxHeartbeats 1000000 in
theorem C_X11_memberOf (x1 : Int32) (x2 : Int32) (s : t_S) (r : Int32) (hr : f_X11_memberOf x1 x2 s = some r) : t_C yX11_memberOf cX11_memberOf 4 (some .int) 0 [.ref 316, .int x1, .int x2] s (fun v s' => v = some (.int r) ∧ s' = s) := by
  refine t_C.imp (P := fun v s' => s' = s ∧ ∃ x, v = some (.int x) ∧ (fun q => q = r) (x)) (t_C.of (by decide +kernel) (Nat.le_of_ble_eq_true rfl) ?_) (fun v s' hp => by obtain ⟨rfl, x, rfl, rfl⟩ := hp; exact ⟨rfl, rfl⟩)
  intro D cy ad bs X
  have hk : t_hk (f_X11_memberOf x1 x2 s) (fun q => q = r) := ⟨r, hr, rfl⟩
  show mj_G D cy ad bs X cX11_memberOf 4 yX11_memberOf.cls (some .int) yX11_memberOf.name 0 0 0 1065 (t_P (fun v s' => s' = s ∧ ∃ x, v = some (.int x) ∧ (fun q => q = r) (x))) 0 [(0, .ref 316), (1, .int x1), (2, .int x2)] [] (t_m s) 1065 0 0
  refine mj_iconst (v := 0) dX11_memberOf_0 (by decide) ?_
  refine mj_istore_n 3 (lv2 := [(3, .int 0), (0, .ref 316), (1, .int x1), (2, .int x2)]) dX11_memberOf_1 rfl (by decide) rfl ?_
  refine mj_sublv [(0, .ref 316), (1, .int x1), (2, .int x2), (3, .int 0)] [1, 2, 3, 0] rfl ?_
  exact LH_X11_memberOf_2 _ _ x1 x2 0 _ hk

theorem dX11_holdsHere_0 : decode cX11_holdsHere 0 = .ok (.aload_n 1, 1) := by decide +kernel
theorem dX11_holdsHere_1 : decode cX11_holdsHere 1 = .ok (.iload_n 2, 1) := by decide +kernel
theorem dX11_holdsHere_100 : decode cX11_holdsHere 100 = .ok (.ireturn, 1) := by decide +kernel
theorem dX11_holdsHere_101 : decode cX11_holdsHere 101 = .ok (.iload 7, 2) := by decide +kernel
theorem dX11_holdsHere_103 : decode cX11_holdsHere 103 = .ok (.iconst 2, 1) := by decide +kernel
theorem dX11_holdsHere_104 : decode cX11_holdsHere 104 = .ok (.if_icmp .ne 39, 3) := by decide +kernel
theorem dX11_holdsHere_107 : decode cX11_holdsHere 107 = .ok (.lload 5, 2) := by decide +kernel
theorem dX11_holdsHere_109 : decode cX11_holdsHere 109 = .ok (.invokestatic 120, 3) := by decide +kernel
theorem dX11_holdsHere_112 : decode cX11_holdsHere 112 = .ok (.aload_n 0, 1) := by decide +kernel
theorem dX11_holdsHere_113 : decode cX11_holdsHere 113 = .ok (.getfield 25, 3) := by decide +kernel
theorem dX11_holdsHere_116 : decode cX11_holdsHere 116 = .ok (.iload 4, 2) := by decide +kernel
theorem dX11_holdsHere_118 : decode cX11_holdsHere 118 = .ok (.laload, 1) := by decide +kernel
theorem dX11_holdsHere_119 : decode cX11_holdsHere 119 = .ok (.lcmp, 1) := by decide +kernel
theorem dX11_holdsHere_12 : decode cX11_holdsHere 12 = .ok (.istore 7, 2) := by decide +kernel
theorem dX11_holdsHere_120 : decode cX11_holdsHere 120 = .ok (.ifCond .lt 23, 3) := by decide +kernel
theorem dX11_holdsHere_123 : decode cX11_holdsHere 123 = .ok (.lload 5, 2) := by decide +kernel
theorem dX11_holdsHere_125 : decode cX11_holdsHere 125 = .ok (.invokestatic 120, 3) := by decide +kernel
theorem dX11_holdsHere_128 : decode cX11_holdsHere 128 = .ok (.aload_n 0, 1) := by decide +kernel
theorem dX11_holdsHere_129 : decode cX11_holdsHere 129 = .ok (.getfield 29, 3) := by decide +kernel
theorem dX11_holdsHere_132 : decode cX11_holdsHere 132 = .ok (.iload 4, 2) := by decide +kernel
theorem dX11_holdsHere_134 : decode cX11_holdsHere 134 = .ok (.laload, 1) := by decide +kernel
theorem dX11_holdsHere_135 : decode cX11_holdsHere 135 = .ok (.lcmp, 1) := by decide +kernel
theorem dX11_holdsHere_136 : decode cX11_holdsHere 136 = .ok (.ifCond .gt 7, 3) := by decide +kernel
theorem dX11_holdsHere_139 : decode cX11_holdsHere 139 = .ok (.iconst 1, 1) := by decide +kernel
theorem dX11_holdsHere_14 : decode cX11_holdsHere 14 = .ok (.aload_n 0, 1) := by decide +kernel
theorem dX11_holdsHere_140 : decode cX11_holdsHere 140 = .ok (.goto 4, 3) := by decide +kernel
theorem dX11_holdsHere_143 : decode cX11_holdsHere 143 = .ok (.iconst 0, 1) := by decide +kernel
theorem dX11_holdsHere_144 : decode cX11_holdsHere 144 = .ok (.ireturn, 1) := by decide +kernel
theorem dX11_holdsHere_145 : decode cX11_holdsHere 145 = .ok (.iload 7, 2) := by decide +kernel
theorem dX11_holdsHere_147 : decode cX11_holdsHere 147 = .ok (.iconst 3, 1) := by decide +kernel
theorem dX11_holdsHere_148 : decode cX11_holdsHere 148 = .ok (.if_icmp .ne 21, 3) := by decide +kernel
theorem dX11_holdsHere_15 : decode cX11_holdsHere 15 = .ok (.getfield 9, 3) := by decide +kernel
theorem dX11_holdsHere_151 : decode cX11_holdsHere 151 = .ok (.aload_n 0, 1) := by decide +kernel
theorem dX11_holdsHere_152 : decode cX11_holdsHere 152 = .ok (.iload 4, 2) := by decide +kernel
theorem dX11_holdsHere_154 : decode cX11_holdsHere 154 = .ok (.lload 5, 2) := by decide +kernel
theorem dX11_holdsHere_156 : decode cX11_holdsHere 156 = .ok (.invokestatic 127, 3) := by decide +kernel
theorem dX11_holdsHere_159 : decode cX11_holdsHere 159 = .ok (.invokevirtual 130, 3) := by decide +kernel
theorem dX11_holdsHere_162 : decode cX11_holdsHere 162 = .ok (.ifCond .lt 7, 3) := by decide +kernel
theorem dX11_holdsHere_165 : decode cX11_holdsHere 165 = .ok (.iconst 1, 1) := by decide +kernel
theorem dX11_holdsHere_166 : decode cX11_holdsHere 166 = .ok (.goto 4, 3) := by decide +kernel
theorem dX11_holdsHere_169 : decode cX11_holdsHere 169 = .ok (.iconst 0, 1) := by decide +kernel
theorem dX11_holdsHere_170 : decode cX11_holdsHere 170 = .ok (.ireturn, 1) := by decide +kernel
theorem dX11_holdsHere_171 : decode cX11_holdsHere 171 = .ok (.iload 7, 2) := by decide +kernel
theorem dX11_holdsHere_173 : decode cX11_holdsHere 173 = .ok (.bipush 8, 2) := by decide +kernel
theorem dX11_holdsHere_175 : decode cX11_holdsHere 175 = .ok (.if_icmp .ne 19, 3) := by decide +kernel
theorem dX11_holdsHere_178 : decode cX11_holdsHere 178 = .ok (.aload_n 0, 1) := by decide +kernel
theorem dX11_holdsHere_179 : decode cX11_holdsHere 179 = .ok (.aload_n 1, 1) := by decide +kernel
theorem dX11_holdsHere_18 : decode cX11_holdsHere 18 = .ok (.iload 4, 2) := by decide +kernel
theorem dX11_holdsHere_180 : decode cX11_holdsHere 180 = .ok (.iload_n 2, 1) := by decide +kernel
theorem dX11_holdsHere_181 : decode cX11_holdsHere 181 = .ok (.iload_n 3, 1) := by decide +kernel
theorem dX11_holdsHere_182 : decode cX11_holdsHere 182 = .ok (.iload 4, 2) := by decide +kernel
theorem dX11_holdsHere_184 : decode cX11_holdsHere 184 = .ok (.invokevirtual 133, 3) := by decide +kernel
theorem dX11_holdsHere_187 : decode cX11_holdsHere 187 = .ok (.ifCond .eq 7, 3) := by decide +kernel
theorem dX11_holdsHere_190 : decode cX11_holdsHere 190 = .ok (.iconst 1, 1) := by decide +kernel
theorem dX11_holdsHere_191 : decode cX11_holdsHere 191 = .ok (.goto 4, 3) := by decide +kernel
theorem dX11_holdsHere_194 : decode cX11_holdsHere 194 = .ok (.iconst 0, 1) := by decide +kernel
theorem dX11_holdsHere_195 : decode cX11_holdsHere 195 = .ok (.ireturn, 1) := by decide +kernel
theorem dX11_holdsHere_196 : decode cX11_holdsHere 196 = .ok (.iload 7, 2) := by decide +kernel
theorem dX11_holdsHere_198 : decode cX11_holdsHere 198 = .ok (.bipush 6, 2) := by decide +kernel
theorem dX11_holdsHere_2 : decode cX11_holdsHere 2 = .ok (.iload_n 3, 1) := by decide +kernel
theorem dX11_holdsHere_20 : decode cX11_holdsHere 20 = .ok (.iaload, 1) := by decide +kernel
theorem dX11_holdsHere_200 : decode cX11_holdsHere 200 = .ok (.if_icmp .ne 19, 3) := by decide +kernel
theorem dX11_holdsHere_203 : decode cX11_holdsHere 203 = .ok (.aload_n 0, 1) := by decide +kernel
theorem dX11_holdsHere_204 : decode cX11_holdsHere 204 = .ok (.aload_n 1, 1) := by decide +kernel
theorem dX11_holdsHere_205 : decode cX11_holdsHere 205 = .ok (.iload_n 2, 1) := by decide +kernel
theorem dX11_holdsHere_206 : decode cX11_holdsHere 206 = .ok (.iload_n 3, 1) := by decide +kernel
theorem dX11_holdsHere_207 : decode cX11_holdsHere 207 = .ok (.iload 4, 2) := by decide +kernel
theorem dX11_holdsHere_209 : decode cX11_holdsHere 209 = .ok (.invokevirtual 136, 3) := by decide +kernel
theorem dX11_holdsHere_21 : decode cX11_holdsHere 21 = .ok (.tableswitch 255 1 7 #[43, 68, 80, 124, 175, 200, 150], 43) := by decide +kernel
theorem dX11_holdsHere_212 : decode cX11_holdsHere 212 = .ok (.ifCond .eq 7, 3) := by decide +kernel
theorem dX11_holdsHere_215 : decode cX11_holdsHere 215 = .ok (.iconst 1, 1) := by decide +kernel
theorem dX11_holdsHere_216 : decode cX11_holdsHere 216 = .ok (.goto 4, 3) := by decide +kernel
theorem dX11_holdsHere_219 : decode cX11_holdsHere 219 = .ok (.iconst 0, 1) := by decide +kernel
theorem dX11_holdsHere_220 : decode cX11_holdsHere 220 = .ok (.ireturn, 1) := by decide +kernel
theorem dX11_holdsHere_221 : decode cX11_holdsHere 221 = .ok (.iload 7, 2) := by decide +kernel
theorem dX11_holdsHere_223 : decode cX11_holdsHere 223 = .ok (.bipush 7, 2) := by decide +kernel
theorem dX11_holdsHere_225 : decode cX11_holdsHere 225 = .ok (.if_icmp .ne 17, 3) := by decide +kernel
theorem dX11_holdsHere_228 : decode cX11_holdsHere 228 = .ok (.aload_n 0, 1) := by decide +kernel
theorem dX11_holdsHere_229 : decode cX11_holdsHere 229 = .ok (.iload 4, 2) := by decide +kernel
theorem dX11_holdsHere_231 : decode cX11_holdsHere 231 = .ok (.lload 5, 2) := by decide +kernel
theorem dX11_holdsHere_233 : decode cX11_holdsHere 233 = .ok (.invokestatic 127, 3) := by decide +kernel
theorem dX11_holdsHere_236 : decode cX11_holdsHere 236 = .ok (.invokevirtual 139, 3) := by decide +kernel
theorem dX11_holdsHere_239 : decode cX11_holdsHere 239 = .ok (.goto 4, 3) := by decide +kernel
theorem dX11_holdsHere_242 : decode cX11_holdsHere 242 = .ok (.iconst (-1), 1) := by decide +kernel
theorem dX11_holdsHere_243 : decode cX11_holdsHere 243 = .ok (.istore 8, 2) := by decide +kernel
theorem dX11_holdsHere_245 : decode cX11_holdsHere 245 = .ok (.iload 8, 2) := by decide +kernel
theorem dX11_holdsHere_247 : decode cX11_holdsHere 247 = .ok (.ifCond .lt 18, 3) := by decide +kernel
theorem dX11_holdsHere_250 : decode cX11_holdsHere 250 = .ok (.aload_n 0, 1) := by decide +kernel
theorem dX11_holdsHere_251 : decode cX11_holdsHere 251 = .ok (.getfield 62, 3) := by decide +kernel
theorem dX11_holdsHere_254 : decode cX11_holdsHere 254 = .ok (.iload_n 3, 1) := by decide +kernel
theorem dX11_holdsHere_255 : decode cX11_holdsHere 255 = .ok (.iconst 1, 1) := by decide +kernel
theorem dX11_holdsHere_256 : decode cX11_holdsHere 256 = .ok (.iadd, 1) := by decide +kernel
theorem dX11_holdsHere_257 : decode cX11_holdsHere 257 = .ok (.aload_n 0, 1) := by decide +kernel
theorem dX11_holdsHere_258 : decode cX11_holdsHere 258 = .ok (.getfield 13, 3) := by decide +kernel
theorem dX11_holdsHere_261 : decode cX11_holdsHere 261 = .ok (.iload 8, 2) := by decide +kernel
theorem dX11_holdsHere_263 : decode cX11_holdsHere 263 = .ok (.iaload, 1) := by decide +kernel
theorem dX11_holdsHere_264 : decode cX11_holdsHere 264 = .ok (.iastore, 1) := by decide +kernel
theorem dX11_holdsHere_265 : decode cX11_holdsHere 265 = .ok (.iload 8, 2) := by decide +kernel
theorem dX11_holdsHere_267 : decode cX11_holdsHere 267 = .ok (.ifCond .lt 7, 3) := by decide +kernel
theorem dX11_holdsHere_270 : decode cX11_holdsHere 270 = .ok (.iconst 1, 1) := by decide +kernel
theorem dX11_holdsHere_271 : decode cX11_holdsHere 271 = .ok (.goto 4, 3) := by decide +kernel
theorem dX11_holdsHere_274 : decode cX11_holdsHere 274 = .ok (.iconst 0, 1) := by decide +kernel
theorem dX11_holdsHere_275 : decode cX11_holdsHere 275 = .ok (.ireturn, 1) := by decide +kernel
theorem dX11_holdsHere_276 : decode cX11_holdsHere 276 = .ok (.iconst 0, 1) := by decide +kernel
theorem dX11_holdsHere_277 : decode cX11_holdsHere 277 = .ok (.ireturn, 1) := by decide +kernel
theorem dX11_holdsHere_3 : decode cX11_holdsHere 3 = .ok (.iadd, 1) := by decide +kernel
theorem dX11_holdsHere_4 : decode cX11_holdsHere 4 = .ok (.laload, 1) := by decide +kernel
theorem dX11_holdsHere_5 : decode cX11_holdsHere 5 = .ok (.lstore 5, 2) := by decide +kernel
theorem dX11_holdsHere_64 : decode cX11_holdsHere 64 = .ok (.iload 7, 2) := by decide +kernel
theorem dX11_holdsHere_66 : decode cX11_holdsHere 66 = .ok (.ifCond .ne 21, 3) := by decide +kernel
theorem dX11_holdsHere_69 : decode cX11_holdsHere 69 = .ok (.aload_n 0, 1) := by decide +kernel
theorem dX11_holdsHere_7 : decode cX11_holdsHere 7 = .ok (.lload 5, 2) := by decide +kernel
theorem dX11_holdsHere_70 : decode cX11_holdsHere 70 = .ok (.iload 4, 2) := by decide +kernel
theorem dX11_holdsHere_72 : decode cX11_holdsHere 72 = .ok (.lload 5, 2) := by decide +kernel
theorem dX11_holdsHere_74 : decode cX11_holdsHere 74 = .ok (.invokestatic 120, 3) := by decide +kernel
theorem dX11_holdsHere_77 : decode cX11_holdsHere 77 = .ok (.invokevirtual 123, 3) := by decide +kernel
theorem dX11_holdsHere_80 : decode cX11_holdsHere 80 = .ok (.ifCond .eq 7, 3) := by decide +kernel
theorem dX11_holdsHere_83 : decode cX11_holdsHere 83 = .ok (.iconst 1, 1) := by decide +kernel
theorem dX11_holdsHere_84 : decode cX11_holdsHere 84 = .ok (.goto 4, 3) := by decide +kernel
theorem dX11_holdsHere_87 : decode cX11_holdsHere 87 = .ok (.iconst 0, 1) := by decide +kernel
theorem dX11_holdsHere_88 : decode cX11_holdsHere 88 = .ok (.ireturn, 1) := by decide +kernel
theorem dX11_holdsHere_89 : decode cX11_holdsHere 89 = .ok (.iload 7, 2) := by decide +kernel
theorem dX11_holdsHere_9 : decode cX11_holdsHere 9 = .ok (.invokestatic 118, 3) := by decide +kernel
theorem dX11_holdsHere_91 : decode cX11_holdsHere 91 = .ok (.iconst 1, 1) := by decide +kernel
theorem dX11_holdsHere_92 : decode cX11_holdsHere 92 = .ok (.if_icmp .ne 7, 3) := by decide +kernel
theorem dX11_holdsHere_95 : decode cX11_holdsHere 95 = .ok (.iconst 1, 1) := by decide +kernel
theorem dX11_holdsHere_96 : decode cX11_holdsHere 96 = .ok (.goto 4, 3) := by decide +kernel
theorem dX11_holdsHere_99 : decode cX11_holdsHere 99 = .ok (.iconst 0, 1) := by decide +kernel
noncomputable def k_X11_holdsHere_265 (l8 : Int32) (s : t_S) : Option (Int32 × t_S) :=
 if l8 < (0 : Int32) then (some ((0 : Int32), s))
 else (some ((1 : Int32), s))
set_option maxRecDepth 4000 in
set_option maxHeartbeats 1000000 in
theorem B_X11_holdsHere_265 {D : va_G} {cy : Nat → ClassId} {ad : Nat → Nat} {bs : Nat} {X : State → Heap → Prop} (l8 : Int32) (s : t_S) (Q : Int32 × t_S → Prop) (hk : t_hk (k_X11_holdsHere_265 l8 s) Q) : mj_G D cy ad bs X cX11_holdsHere 9 yX11_holdsHere.cls (some .boolean) yX11_holdsHere.name 2 0 0 1065 (t_P (fun v s' => ∃ x, v = some (.int x) ∧ Q ((x, s')))) 265 [(8, .int l8)] [] (t_m s) 1065 0 0 := by
  refine mj_iload dX11_holdsHere_265 0 rfl ?_
  refine mj_if_lt 274 dX11_holdsHere_267 (by decide) (fun z => t_posK hk z (fun hk => ?_)) (fun z => t_negK hk z (fun hk => ?_))
  · refine mj_iconst (v := 0) dX11_holdsHere_274 (by decide) ?_
    exact t_somK hk (fun hf => t_iret dX11_holdsHere_275 rfl (by decide) ⟨_, rfl, hf⟩ (Nat.le_of_ble_eq_true rfl) (Nat.le_of_ble_eq_true rfl))
  · refine mj_iconst (v := 1) dX11_holdsHere_270 (by decide) ?_
    refine mj_goto 275 dX11_holdsHere_271 (by decide) ?_
    exact t_somK hk (fun hf => t_iret dX11_holdsHere_275 rfl (by decide) ⟨_, rfl, hf⟩ (Nat.le_of_ble_eq_true rfl) (Nat.le_of_ble_eq_true rfl))
noncomputable def k_X11_holdsHere_243 (l3 : Int32) (k0 : Int32) (s : t_S) : Option (Int32 × t_S) :=
 if k0 < (0 : Int32) then (k_X11_holdsHere_265 k0 s)
 else (if t_ix k0 3001 = true then
  if t_ix (l3 + (1 : Int32)) 120 = true then
  t_let (t_setI s 333 ((l3 + (1 : Int32)).toNatClampNeg) (s.1 318 (k0.toNatClampNeg))) (fun s1 =>
 k_X11_holdsHere_265 k0 s1)
else none
else none)
set_option maxRecDepth 4000 in
set_option maxHeartbeats 1000000 in
theorem B_X11_holdsHere_243 {D : va_G} {cy : Nat → ClassId} {ad : Nat → Nat} {bs : Nat} {X : State → Heap → Prop} (l3 : Int32) (k0 : Int32) (s : t_S) (Q : Int32 × t_S → Prop) (hk : t_hk (k_X11_holdsHere_243 l3 k0 s) Q) : mj_G D cy ad bs X cX11_holdsHere 9 yX11_holdsHere.cls (some .boolean) yX11_holdsHere.name 2 0 0 1065 (t_P (fun v s' => ∃ x, v = some (.int x) ∧ Q ((x, s')))) 243 [(0, .ref 316), (3, .int l3)] [.int k0] (t_m s) 1065 0 0 := by
  refine mj_istore (lv2 := [(8, .int k0), (0, .ref 316), (3, .int l3)]) dX11_holdsHere_243 (by decide) rfl ?_
  refine mj_iload dX11_holdsHere_245 0 rfl ?_
  refine mj_if_lt 265 dX11_holdsHere_247 (by decide) (fun z => t_posK hk z (fun hk => ?_)) (fun z => t_negK hk z (fun hk => ?_))
  · refine mj_sublv [(8, .int k0)] [0] rfl ?_
    exact B_X11_holdsHere_265 _ _ _ hk
  · refine mj_aload_n dX11_holdsHere_250 1 rfl ?_
    refine t_getR 333 dX11_holdsHere_251 F_X11_62 qr_316_20 ?_
    refine mj_iload_n dX11_holdsHere_254 2 rfl ?_
    refine mj_iconst (v := 1) dX11_holdsHere_255 (by decide) ?_
    refine mj_iadd dX11_holdsHere_256 ?_
    refine mj_aload_n dX11_holdsHere_257 1 rfl ?_
    refine t_getR 318 dX11_holdsHere_258 F_X11_13 qr_316_1 ?_
    refine mj_iload dX11_holdsHere_261 0 rfl ?_
    refine t_chkK hk (fun c0 hk => ?_)
    refine t_iald dX11_holdsHere_263 qa_318 (t_ixv c0) ?_
    refine t_chkK hk (fun c1 hk => ?_)
    refine t_iastK dX11_holdsHere_264 qa_333 (t_ixv c1) (fun s1 ws1 => t_letE hk ws1 (fun hk => ?_))
    refine mj_sublv [(8, .int k0)] [0] rfl ?_
    exact B_X11_holdsHere_265 _ _ _ hk
noncomputable def f_X11_holdsHere (x1 : Nat) (x2 : Int32) (x3 : Int32) (x4 : Int32) (s : t_S) : Option (Int32 × t_S) :=
 if t_oka x1 2 (t_ln x1) = true then
  if t_ix (x2 + x3) (t_ln x1) = true then
  if t_ix x4 3001 = true then
  if (s.1 317 (x4.toNatClampNeg)).toInt < 1 ∨ 7 < (s.1 317 (x4.toNatClampNeg)).toInt then (some ((0 : Int32), s))
 else if (s.1 317 (x4.toNatClampNeg)).toInt = 1 then (if (f_X8_kind (s.2.1 x1 ((x2 + x3).toNatClampNeg)) s) = (0 : Int32) then ((f_X11_inRanges x4 (f_X8_told (s.2.1 x1 ((x2 + x3).toNatClampNeg)) s) s).bind (fun r6 =>
 if r6 = (0 : Int32) then (some ((0 : Int32), s))
 else (some ((1 : Int32), s))))
 else (some ((0 : Int32), s)))
 else if (s.1 317 (x4.toNatClampNeg)).toInt = 2 then (if (f_X8_kind (s.2.1 x1 ((x2 + x3).toNatClampNeg)) s) = (1 : Int32) then (some ((1 : Int32), s))
 else (some ((0 : Int32), s)))
 else if (s.1 317 (x4.toNatClampNeg)).toInt = 3 then (if (f_X8_kind (s.2.1 x1 ((x2 + x3).toNatClampNeg)) s) = (2 : Int32) then (if (lg_cmp (f_X8_told (s.2.1 x1 ((x2 + x3).toNatClampNeg)) s) (s.2.1 322 (x4.toNatClampNeg))) < (0 : Int32) then (some ((0 : Int32), s))
 else (if (0 : Int32) < (lg_cmp (f_X8_told (s.2.1 x1 ((x2 + x3).toNatClampNeg)) s) (s.2.1 323 (x4.toNatClampNeg))) then (some ((0 : Int32), s))
 else (some ((1 : Int32), s))))
 else (some ((0 : Int32), s)))
 else if (s.1 317 (x4.toNatClampNeg)).toInt = 4 then (if (f_X8_kind (s.2.1 x1 ((x2 + x3).toNatClampNeg)) s) = (3 : Int32) then ((f_X11_memberOf x4 (f_X8_wordOf (s.2.1 x1 ((x2 + x3).toNatClampNeg)) s) s).bind (fun r10 =>
 if r10 < (0 : Int32) then (some ((0 : Int32), s))
 else (some ((1 : Int32), s))))
 else (some ((0 : Int32), s)))
 else if (s.1 317 (x4.toNatClampNeg)).toInt = 5 then (if (f_X8_kind (s.2.1 x1 ((x2 + x3).toNatClampNeg)) s) = (6 : Int32) then ((f_X11_holdsRecord x1 x2 x3 x4 s).bind (fun r11 =>
 if r11.1 = (0 : Int32) then (some ((0 : Int32), r11.2))
 else (some ((1 : Int32), r11.2))))
 else (some ((0 : Int32), s)))
 else if (s.1 317 (x4.toNatClampNeg)).toInt = 6 then (if (f_X8_kind (s.2.1 x1 ((x2 + x3).toNatClampNeg)) s) = (7 : Int32) then ((f_X11_fieldOf x4 (f_X8_wordOf (s.2.1 x1 ((x2 + x3).toNatClampNeg)) s) s).bind (fun r13 =>
 k_X11_holdsHere_243 x3 r13 s))
 else (k_X11_holdsHere_243 x3 (-1) s))
 else (if (f_X8_kind (s.2.1 x1 ((x2 + x3).toNatClampNeg)) s) = (8 : Int32) then ((f_X11_holdsList x1 x2 x3 x4 s).bind (fun r14 =>
 if r14.1 = (0 : Int32) then (some ((0 : Int32), r14.2))
 else (some ((1 : Int32), r14.2))))
 else (some ((0 : Int32), s)))
else none
else none
else none
set_option maxRecDepth 4000 in
set_option maxHeartbeats 1000000 in
theorem C_X11_holdsHere (x1 : Nat) (x2 : Int32) (x3 : Int32) (x4 : Int32) (s : t_S) (r : Int32 × t_S) (hr : f_X11_holdsHere x1 x2 x3 x4 s = some r) : t_C yX11_holdsHere cX11_holdsHere 9 (some .boolean) 2 [.ref 316, .ref x1, .int x2, .int x3, .int x4] s (fun v s' => v = some (.int r.1) ∧ s' = r.2) := by
  refine t_C.imp (P := fun v s' => ∃ x, v = some (.int x) ∧ (fun q => q = r) ((x, s'))) (t_C.of (by decide +kernel) (Nat.le_of_ble_eq_true rfl) ?_) (fun v s' hp => by obtain ⟨x, rfl, rfl⟩ := hp; exact ⟨rfl, rfl⟩)
  intro D cy ad bs X
  have hk : t_hk (f_X11_holdsHere x1 x2 x3 x4 s) (fun q => q = r) := ⟨r, hr, rfl⟩
  show mj_G D cy ad bs X cX11_holdsHere 9 yX11_holdsHere.cls (some .boolean) yX11_holdsHere.name 2 0 0 1065 (t_P (fun v s' => ∃ x, v = some (.int x) ∧ (fun q => q = r) ((x, s')))) 0 [(0, .ref 316), (1, .ref x1), (2, .int x2), (3, .int x3), (4, .int x4)] [] (t_m s) 1065 0 0
  refine mj_aload_n dX11_holdsHere_0 1 rfl ?_
  refine mj_iload_n dX11_holdsHere_1 2 rfl ?_
  refine mj_iload_n dX11_holdsHere_2 3 rfl ?_
  refine mj_iadd dX11_holdsHere_3 ?_
  refine t_chkK hk (fun c0 hk => ?_)
  refine t_chkK hk (fun c1 hk => ?_)
  refine t_lald dX11_holdsHere_4 c0 (t_ixv c1) ?_
  refine mj_lstore (lv2 := [(5, .long (s.2.1 x1 ((x2 + x3).toNatClampNeg))), (0, .ref 316), (1, .ref x1), (2, .int x2), (3, .int x3), (4, .int x4)]) dX11_holdsHere_5 (by decide) rfl ?_
  refine mj_lload dX11_holdsHere_7 0 rfl ?_
  refine t_callSiP dX11_holdsHere_9 M_X8_kind (C_X8_kind _ _) ML_X11_118 SM_X8_kind (As := [.long (s.2.1 x1 ((x2 + x3).toNatClampNeg))]) rfl rfl (Nat.le_of_ble_eq_true rfl) (Nat.le_of_ble_eq_true rfl) (Nat.le_of_ble_eq_true rfl) (Nat.le_of_ble_eq_true rfl) ?_
  refine mj_istore (lv2 := [(7, .int (f_X8_kind (s.2.1 x1 ((x2 + x3).toNatClampNeg)) s)), (5, .long (s.2.1 x1 ((x2 + x3).toNatClampNeg))), (0, .ref 316), (1, .ref x1), (2, .int x2), (3, .int x3), (4, .int x4)]) dX11_holdsHere_12 (by decide) rfl ?_
  refine mj_aload_n dX11_holdsHere_14 2 rfl ?_
  refine t_getR 317 dX11_holdsHere_15 F_X11_9 qr_316_0 ?_
  refine mj_iload dX11_holdsHere_18 6 rfl ?_
  refine t_chkK hk (fun c3 hk => ?_)
  refine t_iald dX11_holdsHere_20 qa_317 (t_ixv c3) ?_
  by_cases hout : (s.1 317 (x4.toNatClampNeg)).toInt < 1 ∨ 7 < (s.1 317 (x4.toNatClampNeg)).toInt
  · replace hk := t_pos hk hout
    refine mj_tableOut 276 dX11_holdsHere_21 hout (by decide) ?_
    refine mj_iconst (v := 0) dX11_holdsHere_276 (by decide) ?_
    exact t_somK hk (fun hf => t_iret dX11_holdsHere_277 rfl (by decide) ⟨_, rfl, hf⟩ (Nat.le_of_ble_eq_true rfl) (Nat.le_of_ble_eq_true rfl))
  · replace hk := t_neg hk hout
    have hh1 : ¬ (s.1 317 (x4.toNatClampNeg)).toInt < 1 := fun z => hout (Or.inl z)
    have hh2 : ¬ (7 : Int) < (s.1 317 (x4.toNatClampNeg)).toInt := fun z => hout (Or.inr z)
    by_cases h0 : (s.1 317 (x4.toNatClampNeg)).toInt = 1
    · replace hk := t_pos hk h0
      refine mj_tableIn 64 dX11_holdsHere_21 hh1 hh2 (by rw [h0]; rfl) (by decide) ?_
      refine mj_iload dX11_holdsHere_64 0 rfl ?_
      refine mj_if_ne 87 dX11_holdsHere_66 (by decide) (fun z => t_negK hk z (fun hk => ?_)) (fun z => t_posK hk z (fun hk => ?_))
      · refine mj_iconst (v := 0) dX11_holdsHere_87 (by decide) ?_
        exact t_somK hk (fun hf => t_iret dX11_holdsHere_88 rfl (by decide) ⟨_, rfl, hf⟩ (Nat.le_of_ble_eq_true rfl) (Nat.le_of_ble_eq_true rfl))
      · refine mj_aload_n dX11_holdsHere_69 2 rfl ?_
        refine mj_iload dX11_holdsHere_70 6 rfl ?_
        refine mj_lload dX11_holdsHere_72 1 rfl ?_
        refine t_callSlP dX11_holdsHere_74 M_X8_told (C_X8_told _ _) ML_X11_120 SM_X8_told (As := [.long (s.2.1 x1 ((x2 + x3).toNatClampNeg))]) rfl rfl (Nat.le_of_ble_eq_true rfl) (Nat.le_of_ble_eq_true rfl) (Nat.le_of_ble_eq_true rfl) (Nat.le_of_ble_eq_true rfl) ?_
        refine t_bndK hk (fun r6 er6 hk => ?_)
        refine t_callViP dX11_holdsHere_77 M_X11_inRanges (C_X11_inRanges _ _ _ _ er6) ML_X11_123 IM_X11_inRanges SE_X11_inRanges qc_316 rfl (As := [.int x4, .long (f_X8_told (s.2.1 x1 ((x2 + x3).toNatClampNeg)) s)]) rfl rfl (Nat.le_of_ble_eq_true rfl) (Nat.le_of_ble_eq_true rfl) (Nat.le_of_ble_eq_true rfl) (Nat.le_of_ble_eq_true rfl) ?_
        refine mj_if_eq 87 dX11_holdsHere_80 (by decide) (fun z => t_posK hk z (fun hk => ?_)) (fun z => t_negK hk z (fun hk => ?_))
        · refine mj_iconst (v := 0) dX11_holdsHere_87 (by decide) ?_
          exact t_somK hk (fun hf => t_iret dX11_holdsHere_88 rfl (by decide) ⟨_, rfl, hf⟩ (Nat.le_of_ble_eq_true rfl) (Nat.le_of_ble_eq_true rfl))
        · refine mj_iconst (v := 1) dX11_holdsHere_83 (by decide) ?_
          refine mj_goto 88 dX11_holdsHere_84 (by decide) ?_
          exact t_somK hk (fun hf => t_iret dX11_holdsHere_88 rfl (by decide) ⟨_, rfl, hf⟩ (Nat.le_of_ble_eq_true rfl) (Nat.le_of_ble_eq_true rfl))
    replace hk := t_neg hk h0
    by_cases h1 : (s.1 317 (x4.toNatClampNeg)).toInt = 2
    · replace hk := t_pos hk h1
      refine mj_tableIn 89 dX11_holdsHere_21 hh1 hh2 (by rw [h1]; rfl) (by decide) ?_
      refine mj_iload dX11_holdsHere_89 0 rfl ?_
      refine mj_iconst (v := 1) dX11_holdsHere_91 (by decide) ?_
      refine mj_icmp_ne 99 dX11_holdsHere_92 (by decide) (fun z => t_negK hk z (fun hk => ?_)) (fun z => t_posK hk z (fun hk => ?_))
      · refine mj_iconst (v := 0) dX11_holdsHere_99 (by decide) ?_
        exact t_somK hk (fun hf => t_iret dX11_holdsHere_100 rfl (by decide) ⟨_, rfl, hf⟩ (Nat.le_of_ble_eq_true rfl) (Nat.le_of_ble_eq_true rfl))
      · refine mj_iconst (v := 1) dX11_holdsHere_95 (by decide) ?_
        refine mj_goto 100 dX11_holdsHere_96 (by decide) ?_
        exact t_somK hk (fun hf => t_iret dX11_holdsHere_100 rfl (by decide) ⟨_, rfl, hf⟩ (Nat.le_of_ble_eq_true rfl) (Nat.le_of_ble_eq_true rfl))
    replace hk := t_neg hk h1
    by_cases h2 : (s.1 317 (x4.toNatClampNeg)).toInt = 3
    · replace hk := t_pos hk h2
      refine mj_tableIn 101 dX11_holdsHere_21 hh1 hh2 (by rw [h2]; rfl) (by decide) ?_
      refine mj_iload dX11_holdsHere_101 0 rfl ?_
      refine mj_iconst (v := 2) dX11_holdsHere_103 (by decide) ?_
      refine mj_icmp_ne 143 dX11_holdsHere_104 (by decide) (fun z => t_negK hk z (fun hk => ?_)) (fun z => t_posK hk z (fun hk => ?_))
      · refine mj_iconst (v := 0) dX11_holdsHere_143 (by decide) ?_
        exact t_somK hk (fun hf => t_iret dX11_holdsHere_144 rfl (by decide) ⟨_, rfl, hf⟩ (Nat.le_of_ble_eq_true rfl) (Nat.le_of_ble_eq_true rfl))
      · refine mj_lload dX11_holdsHere_107 1 rfl ?_
        refine t_callSlP dX11_holdsHere_109 M_X8_told (C_X8_told _ _) ML_X11_120 SM_X8_told (As := [.long (s.2.1 x1 ((x2 + x3).toNatClampNeg))]) rfl rfl (Nat.le_of_ble_eq_true rfl) (Nat.le_of_ble_eq_true rfl) (Nat.le_of_ble_eq_true rfl) (Nat.le_of_ble_eq_true rfl) ?_
        refine mj_aload_n dX11_holdsHere_112 2 rfl ?_
        refine t_getR 322 dX11_holdsHere_113 F_X11_25 qr_316_5 ?_
        refine mj_iload dX11_holdsHere_116 6 rfl ?_
        refine t_lald dX11_holdsHere_118 qa_322 (t_ixv c3) ?_
        refine mj_lcmp dX11_holdsHere_119 ?_
        refine mj_if_lt 143 dX11_holdsHere_120 (by decide) (fun z => t_posK hk z (fun hk => ?_)) (fun z => t_negK hk z (fun hk => ?_))
        · refine mj_iconst (v := 0) dX11_holdsHere_143 (by decide) ?_
          exact t_somK hk (fun hf => t_iret dX11_holdsHere_144 rfl (by decide) ⟨_, rfl, hf⟩ (Nat.le_of_ble_eq_true rfl) (Nat.le_of_ble_eq_true rfl))
        · refine mj_lload dX11_holdsHere_123 1 rfl ?_
          refine t_callSlP dX11_holdsHere_125 M_X8_told (C_X8_told _ _) ML_X11_120 SM_X8_told (As := [.long (s.2.1 x1 ((x2 + x3).toNatClampNeg))]) rfl rfl (Nat.le_of_ble_eq_true rfl) (Nat.le_of_ble_eq_true rfl) (Nat.le_of_ble_eq_true rfl) (Nat.le_of_ble_eq_true rfl) ?_
          refine mj_aload_n dX11_holdsHere_128 2 rfl ?_
          refine t_getR 323 dX11_holdsHere_129 F_X11_29 qr_316_6 ?_
          refine mj_iload dX11_holdsHere_132 6 rfl ?_
          refine t_lald dX11_holdsHere_134 qa_323 (t_ixv c3) ?_
          refine mj_lcmp dX11_holdsHere_135 ?_
          refine mj_if_gt 143 dX11_holdsHere_136 (by decide) (fun z => t_posK hk z (fun hk => ?_)) (fun z => t_negK hk z (fun hk => ?_))
          · refine mj_iconst (v := 0) dX11_holdsHere_143 (by decide) ?_
            exact t_somK hk (fun hf => t_iret dX11_holdsHere_144 rfl (by decide) ⟨_, rfl, hf⟩ (Nat.le_of_ble_eq_true rfl) (Nat.le_of_ble_eq_true rfl))
          · refine mj_iconst (v := 1) dX11_holdsHere_139 (by decide) ?_
            refine mj_goto 144 dX11_holdsHere_140 (by decide) ?_
            exact t_somK hk (fun hf => t_iret dX11_holdsHere_144 rfl (by decide) ⟨_, rfl, hf⟩ (Nat.le_of_ble_eq_true rfl) (Nat.le_of_ble_eq_true rfl))
    replace hk := t_neg hk h2
    by_cases h3 : (s.1 317 (x4.toNatClampNeg)).toInt = 4
    · replace hk := t_pos hk h3
      refine mj_tableIn 145 dX11_holdsHere_21 hh1 hh2 (by rw [h3]; rfl) (by decide) ?_
      refine mj_iload dX11_holdsHere_145 0 rfl ?_
      refine mj_iconst (v := 3) dX11_holdsHere_147 (by decide) ?_
      refine mj_icmp_ne 169 dX11_holdsHere_148 (by decide) (fun z => t_negK hk z (fun hk => ?_)) (fun z => t_posK hk z (fun hk => ?_))
      · refine mj_iconst (v := 0) dX11_holdsHere_169 (by decide) ?_
        exact t_somK hk (fun hf => t_iret dX11_holdsHere_170 rfl (by decide) ⟨_, rfl, hf⟩ (Nat.le_of_ble_eq_true rfl) (Nat.le_of_ble_eq_true rfl))
      · refine mj_aload_n dX11_holdsHere_151 2 rfl ?_
        refine mj_iload dX11_holdsHere_152 6 rfl ?_
        refine mj_lload dX11_holdsHere_154 1 rfl ?_
        refine t_callSiP dX11_holdsHere_156 M_X8_wordOf (C_X8_wordOf _ _) ML_X11_127 SM_X8_wordOf (As := [.long (s.2.1 x1 ((x2 + x3).toNatClampNeg))]) rfl rfl (Nat.le_of_ble_eq_true rfl) (Nat.le_of_ble_eq_true rfl) (Nat.le_of_ble_eq_true rfl) (Nat.le_of_ble_eq_true rfl) ?_
        refine t_bndK hk (fun r10 er10 hk => ?_)
        refine t_callViP dX11_holdsHere_159 M_X11_memberOf (C_X11_memberOf _ _ _ _ er10) ML_X11_130 IM_X11_memberOf SE_X11_memberOf qc_316 rfl (As := [.int x4, .int (f_X8_wordOf (s.2.1 x1 ((x2 + x3).toNatClampNeg)) s)]) rfl rfl (Nat.le_of_ble_eq_true rfl) (Nat.le_of_ble_eq_true rfl) (Nat.le_of_ble_eq_true rfl) (Nat.le_of_ble_eq_true rfl) ?_
        refine mj_if_lt 169 dX11_holdsHere_162 (by decide) (fun z => t_posK hk z (fun hk => ?_)) (fun z => t_negK hk z (fun hk => ?_))
        · refine mj_iconst (v := 0) dX11_holdsHere_169 (by decide) ?_
          exact t_somK hk (fun hf => t_iret dX11_holdsHere_170 rfl (by decide) ⟨_, rfl, hf⟩ (Nat.le_of_ble_eq_true rfl) (Nat.le_of_ble_eq_true rfl))
        · refine mj_iconst (v := 1) dX11_holdsHere_165 (by decide) ?_
          refine mj_goto 170 dX11_holdsHere_166 (by decide) ?_
          exact t_somK hk (fun hf => t_iret dX11_holdsHere_170 rfl (by decide) ⟨_, rfl, hf⟩ (Nat.le_of_ble_eq_true rfl) (Nat.le_of_ble_eq_true rfl))
    replace hk := t_neg hk h3
    by_cases h4 : (s.1 317 (x4.toNatClampNeg)).toInt = 5
    · replace hk := t_pos hk h4
      refine mj_tableIn 196 dX11_holdsHere_21 hh1 hh2 (by rw [h4]; rfl) (by decide) ?_
      refine mj_iload dX11_holdsHere_196 0 rfl ?_
      refine mj_bipush (v := 6) dX11_holdsHere_198 (by decide) ?_
      refine mj_icmp_ne 219 dX11_holdsHere_200 (by decide) (fun z => t_negK hk z (fun hk => ?_)) (fun z => t_posK hk z (fun hk => ?_))
      · refine mj_iconst (v := 0) dX11_holdsHere_219 (by decide) ?_
        exact t_somK hk (fun hf => t_iret dX11_holdsHere_220 rfl (by decide) ⟨_, rfl, hf⟩ (Nat.le_of_ble_eq_true rfl) (Nat.le_of_ble_eq_true rfl))
      · refine mj_aload_n dX11_holdsHere_203 2 rfl ?_
        refine mj_aload_n dX11_holdsHere_204 3 rfl ?_
        refine mj_iload_n dX11_holdsHere_205 4 rfl ?_
        refine mj_iload_n dX11_holdsHere_206 5 rfl ?_
        refine mj_iload dX11_holdsHere_207 6 rfl ?_
        refine t_bndK hk (fun r11 er11 hk => ?_)
        refine t_callViE dX11_holdsHere_209 M_X11_holdsRecord (C_X11_holdsRecord _ _ _ _ _ _ er11) ML_X11_136 IM_X11_holdsRecord SE_X11_holdsRecord qc_316 rfl (As := [.ref x1, .int x2, .int x3, .int x4]) rfl rfl (Nat.le_of_ble_eq_true rfl) (Nat.le_of_ble_eq_true rfl) (Nat.le_of_ble_eq_true rfl) (Nat.le_of_ble_eq_true rfl) ?_
        refine mj_if_eq 219 dX11_holdsHere_212 (by decide) (fun z => t_posK hk z (fun hk => ?_)) (fun z => t_negK hk z (fun hk => ?_))
        · refine mj_iconst (v := 0) dX11_holdsHere_219 (by decide) ?_
          exact t_somK hk (fun hf => t_iret dX11_holdsHere_220 rfl (by decide) ⟨_, rfl, hf⟩ (Nat.le_of_ble_eq_true rfl) (Nat.le_of_ble_eq_true rfl))
        · refine mj_iconst (v := 1) dX11_holdsHere_215 (by decide) ?_
          refine mj_goto 220 dX11_holdsHere_216 (by decide) ?_
          exact t_somK hk (fun hf => t_iret dX11_holdsHere_220 rfl (by decide) ⟨_, rfl, hf⟩ (Nat.le_of_ble_eq_true rfl) (Nat.le_of_ble_eq_true rfl))
    replace hk := t_neg hk h4
    by_cases h5 : (s.1 317 (x4.toNatClampNeg)).toInt = 6
    · replace hk := t_pos hk h5
      refine mj_tableIn 221 dX11_holdsHere_21 hh1 hh2 (by rw [h5]; rfl) (by decide) ?_
      refine mj_iload dX11_holdsHere_221 0 rfl ?_
      refine mj_bipush (v := 7) dX11_holdsHere_223 (by decide) ?_
      refine mj_icmp_ne 242 dX11_holdsHere_225 (by decide) (fun z => t_negK hk z (fun hk => ?_)) (fun z => t_posK hk z (fun hk => ?_))
      · refine mj_iconst (v := (-1)) dX11_holdsHere_242 (by decide) ?_
        refine mj_sublv [(0, .ref 316), (3, .int x3)] [2, 5] rfl ?_
        exact B_X11_holdsHere_243 _ _ _ _ hk
      · refine mj_aload_n dX11_holdsHere_228 2 rfl ?_
        refine mj_iload dX11_holdsHere_229 6 rfl ?_
        refine mj_lload dX11_holdsHere_231 1 rfl ?_
        refine t_callSiP dX11_holdsHere_233 M_X8_wordOf (C_X8_wordOf _ _) ML_X11_127 SM_X8_wordOf (As := [.long (s.2.1 x1 ((x2 + x3).toNatClampNeg))]) rfl rfl (Nat.le_of_ble_eq_true rfl) (Nat.le_of_ble_eq_true rfl) (Nat.le_of_ble_eq_true rfl) (Nat.le_of_ble_eq_true rfl) ?_
        refine t_bndK hk (fun r13 er13 hk => ?_)
        refine t_callViP dX11_holdsHere_236 M_X11_fieldOf (C_X11_fieldOf _ _ _ _ er13) ML_X11_139 IM_X11_fieldOf SE_X11_fieldOf qc_316 rfl (As := [.int x4, .int (f_X8_wordOf (s.2.1 x1 ((x2 + x3).toNatClampNeg)) s)]) rfl rfl (Nat.le_of_ble_eq_true rfl) (Nat.le_of_ble_eq_true rfl) (Nat.le_of_ble_eq_true rfl) (Nat.le_of_ble_eq_true rfl) ?_
        refine mj_goto 243 dX11_holdsHere_239 (by decide) ?_
        refine mj_sublv [(0, .ref 316), (3, .int x3)] [2, 5] rfl ?_
        exact B_X11_holdsHere_243 _ _ _ _ hk
    replace hk := t_neg hk h5
    have h6 : (s.1 317 (x4.toNatClampNeg)).toInt = 7 := by omega
    refine mj_tableIn 171 dX11_holdsHere_21 hh1 hh2 (by rw [h6]; rfl) (by decide) ?_
    refine mj_iload dX11_holdsHere_171 0 rfl ?_
    refine mj_bipush (v := 8) dX11_holdsHere_173 (by decide) ?_
    refine mj_icmp_ne 194 dX11_holdsHere_175 (by decide) (fun z => t_negK hk z (fun hk => ?_)) (fun z => t_posK hk z (fun hk => ?_))
    · refine mj_iconst (v := 0) dX11_holdsHere_194 (by decide) ?_
      exact t_somK hk (fun hf => t_iret dX11_holdsHere_195 rfl (by decide) ⟨_, rfl, hf⟩ (Nat.le_of_ble_eq_true rfl) (Nat.le_of_ble_eq_true rfl))
    · refine mj_aload_n dX11_holdsHere_178 2 rfl ?_
      refine mj_aload_n dX11_holdsHere_179 3 rfl ?_
      refine mj_iload_n dX11_holdsHere_180 4 rfl ?_
      refine mj_iload_n dX11_holdsHere_181 5 rfl ?_
      refine mj_iload dX11_holdsHere_182 6 rfl ?_
      refine t_bndK hk (fun r14 er14 hk => ?_)
      refine t_callViE dX11_holdsHere_184 M_X11_holdsList (C_X11_holdsList _ _ _ _ _ _ er14) ML_X11_133 IM_X11_holdsList SE_X11_holdsList qc_316 rfl (As := [.ref x1, .int x2, .int x3, .int x4]) rfl rfl (Nat.le_of_ble_eq_true rfl) (Nat.le_of_ble_eq_true rfl) (Nat.le_of_ble_eq_true rfl) (Nat.le_of_ble_eq_true rfl) ?_
      refine mj_if_eq 194 dX11_holdsHere_187 (by decide) (fun z => t_posK hk z (fun hk => ?_)) (fun z => t_negK hk z (fun hk => ?_))
      · refine mj_iconst (v := 0) dX11_holdsHere_194 (by decide) ?_
        exact t_somK hk (fun hf => t_iret dX11_holdsHere_195 rfl (by decide) ⟨_, rfl, hf⟩ (Nat.le_of_ble_eq_true rfl) (Nat.le_of_ble_eq_true rfl))
      · refine mj_iconst (v := 1) dX11_holdsHere_190 (by decide) ?_
        refine mj_goto 195 dX11_holdsHere_191 (by decide) ?_
        exact t_somK hk (fun hf => t_iret dX11_holdsHere_195 rfl (by decide) ⟨_, rfl, hf⟩ (Nat.le_of_ble_eq_true rfl) (Nat.le_of_ble_eq_true rfl))

theorem dX11_holds_0 : decode cX11_holds 0 = .ok (.aload_n 1, 1) := by decide +kernel
theorem dX11_holds_1 : decode cX11_holds 1 = .ok (.iload_n 2, 1) := by decide +kernel
theorem dX11_holds_11 : decode cX11_holds 11 = .ok (.istore 4, 2) := by decide +kernel
theorem dX11_holds_13 : decode cX11_holds 13 = .ok (.aload_n 0, 1) := by decide +kernel
theorem dX11_holds_14 : decode cX11_holds 14 = .ok (.getfield 62, 3) := by decide +kernel
theorem dX11_holds_17 : decode cX11_holds 17 = .ok (.iconst (-1), 1) := by decide +kernel
theorem dX11_holds_18 : decode cX11_holds 18 = .ok (.invokestatic 83, 3) := by decide +kernel
theorem dX11_holds_2 : decode cX11_holds 2 = .ok (.laload, 1) := by decide +kernel
theorem dX11_holds_21 : decode cX11_holds 21 = .ok (.aload_n 0, 1) := by decide +kernel
theorem dX11_holds_22 : decode cX11_holds 22 = .ok (.getfield 62, 3) := by decide +kernel
theorem dX11_holds_25 : decode cX11_holds 25 = .ok (.iconst 0, 1) := by decide +kernel
theorem dX11_holds_26 : decode cX11_holds 26 = .ok (.iload_n 3, 1) := by decide +kernel
theorem dX11_holds_27 : decode cX11_holds 27 = .ok (.iastore, 1) := by decide +kernel
theorem dX11_holds_28 : decode cX11_holds 28 = .ok (.iconst 0, 1) := by decide +kernel
theorem dX11_holds_29 : decode cX11_holds 29 = .ok (.istore 5, 2) := by decide +kernel
theorem dX11_holds_3 : decode cX11_holds 3 = .ok (.invokestatic 107, 3) := by decide +kernel
theorem dX11_holds_31 : decode cX11_holds 31 = .ok (.iload 5, 2) := by decide +kernel
theorem dX11_holds_33 : decode cX11_holds 33 = .ok (.iload 4, 2) := by decide +kernel
theorem dX11_holds_35 : decode cX11_holds 35 = .ok (.if_icmp .ge 43, 3) := by decide +kernel
theorem dX11_holds_38 : decode cX11_holds 38 = .ok (.aload_n 0, 1) := by decide +kernel
theorem dX11_holds_39 : decode cX11_holds 39 = .ok (.getfield 62, 3) := by decide +kernel
theorem dX11_holds_42 : decode cX11_holds 42 = .ok (.iload 5, 2) := by decide +kernel
theorem dX11_holds_44 : decode cX11_holds 44 = .ok (.iaload, 1) := by decide +kernel
theorem dX11_holds_45 : decode cX11_holds 45 = .ok (.ifCond .lt 27, 3) := by decide +kernel
theorem dX11_holds_48 : decode cX11_holds 48 = .ok (.aload_n 0, 1) := by decide +kernel
theorem dX11_holds_49 : decode cX11_holds 49 = .ok (.aload_n 1, 1) := by decide +kernel
theorem dX11_holds_50 : decode cX11_holds 50 = .ok (.iload_n 2, 1) := by decide +kernel
theorem dX11_holds_51 : decode cX11_holds 51 = .ok (.iload 5, 2) := by decide +kernel
theorem dX11_holds_53 : decode cX11_holds 53 = .ok (.aload_n 0, 1) := by decide +kernel
theorem dX11_holds_54 : decode cX11_holds 54 = .ok (.aload_n 0, 1) := by decide +kernel
theorem dX11_holds_55 : decode cX11_holds 55 = .ok (.getfield 62, 3) := by decide +kernel
theorem dX11_holds_58 : decode cX11_holds 58 = .ok (.iload 5, 2) := by decide +kernel
theorem dX11_holds_6 : decode cX11_holds 6 = .ok (.bipush 120, 2) := by decide +kernel
theorem dX11_holds_60 : decode cX11_holds 60 = .ok (.iaload, 1) := by decide +kernel
theorem dX11_holds_61 : decode cX11_holds 61 = .ok (.invokevirtual 111, 3) := by decide +kernel
theorem dX11_holds_64 : decode cX11_holds 64 = .ok (.invokevirtual 114, 3) := by decide +kernel
theorem dX11_holds_67 : decode cX11_holds 67 = .ok (.ifCond .ne 5, 3) := by decide +kernel
theorem dX11_holds_70 : decode cX11_holds 70 = .ok (.iconst 0, 1) := by decide +kernel
theorem dX11_holds_71 : decode cX11_holds 71 = .ok (.ireturn, 1) := by decide +kernel
theorem dX11_holds_72 : decode cX11_holds 72 = .ok (.iinc 5 1, 3) := by decide +kernel
theorem dX11_holds_75 : decode cX11_holds 75 = .ok (.goto (-44), 3) := by decide +kernel
theorem dX11_holds_78 : decode cX11_holds 78 = .ok (.iconst 1, 1) := by decide +kernel
theorem dX11_holds_79 : decode cX11_holds 79 = .ok (.ireturn, 1) := by decide +kernel
theorem dX11_holds_8 : decode cX11_holds 8 = .ok (.invokestatic 95, 3) := by decide +kernel
noncomputable def k_X11_holds_72 (l1 : Nat) (l2 : Int32) (l4 : Int32) (l5 : Int32) (s : t_S) : Option ((Nat × Int32 × Int32 × Int32 × t_S) ⊕ (Int32 × t_S)) :=
 some (.inl (l1, l2, l4, (l5 + 1), s))
set_option maxRecDepth 4000 in
set_option maxHeartbeats 1000000 in
theorem B_X11_holds_72 {D : va_G} {cy : Nat → ClassId} {ad : Nat → Nat} {bs : Nat} {X : State → Heap → Prop} (l1 : Nat) (l2 : Int32) (l4 : Int32) (l5 : Int32) (s : t_S) (Q : (Nat × Int32 × Int32 × Int32 × t_S) ⊕ (Int32 × t_S) → Prop) (Hb31 : ∀ (y0 : Nat) (y1 : Int32) (y2 : Int32) (y3 : Int32) (y4 : t_S), Q (.inl (y0, y1, y2, y3, y4)) → mj_G D cy ad bs X cX11_holds 6 yX11_holds.cls (some .boolean) yX11_holds.name 3 0 0 1065 (t_P (fun v s' => ∃ x, v = some (.int x) ∧ Q (.inr ((x, s'))))) 31 [(0, .ref 316), (1, .ref (y0)), (2, .int (y1)), (4, .int (y2)), (5, .int (y3))] [] (t_m y4) 1065 0 0) (hk : t_hk (k_X11_holds_72 l1 l2 l4 l5 s) Q) : mj_G D cy ad bs X cX11_holds 6 yX11_holds.cls (some .boolean) yX11_holds.name 3 0 0 1065 (t_P (fun v s' => ∃ x, v = some (.int x) ∧ Q (.inr ((x, s'))))) 72 [(0, .ref 316), (1, .ref l1), (2, .int l2), (4, .int l4), (5, .int l5)] [] (t_m s) 1065 0 0 := by
  refine mj_iinc (k := 4) (v := (l5 + 1)) (lv2 := [(5, .int (l5 + 1)), (0, .ref 316), (1, .ref l1), (2, .int l2), (4, .int l4)]) dX11_holds_72 rfl rfl (by decide) rfl ?_
  refine mj_goto 31 dX11_holds_75 (by decide) ?_
  refine mj_sublv [(0, .ref 316), (1, .ref l1), (2, .int l2), (4, .int l4), (5, .int (l5 + 1))] [1, 2, 3, 4, 0] rfl ?_
  exact t_somK hk (fun hf => Hb31 l1 l2 l4 (l5 + 1) s hf)
noncomputable def k_X11_holds_31 (l1 : Nat) (l2 : Int32) (l4 : Int32) (l5 : Int32) (s : t_S) : Option ((Nat × Int32 × Int32 × Int32 × t_S) ⊕ (Int32 × t_S)) :=
 if l4 ≤ l5 then ((some ((1 : Int32), s)).map Sum.inr)
 else (if t_ix l5 120 = true then
  if (s.1 333 (l5.toNatClampNeg)) < (0 : Int32) then (k_X11_holds_72 l1 l2 l4 l5 s)
 else ((f_X11_resolve (s.1 333 (l5.toNatClampNeg)) s).bind (fun r2 =>
 (f_X11_holdsHere l1 l2 l5 r2 s).bind (fun r3 =>
 if r3.1 = (0 : Int32) then ((some ((0 : Int32), r3.2)).map Sum.inr)
 else (k_X11_holds_72 l1 l2 l4 l5 r3.2))))
else none)
set_option maxRecDepth 4000 in
set_option maxHeartbeats 1000000 in
theorem B_X11_holds_31 {D : va_G} {cy : Nat → ClassId} {ad : Nat → Nat} {bs : Nat} {X : State → Heap → Prop} (l1 : Nat) (l2 : Int32) (l4 : Int32) (l5 : Int32) (s : t_S) (Q : (Nat × Int32 × Int32 × Int32 × t_S) ⊕ (Int32 × t_S) → Prop) (Hb31 : ∀ (y0 : Nat) (y1 : Int32) (y2 : Int32) (y3 : Int32) (y4 : t_S), Q (.inl (y0, y1, y2, y3, y4)) → mj_G D cy ad bs X cX11_holds 6 yX11_holds.cls (some .boolean) yX11_holds.name 3 0 0 1065 (t_P (fun v s' => ∃ x, v = some (.int x) ∧ Q (.inr ((x, s'))))) 31 [(0, .ref 316), (1, .ref (y0)), (2, .int (y1)), (4, .int (y2)), (5, .int (y3))] [] (t_m y4) 1065 0 0) (hk : t_hk (k_X11_holds_31 l1 l2 l4 l5 s) Q) : mj_G D cy ad bs X cX11_holds 6 yX11_holds.cls (some .boolean) yX11_holds.name 3 0 0 1065 (t_P (fun v s' => ∃ x, v = some (.int x) ∧ Q (.inr ((x, s'))))) 31 [(0, .ref 316), (1, .ref l1), (2, .int l2), (4, .int l4), (5, .int l5)] [] (t_m s) 1065 0 0 := by
  refine mj_iload dX11_holds_31 4 rfl ?_
  refine mj_iload dX11_holds_33 3 rfl ?_
  refine mj_icmp_ge 78 dX11_holds_35 (by decide) (fun z => t_posK hk z (fun hk => ?_)) (fun z => t_negK hk z (fun hk => ?_))
  · refine t_mapK hk (fun hk => ?_)
    refine mj_iconst (v := 1) dX11_holds_78 (by decide) ?_
    exact t_somK hk (fun hf => t_iret dX11_holds_79 rfl (by decide) ⟨_, rfl, hf⟩ (Nat.le_of_ble_eq_true rfl) (Nat.le_of_ble_eq_true rfl))
  · refine mj_aload_n dX11_holds_38 0 rfl ?_
    refine t_getR 333 dX11_holds_39 F_X11_62 qr_316_20 ?_
    refine mj_iload dX11_holds_42 4 rfl ?_
    refine t_chkK hk (fun c0 hk => ?_)
    refine t_iald dX11_holds_44 qa_333 (t_ixv c0) ?_
    refine mj_if_lt 72 dX11_holds_45 (by decide) (fun z => t_posK hk z (fun hk => ?_)) (fun z => t_negK hk z (fun hk => ?_))
    · exact B_X11_holds_72 _ _ _ _ _ _ (fun y0 y1 y2 y3 y4 hx => Hb31 y0 y1 y2 y3 y4 hx) hk
    · refine mj_aload_n dX11_holds_48 0 rfl ?_
      refine mj_aload_n dX11_holds_49 1 rfl ?_
      refine mj_iload_n dX11_holds_50 2 rfl ?_
      refine mj_iload dX11_holds_51 4 rfl ?_
      refine mj_aload_n dX11_holds_53 0 rfl ?_
      refine mj_aload_n dX11_holds_54 0 rfl ?_
      refine t_getR 333 dX11_holds_55 F_X11_62 qr_316_20 ?_
      refine mj_iload dX11_holds_58 4 rfl ?_
      refine t_iald dX11_holds_60 qa_333 (t_ixv c0) ?_
      refine t_bndK hk (fun r2 er2 hk => ?_)
      refine t_callViP dX11_holds_61 M_X11_resolve (C_X11_resolve _ _ _ er2) ML_X11_111 IM_X11_resolve SE_X11_resolve qc_316 rfl (As := [.int (s.1 333 (l5.toNatClampNeg))]) rfl rfl (Nat.le_of_ble_eq_true rfl) (Nat.le_of_ble_eq_true rfl) (Nat.le_of_ble_eq_true rfl) (Nat.le_of_ble_eq_true rfl) ?_
      refine t_bndK hk (fun r3 er3 hk => ?_)
      refine t_callViE dX11_holds_64 M_X11_holdsHere (C_X11_holdsHere _ _ _ _ _ _ er3) ML_X11_114 IM_X11_holdsHere SE_X11_holdsHere qc_316 rfl (As := [.ref l1, .int l2, .int l5, .int r2]) rfl rfl (Nat.le_of_ble_eq_true rfl) (Nat.le_of_ble_eq_true rfl) (Nat.le_of_ble_eq_true rfl) (Nat.le_of_ble_eq_true rfl) ?_
      refine mj_if_ne 72 dX11_holds_67 (by decide) (fun z => t_negK hk z (fun hk => ?_)) (fun z => t_posK hk z (fun hk => ?_))
      · exact B_X11_holds_72 _ _ _ _ _ _ (fun y0 y1 y2 y3 y4 hx => Hb31 y0 y1 y2 y3 y4 hx) hk
      · refine t_mapK hk (fun hk => ?_)
        refine mj_iconst (v := 0) dX11_holds_70 (by decide) ?_
        exact t_somK hk (fun hf => t_iret dX11_holds_71 rfl (by decide) ⟨_, rfl, hf⟩ (Nat.le_of_ble_eq_true rfl) (Nat.le_of_ble_eq_true rfl))
noncomputable def b_X11_holds_31 (x : Nat × Int32 × Int32 × Int32 × t_S) : Option ((Nat × Int32 × Int32 × Int32 × t_S) ⊕ (Int32 × t_S)) := k_X11_holds_31 x.1 x.2.1 x.2.2.1 x.2.2.2.1 x.2.2.2.2
set_option maxRecDepth 4000 in
set_option maxHeartbeats 1000000 in
theorem LH_X11_holds_31 {D : va_G} {cy : Nat → ClassId} {ad : Nat → Nat} {bs : Nat} {X : State → Heap → Prop} : ∀ (n : Nat) (y0 : Nat) (y1 : Int32) (y2 : Int32) (y3 : Int32) (y4 : t_S) (Q : Int32 × t_S → Prop) (hk : t_hk (t_loop (b_X11_holds_31) n (y0, y1, y2, y3, y4)) Q), mj_G D cy ad bs X cX11_holds 6 yX11_holds.cls (some .boolean) yX11_holds.name 3 0 0 1065 (t_P (fun v s' => ∃ x, v = some (.int x) ∧ Q ((x, s')))) 31 [(0, .ref 316), (1, .ref (y0)), (2, .int (y1)), (4, .int (y2)), (5, .int (y3))] [] (t_m y4) 1065 0 0 := by
  intro n
  induction n with
  | zero => intro y0 y1 y2 y3 y4 Q hk; obtain ⟨r, hr, _⟩ := hk; cases hr
  | succ n ih =>
    intro y0 y1 y2 y3 y4 Q hk
    exact B_X11_holds_31 y0 y1 y2 y3 y4 (fun y => t_lq (b_X11_holds_31) n Q y) (fun y0' y1' y2' y3' y4' hy => ih y0' y1' y2' y3' y4' Q hy) (t_lp hk)
noncomputable def f_X11_holds (x1 : Nat) (x2 : Int32) (x3 : Int32) (s : t_S) : Option (Int32 × t_S) :=
 if t_oka x1 2 (t_ln x1) = true then
  if t_ix x2 (t_ln x1) = true then
  (f_J7_fill_53178 333 (-1 : Int32) s).bind (fun r4 =>
 t_let (t_setI r4 333 ((0 : Int32).toNatClampNeg) x3) (fun s1 =>
 t_loop (b_X11_holds_31) t_N (x1, x2, (if (120 : Int32) < (f_X8_size (s.2.1 x1 (x2.toNatClampNeg)) s) then (120 : Int32) else (f_X8_size (s.2.1 x1 (x2.toNatClampNeg)) s)), 0, s1)))
else none
else none
set_option maxRecDepth 4000 in
set_option maxHeartbeats 1000000 in
theorem C_X11_holds (x1 : Nat) (x2 : Int32) (x3 : Int32) (s : t_S) (r : Int32 × t_S) (hr : f_X11_holds x1 x2 x3 s = some r) : t_C yX11_holds cX11_holds 6 (some .boolean) 3 [.ref 316, .ref x1, .int x2, .int x3] s (fun v s' => v = some (.int r.1) ∧ s' = r.2) := by
  refine t_C.imp (P := fun v s' => ∃ x, v = some (.int x) ∧ (fun q => q = r) ((x, s'))) (t_C.of (by decide +kernel) (Nat.le_of_ble_eq_true rfl) ?_) (fun v s' hp => by obtain ⟨x, rfl, rfl⟩ := hp; exact ⟨rfl, rfl⟩)
  intro D cy ad bs X
  have hk : t_hk (f_X11_holds x1 x2 x3 s) (fun q => q = r) := ⟨r, hr, rfl⟩
  show mj_G D cy ad bs X cX11_holds 6 yX11_holds.cls (some .boolean) yX11_holds.name 3 0 0 1065 (t_P (fun v s' => ∃ x, v = some (.int x) ∧ (fun q => q = r) ((x, s')))) 0 [(0, .ref 316), (1, .ref x1), (2, .int x2), (3, .int x3)] [] (t_m s) 1065 0 0
  refine mj_aload_n dX11_holds_0 1 rfl ?_
  refine mj_iload_n dX11_holds_1 2 rfl ?_
  refine t_chkK hk (fun c0 hk => ?_)
  refine t_chkK hk (fun c1 hk => ?_)
  refine t_lald dX11_holds_2 c0 (t_ixv c1) ?_
  refine t_callSiP dX11_holds_3 M_X8_size (C_X8_size _ _) ML_X11_107 SM_X8_size (As := [.long (s.2.1 x1 (x2.toNatClampNeg))]) rfl rfl (Nat.le_of_ble_eq_true rfl) (Nat.le_of_ble_eq_true rfl) (Nat.le_of_ble_eq_true rfl) (Nat.le_of_ble_eq_true rfl) ?_
  refine mj_bipush (v := 120) dX11_holds_6 (by decide) ?_
  refine mj_imin dX11_holds_8 MM_min_X11_95 (Nat.le_of_ble_eq_true rfl) (Nat.le_of_ble_eq_true rfl) (Nat.le_of_ble_eq_true rfl) (Nat.le_of_ble_eq_true rfl) ?_
  refine mj_istore (lv2 := [(4, .int (if (120 : Int32) < (f_X8_size (s.2.1 x1 (x2.toNatClampNeg)) s) then (120 : Int32) else (f_X8_size (s.2.1 x1 (x2.toNatClampNeg)) s))), (0, .ref 316), (1, .ref x1), (2, .int x2), (3, .int x3)]) dX11_holds_11 (by decide) rfl ?_
  refine mj_aload_n dX11_holds_13 1 rfl ?_
  refine t_getR 333 dX11_holds_14 F_X11_62 qr_316_20 ?_
  refine mj_iconst (v := (-1)) dX11_holds_17 (by decide) ?_
  refine t_bndK hk (fun r4 er4 hk => ?_)
  refine t_callSvE dX11_holds_18 M_J7_fill_53178 (C_J7_fill_53178 _ _ _ _ er4) ML_X11_83 SM_J7_fill_53178 (As := [.ref 333, .int (-1)]) rfl rfl (Nat.le_of_ble_eq_true rfl) (Nat.le_of_ble_eq_true rfl) (Nat.le_of_ble_eq_true rfl) (Nat.le_of_ble_eq_true rfl) ?_
  refine mj_aload_n dX11_holds_21 1 rfl ?_
  refine t_getR 333 dX11_holds_22 F_X11_62 qr_316_20 ?_
  refine mj_iconst (v := 0) dX11_holds_25 (by decide) ?_
  refine mj_iload_n dX11_holds_26 4 rfl ?_
  refine t_iastK dX11_holds_27 qa_333 (by unfold vp_in; decide) (fun s1 ws1 => t_letE hk ws1 (fun hk => ?_))
  refine mj_iconst (v := 0) dX11_holds_28 (by decide) ?_
  refine mj_istore (lv2 := [(5, .int 0), (4, .int (if (120 : Int32) < (f_X8_size (s.2.1 x1 (x2.toNatClampNeg)) s) then (120 : Int32) else (f_X8_size (s.2.1 x1 (x2.toNatClampNeg)) s))), (0, .ref 316), (1, .ref x1), (2, .int x2), (3, .int x3)]) dX11_holds_29 (by decide) rfl ?_
  refine mj_sublv [(0, .ref 316), (1, .ref x1), (2, .int x2), (4, .int (if (120 : Int32) < (f_X8_size (s.2.1 x1 (x2.toNatClampNeg)) s) then (120 : Int32) else (f_X8_size (s.2.1 x1 (x2.toNatClampNeg)) s))), (5, .int 0)] [2, 3, 4, 1, 0] rfl ?_
  exact LH_X11_holds_31 _ x1 x2 (if (120 : Int32) < (f_X8_size (s.2.1 x1 (x2.toNatClampNeg)) s) then (120 : Int32) else (f_X8_size (s.2.1 x1 (x2.toNatClampNeg)) s)) 0 s1 _ hk

theorem dJ6_numberOfTrailingZeros_0f7a4_0 : decode cJ6_numberOfTrailingZeros_0f7a4 0 = .ok (.iload_n 0, 1) := by decide +kernel
theorem dJ6_numberOfTrailingZeros_0f7a4_1 : decode cJ6_numberOfTrailingZeros_0f7a4 1 = .ok (.iconst (-1), 1) := by decide +kernel
theorem dJ6_numberOfTrailingZeros_0f7a4_12 : decode cJ6_numberOfTrailingZeros_0f7a4 12 = .ok (.iload_n 0, 1) := by decide +kernel
theorem dJ6_numberOfTrailingZeros_0f7a4_13 : decode cJ6_numberOfTrailingZeros_0f7a4 13 = .ok (.bipush 32, 2) := by decide +kernel
theorem dJ6_numberOfTrailingZeros_0f7a4_15 : decode cJ6_numberOfTrailingZeros_0f7a4 15 = .ok (.iand, 1) := by decide +kernel
theorem dJ6_numberOfTrailingZeros_0f7a4_16 : decode cJ6_numberOfTrailingZeros_0f7a4 16 = .ok (.ireturn, 1) := by decide +kernel
theorem dJ6_numberOfTrailingZeros_0f7a4_17 : decode cJ6_numberOfTrailingZeros_0f7a4 17 = .ok (.iconst 1, 1) := by decide +kernel
theorem dJ6_numberOfTrailingZeros_0f7a4_18 : decode cJ6_numberOfTrailingZeros_0f7a4 18 = .ok (.istore_n 1, 1) := by decide +kernel
theorem dJ6_numberOfTrailingZeros_0f7a4_19 : decode cJ6_numberOfTrailingZeros_0f7a4 19 = .ok (.iload_n 0, 1) := by decide +kernel
theorem dJ6_numberOfTrailingZeros_0f7a4_2 : decode cJ6_numberOfTrailingZeros_0f7a4 2 = .ok (.ixor, 1) := by decide +kernel
theorem dJ6_numberOfTrailingZeros_0f7a4_20 : decode cJ6_numberOfTrailingZeros_0f7a4 20 = .ok (.ldc_w 264, 3) := by decide +kernel
theorem dJ6_numberOfTrailingZeros_0f7a4_23 : decode cJ6_numberOfTrailingZeros_0f7a4 23 = .ok (.if_icmp .le 11, 3) := by decide +kernel
theorem dJ6_numberOfTrailingZeros_0f7a4_26 : decode cJ6_numberOfTrailingZeros_0f7a4 26 = .ok (.iinc 1 16, 3) := by decide +kernel
theorem dJ6_numberOfTrailingZeros_0f7a4_29 : decode cJ6_numberOfTrailingZeros_0f7a4 29 = .ok (.iload_n 0, 1) := by decide +kernel
theorem dJ6_numberOfTrailingZeros_0f7a4_3 : decode cJ6_numberOfTrailingZeros_0f7a4 3 = .ok (.iload_n 0, 1) := by decide +kernel
theorem dJ6_numberOfTrailingZeros_0f7a4_30 : decode cJ6_numberOfTrailingZeros_0f7a4 30 = .ok (.bipush 16, 2) := by decide +kernel
theorem dJ6_numberOfTrailingZeros_0f7a4_32 : decode cJ6_numberOfTrailingZeros_0f7a4 32 = .ok (.iushr, 1) := by decide +kernel
theorem dJ6_numberOfTrailingZeros_0f7a4_33 : decode cJ6_numberOfTrailingZeros_0f7a4 33 = .ok (.istore_n 0, 1) := by decide +kernel
theorem dJ6_numberOfTrailingZeros_0f7a4_34 : decode cJ6_numberOfTrailingZeros_0f7a4 34 = .ok (.iload_n 0, 1) := by decide +kernel
theorem dJ6_numberOfTrailingZeros_0f7a4_35 : decode cJ6_numberOfTrailingZeros_0f7a4 35 = .ok (.sipush 256, 3) := by decide +kernel
theorem dJ6_numberOfTrailingZeros_0f7a4_38 : decode cJ6_numberOfTrailingZeros_0f7a4 38 = .ok (.if_icmp .le 11, 3) := by decide +kernel
theorem dJ6_numberOfTrailingZeros_0f7a4_4 : decode cJ6_numberOfTrailingZeros_0f7a4 4 = .ok (.iconst 1, 1) := by decide +kernel
theorem dJ6_numberOfTrailingZeros_0f7a4_41 : decode cJ6_numberOfTrailingZeros_0f7a4 41 = .ok (.iinc 1 8, 3) := by decide +kernel
theorem dJ6_numberOfTrailingZeros_0f7a4_44 : decode cJ6_numberOfTrailingZeros_0f7a4 44 = .ok (.iload_n 0, 1) := by decide +kernel
theorem dJ6_numberOfTrailingZeros_0f7a4_45 : decode cJ6_numberOfTrailingZeros_0f7a4 45 = .ok (.bipush 8, 2) := by decide +kernel
theorem dJ6_numberOfTrailingZeros_0f7a4_47 : decode cJ6_numberOfTrailingZeros_0f7a4 47 = .ok (.iushr, 1) := by decide +kernel
theorem dJ6_numberOfTrailingZeros_0f7a4_48 : decode cJ6_numberOfTrailingZeros_0f7a4 48 = .ok (.istore_n 0, 1) := by decide +kernel
theorem dJ6_numberOfTrailingZeros_0f7a4_49 : decode cJ6_numberOfTrailingZeros_0f7a4 49 = .ok (.iload_n 0, 1) := by decide +kernel
theorem dJ6_numberOfTrailingZeros_0f7a4_5 : decode cJ6_numberOfTrailingZeros_0f7a4 5 = .ok (.isub, 1) := by decide +kernel
theorem dJ6_numberOfTrailingZeros_0f7a4_50 : decode cJ6_numberOfTrailingZeros_0f7a4 50 = .ok (.bipush 16, 2) := by decide +kernel
theorem dJ6_numberOfTrailingZeros_0f7a4_52 : decode cJ6_numberOfTrailingZeros_0f7a4 52 = .ok (.if_icmp .le 10, 3) := by decide +kernel
theorem dJ6_numberOfTrailingZeros_0f7a4_55 : decode cJ6_numberOfTrailingZeros_0f7a4 55 = .ok (.iinc 1 4, 3) := by decide +kernel
theorem dJ6_numberOfTrailingZeros_0f7a4_58 : decode cJ6_numberOfTrailingZeros_0f7a4 58 = .ok (.iload_n 0, 1) := by decide +kernel
theorem dJ6_numberOfTrailingZeros_0f7a4_59 : decode cJ6_numberOfTrailingZeros_0f7a4 59 = .ok (.iconst 4, 1) := by decide +kernel
theorem dJ6_numberOfTrailingZeros_0f7a4_6 : decode cJ6_numberOfTrailingZeros_0f7a4 6 = .ok (.iand, 1) := by decide +kernel
theorem dJ6_numberOfTrailingZeros_0f7a4_60 : decode cJ6_numberOfTrailingZeros_0f7a4 60 = .ok (.iushr, 1) := by decide +kernel
theorem dJ6_numberOfTrailingZeros_0f7a4_61 : decode cJ6_numberOfTrailingZeros_0f7a4 61 = .ok (.istore_n 0, 1) := by decide +kernel
theorem dJ6_numberOfTrailingZeros_0f7a4_62 : decode cJ6_numberOfTrailingZeros_0f7a4 62 = .ok (.iload_n 0, 1) := by decide +kernel
theorem dJ6_numberOfTrailingZeros_0f7a4_63 : decode cJ6_numberOfTrailingZeros_0f7a4 63 = .ok (.iconst 4, 1) := by decide +kernel
theorem dJ6_numberOfTrailingZeros_0f7a4_64 : decode cJ6_numberOfTrailingZeros_0f7a4 64 = .ok (.if_icmp .le 10, 3) := by decide +kernel
theorem dJ6_numberOfTrailingZeros_0f7a4_67 : decode cJ6_numberOfTrailingZeros_0f7a4 67 = .ok (.iinc 1 2, 3) := by decide +kernel
theorem dJ6_numberOfTrailingZeros_0f7a4_7 : decode cJ6_numberOfTrailingZeros_0f7a4 7 = .ok (.istore_n 0, 1) := by decide +kernel
theorem dJ6_numberOfTrailingZeros_0f7a4_70 : decode cJ6_numberOfTrailingZeros_0f7a4 70 = .ok (.iload_n 0, 1) := by decide +kernel
theorem dJ6_numberOfTrailingZeros_0f7a4_71 : decode cJ6_numberOfTrailingZeros_0f7a4 71 = .ok (.iconst 2, 1) := by decide +kernel
theorem dJ6_numberOfTrailingZeros_0f7a4_72 : decode cJ6_numberOfTrailingZeros_0f7a4 72 = .ok (.iushr, 1) := by decide +kernel
theorem dJ6_numberOfTrailingZeros_0f7a4_73 : decode cJ6_numberOfTrailingZeros_0f7a4 73 = .ok (.istore_n 0, 1) := by decide +kernel
theorem dJ6_numberOfTrailingZeros_0f7a4_74 : decode cJ6_numberOfTrailingZeros_0f7a4 74 = .ok (.iload_n 1, 1) := by decide +kernel
theorem dJ6_numberOfTrailingZeros_0f7a4_75 : decode cJ6_numberOfTrailingZeros_0f7a4 75 = .ok (.iload_n 0, 1) := by decide +kernel
theorem dJ6_numberOfTrailingZeros_0f7a4_76 : decode cJ6_numberOfTrailingZeros_0f7a4 76 = .ok (.iconst 1, 1) := by decide +kernel
theorem dJ6_numberOfTrailingZeros_0f7a4_77 : decode cJ6_numberOfTrailingZeros_0f7a4 77 = .ok (.iushr, 1) := by decide +kernel
theorem dJ6_numberOfTrailingZeros_0f7a4_78 : decode cJ6_numberOfTrailingZeros_0f7a4 78 = .ok (.iadd, 1) := by decide +kernel
theorem dJ6_numberOfTrailingZeros_0f7a4_79 : decode cJ6_numberOfTrailingZeros_0f7a4 79 = .ok (.ireturn, 1) := by decide +kernel
theorem dJ6_numberOfTrailingZeros_0f7a4_8 : decode cJ6_numberOfTrailingZeros_0f7a4 8 = .ok (.iload_n 0, 1) := by decide +kernel
theorem dJ6_numberOfTrailingZeros_0f7a4_9 : decode cJ6_numberOfTrailingZeros_0f7a4 9 = .ok (.ifCond .gt 8, 3) := by decide +kernel
noncomputable def k_J6_numberOfTrailingZeros_0f7a4_74 (l0 : Int32) (l1 : Int32) (s : t_S) : Int32 :=
 (l1 + ((l0.toUInt32 >>> ((1 : Int32).toUInt32 &&& Int32.toUInt32 31)).toInt32))
set_option maxRecDepth 4000 in
set_option maxHeartbeats 1000000 in
theorem B_J6_numberOfTrailingZeros_0f7a4_74 {D : va_G} {cy : Nat → ClassId} {ad : Nat → Nat} {bs : Nat} {X : State → Heap → Prop} (l0 : Int32) (l1 : Int32) (s : t_S) (Q : Int32 → Prop) (hk : t_ht (k_J6_numberOfTrailingZeros_0f7a4_74 l0 l1 s) Q) : mj_G D cy ad bs X cJ6_numberOfTrailingZeros_0f7a4 2 yJ6_numberOfTrailingZeros_0f7a4.cls (some .int) yJ6_numberOfTrailingZeros_0f7a4.name 0 0 0 1065 (t_P (fun v s' => s' = s ∧ ∃ x, v = some (.int x) ∧ Q (x))) 74 [(0, .int l0), (1, .int l1)] [] (t_m s) 1065 0 0 := by
  refine mj_iload_n dJ6_numberOfTrailingZeros_0f7a4_74 1 rfl ?_
  refine mj_iload_n dJ6_numberOfTrailingZeros_0f7a4_75 0 rfl ?_
  refine mj_iconst (v := 1) dJ6_numberOfTrailingZeros_0f7a4_76 (by decide) ?_
  refine mj_iushr dJ6_numberOfTrailingZeros_0f7a4_77 rfl ?_
  refine mj_iadd dJ6_numberOfTrailingZeros_0f7a4_78 ?_
  exact t_iret dJ6_numberOfTrailingZeros_0f7a4_79 rfl rfl ⟨rfl, _, rfl, hk⟩ (Nat.le_of_ble_eq_true rfl) (Nat.le_of_ble_eq_true rfl)
noncomputable def k_J6_numberOfTrailingZeros_0f7a4_62 (l0 : Int32) (l1 : Int32) (s : t_S) : Int32 :=
 if l0 ≤ (4 : Int32) then (k_J6_numberOfTrailingZeros_0f7a4_74 l0 l1 s)
 else (k_J6_numberOfTrailingZeros_0f7a4_74 ((l0.toUInt32 >>> ((2 : Int32).toUInt32 &&& Int32.toUInt32 31)).toInt32) (l1 + 2) s)
set_option maxRecDepth 4000 in
set_option maxHeartbeats 1000000 in
theorem B_J6_numberOfTrailingZeros_0f7a4_62 {D : va_G} {cy : Nat → ClassId} {ad : Nat → Nat} {bs : Nat} {X : State → Heap → Prop} (l0 : Int32) (l1 : Int32) (s : t_S) (Q : Int32 → Prop) (hk : t_ht (k_J6_numberOfTrailingZeros_0f7a4_62 l0 l1 s) Q) : mj_G D cy ad bs X cJ6_numberOfTrailingZeros_0f7a4 2 yJ6_numberOfTrailingZeros_0f7a4.cls (some .int) yJ6_numberOfTrailingZeros_0f7a4.name 0 0 0 1065 (t_P (fun v s' => s' = s ∧ ∃ x, v = some (.int x) ∧ Q (x))) 62 [(0, .int l0), (1, .int l1)] [] (t_m s) 1065 0 0 := by
  refine mj_iload_n dJ6_numberOfTrailingZeros_0f7a4_62 0 rfl ?_
  refine mj_iconst (v := 4) dJ6_numberOfTrailingZeros_0f7a4_63 (by decide) ?_
  refine mj_icmp_le 74 dJ6_numberOfTrailingZeros_0f7a4_64 (by decide) (fun z => t_posTK hk z (fun hk => ?_)) (fun z => t_negTK hk z (fun hk => ?_))
  · exact B_J6_numberOfTrailingZeros_0f7a4_74 _ _ _ _ hk
  · refine mj_iinc (k := 1) (v := (l1 + 2)) (lv2 := [(1, .int (l1 + 2)), (0, .int l0)]) dJ6_numberOfTrailingZeros_0f7a4_67 rfl rfl (by decide) rfl ?_
    refine mj_iload_n dJ6_numberOfTrailingZeros_0f7a4_70 1 rfl ?_
    refine mj_iconst (v := 2) dJ6_numberOfTrailingZeros_0f7a4_71 (by decide) ?_
    refine mj_iushr dJ6_numberOfTrailingZeros_0f7a4_72 rfl ?_
    refine mj_istore_n 0 (lv2 := [(0, .int ((l0.toUInt32 >>> ((2 : Int32).toUInt32 &&& Int32.toUInt32 31)).toInt32)), (1, .int (l1 + 2))]) dJ6_numberOfTrailingZeros_0f7a4_73 rfl (by decide) rfl ?_
    exact B_J6_numberOfTrailingZeros_0f7a4_74 _ _ _ _ hk
noncomputable def k_J6_numberOfTrailingZeros_0f7a4_49 (l0 : Int32) (l1 : Int32) (s : t_S) : Int32 :=
 if l0 ≤ (16 : Int32) then (k_J6_numberOfTrailingZeros_0f7a4_62 l0 l1 s)
 else (k_J6_numberOfTrailingZeros_0f7a4_62 ((l0.toUInt32 >>> ((4 : Int32).toUInt32 &&& Int32.toUInt32 31)).toInt32) (l1 + 4) s)
set_option maxRecDepth 4000 in
set_option maxHeartbeats 1000000 in
theorem B_J6_numberOfTrailingZeros_0f7a4_49 {D : va_G} {cy : Nat → ClassId} {ad : Nat → Nat} {bs : Nat} {X : State → Heap → Prop} (l0 : Int32) (l1 : Int32) (s : t_S) (Q : Int32 → Prop) (hk : t_ht (k_J6_numberOfTrailingZeros_0f7a4_49 l0 l1 s) Q) : mj_G D cy ad bs X cJ6_numberOfTrailingZeros_0f7a4 2 yJ6_numberOfTrailingZeros_0f7a4.cls (some .int) yJ6_numberOfTrailingZeros_0f7a4.name 0 0 0 1065 (t_P (fun v s' => s' = s ∧ ∃ x, v = some (.int x) ∧ Q (x))) 49 [(0, .int l0), (1, .int l1)] [] (t_m s) 1065 0 0 := by
  refine mj_iload_n dJ6_numberOfTrailingZeros_0f7a4_49 0 rfl ?_
  refine mj_bipush (v := 16) dJ6_numberOfTrailingZeros_0f7a4_50 (by decide) ?_
  refine mj_icmp_le 62 dJ6_numberOfTrailingZeros_0f7a4_52 (by decide) (fun z => t_posTK hk z (fun hk => ?_)) (fun z => t_negTK hk z (fun hk => ?_))
  · exact B_J6_numberOfTrailingZeros_0f7a4_62 _ _ _ _ hk
  · refine mj_iinc (k := 1) (v := (l1 + 4)) (lv2 := [(1, .int (l1 + 4)), (0, .int l0)]) dJ6_numberOfTrailingZeros_0f7a4_55 rfl rfl (by decide) rfl ?_
    refine mj_iload_n dJ6_numberOfTrailingZeros_0f7a4_58 1 rfl ?_
    refine mj_iconst (v := 4) dJ6_numberOfTrailingZeros_0f7a4_59 (by decide) ?_
    refine mj_iushr dJ6_numberOfTrailingZeros_0f7a4_60 rfl ?_
    refine mj_istore_n 0 (lv2 := [(0, .int ((l0.toUInt32 >>> ((4 : Int32).toUInt32 &&& Int32.toUInt32 31)).toInt32)), (1, .int (l1 + 4))]) dJ6_numberOfTrailingZeros_0f7a4_61 rfl (by decide) rfl ?_
    exact B_J6_numberOfTrailingZeros_0f7a4_62 _ _ _ _ hk
noncomputable def k_J6_numberOfTrailingZeros_0f7a4_34 (l0 : Int32) (l1 : Int32) (s : t_S) : Int32 :=
 if l0 ≤ (256 : Int32) then (k_J6_numberOfTrailingZeros_0f7a4_49 l0 l1 s)
 else (k_J6_numberOfTrailingZeros_0f7a4_49 ((l0.toUInt32 >>> ((8 : Int32).toUInt32 &&& Int32.toUInt32 31)).toInt32) (l1 + 8) s)
set_option maxRecDepth 4000 in
set_option maxHeartbeats 1000000 in
theorem B_J6_numberOfTrailingZeros_0f7a4_34 {D : va_G} {cy : Nat → ClassId} {ad : Nat → Nat} {bs : Nat} {X : State → Heap → Prop} (l0 : Int32) (l1 : Int32) (s : t_S) (Q : Int32 → Prop) (hk : t_ht (k_J6_numberOfTrailingZeros_0f7a4_34 l0 l1 s) Q) : mj_G D cy ad bs X cJ6_numberOfTrailingZeros_0f7a4 2 yJ6_numberOfTrailingZeros_0f7a4.cls (some .int) yJ6_numberOfTrailingZeros_0f7a4.name 0 0 0 1065 (t_P (fun v s' => s' = s ∧ ∃ x, v = some (.int x) ∧ Q (x))) 34 [(0, .int l0), (1, .int l1)] [] (t_m s) 1065 0 0 := by
  refine mj_iload_n dJ6_numberOfTrailingZeros_0f7a4_34 0 rfl ?_
  refine mj_sipush (v := 256) dJ6_numberOfTrailingZeros_0f7a4_35 (by decide) ?_
  refine mj_icmp_le 49 dJ6_numberOfTrailingZeros_0f7a4_38 (by decide) (fun z => t_posTK hk z (fun hk => ?_)) (fun z => t_negTK hk z (fun hk => ?_))
  · exact B_J6_numberOfTrailingZeros_0f7a4_49 _ _ _ _ hk
  · refine mj_iinc (k := 1) (v := (l1 + 8)) (lv2 := [(1, .int (l1 + 8)), (0, .int l0)]) dJ6_numberOfTrailingZeros_0f7a4_41 rfl rfl (by decide) rfl ?_
    refine mj_iload_n dJ6_numberOfTrailingZeros_0f7a4_44 1 rfl ?_
    refine mj_bipush (v := 8) dJ6_numberOfTrailingZeros_0f7a4_45 (by decide) ?_
    refine mj_iushr dJ6_numberOfTrailingZeros_0f7a4_47 rfl ?_
    refine mj_istore_n 0 (lv2 := [(0, .int ((l0.toUInt32 >>> ((8 : Int32).toUInt32 &&& Int32.toUInt32 31)).toInt32)), (1, .int (l1 + 8))]) dJ6_numberOfTrailingZeros_0f7a4_48 rfl (by decide) rfl ?_
    exact B_J6_numberOfTrailingZeros_0f7a4_49 _ _ _ _ hk
noncomputable def f_J6_numberOfTrailingZeros_0f7a4 (x1 : Int32) (s : t_S) : Int32 :=
 if (0 : Int32) < ((x1 ^^^ (-1 : Int32)) &&& (x1 - (1 : Int32))) then (if ((x1 ^^^ (-1 : Int32)) &&& (x1 - (1 : Int32))) ≤ (65536 : Int32) then (k_J6_numberOfTrailingZeros_0f7a4_34 ((x1 ^^^ (-1 : Int32)) &&& (x1 - (1 : Int32))) 1 s)
 else (k_J6_numberOfTrailingZeros_0f7a4_34 ((((x1 ^^^ (-1 : Int32)) &&& (x1 - (1 : Int32))).toUInt32 >>> ((16 : Int32).toUInt32 &&& Int32.toUInt32 31)).toInt32) 17 s))
 else ((((x1 ^^^ (-1 : Int32)) &&& (x1 - (1 : Int32))) &&& (32 : Int32)))
set_option maxRecDepth 4000 in
set_option maxHeartbeats 1000000 in
theorem C_J6_numberOfTrailingZeros_0f7a4 (x1 : Int32) (s : t_S) : t_C yJ6_numberOfTrailingZeros_0f7a4 cJ6_numberOfTrailingZeros_0f7a4 2 (some .int) 0 [.int x1] s (fun v s' => v = some (.int (f_J6_numberOfTrailingZeros_0f7a4 x1 s)) ∧ s' = s) := by
  refine t_C.imp (P := fun v s' => s' = s ∧ ∃ x, v = some (.int x) ∧ (fun r => r = f_J6_numberOfTrailingZeros_0f7a4 x1 s) (x)) (t_C.of (by decide +kernel) (Nat.le_of_ble_eq_true rfl) ?_) (fun v s' hp => by obtain ⟨rfl, x, rfl, rfl⟩ := hp; exact ⟨rfl, rfl⟩)
  intro D cy ad bs X
  have hk : t_ht (f_J6_numberOfTrailingZeros_0f7a4 x1 s) (fun r => r = f_J6_numberOfTrailingZeros_0f7a4 x1 s) := rfl
  show mj_G D cy ad bs X cJ6_numberOfTrailingZeros_0f7a4 2 yJ6_numberOfTrailingZeros_0f7a4.cls (some .int) yJ6_numberOfTrailingZeros_0f7a4.name 0 0 0 1065 (t_P (fun v s' => s' = s ∧ ∃ x, v = some (.int x) ∧ (fun r => r = f_J6_numberOfTrailingZeros_0f7a4 x1 s) (x))) 0 [(0, .int x1)] [] (t_m s) 1065 0 0
  refine mj_iload_n dJ6_numberOfTrailingZeros_0f7a4_0 0 rfl ?_
  refine mj_iconst (v := (-1)) dJ6_numberOfTrailingZeros_0f7a4_1 (by decide) ?_
  refine mj_ixor dJ6_numberOfTrailingZeros_0f7a4_2 ?_
  refine mj_iload_n dJ6_numberOfTrailingZeros_0f7a4_3 0 rfl ?_
  refine mj_iconst (v := 1) dJ6_numberOfTrailingZeros_0f7a4_4 (by decide) ?_
  refine mj_isub dJ6_numberOfTrailingZeros_0f7a4_5 ?_
  refine mj_iand dJ6_numberOfTrailingZeros_0f7a4_6 ?_
  refine mj_istore_n 0 (lv2 := [(0, .int ((x1 ^^^ (-1 : Int32)) &&& (x1 - (1 : Int32))))]) dJ6_numberOfTrailingZeros_0f7a4_7 rfl (by decide) rfl ?_
  refine mj_iload_n dJ6_numberOfTrailingZeros_0f7a4_8 0 rfl ?_
  refine mj_if_gt 17 dJ6_numberOfTrailingZeros_0f7a4_9 (by decide) (fun z => t_posTK hk z (fun hk => ?_)) (fun z => t_negTK hk z (fun hk => ?_))
  · refine mj_iconst (v := 1) dJ6_numberOfTrailingZeros_0f7a4_17 (by decide) ?_
    refine mj_istore_n 1 (lv2 := [(1, .int 1), (0, .int ((x1 ^^^ (-1 : Int32)) &&& (x1 - (1 : Int32))))]) dJ6_numberOfTrailingZeros_0f7a4_18 rfl (by decide) rfl ?_
    refine mj_iload_n dJ6_numberOfTrailingZeros_0f7a4_19 1 rfl ?_
    refine mj_ldcw dJ6_numberOfTrailingZeros_0f7a4_20 K_J6_264 ?_
    refine mj_icmp_le 34 dJ6_numberOfTrailingZeros_0f7a4_23 (by decide) (fun z => t_posTK hk z (fun hk => ?_)) (fun z => t_negTK hk z (fun hk => ?_))
    · refine mj_sublv [(0, .int ((x1 ^^^ (-1 : Int32)) &&& (x1 - (1 : Int32)))), (1, .int 1)] [1, 0] rfl ?_
      exact B_J6_numberOfTrailingZeros_0f7a4_34 _ _ _ _ hk
    · refine mj_iinc (k := 0) (v := 17) (lv2 := [(1, .int 17), (0, .int ((x1 ^^^ (-1 : Int32)) &&& (x1 - (1 : Int32))))]) dJ6_numberOfTrailingZeros_0f7a4_26 rfl (by decide) (by decide) rfl ?_
      refine mj_iload_n dJ6_numberOfTrailingZeros_0f7a4_29 1 rfl ?_
      refine mj_bipush (v := 16) dJ6_numberOfTrailingZeros_0f7a4_30 (by decide) ?_
      refine mj_iushr dJ6_numberOfTrailingZeros_0f7a4_32 rfl ?_
      refine mj_istore_n 0 (lv2 := [(0, .int ((((x1 ^^^ (-1 : Int32)) &&& (x1 - (1 : Int32))).toUInt32 >>> ((16 : Int32).toUInt32 &&& Int32.toUInt32 31)).toInt32)), (1, .int 17)]) dJ6_numberOfTrailingZeros_0f7a4_33 rfl (by decide) rfl ?_
      exact B_J6_numberOfTrailingZeros_0f7a4_34 _ _ _ _ hk
  · refine mj_iload_n dJ6_numberOfTrailingZeros_0f7a4_12 0 rfl ?_
    refine mj_bipush (v := 32) dJ6_numberOfTrailingZeros_0f7a4_13 (by decide) ?_
    refine mj_iand dJ6_numberOfTrailingZeros_0f7a4_15 ?_
    exact t_iret dJ6_numberOfTrailingZeros_0f7a4_16 rfl rfl ⟨rfl, _, rfl, hk⟩ (Nat.le_of_ble_eq_true rfl) (Nat.le_of_ble_eq_true rfl)

