/-! Methods as functions, 3: X0_cellOf, X0_hasRoom, X8_size, X0_pushFrom, X8_plainCell, X0_splice, X8_elementAt, X8_partsOf, X0_putElement, X8_fieldAt, X8_wordOf, X0_putField, X0_topAt, X0_top, X8_cell, X8_kind, X0_putPart, X0_stepInto, X8_told -/
theorem qa_13 : t_oka 13 2 190680 = true := by decide +kernel
theorem qa_14 : t_oka 14 1 1589 = true := by decide +kernel
theorem qa_335 : t_oka 335 1 16000 = true := by decide +kernel
theorem qa_336 : t_oka 336 1 16000 = true := by decide +kernel
theorem qa_338 : t_oka 338 2 48000 = true := by decide +kernel
theorem qa_339 : t_oka 339 1 3201 = true := by decide +kernel
theorem qa_340 : t_oka 340 2 240 = true := by decide +kernel
theorem qa_341 : t_oka 341 2 240 = true := by decide +kernel
theorem qa_342 : t_oka 342 1 124 = true := by decide +kernel
theorem qc_334 : t_okc 334 0 = true := by decide +kernel
theorem qf_334_11 : t_okf 334 0 11 0 = true := by decide +kernel
theorem qf_334_12 : t_okf 334 0 12 0 = true := by decide +kernel
theorem qf_334_7 : t_okf 334 0 7 0 = true := by decide +kernel
theorem qr_12_0 : t_okr 12 8 0 13 = true := by decide +kernel
theorem qr_12_1 : t_okr 12 8 1 14 = true := by decide +kernel
theorem qr_334_0 : t_okr 334 0 0 335 = true := by decide +kernel
theorem qr_334_1 : t_okr 334 0 1 336 = true := by decide +kernel
theorem qr_334_10 : t_okr 334 0 10 342 = true := by decide +kernel
theorem qr_334_19 : t_okr 334 0 19 12 = true := by decide +kernel
theorem qr_334_5 : t_okr 334 0 5 338 = true := by decide +kernel
theorem qr_334_6 : t_okr 334 0 6 339 = true := by decide +kernel
theorem qr_334_8 : t_okr 334 0 8 340 = true := by decide +kernel
theorem qr_334_9 : t_okr 334 0 9 341 = true := by decide +kernel
theorem dX0_cellOf_0 : decode cX0_cellOf 0 = .ok (.iload_n 1, 1) := by decide +kernel
theorem dX0_cellOf_1 : decode cX0_cellOf 1 = .ok (.ifCond .lt 25, 3) := by decide +kernel
theorem dX0_cellOf_12 : decode cX0_cellOf 12 = .ok (.aload_n 0, 1) := by decide +kernel
theorem dX0_cellOf_13 : decode cX0_cellOf 13 = .ok (.getfield 21, 3) := by decide +kernel
theorem dX0_cellOf_16 : decode cX0_cellOf 16 = .ok (.aload_n 0, 1) := by decide +kernel
theorem dX0_cellOf_17 : decode cX0_cellOf 17 = .ok (.getfield 24, 3) := by decide +kernel
theorem dX0_cellOf_20 : decode cX0_cellOf 20 = .ok (.iload_n 1, 1) := by decide +kernel
theorem dX0_cellOf_21 : decode cX0_cellOf 21 = .ok (.iaload, 1) := by decide +kernel
theorem dX0_cellOf_22 : decode cX0_cellOf 22 = .ok (.laload, 1) := by decide +kernel
theorem dX0_cellOf_23 : decode cX0_cellOf 23 = .ok (.goto 6, 3) := by decide +kernel
theorem dX0_cellOf_26 : decode cX0_cellOf 26 = .ok (.ldc2_w 69, 3) := by decide +kernel
theorem dX0_cellOf_29 : decode cX0_cellOf 29 = .ok (.lreturn, 1) := by decide +kernel
theorem dX0_cellOf_4 : decode cX0_cellOf 4 = .ok (.iload_n 1, 1) := by decide +kernel
theorem dX0_cellOf_5 : decode cX0_cellOf 5 = .ok (.aload_n 0, 1) := by decide +kernel
theorem dX0_cellOf_6 : decode cX0_cellOf 6 = .ok (.getfield 62, 3) := by decide +kernel
theorem dX0_cellOf_9 : decode cX0_cellOf 9 = .ok (.if_icmp .ge 17, 3) := by decide +kernel
noncomputable def f_X0_cellOf (x1 : Int32) (s : t_S) : Option (Int64) :=
 if x1 < (0 : Int32) then (some (20 : Int64))
 else (if (s.1 334 7) ≤ x1 then (some (20 : Int64))
 else (if t_ix x1 3201 = true then
  if t_ix (s.1 339 (x1.toNatClampNeg)) 48000 = true then
  some (s.2.1 338 ((s.1 339 (x1.toNatClampNeg)).toNatClampNeg))
else none
else none))
set_option maxRecDepth 4000 in
set_option maxHeartbeats 1000000 in
theorem C_X0_cellOf (x1 : Int32) (s : t_S) (r : Int64) (hr : f_X0_cellOf x1 s = some r) : t_C yX0_cellOf cX0_cellOf 2 (some .long) 0 [.ref 334, .int x1] s (fun v s' => v = some (.long r) ∧ s' = s) := by
  refine t_C.imp (P := fun v s' => s' = s ∧ ∃ x, v = some (.long x) ∧ (fun q => q = r) (x)) (t_C.of (by decide +kernel) (Nat.le_of_ble_eq_true rfl) ?_) (fun v s' hp => by obtain ⟨rfl, x, rfl, rfl⟩ := hp; exact ⟨rfl, rfl⟩)
  intro D cy ad bs X
  have hk : t_hk (f_X0_cellOf x1 s) (fun q => q = r) := ⟨r, hr, rfl⟩
  show mj_G D cy ad bs X cX0_cellOf 2 yX0_cellOf.cls (some .long) yX0_cellOf.name 0 0 0 1065 (t_P (fun v s' => s' = s ∧ ∃ x, v = some (.long x) ∧ (fun q => q = r) (x))) 0 [(0, .ref 334), (1, .int x1)] [] (t_m s) 1065 0 0
  refine mj_iload_n dX0_cellOf_0 1 rfl ?_
  refine mj_if_lt 26 dX0_cellOf_1 (by decide) (fun z => t_posK hk z (fun hk => ?_)) (fun z => t_negK hk z (fun hk => ?_))
  · refine mj_ldc2 dX0_cellOf_26 K_X0_69 ?_
    exact t_somK hk (fun hf => t_lret dX0_cellOf_29 rfl ⟨rfl, _, rfl, hf⟩ (Nat.le_of_ble_eq_true rfl) (Nat.le_of_ble_eq_true rfl))
  · refine mj_iload_n dX0_cellOf_4 1 rfl ?_
    refine mj_aload_n dX0_cellOf_5 0 rfl ?_
    refine t_getI dX0_cellOf_6 F_X0_62 qf_334_7 ?_
    refine mj_icmp_ge 26 dX0_cellOf_9 (by decide) (fun z => t_posK hk z (fun hk => ?_)) (fun z => t_negK hk z (fun hk => ?_))
    · refine mj_ldc2 dX0_cellOf_26 K_X0_69 ?_
      exact t_somK hk (fun hf => t_lret dX0_cellOf_29 rfl ⟨rfl, _, rfl, hf⟩ (Nat.le_of_ble_eq_true rfl) (Nat.le_of_ble_eq_true rfl))
    · refine mj_aload_n dX0_cellOf_12 0 rfl ?_
      refine t_getR 338 dX0_cellOf_13 F_X0_21 qr_334_5 ?_
      refine mj_aload_n dX0_cellOf_16 0 rfl ?_
      refine t_getR 339 dX0_cellOf_17 F_X0_24 qr_334_6 ?_
      refine mj_iload_n dX0_cellOf_20 1 rfl ?_
      refine t_chkK hk (fun c0 hk => ?_)
      refine t_iald dX0_cellOf_21 qa_339 (t_ixv c0) ?_
      refine t_chkK hk (fun c1 hk => ?_)
      refine t_lald dX0_cellOf_22 qa_338 (t_ixv c1) ?_
      refine mj_goto 29 dX0_cellOf_23 (by decide) ?_
      exact t_somK hk (fun hf => t_lret dX0_cellOf_29 rfl ⟨rfl, _, rfl, hf⟩ (Nat.le_of_ble_eq_true rfl) (Nat.le_of_ble_eq_true rfl))

theorem dX0_hasRoom_0 : decode cX0_hasRoom 0 = .ok (.aload_n 0, 1) := by decide +kernel
theorem dX0_hasRoom_1 : decode cX0_hasRoom 1 = .ok (.getfield 62, 3) := by decide +kernel
theorem dX0_hasRoom_10 : decode cX0_hasRoom 10 = .ok (.aload_n 0, 1) := by decide +kernel
theorem dX0_hasRoom_11 : decode cX0_hasRoom 11 = .ok (.getfield 24, 3) := by decide +kernel
theorem dX0_hasRoom_14 : decode cX0_hasRoom 14 = .ok (.aload_n 0, 1) := by decide +kernel
theorem dX0_hasRoom_15 : decode cX0_hasRoom 15 = .ok (.getfield 62, 3) := by decide +kernel
theorem dX0_hasRoom_18 : decode cX0_hasRoom 18 = .ok (.iaload, 1) := by decide +kernel
theorem dX0_hasRoom_19 : decode cX0_hasRoom 19 = .ok (.iload_n 1, 1) := by decide +kernel
theorem dX0_hasRoom_20 : decode cX0_hasRoom 20 = .ok (.iadd, 1) := by decide +kernel
theorem dX0_hasRoom_21 : decode cX0_hasRoom 21 = .ok (.ldc 20, 2) := by decide +kernel
theorem dX0_hasRoom_23 : decode cX0_hasRoom 23 = .ok (.if_icmp .gt 5, 3) := by decide +kernel
theorem dX0_hasRoom_26 : decode cX0_hasRoom 26 = .ok (.iconst 1, 1) := by decide +kernel
theorem dX0_hasRoom_27 : decode cX0_hasRoom 27 = .ok (.ireturn, 1) := by decide +kernel
theorem dX0_hasRoom_28 : decode cX0_hasRoom 28 = .ok (.aload_n 0, 1) := by decide +kernel
theorem dX0_hasRoom_29 : decode cX0_hasRoom 29 = .ok (.iconst 3, 1) := by decide +kernel
theorem dX0_hasRoom_30 : decode cX0_hasRoom 30 = .ok (.putfield 71, 3) := by decide +kernel
theorem dX0_hasRoom_33 : decode cX0_hasRoom 33 = .ok (.iconst 0, 1) := by decide +kernel
theorem dX0_hasRoom_34 : decode cX0_hasRoom 34 = .ok (.ireturn, 1) := by decide +kernel
theorem dX0_hasRoom_4 : decode cX0_hasRoom 4 = .ok (.sipush 3200, 3) := by decide +kernel
theorem dX0_hasRoom_7 : decode cX0_hasRoom 7 = .ok (.if_icmp .ge 21, 3) := by decide +kernel
noncomputable def k_X0_hasRoom_28 (s : t_S) : Option (Int32 × t_S) :=
 t_let (t_setI s 334 12 (3 : Int32)) (fun s1 =>
 some ((0 : Int32), s1))
set_option maxRecDepth 4000 in
set_option maxHeartbeats 1000000 in
theorem B_X0_hasRoom_28 {D : va_G} {cy : Nat → ClassId} {ad : Nat → Nat} {bs : Nat} {X : State → Heap → Prop} (s : t_S) (Q : Int32 × t_S → Prop) (hk : t_hk (k_X0_hasRoom_28 s) Q) : mj_G D cy ad bs X cX0_hasRoom 2 yX0_hasRoom.cls (some .boolean) yX0_hasRoom.name 0 0 0 1065 (t_P (fun v s' => ∃ x, v = some (.int x) ∧ Q ((x, s')))) 28 [(0, .ref 334)] [] (t_m s) 1065 0 0 := by
  refine mj_aload_n dX0_hasRoom_28 0 rfl ?_
  refine mj_iconst (v := 3) dX0_hasRoom_29 (by decide) ?_
  refine t_putIK dX0_hasRoom_30 F_X0_71 qf_334_12 rfl (fun s1 ws1 => t_letE hk ws1 (fun hk => ?_))
  refine mj_iconst (v := 0) dX0_hasRoom_33 (by decide) ?_
  exact t_somK hk (fun hf => t_iret dX0_hasRoom_34 rfl (by decide) ⟨_, rfl, hf⟩ (Nat.le_of_ble_eq_true rfl) (Nat.le_of_ble_eq_true rfl))
noncomputable def f_X0_hasRoom (x1 : Int32) (s : t_S) : Option (Int32 × t_S) :=
 if (3200 : Int32) ≤ (s.1 334 7) then (k_X0_hasRoom_28 s)
 else (if t_ix (s.1 334 7) 3201 = true then
  if (48000 : Int32) < ((s.1 339 ((s.1 334 7).toNatClampNeg)) + x1) then (k_X0_hasRoom_28 s)
 else (some ((1 : Int32), s))
else none)
set_option maxRecDepth 4000 in
set_option maxHeartbeats 1000000 in
theorem C_X0_hasRoom (x1 : Int32) (s : t_S) (r : Int32 × t_S) (hr : f_X0_hasRoom x1 s = some r) : t_C yX0_hasRoom cX0_hasRoom 2 (some .boolean) 0 [.ref 334, .int x1] s (fun v s' => v = some (.int r.1) ∧ s' = r.2) := by
  refine t_C.imp (P := fun v s' => ∃ x, v = some (.int x) ∧ (fun q => q = r) ((x, s'))) (t_C.of (by decide +kernel) (Nat.le_of_ble_eq_true rfl) ?_) (fun v s' hp => by obtain ⟨x, rfl, rfl⟩ := hp; exact ⟨rfl, rfl⟩)
  intro D cy ad bs X
  have hk : t_hk (f_X0_hasRoom x1 s) (fun q => q = r) := ⟨r, hr, rfl⟩
  show mj_G D cy ad bs X cX0_hasRoom 2 yX0_hasRoom.cls (some .boolean) yX0_hasRoom.name 0 0 0 1065 (t_P (fun v s' => ∃ x, v = some (.int x) ∧ (fun q => q = r) ((x, s')))) 0 [(0, .ref 334), (1, .int x1)] [] (t_m s) 1065 0 0
  refine mj_aload_n dX0_hasRoom_0 0 rfl ?_
  refine t_getI dX0_hasRoom_1 F_X0_62 qf_334_7 ?_
  refine mj_sipush (v := 3200) dX0_hasRoom_4 (by decide) ?_
  refine mj_icmp_ge 28 dX0_hasRoom_7 (by decide) (fun z => t_posK hk z (fun hk => ?_)) (fun z => t_negK hk z (fun hk => ?_))
  · refine mj_sublv [(0, .ref 334)] [0] rfl ?_
    exact B_X0_hasRoom_28 _ _ hk
  · refine mj_aload_n dX0_hasRoom_10 0 rfl ?_
    refine t_getR 339 dX0_hasRoom_11 F_X0_24 qr_334_6 ?_
    refine mj_aload_n dX0_hasRoom_14 0 rfl ?_
    refine t_getI dX0_hasRoom_15 F_X0_62 qf_334_7 ?_
    refine t_chkK hk (fun c0 hk => ?_)
    refine t_iald dX0_hasRoom_18 qa_339 (t_ixv c0) ?_
    refine mj_iload_n dX0_hasRoom_19 1 rfl ?_
    refine mj_iadd dX0_hasRoom_20 ?_
    refine mj_ldc dX0_hasRoom_21 K_X0_20 ?_
    refine mj_icmp_gt 28 dX0_hasRoom_23 (by decide) (fun z => t_posK hk z (fun hk => ?_)) (fun z => t_negK hk z (fun hk => ?_))
    · refine mj_sublv [(0, .ref 334)] [0] rfl ?_
      exact B_X0_hasRoom_28 _ _ hk
    · refine mj_iconst (v := 1) dX0_hasRoom_26 (by decide) ?_
      exact t_somK hk (fun hf => t_iret dX0_hasRoom_27 rfl (by decide) ⟨_, rfl, hf⟩ (Nat.le_of_ble_eq_true rfl) (Nat.le_of_ble_eq_true rfl))

theorem dX8_size_0 : decode cX8_size 0 = .ok (.lload_n 0, 1) := by decide +kernel
theorem dX8_size_1 : decode cX8_size 1 = .ok (.l2i, 1) := by decide +kernel
theorem dX8_size_2 : decode cX8_size 2 = .ok (.iconst 4, 1) := by decide +kernel
theorem dX8_size_3 : decode cX8_size 3 = .ok (.ishr, 1) := by decide +kernel
theorem dX8_size_4 : decode cX8_size 4 = .ok (.sipush 255, 3) := by decide +kernel
theorem dX8_size_7 : decode cX8_size 7 = .ok (.iand, 1) := by decide +kernel
theorem dX8_size_8 : decode cX8_size 8 = .ok (.ireturn, 1) := by decide +kernel
noncomputable def f_X8_size (x1 : Int64) (s : t_S) : Int32 :=
 ((x1.toInt32 >>> ((4 : Int32) &&& 31)) &&& (255 : Int32))
set_option maxRecDepth 4000 in
set_option maxHeartbeats 1000000 in
theorem C_X8_size (x1 : Int64) (s : t_S) : t_C yX8_size cX8_size 2 (some .int) 0 [.long x1] s (fun v s' => v = some (.int (f_X8_size x1 s)) ∧ s' = s) := by
  refine t_C.imp (P := fun v s' => s' = s ∧ ∃ x, v = some (.int x) ∧ (fun r => r = f_X8_size x1 s) (x)) (t_C.of (by decide +kernel) (Nat.le_of_ble_eq_true rfl) ?_) (fun v s' hp => by obtain ⟨rfl, x, rfl, rfl⟩ := hp; exact ⟨rfl, rfl⟩)
  intro D cy ad bs X
  have hk : t_ht (f_X8_size x1 s) (fun r => r = f_X8_size x1 s) := rfl
  show mj_G D cy ad bs X cX8_size 2 yX8_size.cls (some .int) yX8_size.name 0 0 0 1065 (t_P (fun v s' => s' = s ∧ ∃ x, v = some (.int x) ∧ (fun r => r = f_X8_size x1 s) (x))) 0 [(0, .long x1)] [] (t_m s) 1065 0 0
  refine mj_lload_n dX8_size_0 0 rfl ?_
  refine mj_l2i (v := x1.toInt32) dX8_size_1 rfl ?_
  refine mj_iconst (v := 4) dX8_size_2 (by decide) ?_
  refine mj_ishr dX8_size_3 ?_
  refine mj_sipush (v := 255) dX8_size_4 (by decide) ?_
  refine mj_iand dX8_size_7 ?_
  exact t_iret dX8_size_8 rfl rfl ⟨rfl, _, rfl, hk⟩ (Nat.le_of_ble_eq_true rfl) (Nat.le_of_ble_eq_true rfl)

theorem dX0_pushFrom_0 : decode cX0_pushFrom 0 = .ok (.aload_n 1, 1) := by decide +kernel
theorem dX0_pushFrom_1 : decode cX0_pushFrom 1 = .ok (.iload_n 2, 1) := by decide +kernel
theorem dX0_pushFrom_12 : decode cX0_pushFrom 12 = .ok (.ifCond .ne 4, 3) := by decide +kernel
theorem dX0_pushFrom_15 : decode cX0_pushFrom 15 = .ok (.return_, 1) := by decide +kernel
theorem dX0_pushFrom_16 : decode cX0_pushFrom 16 = .ok (.aload_n 1, 1) := by decide +kernel
theorem dX0_pushFrom_17 : decode cX0_pushFrom 17 = .ok (.iload_n 2, 1) := by decide +kernel
theorem dX0_pushFrom_18 : decode cX0_pushFrom 18 = .ok (.aload_n 0, 1) := by decide +kernel
theorem dX0_pushFrom_19 : decode cX0_pushFrom 19 = .ok (.getfield 21, 3) := by decide +kernel
theorem dX0_pushFrom_2 : decode cX0_pushFrom 2 = .ok (.laload, 1) := by decide +kernel
theorem dX0_pushFrom_22 : decode cX0_pushFrom 22 = .ok (.aload_n 0, 1) := by decide +kernel
theorem dX0_pushFrom_23 : decode cX0_pushFrom 23 = .ok (.getfield 24, 3) := by decide +kernel
theorem dX0_pushFrom_26 : decode cX0_pushFrom 26 = .ok (.aload_n 0, 1) := by decide +kernel
theorem dX0_pushFrom_27 : decode cX0_pushFrom 27 = .ok (.getfield 62, 3) := by decide +kernel
theorem dX0_pushFrom_3 : decode cX0_pushFrom 3 = .ok (.invokestatic 150, 3) := by decide +kernel
theorem dX0_pushFrom_30 : decode cX0_pushFrom 30 = .ok (.iaload, 1) := by decide +kernel
theorem dX0_pushFrom_31 : decode cX0_pushFrom 31 = .ok (.iload_n 3, 1) := by decide +kernel
theorem dX0_pushFrom_32 : decode cX0_pushFrom 32 = .ok (.invokestatic 154, 3) := by decide +kernel
theorem dX0_pushFrom_35 : decode cX0_pushFrom 35 = .ok (.aload_n 0, 1) := by decide +kernel
theorem dX0_pushFrom_36 : decode cX0_pushFrom 36 = .ok (.getfield 24, 3) := by decide +kernel
theorem dX0_pushFrom_39 : decode cX0_pushFrom 39 = .ok (.aload_n 0, 1) := by decide +kernel
theorem dX0_pushFrom_40 : decode cX0_pushFrom 40 = .ok (.getfield 62, 3) := by decide +kernel
theorem dX0_pushFrom_43 : decode cX0_pushFrom 43 = .ok (.iconst 1, 1) := by decide +kernel
theorem dX0_pushFrom_44 : decode cX0_pushFrom 44 = .ok (.iadd, 1) := by decide +kernel
theorem dX0_pushFrom_45 : decode cX0_pushFrom 45 = .ok (.aload_n 0, 1) := by decide +kernel
theorem dX0_pushFrom_46 : decode cX0_pushFrom 46 = .ok (.getfield 24, 3) := by decide +kernel
theorem dX0_pushFrom_49 : decode cX0_pushFrom 49 = .ok (.aload_n 0, 1) := by decide +kernel
theorem dX0_pushFrom_50 : decode cX0_pushFrom 50 = .ok (.getfield 62, 3) := by decide +kernel
theorem dX0_pushFrom_53 : decode cX0_pushFrom 53 = .ok (.iaload, 1) := by decide +kernel
theorem dX0_pushFrom_54 : decode cX0_pushFrom 54 = .ok (.iload_n 3, 1) := by decide +kernel
theorem dX0_pushFrom_55 : decode cX0_pushFrom 55 = .ok (.iadd, 1) := by decide +kernel
theorem dX0_pushFrom_56 : decode cX0_pushFrom 56 = .ok (.iastore, 1) := by decide +kernel
theorem dX0_pushFrom_57 : decode cX0_pushFrom 57 = .ok (.aload_n 0, 1) := by decide +kernel
theorem dX0_pushFrom_58 : decode cX0_pushFrom 58 = .ok (.dup, 1) := by decide +kernel
theorem dX0_pushFrom_59 : decode cX0_pushFrom 59 = .ok (.getfield 62, 3) := by decide +kernel
theorem dX0_pushFrom_6 : decode cX0_pushFrom 6 = .ok (.istore_n 3, 1) := by decide +kernel
theorem dX0_pushFrom_62 : decode cX0_pushFrom 62 = .ok (.iconst 1, 1) := by decide +kernel
theorem dX0_pushFrom_63 : decode cX0_pushFrom 63 = .ok (.iadd, 1) := by decide +kernel
theorem dX0_pushFrom_64 : decode cX0_pushFrom 64 = .ok (.putfield 62, 3) := by decide +kernel
theorem dX0_pushFrom_67 : decode cX0_pushFrom 67 = .ok (.return_, 1) := by decide +kernel
theorem dX0_pushFrom_7 : decode cX0_pushFrom 7 = .ok (.aload_n 0, 1) := by decide +kernel
theorem dX0_pushFrom_8 : decode cX0_pushFrom 8 = .ok (.iload_n 3, 1) := by decide +kernel
theorem dX0_pushFrom_9 : decode cX0_pushFrom 9 = .ok (.invokevirtual 146, 3) := by decide +kernel
noncomputable def f_X0_pushFrom (x1 : Nat) (x2 : Int32) (s : t_S) : Option (t_S) :=
 if t_oka x1 2 (t_ln x1) = true then
  if t_ix x2 (t_ln x1) = true then
  (f_X0_hasRoom (f_X8_size (s.2.1 x1 (x2.toNatClampNeg)) s) s).bind (fun r4 =>
 if r4.1 = (0 : Int32) then (some (r4.2))
 else (if t_ix (r4.2.1 334 7) 3201 = true then
  if t_cpok x2 (r4.2.1 339 ((r4.2.1 334 7).toNatClampNeg)) (f_X8_size (s.2.1 x1 (x2.toNatClampNeg)) s) (t_ln x1) 48000 = true then
  t_let (t_cpJ r4.2 x1 338 x2 (r4.2.1 339 ((r4.2.1 334 7).toNatClampNeg)) (f_X8_size (s.2.1 x1 (x2.toNatClampNeg)) s)) (fun s1 =>
 if t_ix (s1.1 334 7) 3201 = true then
  if t_ix ((s1.1 334 7) + (1 : Int32)) 3201 = true then
  t_let (t_setI s1 339 (((s1.1 334 7) + (1 : Int32)).toNatClampNeg) ((s1.1 339 ((s1.1 334 7).toNatClampNeg)) + (f_X8_size (s.2.1 x1 (x2.toNatClampNeg)) s))) (fun s2 =>
 t_let (t_setI s2 334 7 ((s2.1 334 7) + (1 : Int32))) (fun s3 =>
 some (s3)))
else none
else none)
else none
else none))
else none
else none
set_option maxRecDepth 4000 in
set_option maxHeartbeats 1000000 in
theorem C_X0_pushFrom (x1 : Nat) (x2 : Int32) (s : t_S) (r : t_S) (hr : f_X0_pushFrom x1 x2 s = some r) : t_C yX0_pushFrom cX0_pushFrom 4 none 1 [.ref 334, .ref x1, .int x2] s (fun v s' => v = none ∧ s' = r) := by
  refine t_C.imp (P := fun v s' => v = none ∧ (fun q => q = r) (s')) (t_C.of (by decide +kernel) (Nat.le_of_ble_eq_true rfl) ?_) (fun v s' hp => hp)
  intro D cy ad bs X
  have hk : t_hk (f_X0_pushFrom x1 x2 s) (fun q => q = r) := ⟨r, hr, rfl⟩
  show mj_G D cy ad bs X cX0_pushFrom 4 yX0_pushFrom.cls none yX0_pushFrom.name 1 0 0 1065 (t_P (fun v s' => v = none ∧ (fun q => q = r) (s'))) 0 [(0, .ref 334), (1, .ref x1), (2, .int x2)] [] (t_m s) 1065 0 0
  refine mj_aload_n dX0_pushFrom_0 1 rfl ?_
  refine mj_iload_n dX0_pushFrom_1 2 rfl ?_
  refine t_chkK hk (fun c0 hk => ?_)
  refine t_chkK hk (fun c1 hk => ?_)
  refine t_lald dX0_pushFrom_2 c0 (t_ixv c1) ?_
  refine t_callSiP dX0_pushFrom_3 M_X8_size (C_X8_size _ _) ML_X0_150 SM_X8_size (As := [.long (s.2.1 x1 (x2.toNatClampNeg))]) rfl rfl (Nat.le_of_ble_eq_true rfl) (Nat.le_of_ble_eq_true rfl) (Nat.le_of_ble_eq_true rfl) (Nat.le_of_ble_eq_true rfl) ?_
  refine mj_istore_n 3 (lv2 := [(3, .int (f_X8_size (s.2.1 x1 (x2.toNatClampNeg)) s)), (0, .ref 334), (1, .ref x1), (2, .int x2)]) dX0_pushFrom_6 rfl (by decide) rfl ?_
  refine mj_aload_n dX0_pushFrom_7 1 rfl ?_
  refine mj_iload_n dX0_pushFrom_8 0 rfl ?_
  refine t_bndK hk (fun r4 er4 hk => ?_)
  refine t_callViE dX0_pushFrom_9 M_X0_hasRoom (C_X0_hasRoom _ _ _ er4) ML_X0_146 IM_X0_hasRoom SE_X0_hasRoom qc_334 rfl (As := [.int (f_X8_size (s.2.1 x1 (x2.toNatClampNeg)) s)]) rfl rfl (Nat.le_of_ble_eq_true rfl) (Nat.le_of_ble_eq_true rfl) (Nat.le_of_ble_eq_true rfl) (Nat.le_of_ble_eq_true rfl) ?_
  refine mj_if_ne 16 dX0_pushFrom_12 (by decide) (fun z => t_negK hk z (fun hk => ?_)) (fun z => t_posK hk z (fun hk => ?_))
  · refine mj_aload_n dX0_pushFrom_16 2 rfl ?_
    refine mj_iload_n dX0_pushFrom_17 3 rfl ?_
    refine mj_aload_n dX0_pushFrom_18 1 rfl ?_
    refine t_getR 338 dX0_pushFrom_19 F_X0_21 qr_334_5 ?_
    refine mj_aload_n dX0_pushFrom_22 1 rfl ?_
    refine t_getR 339 dX0_pushFrom_23 F_X0_24 qr_334_6 ?_
    refine mj_aload_n dX0_pushFrom_26 1 rfl ?_
    refine t_getI dX0_pushFrom_27 F_X0_62 qf_334_7 ?_
    refine t_chkK hk (fun c4 hk => ?_)
    refine t_iald dX0_pushFrom_30 qa_339 (t_ixv c4) ?_
    refine mj_iload_n dX0_pushFrom_31 0 rfl ?_
    refine t_chkK hk (fun c5 hk => ?_)
    refine t_copyK dX0_pushFrom_32 MA_X0_154 c0 qa_338 c5 (Nat.le_of_ble_eq_true rfl) (Nat.le_of_ble_eq_true rfl) (fun s1 ws1 => t_letE hk ws1 (fun hk => ?_))
    refine mj_aload_n dX0_pushFrom_35 1 rfl ?_
    refine t_getR 339 dX0_pushFrom_36 F_X0_24 qr_334_6 ?_
    refine mj_aload_n dX0_pushFrom_39 1 rfl ?_
    refine t_getI dX0_pushFrom_40 F_X0_62 qf_334_7 ?_
    refine mj_iconst (v := 1) dX0_pushFrom_43 (by decide) ?_
    refine mj_iadd dX0_pushFrom_44 ?_
    refine mj_aload_n dX0_pushFrom_45 1 rfl ?_
    refine t_getR 339 dX0_pushFrom_46 F_X0_24 qr_334_6 ?_
    refine mj_aload_n dX0_pushFrom_49 1 rfl ?_
    refine t_getI dX0_pushFrom_50 F_X0_62 qf_334_7 ?_
    refine t_chkK hk (fun c6 hk => ?_)
    refine t_iald dX0_pushFrom_53 qa_339 (t_ixv c6) ?_
    refine mj_iload_n dX0_pushFrom_54 0 rfl ?_
    refine mj_iadd dX0_pushFrom_55 ?_
    refine t_chkK hk (fun c7 hk => ?_)
    refine t_iastK dX0_pushFrom_56 qa_339 (t_ixv c7) (fun s2 ws2 => t_letE hk ws2 (fun hk => ?_))
    refine mj_aload_n dX0_pushFrom_57 1 rfl ?_
    refine mj_dup dX0_pushFrom_58 rfl ?_
    refine t_getI dX0_pushFrom_59 F_X0_62 qf_334_7 ?_
    refine mj_iconst (v := 1) dX0_pushFrom_62 (by decide) ?_
    refine mj_iadd dX0_pushFrom_63 ?_
    refine t_putIK dX0_pushFrom_64 F_X0_62 qf_334_7 rfl (fun s3 ws3 => t_letE hk ws3 (fun hk => ?_))
    exact t_somK hk (fun hf => t_vret dX0_pushFrom_67 rfl ⟨rfl, hf⟩ (Nat.le_of_ble_eq_true rfl) (Nat.le_of_ble_eq_true rfl))
  · exact t_somK hk (fun hf => t_vret dX0_pushFrom_15 rfl ⟨rfl, hf⟩ (Nat.le_of_ble_eq_true rfl) (Nat.le_of_ble_eq_true rfl))

theorem dX8_plainCell_0 : decode cX8_plainCell 0 = .ok (.lload_n 1, 1) := by decide +kernel
theorem dX8_plainCell_1 : decode cX8_plainCell 1 = .ok (.bipush 12, 2) := by decide +kernel
theorem dX8_plainCell_10 : decode cX8_plainCell 10 = .ok (.lor, 1) := by decide +kernel
theorem dX8_plainCell_11 : decode cX8_plainCell 11 = .ok (.lreturn, 1) := by decide +kernel
theorem dX8_plainCell_3 : decode cX8_plainCell 3 = .ok (.lshl, 1) := by decide +kernel
theorem dX8_plainCell_4 : decode cX8_plainCell 4 = .ok (.ldc2_w 28, 3) := by decide +kernel
theorem dX8_plainCell_7 : decode cX8_plainCell 7 = .ok (.lor, 1) := by decide +kernel
theorem dX8_plainCell_8 : decode cX8_plainCell 8 = .ok (.iload_n 0, 1) := by decide +kernel
theorem dX8_plainCell_9 : decode cX8_plainCell 9 = .ok (.i2l, 1) := by decide +kernel
noncomputable def f_X8_plainCell (x1 : Int32) (x2 : Int64) (s : t_S) : Int64 :=
 (((x2 <<< ((12 : Int32).toInt64 &&& 63)) ||| (16 : Int64)) ||| x1.toInt64)
set_option maxRecDepth 4000 in
set_option maxHeartbeats 1000000 in
theorem C_X8_plainCell (x1 : Int32) (x2 : Int64) (s : t_S) : t_C yX8_plainCell cX8_plainCell 3 (some .long) 0 [.int x1, .long x2] s (fun v s' => v = some (.long (f_X8_plainCell x1 x2 s)) ∧ s' = s) := by
  refine t_C.imp (P := fun v s' => s' = s ∧ ∃ x, v = some (.long x) ∧ (fun r => r = f_X8_plainCell x1 x2 s) (x)) (t_C.of (by decide +kernel) (Nat.le_of_ble_eq_true rfl) ?_) (fun v s' hp => by obtain ⟨rfl, x, rfl, rfl⟩ := hp; exact ⟨rfl, rfl⟩)
  intro D cy ad bs X
  have hk : t_ht (f_X8_plainCell x1 x2 s) (fun r => r = f_X8_plainCell x1 x2 s) := rfl
  show mj_G D cy ad bs X cX8_plainCell 3 yX8_plainCell.cls (some .long) yX8_plainCell.name 0 0 0 1065 (t_P (fun v s' => s' = s ∧ ∃ x, v = some (.long x) ∧ (fun r => r = f_X8_plainCell x1 x2 s) (x))) 0 [(0, .int x1), (1, .long x2)] [] (t_m s) 1065 0 0
  refine mj_lload_n dX8_plainCell_0 1 rfl ?_
  refine mj_bipush (v := 12) dX8_plainCell_1 (by decide) ?_
  refine mj_lshl dX8_plainCell_3 rfl ?_
  refine mj_ldc2 dX8_plainCell_4 K_X8_28 ?_
  refine mj_lor dX8_plainCell_7 ?_
  refine mj_iload_n dX8_plainCell_8 0 rfl ?_
  refine mj_i2l (v := x1.toInt64) dX8_plainCell_9 rfl ?_
  refine mj_lor dX8_plainCell_10 ?_
  exact t_lret dX8_plainCell_11 rfl ⟨rfl, _, rfl, hk⟩ (Nat.le_of_ble_eq_true rfl) (Nat.le_of_ble_eq_true rfl)

theorem dX0_splice_0 : decode cX0_splice 0 = .ok (.iload 5, 2) := by decide +kernel
theorem dX0_splice_10 : decode cX0_splice 10 = .ok (.istore 6, 2) := by decide +kernel
theorem dX0_splice_101 : decode cX0_splice 101 = .ok (.iload 6, 2) := by decide +kernel
theorem dX0_splice_103 : decode cX0_splice 103 = .ok (.iconst 1, 1) := by decide +kernel
theorem dX0_splice_104 : decode cX0_splice 104 = .ok (.if_icmp .ne 17, 3) := by decide +kernel
theorem dX0_splice_107 : decode cX0_splice 107 = .ok (.aload_n 0, 1) := by decide +kernel
theorem dX0_splice_108 : decode cX0_splice 108 = .ok (.getfield 29, 3) := by decide +kernel
theorem dX0_splice_111 : decode cX0_splice 111 = .ok (.iload_n 2, 1) := by decide +kernel
theorem dX0_splice_112 : decode cX0_splice 112 = .ok (.bipush 9, 2) := by decide +kernel
theorem dX0_splice_114 : decode cX0_splice 114 = .ok (.iload 5, 2) := by decide +kernel
theorem dX0_splice_116 : decode cX0_splice 116 = .ok (.i2l, 1) := by decide +kernel
theorem dX0_splice_117 : decode cX0_splice 117 = .ok (.invokestatic 106, 3) := by decide +kernel
theorem dX0_splice_12 : decode cX0_splice 12 = .ok (.iload 5, 2) := by decide +kernel
theorem dX0_splice_120 : decode cX0_splice 120 = .ok (.lastore, 1) := by decide +kernel
theorem dX0_splice_121 : decode cX0_splice 121 = .ok (.iload 7, 2) := by decide +kernel
theorem dX0_splice_123 : decode cX0_splice 123 = .ok (.ifCond .le 31, 3) := by decide +kernel
theorem dX0_splice_126 : decode cX0_splice 126 = .ok (.aload_n 0, 1) := by decide +kernel
theorem dX0_splice_127 : decode cX0_splice 127 = .ok (.getfield 21, 3) := by decide +kernel
theorem dX0_splice_130 : decode cX0_splice 130 = .ok (.aload_n 0, 1) := by decide +kernel
theorem dX0_splice_131 : decode cX0_splice 131 = .ok (.getfield 24, 3) := by decide +kernel
theorem dX0_splice_134 : decode cX0_splice 134 = .ok (.aload_n 0, 1) := by decide +kernel
theorem dX0_splice_135 : decode cX0_splice 135 = .ok (.getfield 62, 3) := by decide +kernel
theorem dX0_splice_138 : decode cX0_splice 138 = .ok (.iconst 1, 1) := by decide +kernel
theorem dX0_splice_139 : decode cX0_splice 139 = .ok (.isub, 1) := by decide +kernel
theorem dX0_splice_14 : decode cX0_splice 14 = .ok (.bipush (-2), 2) := by decide +kernel
theorem dX0_splice_140 : decode cX0_splice 140 = .ok (.iaload, 1) := by decide +kernel
theorem dX0_splice_141 : decode cX0_splice 141 = .ok (.aload_n 0, 1) := by decide +kernel
theorem dX0_splice_142 : decode cX0_splice 142 = .ok (.getfield 29, 3) := by decide +kernel
theorem dX0_splice_145 : decode cX0_splice 145 = .ok (.iload_n 2, 1) := by decide +kernel
theorem dX0_splice_146 : decode cX0_splice 146 = .ok (.iload 6, 2) := by decide +kernel
theorem dX0_splice_148 : decode cX0_splice 148 = .ok (.iadd, 1) := by decide +kernel
theorem dX0_splice_149 : decode cX0_splice 149 = .ok (.iload 7, 2) := by decide +kernel
theorem dX0_splice_151 : decode cX0_splice 151 = .ok (.invokestatic 154, 3) := by decide +kernel
theorem dX0_splice_154 : decode cX0_splice 154 = .ok (.aload_n 0, 1) := by decide +kernel
theorem dX0_splice_155 : decode cX0_splice 155 = .ok (.getfield 32, 3) := by decide +kernel
theorem dX0_splice_158 : decode cX0_splice 158 = .ok (.iconst 0, 1) := by decide +kernel
theorem dX0_splice_159 : decode cX0_splice 159 = .ok (.aload_n 0, 1) := by decide +kernel
theorem dX0_splice_16 : decode cX0_splice 16 = .ok (.if_icmp .ne 7, 3) := by decide +kernel
theorem dX0_splice_160 : decode cX0_splice 160 = .ok (.getfield 29, 3) := by decide +kernel
theorem dX0_splice_163 : decode cX0_splice 163 = .ok (.iload_n 2, 1) := by decide +kernel
theorem dX0_splice_164 : decode cX0_splice 164 = .ok (.iload 6, 2) := by decide +kernel
theorem dX0_splice_166 : decode cX0_splice 166 = .ok (.iadd, 1) := by decide +kernel
theorem dX0_splice_167 : decode cX0_splice 167 = .ok (.iload 7, 2) := by decide +kernel
theorem dX0_splice_169 : decode cX0_splice 169 = .ok (.iadd, 1) := by decide +kernel
theorem dX0_splice_170 : decode cX0_splice 170 = .ok (.iload 8, 2) := by decide +kernel
theorem dX0_splice_172 : decode cX0_splice 172 = .ok (.iload_n 3, 1) := by decide +kernel
theorem dX0_splice_173 : decode cX0_splice 173 = .ok (.isub, 1) := by decide +kernel
theorem dX0_splice_174 : decode cX0_splice 174 = .ok (.invokestatic 154, 3) := by decide +kernel
theorem dX0_splice_177 : decode cX0_splice 177 = .ok (.aload_n 0, 1) := by decide +kernel
theorem dX0_splice_178 : decode cX0_splice 178 = .ok (.getfield 29, 3) := by decide +kernel
theorem dX0_splice_181 : decode cX0_splice 181 = .ok (.iload_n 1, 1) := by decide +kernel
theorem dX0_splice_182 : decode cX0_splice 182 = .ok (.dup2, 1) := by decide +kernel
theorem dX0_splice_183 : decode cX0_splice 183 = .ok (.laload, 1) := by decide +kernel
theorem dX0_splice_184 : decode cX0_splice 184 = .ok (.iload 9, 2) := by decide +kernel
theorem dX0_splice_186 : decode cX0_splice 186 = .ok (.i2l, 1) := by decide +kernel
theorem dX0_splice_187 : decode cX0_splice 187 = .ok (.iconst 4, 1) := by decide +kernel
theorem dX0_splice_188 : decode cX0_splice 188 = .ok (.lshl, 1) := by decide +kernel
theorem dX0_splice_189 : decode cX0_splice 189 = .ok (.iload 4, 2) := by decide +kernel
theorem dX0_splice_19 : decode cX0_splice 19 = .ok (.iconst 0, 1) := by decide +kernel
theorem dX0_splice_191 : decode cX0_splice 191 = .ok (.i2l, 1) := by decide +kernel
theorem dX0_splice_192 : decode cX0_splice 192 = .ok (.bipush 12, 2) := by decide +kernel
theorem dX0_splice_194 : decode cX0_splice 194 = .ok (.lshl, 1) := by decide +kernel
theorem dX0_splice_195 : decode cX0_splice 195 = .ok (.ladd, 1) := by decide +kernel
theorem dX0_splice_196 : decode cX0_splice 196 = .ok (.ladd, 1) := by decide +kernel
theorem dX0_splice_197 : decode cX0_splice 197 = .ok (.lastore, 1) := by decide +kernel
theorem dX0_splice_198 : decode cX0_splice 198 = .ok (.iconst 0, 1) := by decide +kernel
theorem dX0_splice_199 : decode cX0_splice 199 = .ok (.istore 10, 2) := by decide +kernel
theorem dX0_splice_2 : decode cX0_splice 2 = .ok (.ifCond .lt 7, 3) := by decide +kernel
theorem dX0_splice_20 : decode cX0_splice 20 = .ok (.goto 24, 3) := by decide +kernel
theorem dX0_splice_201 : decode cX0_splice 201 = .ok (.iload 10, 2) := by decide +kernel
theorem dX0_splice_203 : decode cX0_splice 203 = .ok (.aload_n 0, 1) := by decide +kernel
theorem dX0_splice_204 : decode cX0_splice 204 = .ok (.getfield 274, 3) := by decide +kernel
theorem dX0_splice_207 : decode cX0_splice 207 = .ok (.if_icmp .ge 29, 3) := by decide +kernel
theorem dX0_splice_210 : decode cX0_splice 210 = .ok (.aload_n 0, 1) := by decide +kernel
theorem dX0_splice_211 : decode cX0_splice 211 = .ok (.getfield 29, 3) := by decide +kernel
theorem dX0_splice_214 : decode cX0_splice 214 = .ok (.aload_n 0, 1) := by decide +kernel
theorem dX0_splice_215 : decode cX0_splice 215 = .ok (.getfield 35, 3) := by decide +kernel
theorem dX0_splice_218 : decode cX0_splice 218 = .ok (.iload 10, 2) := by decide +kernel
theorem dX0_splice_220 : decode cX0_splice 220 = .ok (.iaload, 1) := by decide +kernel
theorem dX0_splice_221 : decode cX0_splice 221 = .ok (.dup2, 1) := by decide +kernel
theorem dX0_splice_222 : decode cX0_splice 222 = .ok (.laload, 1) := by decide +kernel
theorem dX0_splice_223 : decode cX0_splice 223 = .ok (.iload 9, 2) := by decide +kernel
theorem dX0_splice_225 : decode cX0_splice 225 = .ok (.i2l, 1) := by decide +kernel
theorem dX0_splice_226 : decode cX0_splice 226 = .ok (.iconst 4, 1) := by decide +kernel
theorem dX0_splice_227 : decode cX0_splice 227 = .ok (.lshl, 1) := by decide +kernel
theorem dX0_splice_228 : decode cX0_splice 228 = .ok (.ladd, 1) := by decide +kernel
theorem dX0_splice_229 : decode cX0_splice 229 = .ok (.lastore, 1) := by decide +kernel
theorem dX0_splice_23 : decode cX0_splice 23 = .ok (.aload_n 0, 1) := by decide +kernel
theorem dX0_splice_230 : decode cX0_splice 230 = .ok (.iinc 10 1, 3) := by decide +kernel
theorem dX0_splice_233 : decode cX0_splice 233 = .ok (.goto (-32), 3) := by decide +kernel
theorem dX0_splice_236 : decode cX0_splice 236 = .ok (.return_, 1) := by decide +kernel
theorem dX0_splice_24 : decode cX0_splice 24 = .ok (.getfield 24, 3) := by decide +kernel
theorem dX0_splice_27 : decode cX0_splice 27 = .ok (.aload_n 0, 1) := by decide +kernel
theorem dX0_splice_28 : decode cX0_splice 28 = .ok (.getfield 62, 3) := by decide +kernel
theorem dX0_splice_31 : decode cX0_splice 31 = .ok (.iaload, 1) := by decide +kernel
theorem dX0_splice_32 : decode cX0_splice 32 = .ok (.aload_n 0, 1) := by decide +kernel
theorem dX0_splice_33 : decode cX0_splice 33 = .ok (.getfield 24, 3) := by decide +kernel
theorem dX0_splice_36 : decode cX0_splice 36 = .ok (.aload_n 0, 1) := by decide +kernel
theorem dX0_splice_37 : decode cX0_splice 37 = .ok (.getfield 62, 3) := by decide +kernel
theorem dX0_splice_40 : decode cX0_splice 40 = .ok (.iconst 1, 1) := by decide +kernel
theorem dX0_splice_41 : decode cX0_splice 41 = .ok (.isub, 1) := by decide +kernel
theorem dX0_splice_42 : decode cX0_splice 42 = .ok (.iaload, 1) := by decide +kernel
theorem dX0_splice_43 : decode cX0_splice 43 = .ok (.isub, 1) := by decide +kernel
theorem dX0_splice_44 : decode cX0_splice 44 = .ok (.istore 7, 2) := by decide +kernel
theorem dX0_splice_46 : decode cX0_splice 46 = .ok (.aload_n 0, 1) := by decide +kernel
theorem dX0_splice_47 : decode cX0_splice 47 = .ok (.getfield 29, 3) := by decide +kernel
theorem dX0_splice_5 : decode cX0_splice 5 = .ok (.iconst 1, 1) := by decide +kernel
theorem dX0_splice_50 : decode cX0_splice 50 = .ok (.iconst 0, 1) := by decide +kernel
theorem dX0_splice_51 : decode cX0_splice 51 = .ok (.laload, 1) := by decide +kernel
theorem dX0_splice_52 : decode cX0_splice 52 = .ok (.invokestatic 150, 3) := by decide +kernel
theorem dX0_splice_55 : decode cX0_splice 55 = .ok (.istore 8, 2) := by decide +kernel
theorem dX0_splice_57 : decode cX0_splice 57 = .ok (.iload 6, 2) := by decide +kernel
theorem dX0_splice_59 : decode cX0_splice 59 = .ok (.iload 7, 2) := by decide +kernel
theorem dX0_splice_6 : decode cX0_splice 6 = .ok (.goto 4, 3) := by decide +kernel
theorem dX0_splice_61 : decode cX0_splice 61 = .ok (.iadd, 1) := by decide +kernel
theorem dX0_splice_62 : decode cX0_splice 62 = .ok (.iload_n 3, 1) := by decide +kernel
theorem dX0_splice_63 : decode cX0_splice 63 = .ok (.iload_n 2, 1) := by decide +kernel
theorem dX0_splice_64 : decode cX0_splice 64 = .ok (.isub, 1) := by decide +kernel
theorem dX0_splice_65 : decode cX0_splice 65 = .ok (.isub, 1) := by decide +kernel
theorem dX0_splice_66 : decode cX0_splice 66 = .ok (.istore 9, 2) := by decide +kernel
theorem dX0_splice_68 : decode cX0_splice 68 = .ok (.iload 8, 2) := by decide +kernel
theorem dX0_splice_70 : decode cX0_splice 70 = .ok (.iload 9, 2) := by decide +kernel
theorem dX0_splice_72 : decode cX0_splice 72 = .ok (.iadd, 1) := by decide +kernel
theorem dX0_splice_73 : decode cX0_splice 73 = .ok (.bipush 120, 2) := by decide +kernel
theorem dX0_splice_75 : decode cX0_splice 75 = .ok (.if_icmp .le 9, 3) := by decide +kernel
theorem dX0_splice_78 : decode cX0_splice 78 = .ok (.aload_n 0, 1) := by decide +kernel
theorem dX0_splice_79 : decode cX0_splice 79 = .ok (.iconst 3, 1) := by decide +kernel
theorem dX0_splice_80 : decode cX0_splice 80 = .ok (.putfield 71, 3) := by decide +kernel
theorem dX0_splice_83 : decode cX0_splice 83 = .ok (.return_, 1) := by decide +kernel
theorem dX0_splice_84 : decode cX0_splice 84 = .ok (.aload_n 0, 1) := by decide +kernel
theorem dX0_splice_85 : decode cX0_splice 85 = .ok (.getfield 29, 3) := by decide +kernel
theorem dX0_splice_88 : decode cX0_splice 88 = .ok (.iload_n 3, 1) := by decide +kernel
theorem dX0_splice_89 : decode cX0_splice 89 = .ok (.aload_n 0, 1) := by decide +kernel
theorem dX0_splice_9 : decode cX0_splice 9 = .ok (.iconst 0, 1) := by decide +kernel
theorem dX0_splice_90 : decode cX0_splice 90 = .ok (.getfield 32, 3) := by decide +kernel
theorem dX0_splice_93 : decode cX0_splice 93 = .ok (.iconst 0, 1) := by decide +kernel
theorem dX0_splice_94 : decode cX0_splice 94 = .ok (.iload 8, 2) := by decide +kernel
theorem dX0_splice_96 : decode cX0_splice 96 = .ok (.iload_n 3, 1) := by decide +kernel
theorem dX0_splice_97 : decode cX0_splice 97 = .ok (.isub, 1) := by decide +kernel
theorem dX0_splice_98 : decode cX0_splice 98 = .ok (.invokestatic 154, 3) := by decide +kernel
noncomputable def k_X0_splice_201 (l9 : Int32) (l10 : Int32) (s : t_S) : Option ((Int32 × Int32 × t_S) ⊕ (t_S)) :=
 if (s.1 334 11) ≤ l10 then ((some (s)).map Sum.inr)
 else (if t_ix l10 124 = true then
  if t_ix (s.1 342 (l10.toNatClampNeg)) 240 = true then
  t_let (t_setJ s 340 ((s.1 342 (l10.toNatClampNeg)).toNatClampNeg) ((s.2.1 340 ((s.1 342 (l10.toNatClampNeg)).toNatClampNeg)) + (l9.toInt64 <<< ((4 : Int32).toInt64 &&& 63)))) (fun s1 =>
 some (.inl (l9, (l10 + 1), s1)))
else none
else none)
set_option maxRecDepth 4000 in
set_option maxHeartbeats 1000000 in
theorem B_X0_splice_201 {D : va_G} {cy : Nat → ClassId} {ad : Nat → Nat} {bs : Nat} {X : State → Heap → Prop} (l9 : Int32) (l10 : Int32) (s : t_S) (Q : (Int32 × Int32 × t_S) ⊕ (t_S) → Prop) (Hb201 : ∀ (y0 : Int32) (y1 : Int32) (y2 : t_S), Q (.inl (y0, y1, y2)) → mj_G D cy ad bs X cX0_splice 11 yX0_splice.cls none yX0_splice.name 1 0 0 1065 (t_P (fun v s' => v = none ∧ Q (.inr (s')))) 201 [(0, .ref 334), (9, .int (y0)), (10, .int (y1))] [] (t_m y2) 1065 0 0) (hk : t_hk (k_X0_splice_201 l9 l10 s) Q) : mj_G D cy ad bs X cX0_splice 11 yX0_splice.cls none yX0_splice.name 1 0 0 1065 (t_P (fun v s' => v = none ∧ Q (.inr (s')))) 201 [(0, .ref 334), (9, .int l9), (10, .int l10)] [] (t_m s) 1065 0 0 := by
  refine mj_iload dX0_splice_201 2 rfl ?_
  refine mj_aload_n dX0_splice_203 0 rfl ?_
  refine t_getI dX0_splice_204 F_X0_274 qf_334_11 ?_
  refine mj_icmp_ge 236 dX0_splice_207 (by decide) (fun z => t_posK hk z (fun hk => ?_)) (fun z => t_negK hk z (fun hk => ?_))
  · refine t_mapK hk (fun hk => ?_)
    exact t_somK hk (fun hf => t_vret dX0_splice_236 rfl ⟨rfl, hf⟩ (Nat.le_of_ble_eq_true rfl) (Nat.le_of_ble_eq_true rfl))
  · refine mj_aload_n dX0_splice_210 0 rfl ?_
    refine t_getR 340 dX0_splice_211 F_X0_29 qr_334_8 ?_
    refine mj_aload_n dX0_splice_214 0 rfl ?_
    refine t_getR 342 dX0_splice_215 F_X0_35 qr_334_10 ?_
    refine mj_iload dX0_splice_218 2 rfl ?_
    refine t_chkK hk (fun c0 hk => ?_)
    refine t_iald dX0_splice_220 qa_342 (t_ixv c0) ?_
    refine mj_dup2 dX0_splice_221 rfl rfl ?_
    refine t_chkK hk (fun c1 hk => ?_)
    refine t_lald dX0_splice_222 qa_340 (t_ixv c1) ?_
    refine mj_iload dX0_splice_223 1 rfl ?_
    refine mj_i2l (v := l9.toInt64) dX0_splice_225 rfl ?_
    refine mj_iconst (v := 4) dX0_splice_226 (by decide) ?_
    refine mj_lshl dX0_splice_227 rfl ?_
    refine mj_ladd dX0_splice_228 ?_
    refine t_lastK dX0_splice_229 qa_340 (t_ixv c1) (fun s1 ws1 => t_letE hk ws1 (fun hk => ?_))
    refine mj_iinc (k := 2) (v := (l10 + 1)) (lv2 := [(10, .int (l10 + 1)), (0, .ref 334), (9, .int l9)]) dX0_splice_230 rfl rfl (by decide) rfl ?_
    refine mj_goto 201 dX0_splice_233 (by decide) ?_
    refine mj_sublv [(0, .ref 334), (9, .int l9), (10, .int (l10 + 1))] [1, 2, 0] rfl ?_
    exact t_somK hk (fun hf => Hb201 l9 (l10 + 1) s1 hf)
noncomputable def b_X0_splice_201 (x : Int32 × Int32 × t_S) : Option ((Int32 × Int32 × t_S) ⊕ (t_S)) := k_X0_splice_201 x.1 x.2.1 x.2.2
set_option maxRecDepth 4000 in
set_option maxHeartbeats 1000000 in
theorem LH_X0_splice_201 {D : va_G} {cy : Nat → ClassId} {ad : Nat → Nat} {bs : Nat} {X : State → Heap → Prop} : ∀ (n : Nat) (y0 : Int32) (y1 : Int32) (y2 : t_S) (Q : t_S → Prop) (hk : t_hk (t_loop (b_X0_splice_201) n (y0, y1, y2)) Q), mj_G D cy ad bs X cX0_splice 11 yX0_splice.cls none yX0_splice.name 1 0 0 1065 (t_P (fun v s' => v = none ∧ Q (s'))) 201 [(0, .ref 334), (9, .int (y0)), (10, .int (y1))] [] (t_m y2) 1065 0 0 := by
  intro n
  induction n with
  | zero => intro y0 y1 y2 Q hk; obtain ⟨r, hr, _⟩ := hk; cases hr
  | succ n ih =>
    intro y0 y1 y2 Q hk
    exact B_X0_splice_201 y0 y1 y2 (fun y => t_lq (b_X0_splice_201) n Q y) (fun y0' y1' y2' hy => ih y0' y1' y2' Q hy) (t_lp hk)
noncomputable def k_X0_splice_154 (l1 : Int32) (l2 : Int32) (l3 : Int32) (l4 : Int32) (l6 : Int32) (l7 : Int32) (l8 : Int32) (l9 : Int32) (s : t_S) : Option (t_S) :=
 if t_cpok (0 : Int32) ((l2 + l6) + l7) (l8 - l3) 240 240 = true then
  t_let (t_cpJ s 341 340 (0 : Int32) ((l2 + l6) + l7) (l8 - l3)) (fun s1 =>
 if t_ix l1 240 = true then
  t_let (t_setJ s1 340 (l1.toNatClampNeg) ((s1.2.1 340 (l1.toNatClampNeg)) + ((l9.toInt64 <<< ((4 : Int32).toInt64 &&& 63)) + (l4.toInt64 <<< ((12 : Int32).toInt64 &&& 63))))) (fun s2 =>
 t_loop (b_X0_splice_201) t_N (l9, 0, s2))
else none)
else none
set_option maxRecDepth 4000 in
set_option maxHeartbeats 1000000 in
theorem B_X0_splice_154 {D : va_G} {cy : Nat → ClassId} {ad : Nat → Nat} {bs : Nat} {X : State → Heap → Prop} (l1 : Int32) (l2 : Int32) (l3 : Int32) (l4 : Int32) (l6 : Int32) (l7 : Int32) (l8 : Int32) (l9 : Int32) (s : t_S) (Q : t_S → Prop) (hk : t_hk (k_X0_splice_154 l1 l2 l3 l4 l6 l7 l8 l9 s) Q) : mj_G D cy ad bs X cX0_splice 11 yX0_splice.cls none yX0_splice.name 1 0 0 1065 (t_P (fun v s' => v = none ∧ Q (s'))) 154 [(0, .ref 334), (1, .int l1), (2, .int l2), (3, .int l3), (4, .int l4), (6, .int l6), (7, .int l7), (8, .int l8), (9, .int l9)] [] (t_m s) 1065 0 0 := by
  refine mj_aload_n dX0_splice_154 0 rfl ?_
  refine t_getR 341 dX0_splice_155 F_X0_32 qr_334_9 ?_
  refine mj_iconst (v := 0) dX0_splice_158 (by decide) ?_
  refine mj_aload_n dX0_splice_159 0 rfl ?_
  refine t_getR 340 dX0_splice_160 F_X0_29 qr_334_8 ?_
  refine mj_iload_n dX0_splice_163 2 rfl ?_
  refine mj_iload dX0_splice_164 5 rfl ?_
  refine mj_iadd dX0_splice_166 ?_
  refine mj_iload dX0_splice_167 6 rfl ?_
  refine mj_iadd dX0_splice_169 ?_
  refine mj_iload dX0_splice_170 7 rfl ?_
  refine mj_iload_n dX0_splice_172 3 rfl ?_
  refine mj_isub dX0_splice_173 ?_
  refine t_chkK hk (fun c0 hk => ?_)
  refine t_copyK dX0_splice_174 MA_X0_154 qa_341 qa_340 c0 (Nat.le_of_ble_eq_true rfl) (Nat.le_of_ble_eq_true rfl) (fun s1 ws1 => t_letE hk ws1 (fun hk => ?_))
  refine mj_aload_n dX0_splice_177 0 rfl ?_
  refine t_getR 340 dX0_splice_178 F_X0_29 qr_334_8 ?_
  refine mj_iload_n dX0_splice_181 1 rfl ?_
  refine mj_dup2 dX0_splice_182 rfl rfl ?_
  refine t_chkK hk (fun c1 hk => ?_)
  refine t_lald dX0_splice_183 qa_340 (t_ixv c1) ?_
  refine mj_iload dX0_splice_184 8 rfl ?_
  refine mj_i2l (v := l9.toInt64) dX0_splice_186 rfl ?_
  refine mj_iconst (v := 4) dX0_splice_187 (by decide) ?_
  refine mj_lshl dX0_splice_188 rfl ?_
  refine mj_iload dX0_splice_189 4 rfl ?_
  refine mj_i2l (v := l4.toInt64) dX0_splice_191 rfl ?_
  refine mj_bipush (v := 12) dX0_splice_192 (by decide) ?_
  refine mj_lshl dX0_splice_194 rfl ?_
  refine mj_ladd dX0_splice_195 ?_
  refine mj_ladd dX0_splice_196 ?_
  refine t_lastK dX0_splice_197 qa_340 (t_ixv c1) (fun s2 ws2 => t_letE hk ws2 (fun hk => ?_))
  refine mj_iconst (v := 0) dX0_splice_198 (by decide) ?_
  refine mj_istore (lv2 := [(10, .int 0), (0, .ref 334), (1, .int l1), (2, .int l2), (3, .int l3), (4, .int l4), (6, .int l6), (7, .int l7), (8, .int l8), (9, .int l9)]) dX0_splice_199 (by decide) rfl ?_
  refine mj_sublv [(0, .ref 334), (9, .int l9), (10, .int 0)] [1, 9, 0] rfl ?_
  exact LH_X0_splice_201 _ l9 0 s2 _ hk
noncomputable def k_X0_splice_121 (l1 : Int32) (l2 : Int32) (l3 : Int32) (l4 : Int32) (l6 : Int32) (l7 : Int32) (l8 : Int32) (l9 : Int32) (s : t_S) : Option (t_S) :=
 if l7 ≤ (0 : Int32) then (k_X0_splice_154 l1 l2 l3 l4 l6 l7 l8 l9 s)
 else (if t_ix ((s.1 334 7) - (1 : Int32)) 3201 = true then
  if t_cpok (s.1 339 (((s.1 334 7) - (1 : Int32)).toNatClampNeg)) (l2 + l6) l7 48000 240 = true then
  t_let (t_cpJ s 338 340 (s.1 339 (((s.1 334 7) - (1 : Int32)).toNatClampNeg)) (l2 + l6) l7) (fun s1 =>
 k_X0_splice_154 l1 l2 l3 l4 l6 l7 l8 l9 s1)
else none
else none)
set_option maxRecDepth 4000 in
set_option maxHeartbeats 1000000 in
theorem B_X0_splice_121 {D : va_G} {cy : Nat → ClassId} {ad : Nat → Nat} {bs : Nat} {X : State → Heap → Prop} (l1 : Int32) (l2 : Int32) (l3 : Int32) (l4 : Int32) (l6 : Int32) (l7 : Int32) (l8 : Int32) (l9 : Int32) (s : t_S) (Q : t_S → Prop) (hk : t_hk (k_X0_splice_121 l1 l2 l3 l4 l6 l7 l8 l9 s) Q) : mj_G D cy ad bs X cX0_splice 11 yX0_splice.cls none yX0_splice.name 1 0 0 1065 (t_P (fun v s' => v = none ∧ Q (s'))) 121 [(0, .ref 334), (1, .int l1), (2, .int l2), (3, .int l3), (4, .int l4), (6, .int l6), (7, .int l7), (8, .int l8), (9, .int l9)] [] (t_m s) 1065 0 0 := by
  refine mj_iload dX0_splice_121 6 rfl ?_
  refine mj_if_le 154 dX0_splice_123 (by decide) (fun z => t_posK hk z (fun hk => ?_)) (fun z => t_negK hk z (fun hk => ?_))
  · exact B_X0_splice_154 _ _ _ _ _ _ _ _ _ _ hk
  · refine mj_aload_n dX0_splice_126 0 rfl ?_
    refine t_getR 338 dX0_splice_127 F_X0_21 qr_334_5 ?_
    refine mj_aload_n dX0_splice_130 0 rfl ?_
    refine t_getR 339 dX0_splice_131 F_X0_24 qr_334_6 ?_
    refine mj_aload_n dX0_splice_134 0 rfl ?_
    refine t_getI dX0_splice_135 F_X0_62 qf_334_7 ?_
    refine mj_iconst (v := 1) dX0_splice_138 (by decide) ?_
    refine mj_isub dX0_splice_139 ?_
    refine t_chkK hk (fun c0 hk => ?_)
    refine t_iald dX0_splice_140 qa_339 (t_ixv c0) ?_
    refine mj_aload_n dX0_splice_141 0 rfl ?_
    refine t_getR 340 dX0_splice_142 F_X0_29 qr_334_8 ?_
    refine mj_iload_n dX0_splice_145 2 rfl ?_
    refine mj_iload dX0_splice_146 5 rfl ?_
    refine mj_iadd dX0_splice_148 ?_
    refine mj_iload dX0_splice_149 6 rfl ?_
    refine t_chkK hk (fun c1 hk => ?_)
    refine t_copyK dX0_splice_151 MA_X0_154 qa_338 qa_340 c1 (Nat.le_of_ble_eq_true rfl) (Nat.le_of_ble_eq_true rfl) (fun s1 ws1 => t_letE hk ws1 (fun hk => ?_))
    exact B_X0_splice_154 _ _ _ _ _ _ _ _ _ _ hk
noncomputable def k_X0_splice_44 (l1 : Int32) (l2 : Int32) (l3 : Int32) (l4 : Int32) (l5 : Int32) (l6 : Int32) (k0 : Int32) (s : t_S) : Option (t_S) :=
 if ((f_X8_size (s.2.1 340 ((0 : Int32).toNatClampNeg)) s) + ((l6 + k0) - (l3 - l2))) ≤ (120 : Int32) then (if t_cpok l3 (0 : Int32) ((f_X8_size (s.2.1 340 ((0 : Int32).toNatClampNeg)) s) - l3) 240 240 = true then
  t_let (t_cpJ s 340 341 l3 (0 : Int32) ((f_X8_size (s.2.1 340 ((0 : Int32).toNatClampNeg)) s) - l3)) (fun s1 =>
 if l6 = (1 : Int32) then (if t_ix l2 240 = true then
  t_let (t_setJ s1 340 (l2.toNatClampNeg) (f_X8_plainCell (9 : Int32) l5.toInt64 s1)) (fun s2 =>
 k_X0_splice_121 l1 l2 l3 l4 l6 k0 (f_X8_size (s.2.1 340 ((0 : Int32).toNatClampNeg)) s) ((l6 + k0) - (l3 - l2)) s2)
else none)
 else (k_X0_splice_121 l1 l2 l3 l4 l6 k0 (f_X8_size (s.2.1 340 ((0 : Int32).toNatClampNeg)) s) ((l6 + k0) - (l3 - l2)) s1))
else none)
 else (t_let (t_setI s 334 12 (3 : Int32)) (fun s3 =>
 some (s3)))
set_option maxRecDepth 4000 in
set_option maxHeartbeats 1000000 in
theorem B_X0_splice_44 {D : va_G} {cy : Nat → ClassId} {ad : Nat → Nat} {bs : Nat} {X : State → Heap → Prop} (l1 : Int32) (l2 : Int32) (l3 : Int32) (l4 : Int32) (l5 : Int32) (l6 : Int32) (k0 : Int32) (s : t_S) (Q : t_S → Prop) (hk : t_hk (k_X0_splice_44 l1 l2 l3 l4 l5 l6 k0 s) Q) : mj_G D cy ad bs X cX0_splice 11 yX0_splice.cls none yX0_splice.name 1 0 0 1065 (t_P (fun v s' => v = none ∧ Q (s'))) 44 [(0, .ref 334), (1, .int l1), (2, .int l2), (3, .int l3), (4, .int l4), (5, .int l5), (6, .int l6)] [.int k0] (t_m s) 1065 0 0 := by
  refine mj_istore (lv2 := [(7, .int k0), (0, .ref 334), (1, .int l1), (2, .int l2), (3, .int l3), (4, .int l4), (5, .int l5), (6, .int l6)]) dX0_splice_44 (by decide) rfl ?_
  refine mj_aload_n dX0_splice_46 1 rfl ?_
  refine t_getR 340 dX0_splice_47 F_X0_29 qr_334_8 ?_
  refine mj_iconst (v := 0) dX0_splice_50 (by decide) ?_
  refine t_lald dX0_splice_51 qa_340 (by unfold vp_in; decide) ?_
  refine t_callSiP dX0_splice_52 M_X8_size (C_X8_size _ _) ML_X0_150 SM_X8_size (As := [.long (s.2.1 340 ((0 : Int32).toNatClampNeg))]) rfl rfl (Nat.le_of_ble_eq_true rfl) (Nat.le_of_ble_eq_true rfl) (Nat.le_of_ble_eq_true rfl) (Nat.le_of_ble_eq_true rfl) ?_
  refine mj_istore (lv2 := [(8, .int (f_X8_size (s.2.1 340 ((0 : Int32).toNatClampNeg)) s)), (7, .int k0), (0, .ref 334), (1, .int l1), (2, .int l2), (3, .int l3), (4, .int l4), (5, .int l5), (6, .int l6)]) dX0_splice_55 (by decide) rfl ?_
  refine mj_iload dX0_splice_57 8 rfl ?_
  refine mj_iload dX0_splice_59 1 rfl ?_
  refine mj_iadd dX0_splice_61 ?_
  refine mj_iload_n dX0_splice_62 5 rfl ?_
  refine mj_iload_n dX0_splice_63 4 rfl ?_
  refine mj_isub dX0_splice_64 ?_
  refine mj_isub dX0_splice_65 ?_
  refine mj_istore (lv2 := [(9, .int ((l6 + k0) - (l3 - l2))), (8, .int (f_X8_size (s.2.1 340 ((0 : Int32).toNatClampNeg)) s)), (7, .int k0), (0, .ref 334), (1, .int l1), (2, .int l2), (3, .int l3), (4, .int l4), (5, .int l5), (6, .int l6)]) dX0_splice_66 (by decide) rfl ?_
  refine mj_iload dX0_splice_68 1 rfl ?_
  refine mj_iload dX0_splice_70 0 rfl ?_
  refine mj_iadd dX0_splice_72 ?_
  refine mj_bipush (v := 120) dX0_splice_73 (by decide) ?_
  refine mj_icmp_le 84 dX0_splice_75 (by decide) (fun z => t_posK hk z (fun hk => ?_)) (fun z => t_negK hk z (fun hk => ?_))
  · refine mj_aload_n dX0_splice_84 3 rfl ?_
    refine t_getR 340 dX0_splice_85 F_X0_29 qr_334_8 ?_
    refine mj_iload_n dX0_splice_88 6 rfl ?_
    refine mj_aload_n dX0_splice_89 3 rfl ?_
    refine t_getR 341 dX0_splice_90 F_X0_32 qr_334_9 ?_
    refine mj_iconst (v := 0) dX0_splice_93 (by decide) ?_
    refine mj_iload dX0_splice_94 1 rfl ?_
    refine mj_iload_n dX0_splice_96 6 rfl ?_
    refine mj_isub dX0_splice_97 ?_
    refine t_chkK hk (fun c1 hk => ?_)
    refine t_copyK dX0_splice_98 MA_X0_154 qa_340 qa_341 c1 (Nat.le_of_ble_eq_true rfl) (Nat.le_of_ble_eq_true rfl) (fun s1 ws1 => t_letE hk ws1 (fun hk => ?_))
    refine mj_iload dX0_splice_101 9 rfl ?_
    refine mj_iconst (v := 1) dX0_splice_103 (by decide) ?_
    refine mj_icmp_ne 121 dX0_splice_104 (by decide) (fun z => t_negK hk z (fun hk => ?_)) (fun z => t_posK hk z (fun hk => ?_))
    · refine mj_sublv [(0, .ref 334), (1, .int l1), (2, .int l2), (3, .int l3), (4, .int l4), (6, .int l6), (7, .int k0), (8, .int (f_X8_size (s.2.1 340 ((0 : Int32).toNatClampNeg)) s)), (9, .int ((l6 + k0) - (l3 - l2)))] [3, 4, 5, 6, 7, 9, 2, 1, 0] rfl ?_
      exact B_X0_splice_121 _ _ _ _ _ _ _ _ _ _ hk
    · refine mj_aload_n dX0_splice_107 3 rfl ?_
      refine t_getR 340 dX0_splice_108 F_X0_29 qr_334_8 ?_
      refine mj_iload_n dX0_splice_111 5 rfl ?_
      refine mj_bipush (v := 9) dX0_splice_112 (by decide) ?_
      refine mj_iload dX0_splice_114 8 rfl ?_
      refine mj_i2l (v := l5.toInt64) dX0_splice_116 rfl ?_
      refine t_callSlP dX0_splice_117 M_X8_plainCell (C_X8_plainCell _ _ _) ML_X0_106 SM_X8_plainCell (As := [.int 9, .long l5.toInt64]) rfl rfl (Nat.le_of_ble_eq_true rfl) (Nat.le_of_ble_eq_true rfl) (Nat.le_of_ble_eq_true rfl) (Nat.le_of_ble_eq_true rfl) ?_
      refine t_chkK hk (fun c3 hk => ?_)
      refine t_lastK dX0_splice_120 qa_340 (t_ixv c3) (fun s2 ws2 => t_letE hk ws2 (fun hk => ?_))
      refine mj_sublv [(0, .ref 334), (1, .int l1), (2, .int l2), (3, .int l3), (4, .int l4), (6, .int l6), (7, .int k0), (8, .int (f_X8_size (s.2.1 340 ((0 : Int32).toNatClampNeg)) s)), (9, .int ((l6 + k0) - (l3 - l2)))] [3, 4, 5, 6, 7, 9, 2, 1, 0] rfl ?_
      exact B_X0_splice_121 _ _ _ _ _ _ _ _ _ _ hk
  · refine mj_aload_n dX0_splice_78 3 rfl ?_
    refine mj_iconst (v := 3) dX0_splice_79 (by decide) ?_
    refine t_putIK dX0_splice_80 F_X0_71 qf_334_12 rfl (fun s3 ws3 => t_letE hk ws3 (fun hk => ?_))
    exact t_somK hk (fun hf => t_vret dX0_splice_83 rfl ⟨rfl, hf⟩ (Nat.le_of_ble_eq_true rfl) (Nat.le_of_ble_eq_true rfl))
noncomputable def k_X0_splice_10 (l1 : Int32) (l2 : Int32) (l3 : Int32) (l4 : Int32) (l5 : Int32) (k0 : Int32) (s : t_S) : Option (t_S) :=
 if l5 = (-2 : Int32) then (k_X0_splice_44 l1 l2 l3 l4 l5 k0 0 s)
 else (if t_ix (s.1 334 7) 3201 = true then
  if t_ix ((s.1 334 7) - (1 : Int32)) 3201 = true then
  k_X0_splice_44 l1 l2 l3 l4 l5 k0 ((s.1 339 ((s.1 334 7).toNatClampNeg)) - (s.1 339 (((s.1 334 7) - (1 : Int32)).toNatClampNeg))) s
else none
else none)
set_option maxRecDepth 4000 in
set_option maxHeartbeats 1000000 in
theorem B_X0_splice_10 {D : va_G} {cy : Nat → ClassId} {ad : Nat → Nat} {bs : Nat} {X : State → Heap → Prop} (l1 : Int32) (l2 : Int32) (l3 : Int32) (l4 : Int32) (l5 : Int32) (k0 : Int32) (s : t_S) (Q : t_S → Prop) (hk : t_hk (k_X0_splice_10 l1 l2 l3 l4 l5 k0 s) Q) : mj_G D cy ad bs X cX0_splice 11 yX0_splice.cls none yX0_splice.name 1 0 0 1065 (t_P (fun v s' => v = none ∧ Q (s'))) 10 [(0, .ref 334), (1, .int l1), (2, .int l2), (3, .int l3), (4, .int l4), (5, .int l5)] [.int k0] (t_m s) 1065 0 0 := by
  refine mj_istore (lv2 := [(6, .int k0), (0, .ref 334), (1, .int l1), (2, .int l2), (3, .int l3), (4, .int l4), (5, .int l5)]) dX0_splice_10 (by decide) rfl ?_
  refine mj_iload dX0_splice_12 6 rfl ?_
  refine mj_bipush (v := (-2)) dX0_splice_14 (by decide) ?_
  refine mj_icmp_ne 23 dX0_splice_16 (by decide) (fun z => t_negK hk z (fun hk => ?_)) (fun z => t_posK hk z (fun hk => ?_))
  · refine mj_aload_n dX0_splice_23 1 rfl ?_
    refine t_getR 339 dX0_splice_24 F_X0_24 qr_334_6 ?_
    refine mj_aload_n dX0_splice_27 1 rfl ?_
    refine t_getI dX0_splice_28 F_X0_62 qf_334_7 ?_
    refine t_chkK hk (fun c0 hk => ?_)
    refine t_iald dX0_splice_31 qa_339 (t_ixv c0) ?_
    refine mj_aload_n dX0_splice_32 1 rfl ?_
    refine t_getR 339 dX0_splice_33 F_X0_24 qr_334_6 ?_
    refine mj_aload_n dX0_splice_36 1 rfl ?_
    refine t_getI dX0_splice_37 F_X0_62 qf_334_7 ?_
    refine mj_iconst (v := 1) dX0_splice_40 (by decide) ?_
    refine mj_isub dX0_splice_41 ?_
    refine t_chkK hk (fun c1 hk => ?_)
    refine t_iald dX0_splice_42 qa_339 (t_ixv c1) ?_
    refine mj_isub dX0_splice_43 ?_
    refine mj_sublv [(0, .ref 334), (1, .int l1), (2, .int l2), (3, .int l3), (4, .int l4), (5, .int l5), (6, .int k0)] [1, 2, 3, 4, 5, 6, 0] rfl ?_
    exact B_X0_splice_44 _ _ _ _ _ _ _ _ _ hk
  · refine mj_iconst (v := 0) dX0_splice_19 (by decide) ?_
    refine mj_goto 44 dX0_splice_20 (by decide) ?_
    refine mj_sublv [(0, .ref 334), (1, .int l1), (2, .int l2), (3, .int l3), (4, .int l4), (5, .int l5), (6, .int k0)] [1, 2, 3, 4, 5, 6, 0] rfl ?_
    exact B_X0_splice_44 _ _ _ _ _ _ _ _ _ hk
noncomputable def f_X0_splice (x1 : Int32) (x2 : Int32) (x3 : Int32) (x4 : Int32) (x5 : Int32) (s : t_S) : Option (t_S) :=
 if x5 < (0 : Int32) then (k_X0_splice_10 x1 x2 x3 x4 x5 0 s)
 else (k_X0_splice_10 x1 x2 x3 x4 x5 1 s)
set_option maxRecDepth 4000 in
set_option maxHeartbeats 1000000 in
theorem C_X0_splice (x1 : Int32) (x2 : Int32) (x3 : Int32) (x4 : Int32) (x5 : Int32) (s : t_S) (r : t_S) (hr : f_X0_splice x1 x2 x3 x4 x5 s = some r) : t_C yX0_splice cX0_splice 11 none 1 [.ref 334, .int x1, .int x2, .int x3, .int x4, .int x5] s (fun v s' => v = none ∧ s' = r) := by
  refine t_C.imp (P := fun v s' => v = none ∧ (fun q => q = r) (s')) (t_C.of (by decide +kernel) (Nat.le_of_ble_eq_true rfl) ?_) (fun v s' hp => hp)
  intro D cy ad bs X
  have hk : t_hk (f_X0_splice x1 x2 x3 x4 x5 s) (fun q => q = r) := ⟨r, hr, rfl⟩
  show mj_G D cy ad bs X cX0_splice 11 yX0_splice.cls none yX0_splice.name 1 0 0 1065 (t_P (fun v s' => v = none ∧ (fun q => q = r) (s'))) 0 [(0, .ref 334), (1, .int x1), (2, .int x2), (3, .int x3), (4, .int x4), (5, .int x5)] [] (t_m s) 1065 0 0
  refine mj_iload dX0_splice_0 5 rfl ?_
  refine mj_if_lt 9 dX0_splice_2 (by decide) (fun z => t_posK hk z (fun hk => ?_)) (fun z => t_negK hk z (fun hk => ?_))
  · refine mj_iconst (v := 0) dX0_splice_9 (by decide) ?_
    exact B_X0_splice_10 _ _ _ _ _ _ _ _ hk
  · refine mj_iconst (v := 1) dX0_splice_5 (by decide) ?_
    refine mj_goto 10 dX0_splice_6 (by decide) ?_
    exact B_X0_splice_10 _ _ _ _ _ _ _ _ hk

theorem dX8_elementAt_0 : decode cX8_elementAt 0 = .ok (.iload_n 1, 1) := by decide +kernel
theorem dX8_elementAt_1 : decode cX8_elementAt 1 = .ok (.iconst 1, 1) := by decide +kernel
theorem dX8_elementAt_10 : decode cX8_elementAt 10 = .ok (.if_icmp .ge 29, 3) := by decide +kernel
theorem dX8_elementAt_13 : decode cX8_elementAt 13 = .ok (.iload 4, 2) := by decide +kernel
theorem dX8_elementAt_15 : decode cX8_elementAt 15 = .ok (.bipush 16, 2) := by decide +kernel
theorem dX8_elementAt_17 : decode cX8_elementAt 17 = .ok (.if_icmp .ge 22, 3) := by decide +kernel
theorem dX8_elementAt_2 : decode cX8_elementAt 2 = .ok (.iadd, 1) := by decide +kernel
theorem dX8_elementAt_20 : decode cX8_elementAt 20 = .ok (.iload_n 3, 1) := by decide +kernel
theorem dX8_elementAt_21 : decode cX8_elementAt 21 = .ok (.aload_n 0, 1) := by decide +kernel
theorem dX8_elementAt_22 : decode cX8_elementAt 22 = .ok (.iload_n 3, 1) := by decide +kernel
theorem dX8_elementAt_23 : decode cX8_elementAt 23 = .ok (.laload, 1) := by decide +kernel
theorem dX8_elementAt_24 : decode cX8_elementAt 24 = .ok (.l2i, 1) := by decide +kernel
theorem dX8_elementAt_25 : decode cX8_elementAt 25 = .ok (.iconst 4, 1) := by decide +kernel
theorem dX8_elementAt_26 : decode cX8_elementAt 26 = .ok (.ishr, 1) := by decide +kernel
theorem dX8_elementAt_27 : decode cX8_elementAt 27 = .ok (.sipush 255, 3) := by decide +kernel
theorem dX8_elementAt_3 : decode cX8_elementAt 3 = .ok (.istore_n 3, 1) := by decide +kernel
theorem dX8_elementAt_30 : decode cX8_elementAt 30 = .ok (.iand, 1) := by decide +kernel
theorem dX8_elementAt_31 : decode cX8_elementAt 31 = .ok (.iadd, 1) := by decide +kernel
theorem dX8_elementAt_32 : decode cX8_elementAt 32 = .ok (.istore_n 3, 1) := by decide +kernel
theorem dX8_elementAt_33 : decode cX8_elementAt 33 = .ok (.iinc 4 1, 3) := by decide +kernel
theorem dX8_elementAt_36 : decode cX8_elementAt 36 = .ok (.goto (-29), 3) := by decide +kernel
theorem dX8_elementAt_39 : decode cX8_elementAt 39 = .ok (.iload_n 3, 1) := by decide +kernel
theorem dX8_elementAt_4 : decode cX8_elementAt 4 = .ok (.iconst 0, 1) := by decide +kernel
theorem dX8_elementAt_40 : decode cX8_elementAt 40 = .ok (.ireturn, 1) := by decide +kernel
theorem dX8_elementAt_5 : decode cX8_elementAt 5 = .ok (.istore 4, 2) := by decide +kernel
theorem dX8_elementAt_7 : decode cX8_elementAt 7 = .ok (.iload 4, 2) := by decide +kernel
theorem dX8_elementAt_9 : decode cX8_elementAt 9 = .ok (.iload_n 2, 1) := by decide +kernel
noncomputable def k_X8_elementAt_7 (l0 : Nat) (l2 : Int32) (l3 : Int32) (l4 : Int32) (s : t_S) : Option ((Nat × Int32 × Int32 × Int32) ⊕ (Int32)) :=
 if l2 ≤ l4 then ((some (l3)).map Sum.inr)
 else (if (16 : Int32) ≤ l4 then ((some (l3)).map Sum.inr)
 else (if t_oka l0 2 (t_ln l0) = true then
  if t_ix l3 (t_ln l0) = true then
  some (.inl (l0, l2, (l3 + ((((s.2.1 l0 (l3.toNatClampNeg)).toInt32) >>> ((4 : Int32) &&& 31)) &&& (255 : Int32))), (l4 + 1)))
else none
else none))
set_option maxRecDepth 4000 in
set_option maxHeartbeats 1000000 in
theorem B_X8_elementAt_7 {D : va_G} {cy : Nat → ClassId} {ad : Nat → Nat} {bs : Nat} {X : State → Heap → Prop} (l0 : Nat) (l2 : Int32) (l3 : Int32) (l4 : Int32) (s : t_S) (Q : (Nat × Int32 × Int32 × Int32) ⊕ (Int32) → Prop) (Hb7 : ∀ (y0 : Nat) (y1 : Int32) (y2 : Int32) (y3 : Int32), Q (.inl (y0, y1, y2, y3)) → mj_G D cy ad bs X cX8_elementAt 5 yX8_elementAt.cls (some .int) yX8_elementAt.name 0 0 0 1065 (t_P (fun v s' => s' = s ∧ ∃ x, v = some (.int x) ∧ Q (.inr (x)))) 7 [(0, .ref (y0)), (2, .int (y1)), (3, .int (y2)), (4, .int (y3))] [] (t_m s) 1065 0 0) (hk : t_hk (k_X8_elementAt_7 l0 l2 l3 l4 s) Q) : mj_G D cy ad bs X cX8_elementAt 5 yX8_elementAt.cls (some .int) yX8_elementAt.name 0 0 0 1065 (t_P (fun v s' => s' = s ∧ ∃ x, v = some (.int x) ∧ Q (.inr (x)))) 7 [(0, .ref l0), (2, .int l2), (3, .int l3), (4, .int l4)] [] (t_m s) 1065 0 0 := by
  refine mj_iload dX8_elementAt_7 3 rfl ?_
  refine mj_iload_n dX8_elementAt_9 1 rfl ?_
  refine mj_icmp_ge 39 dX8_elementAt_10 (by decide) (fun z => t_posK hk z (fun hk => ?_)) (fun z => t_negK hk z (fun hk => ?_))
  · refine t_mapK hk (fun hk => ?_)
    refine mj_iload_n dX8_elementAt_39 2 rfl ?_
    exact t_somK hk (fun hf => t_iret dX8_elementAt_40 rfl rfl ⟨rfl, _, rfl, hf⟩ (Nat.le_of_ble_eq_true rfl) (Nat.le_of_ble_eq_true rfl))
  · refine mj_iload dX8_elementAt_13 3 rfl ?_
    refine mj_bipush (v := 16) dX8_elementAt_15 (by decide) ?_
    refine mj_icmp_ge 39 dX8_elementAt_17 (by decide) (fun z => t_posK hk z (fun hk => ?_)) (fun z => t_negK hk z (fun hk => ?_))
    · refine t_mapK hk (fun hk => ?_)
      refine mj_iload_n dX8_elementAt_39 2 rfl ?_
      exact t_somK hk (fun hf => t_iret dX8_elementAt_40 rfl rfl ⟨rfl, _, rfl, hf⟩ (Nat.le_of_ble_eq_true rfl) (Nat.le_of_ble_eq_true rfl))
    · refine mj_iload_n dX8_elementAt_20 2 rfl ?_
      refine mj_aload_n dX8_elementAt_21 0 rfl ?_
      refine mj_iload_n dX8_elementAt_22 2 rfl ?_
      refine t_chkK hk (fun c0 hk => ?_)
      refine t_chkK hk (fun c1 hk => ?_)
      refine t_lald dX8_elementAt_23 c0 (t_ixv c1) ?_
      refine mj_l2i (v := (s.2.1 l0 (l3.toNatClampNeg)).toInt32) dX8_elementAt_24 rfl ?_
      refine mj_iconst (v := 4) dX8_elementAt_25 (by decide) ?_
      refine mj_ishr dX8_elementAt_26 ?_
      refine mj_sipush (v := 255) dX8_elementAt_27 (by decide) ?_
      refine mj_iand dX8_elementAt_30 ?_
      refine mj_iadd dX8_elementAt_31 ?_
      refine mj_istore_n 3 (lv2 := [(3, .int (l3 + ((((s.2.1 l0 (l3.toNatClampNeg)).toInt32) >>> ((4 : Int32) &&& 31)) &&& (255 : Int32)))), (0, .ref l0), (2, .int l2), (4, .int l4)]) dX8_elementAt_32 rfl (by decide) rfl ?_
      refine mj_iinc (k := 3) (v := (l4 + 1)) (lv2 := [(4, .int (l4 + 1)), (3, .int (l3 + ((((s.2.1 l0 (l3.toNatClampNeg)).toInt32) >>> ((4 : Int32) &&& 31)) &&& (255 : Int32)))), (0, .ref l0), (2, .int l2)]) dX8_elementAt_33 rfl rfl (by decide) rfl ?_
      refine mj_goto 7 dX8_elementAt_36 (by decide) ?_
      refine mj_sublv [(0, .ref l0), (2, .int l2), (3, .int (l3 + ((((s.2.1 l0 (l3.toNatClampNeg)).toInt32) >>> ((4 : Int32) &&& 31)) &&& (255 : Int32)))), (4, .int (l4 + 1))] [2, 3, 1, 0] rfl ?_
      exact t_somK hk (fun hf => Hb7 l0 l2 (l3 + ((((s.2.1 l0 (l3.toNatClampNeg)).toInt32) >>> ((4 : Int32) &&& 31)) &&& (255 : Int32))) (l4 + 1) hf)
noncomputable def b_X8_elementAt_7 (s : t_S) (x : Nat × Int32 × Int32 × Int32) : Option ((Nat × Int32 × Int32 × Int32) ⊕ (Int32)) := k_X8_elementAt_7 x.1 x.2.1 x.2.2.1 x.2.2.2 s
set_option maxRecDepth 4000 in
set_option maxHeartbeats 1000000 in
theorem LH_X8_elementAt_7 {D : va_G} {cy : Nat → ClassId} {ad : Nat → Nat} {bs : Nat} {X : State → Heap → Prop} (s : t_S) : ∀ (n : Nat) (y0 : Nat) (y1 : Int32) (y2 : Int32) (y3 : Int32) (Q : Int32 → Prop) (hk : t_hk (t_loop (b_X8_elementAt_7 s) n (y0, y1, y2, y3)) Q), mj_G D cy ad bs X cX8_elementAt 5 yX8_elementAt.cls (some .int) yX8_elementAt.name 0 0 0 1065 (t_P (fun v s' => s' = s ∧ ∃ x, v = some (.int x) ∧ Q (x))) 7 [(0, .ref (y0)), (2, .int (y1)), (3, .int (y2)), (4, .int (y3))] [] (t_m s) 1065 0 0 := by
  intro n
  induction n with
  | zero => intro y0 y1 y2 y3 Q hk; obtain ⟨r, hr, _⟩ := hk; cases hr
  | succ n ih =>
    intro y0 y1 y2 y3 Q hk
    exact B_X8_elementAt_7 y0 y1 y2 y3 s (fun y => t_lq (b_X8_elementAt_7 s) n Q y) (fun y0' y1' y2' y3' hy => ih y0' y1' y2' y3' Q hy) (t_lp hk)
noncomputable def f_X8_elementAt (x1 : Nat) (x2 : Int32) (x3 : Int32) (s : t_S) : Option (Int32) :=
 t_loop (b_X8_elementAt_7 s) t_N (x1, x3, (x2 + (1 : Int32)), 0)
set_option maxRecDepth 4000 in
set_option maxHeartbeats 1000000 in
theorem C_X8_elementAt (x1 : Nat) (x2 : Int32) (x3 : Int32) (s : t_S) (r : Int32) (hr : f_X8_elementAt x1 x2 x3 s = some r) : t_C yX8_elementAt cX8_elementAt 5 (some .int) 0 [.ref x1, .int x2, .int x3] s (fun v s' => v = some (.int r) ∧ s' = s) := by
  refine t_C.imp (P := fun v s' => s' = s ∧ ∃ x, v = some (.int x) ∧ (fun q => q = r) (x)) (t_C.of (by decide +kernel) (Nat.le_of_ble_eq_true rfl) ?_) (fun v s' hp => by obtain ⟨rfl, x, rfl, rfl⟩ := hp; exact ⟨rfl, rfl⟩)
  intro D cy ad bs X
  have hk : t_hk (f_X8_elementAt x1 x2 x3 s) (fun q => q = r) := ⟨r, hr, rfl⟩
  show mj_G D cy ad bs X cX8_elementAt 5 yX8_elementAt.cls (some .int) yX8_elementAt.name 0 0 0 1065 (t_P (fun v s' => s' = s ∧ ∃ x, v = some (.int x) ∧ (fun q => q = r) (x))) 0 [(0, .ref x1), (1, .int x2), (2, .int x3)] [] (t_m s) 1065 0 0
  refine mj_iload_n dX8_elementAt_0 1 rfl ?_
  refine mj_iconst (v := 1) dX8_elementAt_1 (by decide) ?_
  refine mj_iadd dX8_elementAt_2 ?_
  refine mj_istore_n 3 (lv2 := [(3, .int (x2 + (1 : Int32))), (0, .ref x1), (1, .int x2), (2, .int x3)]) dX8_elementAt_3 rfl (by decide) rfl ?_
  refine mj_iconst (v := 0) dX8_elementAt_4 (by decide) ?_
  refine mj_istore (lv2 := [(4, .int 0), (3, .int (x2 + (1 : Int32))), (0, .ref x1), (1, .int x2), (2, .int x3)]) dX8_elementAt_5 (by decide) rfl ?_
  refine mj_sublv [(0, .ref x1), (2, .int x3), (3, .int (x2 + (1 : Int32))), (4, .int 0)] [2, 4, 1, 0] rfl ?_
  exact LH_X8_elementAt_7 _ _ x1 x3 (x2 + (1 : Int32)) 0 _ hk

theorem dX8_partsOf_0 : decode cX8_partsOf 0 = .ok (.lload_n 0, 1) := by decide +kernel
theorem dX8_partsOf_1 : decode cX8_partsOf 1 = .ok (.bipush 12, 2) := by decide +kernel
theorem dX8_partsOf_3 : decode cX8_partsOf 3 = .ok (.lshr, 1) := by decide +kernel
theorem dX8_partsOf_4 : decode cX8_partsOf 4 = .ok (.l2i, 1) := by decide +kernel
theorem dX8_partsOf_5 : decode cX8_partsOf 5 = .ok (.ireturn, 1) := by decide +kernel
noncomputable def f_X8_partsOf (x1 : Int64) (s : t_S) : Int32 :=
 ((x1 >>> ((12 : Int32).toInt64 &&& 63)).toInt32)
set_option maxRecDepth 4000 in
set_option maxHeartbeats 1000000 in
theorem C_X8_partsOf (x1 : Int64) (s : t_S) : t_C yX8_partsOf cX8_partsOf 2 (some .int) 0 [.long x1] s (fun v s' => v = some (.int (f_X8_partsOf x1 s)) ∧ s' = s) := by
  refine t_C.imp (P := fun v s' => s' = s ∧ ∃ x, v = some (.int x) ∧ (fun r => r = f_X8_partsOf x1 s) (x)) (t_C.of (by decide +kernel) (Nat.le_of_ble_eq_true rfl) ?_) (fun v s' hp => by obtain ⟨rfl, x, rfl, rfl⟩ := hp; exact ⟨rfl, rfl⟩)
  intro D cy ad bs X
  have hk : t_ht (f_X8_partsOf x1 s) (fun r => r = f_X8_partsOf x1 s) := rfl
  show mj_G D cy ad bs X cX8_partsOf 2 yX8_partsOf.cls (some .int) yX8_partsOf.name 0 0 0 1065 (t_P (fun v s' => s' = s ∧ ∃ x, v = some (.int x) ∧ (fun r => r = f_X8_partsOf x1 s) (x))) 0 [(0, .long x1)] [] (t_m s) 1065 0 0
  refine mj_lload_n dX8_partsOf_0 0 rfl ?_
  refine mj_bipush (v := 12) dX8_partsOf_1 (by decide) ?_
  refine mj_lshr dX8_partsOf_3 rfl ?_
  refine mj_l2i (v := (x1 >>> ((12 : Int32).toInt64 &&& 63)).toInt32) dX8_partsOf_4 rfl ?_
  exact t_iret dX8_partsOf_5 rfl rfl ⟨rfl, _, rfl, hk⟩ (Nat.le_of_ble_eq_true rfl) (Nat.le_of_ble_eq_true rfl)

theorem dX0_putElement_0 : decode cX0_putElement 0 = .ok (.aload_n 0, 1) := by decide +kernel
theorem dX0_putElement_1 : decode cX0_putElement 1 = .ok (.getfield 29, 3) := by decide +kernel
theorem dX0_putElement_100 : decode cX0_putElement 100 = .ok (.laload, 1) := by decide +kernel
theorem dX0_putElement_101 : decode cX0_putElement 101 = .ok (.invokestatic 150, 3) := by decide +kernel
theorem dX0_putElement_104 : decode cX0_putElement 104 = .ok (.iadd, 1) := by decide +kernel
theorem dX0_putElement_105 : decode cX0_putElement 105 = .ok (.iconst 0, 1) := by decide +kernel
theorem dX0_putElement_106 : decode cX0_putElement 106 = .ok (.iconst (-1), 1) := by decide +kernel
theorem dX0_putElement_107 : decode cX0_putElement 107 = .ok (.invokevirtual 292, 3) := by decide +kernel
theorem dX0_putElement_11 : decode cX0_putElement 11 = .ok (.lload_n 1, 1) := by decide +kernel
theorem dX0_putElement_110 : decode cX0_putElement 110 = .ok (.return_, 1) := by decide +kernel
theorem dX0_putElement_12 : decode cX0_putElement 12 = .ok (.lconst 0, 1) := by decide +kernel
theorem dX0_putElement_13 : decode cX0_putElement 13 = .ok (.lcmp, 1) := by decide +kernel
theorem dX0_putElement_14 : decode cX0_putElement 14 = .ok (.ifCond .lt 11, 3) := by decide +kernel
theorem dX0_putElement_17 : decode cX0_putElement 17 = .ok (.lload_n 1, 1) := by decide +kernel
theorem dX0_putElement_18 : decode cX0_putElement 18 = .ok (.iload 4, 2) := by decide +kernel
theorem dX0_putElement_20 : decode cX0_putElement 20 = .ok (.i2l, 1) := by decide +kernel
theorem dX0_putElement_21 : decode cX0_putElement 21 = .ok (.lcmp, 1) := by decide +kernel
theorem dX0_putElement_22 : decode cX0_putElement 22 = .ok (.ifCond .le 11, 3) := by decide +kernel
theorem dX0_putElement_25 : decode cX0_putElement 25 = .ok (.aload_n 0, 1) := by decide +kernel
theorem dX0_putElement_26 : decode cX0_putElement 26 = .ok (.iconst 2, 1) := by decide +kernel
theorem dX0_putElement_27 : decode cX0_putElement 27 = .ok (.putfield 71, 3) := by decide +kernel
theorem dX0_putElement_30 : decode cX0_putElement 30 = .ok (.goto 16, 3) := by decide +kernel
theorem dX0_putElement_33 : decode cX0_putElement 33 = .ok (.lload_n 1, 1) := by decide +kernel
theorem dX0_putElement_34 : decode cX0_putElement 34 = .ok (.ldc2_w 300, 3) := by decide +kernel
theorem dX0_putElement_37 : decode cX0_putElement 37 = .ok (.lcmp, 1) := by decide +kernel
theorem dX0_putElement_38 : decode cX0_putElement 38 = .ok (.ifCond .ne 8, 3) := by decide +kernel
theorem dX0_putElement_4 : decode cX0_putElement 4 = .ok (.iload_n 3, 1) := by decide +kernel
theorem dX0_putElement_41 : decode cX0_putElement 41 = .ok (.aload_n 0, 1) := by decide +kernel
theorem dX0_putElement_42 : decode cX0_putElement 42 = .ok (.iconst 3, 1) := by decide +kernel
theorem dX0_putElement_43 : decode cX0_putElement 43 = .ok (.putfield 71, 3) := by decide +kernel
theorem dX0_putElement_46 : decode cX0_putElement 46 = .ok (.aload_n 0, 1) := by decide +kernel
theorem dX0_putElement_47 : decode cX0_putElement 47 = .ok (.getfield 71, 3) := by decide +kernel
theorem dX0_putElement_5 : decode cX0_putElement 5 = .ok (.laload, 1) := by decide +kernel
theorem dX0_putElement_50 : decode cX0_putElement 50 = .ok (.ifCond .eq 4, 3) := by decide +kernel
theorem dX0_putElement_53 : decode cX0_putElement 53 = .ok (.return_, 1) := by decide +kernel
theorem dX0_putElement_54 : decode cX0_putElement 54 = .ok (.aload_n 0, 1) := by decide +kernel
theorem dX0_putElement_55 : decode cX0_putElement 55 = .ok (.getfield 29, 3) := by decide +kernel
theorem dX0_putElement_58 : decode cX0_putElement 58 = .ok (.iload_n 3, 1) := by decide +kernel
theorem dX0_putElement_59 : decode cX0_putElement 59 = .ok (.lload_n 1, 1) := by decide +kernel
theorem dX0_putElement_6 : decode cX0_putElement 6 = .ok (.invokestatic 217, 3) := by decide +kernel
theorem dX0_putElement_60 : decode cX0_putElement 60 = .ok (.l2i, 1) := by decide +kernel
theorem dX0_putElement_61 : decode cX0_putElement 61 = .ok (.invokestatic 220, 3) := by decide +kernel
theorem dX0_putElement_64 : decode cX0_putElement 64 = .ok (.istore 5, 2) := by decide +kernel
theorem dX0_putElement_66 : decode cX0_putElement 66 = .ok (.lload_n 1, 1) := by decide +kernel
theorem dX0_putElement_67 : decode cX0_putElement 67 = .ok (.iload 4, 2) := by decide +kernel
theorem dX0_putElement_69 : decode cX0_putElement 69 = .ok (.i2l, 1) := by decide +kernel
theorem dX0_putElement_70 : decode cX0_putElement 70 = .ok (.lcmp, 1) := by decide +kernel
theorem dX0_putElement_71 : decode cX0_putElement 71 = .ok (.ifCond .ne 17, 3) := by decide +kernel
theorem dX0_putElement_74 : decode cX0_putElement 74 = .ok (.aload_n 0, 1) := by decide +kernel
theorem dX0_putElement_75 : decode cX0_putElement 75 = .ok (.iload_n 3, 1) := by decide +kernel
theorem dX0_putElement_76 : decode cX0_putElement 76 = .ok (.iload 5, 2) := by decide +kernel
theorem dX0_putElement_78 : decode cX0_putElement 78 = .ok (.iload 5, 2) := by decide +kernel
theorem dX0_putElement_80 : decode cX0_putElement 80 = .ok (.iconst 1, 1) := by decide +kernel
theorem dX0_putElement_81 : decode cX0_putElement 81 = .ok (.iconst (-1), 1) := by decide +kernel
theorem dX0_putElement_82 : decode cX0_putElement 82 = .ok (.invokevirtual 292, 3) := by decide +kernel
theorem dX0_putElement_85 : decode cX0_putElement 85 = .ok (.goto 25, 3) := by decide +kernel
theorem dX0_putElement_88 : decode cX0_putElement 88 = .ok (.aload_n 0, 1) := by decide +kernel
theorem dX0_putElement_89 : decode cX0_putElement 89 = .ok (.iload_n 3, 1) := by decide +kernel
theorem dX0_putElement_9 : decode cX0_putElement 9 = .ok (.istore 4, 2) := by decide +kernel
theorem dX0_putElement_90 : decode cX0_putElement 90 = .ok (.iload 5, 2) := by decide +kernel
theorem dX0_putElement_92 : decode cX0_putElement 92 = .ok (.iload 5, 2) := by decide +kernel
theorem dX0_putElement_94 : decode cX0_putElement 94 = .ok (.aload_n 0, 1) := by decide +kernel
theorem dX0_putElement_95 : decode cX0_putElement 95 = .ok (.getfield 29, 3) := by decide +kernel
theorem dX0_putElement_98 : decode cX0_putElement 98 = .ok (.iload 5, 2) := by decide +kernel
noncomputable def k_X0_putElement_46 (l1 : Int64) (l3 : Int32) (l4 : Int32) (s : t_S) : Option (t_S) :=
 if (s.1 334 12) = (0 : Int32) then ((f_X8_elementAt 340 l3 l1.toInt32 s).bind (fun r1 =>
 if (lg_cmp l1 l4.toInt64) = (0 : Int32) then ((f_X0_splice l3 r1 r1 (1 : Int32) (-1 : Int32) s).bind (fun r5 =>
 some (r5)))
 else (if t_ix r1 240 = true then
  (f_X0_splice l3 r1 (r1 + (f_X8_size (s.2.1 340 (r1.toNatClampNeg)) s)) (0 : Int32) (-1 : Int32) s).bind (fun r4 =>
 some (r4))
else none)))
 else (some (s))
set_option maxRecDepth 4000 in
set_option maxHeartbeats 1000000 in
theorem B_X0_putElement_46 {D : va_G} {cy : Nat → ClassId} {ad : Nat → Nat} {bs : Nat} {X : State → Heap → Prop} (l1 : Int64) (l3 : Int32) (l4 : Int32) (s : t_S) (Q : t_S → Prop) (hk : t_hk (k_X0_putElement_46 l1 l3 l4 s) Q) : mj_G D cy ad bs X cX0_putElement 6 yX0_putElement.cls none yX0_putElement.name 2 0 0 1065 (t_P (fun v s' => v = none ∧ Q (s'))) 46 [(0, .ref 334), (1, .long l1), (3, .int l3), (4, .int l4)] [] (t_m s) 1065 0 0 := by
  refine mj_aload_n dX0_putElement_46 0 rfl ?_
  refine t_getI dX0_putElement_47 F_X0_71 qf_334_12 ?_
  refine mj_if_eq 54 dX0_putElement_50 (by decide) (fun z => t_posK hk z (fun hk => ?_)) (fun z => t_negK hk z (fun hk => ?_))
  · refine mj_aload_n dX0_putElement_54 0 rfl ?_
    refine t_getR 340 dX0_putElement_55 F_X0_29 qr_334_8 ?_
    refine mj_iload_n dX0_putElement_58 2 rfl ?_
    refine mj_lload_n dX0_putElement_59 1 rfl ?_
    refine mj_l2i (v := l1.toInt32) dX0_putElement_60 rfl ?_
    refine t_bndK hk (fun r1 er1 hk => ?_)
    refine t_callSiP dX0_putElement_61 M_X8_elementAt (C_X8_elementAt _ _ _ _ _ er1) ML_X0_220 SM_X8_elementAt (As := [.ref 340, .int l3, .int l1.toInt32]) rfl rfl (Nat.le_of_ble_eq_true rfl) (Nat.le_of_ble_eq_true rfl) (Nat.le_of_ble_eq_true rfl) (Nat.le_of_ble_eq_true rfl) ?_
    refine mj_istore (lv2 := [(5, .int r1), (0, .ref 334), (1, .long l1), (3, .int l3), (4, .int l4)]) dX0_putElement_64 (by decide) rfl ?_
    refine mj_lload_n dX0_putElement_66 2 rfl ?_
    refine mj_iload dX0_putElement_67 4 rfl ?_
    refine mj_i2l (v := l4.toInt64) dX0_putElement_69 rfl ?_
    refine mj_lcmp dX0_putElement_70 ?_
    refine mj_if_ne 88 dX0_putElement_71 (by decide) (fun z => t_negK hk z (fun hk => ?_)) (fun z => t_posK hk z (fun hk => ?_))
    · refine mj_aload_n dX0_putElement_88 1 rfl ?_
      refine mj_iload_n dX0_putElement_89 3 rfl ?_
      refine mj_iload dX0_putElement_90 0 rfl ?_
      refine mj_iload dX0_putElement_92 0 rfl ?_
      refine mj_aload_n dX0_putElement_94 1 rfl ?_
      refine t_getR 340 dX0_putElement_95 F_X0_29 qr_334_8 ?_
      refine mj_iload dX0_putElement_98 0 rfl ?_
      refine t_chkK hk (fun c1 hk => ?_)
      refine t_lald dX0_putElement_100 qa_340 (t_ixv c1) ?_
      refine t_callSiP dX0_putElement_101 M_X8_size (C_X8_size _ _) ML_X0_150 SM_X8_size (As := [.long (s.2.1 340 (r1.toNatClampNeg))]) rfl rfl (Nat.le_of_ble_eq_true rfl) (Nat.le_of_ble_eq_true rfl) (Nat.le_of_ble_eq_true rfl) (Nat.le_of_ble_eq_true rfl) ?_
      refine mj_iadd dX0_putElement_104 ?_
      refine mj_iconst (v := 0) dX0_putElement_105 (by decide) ?_
      refine mj_iconst (v := (-1)) dX0_putElement_106 (by decide) ?_
      refine t_bndK hk (fun r4 er4 hk => ?_)
      refine t_callVvE dX0_putElement_107 M_X0_splice (C_X0_splice _ _ _ _ _ _ _ er4) ML_X0_292 IM_X0_splice SE_X0_splice qc_334 rfl (As := [.int l3, .int r1, .int (r1 + (f_X8_size (s.2.1 340 (r1.toNatClampNeg)) s)), .int 0, .int (-1)]) rfl rfl (Nat.le_of_ble_eq_true rfl) (Nat.le_of_ble_eq_true rfl) (Nat.le_of_ble_eq_true rfl) (Nat.le_of_ble_eq_true rfl) ?_
      exact t_somK hk (fun hf => t_vret dX0_putElement_110 rfl ⟨rfl, hf⟩ (Nat.le_of_ble_eq_true rfl) (Nat.le_of_ble_eq_true rfl))
    · refine mj_aload_n dX0_putElement_74 1 rfl ?_
      refine mj_iload_n dX0_putElement_75 3 rfl ?_
      refine mj_iload dX0_putElement_76 0 rfl ?_
      refine mj_iload dX0_putElement_78 0 rfl ?_
      refine mj_iconst (v := 1) dX0_putElement_80 (by decide) ?_
      refine mj_iconst (v := (-1)) dX0_putElement_81 (by decide) ?_
      refine t_bndK hk (fun r5 er5 hk => ?_)
      refine t_callVvE dX0_putElement_82 M_X0_splice (C_X0_splice _ _ _ _ _ _ _ er5) ML_X0_292 IM_X0_splice SE_X0_splice qc_334 rfl (As := [.int l3, .int r1, .int r1, .int 1, .int (-1)]) rfl rfl (Nat.le_of_ble_eq_true rfl) (Nat.le_of_ble_eq_true rfl) (Nat.le_of_ble_eq_true rfl) (Nat.le_of_ble_eq_true rfl) ?_
      refine mj_goto 110 dX0_putElement_85 (by decide) ?_
      exact t_somK hk (fun hf => t_vret dX0_putElement_110 rfl ⟨rfl, hf⟩ (Nat.le_of_ble_eq_true rfl) (Nat.le_of_ble_eq_true rfl))
  · exact t_somK hk (fun hf => t_vret dX0_putElement_53 rfl ⟨rfl, hf⟩ (Nat.le_of_ble_eq_true rfl) (Nat.le_of_ble_eq_true rfl))
noncomputable def k_X0_putElement_25 (l1 : Int64) (l3 : Int32) (l4 : Int32) (s : t_S) : Option (t_S) :=
 t_let (t_setI s 334 12 (2 : Int32)) (fun s1 =>
 k_X0_putElement_46 l1 l3 l4 s1)
set_option maxRecDepth 4000 in
set_option maxHeartbeats 1000000 in
theorem B_X0_putElement_25 {D : va_G} {cy : Nat → ClassId} {ad : Nat → Nat} {bs : Nat} {X : State → Heap → Prop} (l1 : Int64) (l3 : Int32) (l4 : Int32) (s : t_S) (Q : t_S → Prop) (hk : t_hk (k_X0_putElement_25 l1 l3 l4 s) Q) : mj_G D cy ad bs X cX0_putElement 6 yX0_putElement.cls none yX0_putElement.name 2 0 0 1065 (t_P (fun v s' => v = none ∧ Q (s'))) 25 [(0, .ref 334), (1, .long l1), (3, .int l3), (4, .int l4)] [] (t_m s) 1065 0 0 := by
  refine mj_aload_n dX0_putElement_25 0 rfl ?_
  refine mj_iconst (v := 2) dX0_putElement_26 (by decide) ?_
  refine t_putIK dX0_putElement_27 F_X0_71 qf_334_12 rfl (fun s1 ws1 => t_letE hk ws1 (fun hk => ?_))
  refine mj_goto 46 dX0_putElement_30 (by decide) ?_
  exact B_X0_putElement_46 _ _ _ _ _ hk
noncomputable def f_X0_putElement (x1 : Int64) (x2 : Int32) (s : t_S) : Option (t_S) :=
 if t_ix x2 240 = true then
  if (lg_cmp x1 (0 : Int64)) < (0 : Int32) then (k_X0_putElement_25 x1 x2 (f_X8_partsOf (s.2.1 340 (x2.toNatClampNeg)) s) s)
 else (if (lg_cmp x1 ((f_X8_partsOf (s.2.1 340 (x2.toNatClampNeg)) s).toInt64)) ≤ (0 : Int32) then (if (lg_cmp x1 (16 : Int64)) = (0 : Int32) then (t_let (t_setI s 334 12 (3 : Int32)) (fun s1 =>
 k_X0_putElement_46 x1 x2 (f_X8_partsOf (s.2.1 340 (x2.toNatClampNeg)) s) s1))
 else (k_X0_putElement_46 x1 x2 (f_X8_partsOf (s.2.1 340 (x2.toNatClampNeg)) s) s))
 else (k_X0_putElement_25 x1 x2 (f_X8_partsOf (s.2.1 340 (x2.toNatClampNeg)) s) s))
else none
set_option maxRecDepth 4000 in
set_option maxHeartbeats 1000000 in
theorem C_X0_putElement (x1 : Int64) (x2 : Int32) (s : t_S) (r : t_S) (hr : f_X0_putElement x1 x2 s = some r) : t_C yX0_putElement cX0_putElement 6 none 2 [.ref 334, .long x1, .int x2] s (fun v s' => v = none ∧ s' = r) := by
  refine t_C.imp (P := fun v s' => v = none ∧ (fun q => q = r) (s')) (t_C.of (by decide +kernel) (Nat.le_of_ble_eq_true rfl) ?_) (fun v s' hp => hp)
  intro D cy ad bs X
  have hk : t_hk (f_X0_putElement x1 x2 s) (fun q => q = r) := ⟨r, hr, rfl⟩
  show mj_G D cy ad bs X cX0_putElement 6 yX0_putElement.cls none yX0_putElement.name 2 0 0 1065 (t_P (fun v s' => v = none ∧ (fun q => q = r) (s'))) 0 [(0, .ref 334), (1, .long x1), (3, .int x2)] [] (t_m s) 1065 0 0
  refine mj_aload_n dX0_putElement_0 0 rfl ?_
  refine t_getR 340 dX0_putElement_1 F_X0_29 qr_334_8 ?_
  refine mj_iload_n dX0_putElement_4 2 rfl ?_
  refine t_chkK hk (fun c0 hk => ?_)
  refine t_lald dX0_putElement_5 qa_340 (t_ixv c0) ?_
  refine t_callSiP dX0_putElement_6 M_X8_partsOf (C_X8_partsOf _ _) ML_X0_217 SM_X8_partsOf (As := [.long (s.2.1 340 (x2.toNatClampNeg))]) rfl rfl (Nat.le_of_ble_eq_true rfl) (Nat.le_of_ble_eq_true rfl) (Nat.le_of_ble_eq_true rfl) (Nat.le_of_ble_eq_true rfl) ?_
  refine mj_istore (lv2 := [(4, .int (f_X8_partsOf (s.2.1 340 (x2.toNatClampNeg)) s)), (0, .ref 334), (1, .long x1), (3, .int x2)]) dX0_putElement_9 (by decide) rfl ?_
  refine mj_lload_n dX0_putElement_11 2 rfl ?_
  refine mj_lconst (v := 0) dX0_putElement_12 (by decide) ?_
  refine mj_lcmp dX0_putElement_13 ?_
  refine mj_if_lt 25 dX0_putElement_14 (by decide) (fun z => t_posK hk z (fun hk => ?_)) (fun z => t_negK hk z (fun hk => ?_))
  · refine mj_sublv [(0, .ref 334), (1, .long x1), (3, .int x2), (4, .int (f_X8_partsOf (s.2.1 340 (x2.toNatClampNeg)) s))] [1, 2, 3, 0] rfl ?_
    exact B_X0_putElement_25 _ _ _ _ _ hk
  · refine mj_lload_n dX0_putElement_17 2 rfl ?_
    refine mj_iload dX0_putElement_18 0 rfl ?_
    refine mj_i2l (v := (f_X8_partsOf (s.2.1 340 (x2.toNatClampNeg)) s).toInt64) dX0_putElement_20 rfl ?_
    refine mj_lcmp dX0_putElement_21 ?_
    refine mj_if_le 33 dX0_putElement_22 (by decide) (fun z => t_posK hk z (fun hk => ?_)) (fun z => t_negK hk z (fun hk => ?_))
    · refine mj_lload_n dX0_putElement_33 2 rfl ?_
      refine mj_ldc2 dX0_putElement_34 K_X0_300 ?_
      refine mj_lcmp dX0_putElement_37 ?_
      refine mj_if_ne 46 dX0_putElement_38 (by decide) (fun z => t_negK hk z (fun hk => ?_)) (fun z => t_posK hk z (fun hk => ?_))
      · refine mj_sublv [(0, .ref 334), (1, .long x1), (3, .int x2), (4, .int (f_X8_partsOf (s.2.1 340 (x2.toNatClampNeg)) s))] [1, 2, 3, 0] rfl ?_
        exact B_X0_putElement_46 _ _ _ _ _ hk
      · refine mj_aload_n dX0_putElement_41 1 rfl ?_
        refine mj_iconst (v := 3) dX0_putElement_42 (by decide) ?_
        refine t_putIK dX0_putElement_43 F_X0_71 qf_334_12 rfl (fun s1 ws1 => t_letE hk ws1 (fun hk => ?_))
        refine mj_sublv [(0, .ref 334), (1, .long x1), (3, .int x2), (4, .int (f_X8_partsOf (s.2.1 340 (x2.toNatClampNeg)) s))] [1, 2, 3, 0] rfl ?_
        exact B_X0_putElement_46 _ _ _ _ _ hk
    · refine mj_sublv [(0, .ref 334), (1, .long x1), (3, .int x2), (4, .int (f_X8_partsOf (s.2.1 340 (x2.toNatClampNeg)) s))] [1, 2, 3, 0] rfl ?_
      exact B_X0_putElement_25 _ _ _ _ _ hk

theorem dX8_fieldAt_0 : decode cX8_fieldAt 0 = .ok (.aload_n 0, 1) := by decide +kernel
theorem dX8_fieldAt_1 : decode cX8_fieldAt 1 = .ok (.iload_n 1, 1) := by decide +kernel
theorem dX8_fieldAt_10 : decode cX8_fieldAt 10 = .ok (.iadd, 1) := by decide +kernel
theorem dX8_fieldAt_11 : decode cX8_fieldAt 11 = .ok (.istore 4, 2) := by decide +kernel
theorem dX8_fieldAt_13 : decode cX8_fieldAt 13 = .ok (.iconst 0, 1) := by decide +kernel
theorem dX8_fieldAt_14 : decode cX8_fieldAt 14 = .ok (.istore 5, 2) := by decide +kernel
theorem dX8_fieldAt_16 : decode cX8_fieldAt 16 = .ok (.iload 5, 2) := by decide +kernel
theorem dX8_fieldAt_18 : decode cX8_fieldAt 18 = .ok (.iload_n 3, 1) := by decide +kernel
theorem dX8_fieldAt_19 : decode cX8_fieldAt 19 = .ok (.if_icmp .ge 46, 3) := by decide +kernel
theorem dX8_fieldAt_2 : decode cX8_fieldAt 2 = .ok (.laload, 1) := by decide +kernel
theorem dX8_fieldAt_22 : decode cX8_fieldAt 22 = .ok (.aload_n 0, 1) := by decide +kernel
theorem dX8_fieldAt_23 : decode cX8_fieldAt 23 = .ok (.iload 4, 2) := by decide +kernel
theorem dX8_fieldAt_25 : decode cX8_fieldAt 25 = .ok (.laload, 1) := by decide +kernel
theorem dX8_fieldAt_26 : decode cX8_fieldAt 26 = .ok (.bipush 12, 2) := by decide +kernel
theorem dX8_fieldAt_28 : decode cX8_fieldAt 28 = .ok (.lshr, 1) := by decide +kernel
theorem dX8_fieldAt_29 : decode cX8_fieldAt 29 = .ok (.l2i, 1) := by decide +kernel
theorem dX8_fieldAt_3 : decode cX8_fieldAt 3 = .ok (.bipush 12, 2) := by decide +kernel
theorem dX8_fieldAt_30 : decode cX8_fieldAt 30 = .ok (.iload_n 2, 1) := by decide +kernel
theorem dX8_fieldAt_31 : decode cX8_fieldAt 31 = .ok (.if_icmp .ne 8, 3) := by decide +kernel
theorem dX8_fieldAt_34 : decode cX8_fieldAt 34 = .ok (.iload 4, 2) := by decide +kernel
theorem dX8_fieldAt_36 : decode cX8_fieldAt 36 = .ok (.iconst 1, 1) := by decide +kernel
theorem dX8_fieldAt_37 : decode cX8_fieldAt 37 = .ok (.iadd, 1) := by decide +kernel
theorem dX8_fieldAt_38 : decode cX8_fieldAt 38 = .ok (.ireturn, 1) := by decide +kernel
theorem dX8_fieldAt_39 : decode cX8_fieldAt 39 = .ok (.iload 4, 2) := by decide +kernel
theorem dX8_fieldAt_41 : decode cX8_fieldAt 41 = .ok (.iconst 1, 1) := by decide +kernel
theorem dX8_fieldAt_42 : decode cX8_fieldAt 42 = .ok (.aload_n 0, 1) := by decide +kernel
theorem dX8_fieldAt_43 : decode cX8_fieldAt 43 = .ok (.iload 4, 2) := by decide +kernel
theorem dX8_fieldAt_45 : decode cX8_fieldAt 45 = .ok (.iconst 1, 1) := by decide +kernel
theorem dX8_fieldAt_46 : decode cX8_fieldAt 46 = .ok (.iadd, 1) := by decide +kernel
theorem dX8_fieldAt_47 : decode cX8_fieldAt 47 = .ok (.laload, 1) := by decide +kernel
theorem dX8_fieldAt_48 : decode cX8_fieldAt 48 = .ok (.l2i, 1) := by decide +kernel
theorem dX8_fieldAt_49 : decode cX8_fieldAt 49 = .ok (.iconst 4, 1) := by decide +kernel
theorem dX8_fieldAt_5 : decode cX8_fieldAt 5 = .ok (.lshr, 1) := by decide +kernel
theorem dX8_fieldAt_50 : decode cX8_fieldAt 50 = .ok (.ishr, 1) := by decide +kernel
theorem dX8_fieldAt_51 : decode cX8_fieldAt 51 = .ok (.sipush 255, 3) := by decide +kernel
theorem dX8_fieldAt_54 : decode cX8_fieldAt 54 = .ok (.iand, 1) := by decide +kernel
theorem dX8_fieldAt_55 : decode cX8_fieldAt 55 = .ok (.iadd, 1) := by decide +kernel
theorem dX8_fieldAt_56 : decode cX8_fieldAt 56 = .ok (.iadd, 1) := by decide +kernel
theorem dX8_fieldAt_57 : decode cX8_fieldAt 57 = .ok (.istore 4, 2) := by decide +kernel
theorem dX8_fieldAt_59 : decode cX8_fieldAt 59 = .ok (.iinc 5 1, 3) := by decide +kernel
theorem dX8_fieldAt_6 : decode cX8_fieldAt 6 = .ok (.l2i, 1) := by decide +kernel
theorem dX8_fieldAt_62 : decode cX8_fieldAt 62 = .ok (.goto (-46), 3) := by decide +kernel
theorem dX8_fieldAt_65 : decode cX8_fieldAt 65 = .ok (.iconst (-1), 1) := by decide +kernel
theorem dX8_fieldAt_66 : decode cX8_fieldAt 66 = .ok (.ireturn, 1) := by decide +kernel
theorem dX8_fieldAt_7 : decode cX8_fieldAt 7 = .ok (.istore_n 3, 1) := by decide +kernel
theorem dX8_fieldAt_8 : decode cX8_fieldAt 8 = .ok (.iload_n 1, 1) := by decide +kernel
theorem dX8_fieldAt_9 : decode cX8_fieldAt 9 = .ok (.iconst 1, 1) := by decide +kernel
noncomputable def k_X8_fieldAt_16 (l0 : Nat) (l2 : Int32) (l3 : Int32) (l4 : Int32) (l5 : Int32) (s : t_S) : Option ((Nat × Int32 × Int32 × Int32 × Int32) ⊕ (Int32)) :=
 if l3 ≤ l5 then ((some (-1 : Int32)).map Sum.inr)
 else (if t_oka l0 2 (t_ln l0) = true then
  if t_ix l4 (t_ln l0) = true then
  if (((s.2.1 l0 (l4.toNatClampNeg)) >>> ((12 : Int32).toInt64 &&& 63)).toInt32) = l2 then ((some (l4 + (1 : Int32))).map Sum.inr)
 else (if t_ix (l4 + (1 : Int32)) (t_ln l0) = true then
  some (.inl (l0, l2, l3, (l4 + ((1 : Int32) + ((((s.2.1 l0 ((l4 + (1 : Int32)).toNatClampNeg)).toInt32) >>> ((4 : Int32) &&& 31)) &&& (255 : Int32)))), (l5 + 1)))
else none)
else none
else none)
set_option maxRecDepth 4000 in
set_option maxHeartbeats 1000000 in
theorem B_X8_fieldAt_16 {D : va_G} {cy : Nat → ClassId} {ad : Nat → Nat} {bs : Nat} {X : State → Heap → Prop} (l0 : Nat) (l2 : Int32) (l3 : Int32) (l4 : Int32) (l5 : Int32) (s : t_S) (Q : (Nat × Int32 × Int32 × Int32 × Int32) ⊕ (Int32) → Prop) (Hb16 : ∀ (y0 : Nat) (y1 : Int32) (y2 : Int32) (y3 : Int32) (y4 : Int32), Q (.inl (y0, y1, y2, y3, y4)) → mj_G D cy ad bs X cX8_fieldAt 6 yX8_fieldAt.cls (some .int) yX8_fieldAt.name 0 0 0 1065 (t_P (fun v s' => s' = s ∧ ∃ x, v = some (.int x) ∧ Q (.inr (x)))) 16 [(0, .ref (y0)), (2, .int (y1)), (3, .int (y2)), (4, .int (y3)), (5, .int (y4))] [] (t_m s) 1065 0 0) (hk : t_hk (k_X8_fieldAt_16 l0 l2 l3 l4 l5 s) Q) : mj_G D cy ad bs X cX8_fieldAt 6 yX8_fieldAt.cls (some .int) yX8_fieldAt.name 0 0 0 1065 (t_P (fun v s' => s' = s ∧ ∃ x, v = some (.int x) ∧ Q (.inr (x)))) 16 [(0, .ref l0), (2, .int l2), (3, .int l3), (4, .int l4), (5, .int l5)] [] (t_m s) 1065 0 0 := by
  refine mj_iload dX8_fieldAt_16 4 rfl ?_
  refine mj_iload_n dX8_fieldAt_18 2 rfl ?_
  refine mj_icmp_ge 65 dX8_fieldAt_19 (by decide) (fun z => t_posK hk z (fun hk => ?_)) (fun z => t_negK hk z (fun hk => ?_))
  · refine t_mapK hk (fun hk => ?_)
    refine mj_iconst (v := (-1)) dX8_fieldAt_65 (by decide) ?_
    exact t_somK hk (fun hf => t_iret dX8_fieldAt_66 rfl rfl ⟨rfl, _, rfl, hf⟩ (Nat.le_of_ble_eq_true rfl) (Nat.le_of_ble_eq_true rfl))
  · refine mj_aload_n dX8_fieldAt_22 0 rfl ?_
    refine mj_iload dX8_fieldAt_23 3 rfl ?_
    refine t_chkK hk (fun c0 hk => ?_)
    refine t_chkK hk (fun c1 hk => ?_)
    refine t_lald dX8_fieldAt_25 c0 (t_ixv c1) ?_
    refine mj_bipush (v := 12) dX8_fieldAt_26 (by decide) ?_
    refine mj_lshr dX8_fieldAt_28 rfl ?_
    refine mj_l2i (v := ((s.2.1 l0 (l4.toNatClampNeg)) >>> ((12 : Int32).toInt64 &&& 63)).toInt32) dX8_fieldAt_29 rfl ?_
    refine mj_iload_n dX8_fieldAt_30 1 rfl ?_
    refine mj_icmp_ne 39 dX8_fieldAt_31 (by decide) (fun z => t_negK hk z (fun hk => ?_)) (fun z => t_posK hk z (fun hk => ?_))
    · refine mj_iload dX8_fieldAt_39 3 rfl ?_
      refine mj_iconst (v := 1) dX8_fieldAt_41 (by decide) ?_
      refine mj_aload_n dX8_fieldAt_42 0 rfl ?_
      refine mj_iload dX8_fieldAt_43 3 rfl ?_
      refine mj_iconst (v := 1) dX8_fieldAt_45 (by decide) ?_
      refine mj_iadd dX8_fieldAt_46 ?_
      refine t_chkK hk (fun c2 hk => ?_)
      refine t_lald dX8_fieldAt_47 c0 (t_ixv c2) ?_
      refine mj_l2i (v := (s.2.1 l0 ((l4 + (1 : Int32)).toNatClampNeg)).toInt32) dX8_fieldAt_48 rfl ?_
      refine mj_iconst (v := 4) dX8_fieldAt_49 (by decide) ?_
      refine mj_ishr dX8_fieldAt_50 ?_
      refine mj_sipush (v := 255) dX8_fieldAt_51 (by decide) ?_
      refine mj_iand dX8_fieldAt_54 ?_
      refine mj_iadd dX8_fieldAt_55 ?_
      refine mj_iadd dX8_fieldAt_56 ?_
      refine mj_istore (lv2 := [(4, .int (l4 + ((1 : Int32) + ((((s.2.1 l0 ((l4 + (1 : Int32)).toNatClampNeg)).toInt32) >>> ((4 : Int32) &&& 31)) &&& (255 : Int32))))), (0, .ref l0), (2, .int l2), (3, .int l3), (5, .int l5)]) dX8_fieldAt_57 (by decide) rfl ?_
      refine mj_iinc (k := 4) (v := (l5 + 1)) (lv2 := [(5, .int (l5 + 1)), (4, .int (l4 + ((1 : Int32) + ((((s.2.1 l0 ((l4 + (1 : Int32)).toNatClampNeg)).toInt32) >>> ((4 : Int32) &&& 31)) &&& (255 : Int32))))), (0, .ref l0), (2, .int l2), (3, .int l3)]) dX8_fieldAt_59 rfl rfl (by decide) rfl ?_
      refine mj_goto 16 dX8_fieldAt_62 (by decide) ?_
      refine mj_sublv [(0, .ref l0), (2, .int l2), (3, .int l3), (4, .int (l4 + ((1 : Int32) + ((((s.2.1 l0 ((l4 + (1 : Int32)).toNatClampNeg)).toInt32) >>> ((4 : Int32) &&& 31)) &&& (255 : Int32))))), (5, .int (l5 + 1))] [2, 3, 4, 1, 0] rfl ?_
      exact t_somK hk (fun hf => Hb16 l0 l2 l3 (l4 + ((1 : Int32) + ((((s.2.1 l0 ((l4 + (1 : Int32)).toNatClampNeg)).toInt32) >>> ((4 : Int32) &&& 31)) &&& (255 : Int32)))) (l5 + 1) hf)
    · refine t_mapK hk (fun hk => ?_)
      refine mj_iload dX8_fieldAt_34 3 rfl ?_
      refine mj_iconst (v := 1) dX8_fieldAt_36 (by decide) ?_
      refine mj_iadd dX8_fieldAt_37 ?_
      exact t_somK hk (fun hf => t_iret dX8_fieldAt_38 rfl rfl ⟨rfl, _, rfl, hf⟩ (Nat.le_of_ble_eq_true rfl) (Nat.le_of_ble_eq_true rfl))
noncomputable def b_X8_fieldAt_16 (s : t_S) (x : Nat × Int32 × Int32 × Int32 × Int32) : Option ((Nat × Int32 × Int32 × Int32 × Int32) ⊕ (Int32)) := k_X8_fieldAt_16 x.1 x.2.1 x.2.2.1 x.2.2.2.1 x.2.2.2.2 s
set_option maxRecDepth 4000 in
set_option maxHeartbeats 1000000 in
theorem LH_X8_fieldAt_16 {D : va_G} {cy : Nat → ClassId} {ad : Nat → Nat} {bs : Nat} {X : State → Heap → Prop} (s : t_S) : ∀ (n : Nat) (y0 : Nat) (y1 : Int32) (y2 : Int32) (y3 : Int32) (y4 : Int32) (Q : Int32 → Prop) (hk : t_hk (t_loop (b_X8_fieldAt_16 s) n (y0, y1, y2, y3, y4)) Q), mj_G D cy ad bs X cX8_fieldAt 6 yX8_fieldAt.cls (some .int) yX8_fieldAt.name 0 0 0 1065 (t_P (fun v s' => s' = s ∧ ∃ x, v = some (.int x) ∧ Q (x))) 16 [(0, .ref (y0)), (2, .int (y1)), (3, .int (y2)), (4, .int (y3)), (5, .int (y4))] [] (t_m s) 1065 0 0 := by
  intro n
  induction n with
  | zero => intro y0 y1 y2 y3 y4 Q hk; obtain ⟨r, hr, _⟩ := hk; cases hr
  | succ n ih =>
    intro y0 y1 y2 y3 y4 Q hk
    exact B_X8_fieldAt_16 y0 y1 y2 y3 y4 s (fun y => t_lq (b_X8_fieldAt_16 s) n Q y) (fun y0' y1' y2' y3' y4' hy => ih y0' y1' y2' y3' y4' Q hy) (t_lp hk)
noncomputable def f_X8_fieldAt (x1 : Nat) (x2 : Int32) (x3 : Int32) (s : t_S) : Option (Int32) :=
 if t_oka x1 2 (t_ln x1) = true then
  if t_ix x2 (t_ln x1) = true then
  t_loop (b_X8_fieldAt_16 s) t_N (x1, x3, (((s.2.1 x1 (x2.toNatClampNeg)) >>> ((12 : Int32).toInt64 &&& 63)).toInt32), (x2 + (1 : Int32)), 0)
else none
else none
set_option maxRecDepth 4000 in
set_option maxHeartbeats 1000000 in
theorem C_X8_fieldAt (x1 : Nat) (x2 : Int32) (x3 : Int32) (s : t_S) (r : Int32) (hr : f_X8_fieldAt x1 x2 x3 s = some r) : t_C yX8_fieldAt cX8_fieldAt 6 (some .int) 0 [.ref x1, .int x2, .int x3] s (fun v s' => v = some (.int r) ∧ s' = s) := by
  refine t_C.imp (P := fun v s' => s' = s ∧ ∃ x, v = some (.int x) ∧ (fun q => q = r) (x)) (t_C.of (by decide +kernel) (Nat.le_of_ble_eq_true rfl) ?_) (fun v s' hp => by obtain ⟨rfl, x, rfl, rfl⟩ := hp; exact ⟨rfl, rfl⟩)
  intro D cy ad bs X
  have hk : t_hk (f_X8_fieldAt x1 x2 x3 s) (fun q => q = r) := ⟨r, hr, rfl⟩
  show mj_G D cy ad bs X cX8_fieldAt 6 yX8_fieldAt.cls (some .int) yX8_fieldAt.name 0 0 0 1065 (t_P (fun v s' => s' = s ∧ ∃ x, v = some (.int x) ∧ (fun q => q = r) (x))) 0 [(0, .ref x1), (1, .int x2), (2, .int x3)] [] (t_m s) 1065 0 0
  refine mj_aload_n dX8_fieldAt_0 0 rfl ?_
  refine mj_iload_n dX8_fieldAt_1 1 rfl ?_
  refine t_chkK hk (fun c0 hk => ?_)
  refine t_chkK hk (fun c1 hk => ?_)
  refine t_lald dX8_fieldAt_2 c0 (t_ixv c1) ?_
  refine mj_bipush (v := 12) dX8_fieldAt_3 (by decide) ?_
  refine mj_lshr dX8_fieldAt_5 rfl ?_
  refine mj_l2i (v := ((s.2.1 x1 (x2.toNatClampNeg)) >>> ((12 : Int32).toInt64 &&& 63)).toInt32) dX8_fieldAt_6 rfl ?_
  refine mj_istore_n 3 (lv2 := [(3, .int (((s.2.1 x1 (x2.toNatClampNeg)) >>> ((12 : Int32).toInt64 &&& 63)).toInt32)), (0, .ref x1), (1, .int x2), (2, .int x3)]) dX8_fieldAt_7 rfl (by decide) rfl ?_
  refine mj_iload_n dX8_fieldAt_8 2 rfl ?_
  refine mj_iconst (v := 1) dX8_fieldAt_9 (by decide) ?_
  refine mj_iadd dX8_fieldAt_10 ?_
  refine mj_istore (lv2 := [(4, .int (x2 + (1 : Int32))), (3, .int (((s.2.1 x1 (x2.toNatClampNeg)) >>> ((12 : Int32).toInt64 &&& 63)).toInt32)), (0, .ref x1), (1, .int x2), (2, .int x3)]) dX8_fieldAt_11 (by decide) rfl ?_
  refine mj_iconst (v := 0) dX8_fieldAt_13 (by decide) ?_
  refine mj_istore (lv2 := [(5, .int 0), (4, .int (x2 + (1 : Int32))), (3, .int (((s.2.1 x1 (x2.toNatClampNeg)) >>> ((12 : Int32).toInt64 &&& 63)).toInt32)), (0, .ref x1), (1, .int x2), (2, .int x3)]) dX8_fieldAt_14 (by decide) rfl ?_
  refine mj_sublv [(0, .ref x1), (2, .int x3), (3, .int (((s.2.1 x1 (x2.toNatClampNeg)) >>> ((12 : Int32).toInt64 &&& 63)).toInt32)), (4, .int (x2 + (1 : Int32))), (5, .int 0)] [3, 5, 2, 1, 0] rfl ?_
  exact LH_X8_fieldAt_16 _ _ x1 x3 (((s.2.1 x1 (x2.toNatClampNeg)) >>> ((12 : Int32).toInt64 &&& 63)).toInt32) (x2 + (1 : Int32)) 0 _ hk

theorem dX8_wordOf_0 : decode cX8_wordOf 0 = .ok (.lload_n 0, 1) := by decide +kernel
theorem dX8_wordOf_1 : decode cX8_wordOf 1 = .ok (.bipush 12, 2) := by decide +kernel
theorem dX8_wordOf_3 : decode cX8_wordOf 3 = .ok (.lshr, 1) := by decide +kernel
theorem dX8_wordOf_4 : decode cX8_wordOf 4 = .ok (.l2i, 1) := by decide +kernel
theorem dX8_wordOf_5 : decode cX8_wordOf 5 = .ok (.ireturn, 1) := by decide +kernel
noncomputable def f_X8_wordOf (x1 : Int64) (s : t_S) : Int32 :=
 ((x1 >>> ((12 : Int32).toInt64 &&& 63)).toInt32)
set_option maxRecDepth 4000 in
set_option maxHeartbeats 1000000 in
theorem C_X8_wordOf (x1 : Int64) (s : t_S) : t_C yX8_wordOf cX8_wordOf 2 (some .int) 0 [.long x1] s (fun v s' => v = some (.int (f_X8_wordOf x1 s)) ∧ s' = s) := by
  refine t_C.imp (P := fun v s' => s' = s ∧ ∃ x, v = some (.int x) ∧ (fun r => r = f_X8_wordOf x1 s) (x)) (t_C.of (by decide +kernel) (Nat.le_of_ble_eq_true rfl) ?_) (fun v s' hp => by obtain ⟨rfl, x, rfl, rfl⟩ := hp; exact ⟨rfl, rfl⟩)
  intro D cy ad bs X
  have hk : t_ht (f_X8_wordOf x1 s) (fun r => r = f_X8_wordOf x1 s) := rfl
  show mj_G D cy ad bs X cX8_wordOf 2 yX8_wordOf.cls (some .int) yX8_wordOf.name 0 0 0 1065 (t_P (fun v s' => s' = s ∧ ∃ x, v = some (.int x) ∧ (fun r => r = f_X8_wordOf x1 s) (x))) 0 [(0, .long x1)] [] (t_m s) 1065 0 0
  refine mj_lload_n dX8_wordOf_0 0 rfl ?_
  refine mj_bipush (v := 12) dX8_wordOf_1 (by decide) ?_
  refine mj_lshr dX8_wordOf_3 rfl ?_
  refine mj_l2i (v := (x1 >>> ((12 : Int32).toInt64 &&& 63)).toInt32) dX8_wordOf_4 rfl ?_
  exact t_iret dX8_wordOf_5 rfl rfl ⟨rfl, _, rfl, hk⟩ (Nat.le_of_ble_eq_true rfl) (Nat.le_of_ble_eq_true rfl)

theorem dX0_putField_0 : decode cX0_putField 0 = .ok (.aload_n 0, 1) := by decide +kernel
theorem dX0_putField_1 : decode cX0_putField 1 = .ok (.getfield 29, 3) := by decide +kernel
theorem dX0_putField_101 : decode cX0_putField 101 = .ok (.laload, 1) := by decide +kernel
theorem dX0_putField_102 : decode cX0_putField 102 = .ok (.invokestatic 186, 3) := by decide +kernel
theorem dX0_putField_105 : decode cX0_putField 105 = .ok (.iload_n 1, 1) := by decide +kernel
theorem dX0_putField_106 : decode cX0_putField 106 = .ok (.if_icmp .ge 28, 3) := by decide +kernel
theorem dX0_putField_109 : decode cX0_putField 109 = .ok (.iload 6, 2) := by decide +kernel
theorem dX0_putField_11 : decode cX0_putField 11 = .ok (.iload 4, 2) := by decide +kernel
theorem dX0_putField_111 : decode cX0_putField 111 = .ok (.iconst 1, 1) := by decide +kernel
theorem dX0_putField_112 : decode cX0_putField 112 = .ok (.aload_n 0, 1) := by decide +kernel
theorem dX0_putField_113 : decode cX0_putField 113 = .ok (.getfield 29, 3) := by decide +kernel
theorem dX0_putField_116 : decode cX0_putField 116 = .ok (.iload 6, 2) := by decide +kernel
theorem dX0_putField_118 : decode cX0_putField 118 = .ok (.iconst 1, 1) := by decide +kernel
theorem dX0_putField_119 : decode cX0_putField 119 = .ok (.iadd, 1) := by decide +kernel
theorem dX0_putField_120 : decode cX0_putField 120 = .ok (.laload, 1) := by decide +kernel
theorem dX0_putField_121 : decode cX0_putField 121 = .ok (.invokestatic 150, 3) := by decide +kernel
theorem dX0_putField_124 : decode cX0_putField 124 = .ok (.iadd, 1) := by decide +kernel
theorem dX0_putField_125 : decode cX0_putField 125 = .ok (.iadd, 1) := by decide +kernel
theorem dX0_putField_126 : decode cX0_putField 126 = .ok (.istore 6, 2) := by decide +kernel
theorem dX0_putField_128 : decode cX0_putField 128 = .ok (.iinc 7 1, 3) := by decide +kernel
theorem dX0_putField_13 : decode cX0_putField 13 = .ok (.ifCond .lt 51, 3) := by decide +kernel
theorem dX0_putField_131 : decode cX0_putField 131 = .ok (.goto (-43), 3) := by decide +kernel
theorem dX0_putField_134 : decode cX0_putField 134 = .ok (.aload_n 0, 1) := by decide +kernel
theorem dX0_putField_135 : decode cX0_putField 135 = .ok (.iload_n 2, 1) := by decide +kernel
theorem dX0_putField_136 : decode cX0_putField 136 = .ok (.iload 6, 2) := by decide +kernel
theorem dX0_putField_138 : decode cX0_putField 138 = .ok (.iload 6, 2) := by decide +kernel
theorem dX0_putField_140 : decode cX0_putField 140 = .ok (.iconst 1, 1) := by decide +kernel
theorem dX0_putField_141 : decode cX0_putField 141 = .ok (.iload_n 1, 1) := by decide +kernel
theorem dX0_putField_142 : decode cX0_putField 142 = .ok (.invokevirtual 292, 3) := by decide +kernel
theorem dX0_putField_145 : decode cX0_putField 145 = .ok (.return_, 1) := by decide +kernel
theorem dX0_putField_16 : decode cX0_putField 16 = .ok (.iload 4, 2) := by decide +kernel
theorem dX0_putField_18 : decode cX0_putField 18 = .ok (.aload_n 0, 1) := by decide +kernel
theorem dX0_putField_19 : decode cX0_putField 19 = .ok (.getfield 29, 3) := by decide +kernel
theorem dX0_putField_22 : decode cX0_putField 22 = .ok (.iload 4, 2) := by decide +kernel
theorem dX0_putField_24 : decode cX0_putField 24 = .ok (.laload, 1) := by decide +kernel
theorem dX0_putField_25 : decode cX0_putField 25 = .ok (.invokestatic 150, 3) := by decide +kernel
theorem dX0_putField_28 : decode cX0_putField 28 = .ok (.iadd, 1) := by decide +kernel
theorem dX0_putField_29 : decode cX0_putField 29 = .ok (.istore 5, 2) := by decide +kernel
theorem dX0_putField_31 : decode cX0_putField 31 = .ok (.iload_n 3, 1) := by decide +kernel
theorem dX0_putField_32 : decode cX0_putField 32 = .ok (.ifCond .eq 20, 3) := by decide +kernel
theorem dX0_putField_35 : decode cX0_putField 35 = .ok (.aload_n 0, 1) := by decide +kernel
theorem dX0_putField_36 : decode cX0_putField 36 = .ok (.iload_n 2, 1) := by decide +kernel
theorem dX0_putField_37 : decode cX0_putField 37 = .ok (.iload 4, 2) := by decide +kernel
theorem dX0_putField_39 : decode cX0_putField 39 = .ok (.iconst 1, 1) := by decide +kernel
theorem dX0_putField_4 : decode cX0_putField 4 = .ok (.iload_n 2, 1) := by decide +kernel
theorem dX0_putField_40 : decode cX0_putField 40 = .ok (.isub, 1) := by decide +kernel
theorem dX0_putField_41 : decode cX0_putField 41 = .ok (.iload 5, 2) := by decide +kernel
theorem dX0_putField_43 : decode cX0_putField 43 = .ok (.iconst (-1), 1) := by decide +kernel
theorem dX0_putField_44 : decode cX0_putField 44 = .ok (.bipush (-2), 2) := by decide +kernel
theorem dX0_putField_46 : decode cX0_putField 46 = .ok (.invokevirtual 292, 3) := by decide +kernel
theorem dX0_putField_49 : decode cX0_putField 49 = .ok (.goto 14, 3) := by decide +kernel
theorem dX0_putField_5 : decode cX0_putField 5 = .ok (.iload_n 1, 1) := by decide +kernel
theorem dX0_putField_52 : decode cX0_putField 52 = .ok (.aload_n 0, 1) := by decide +kernel
theorem dX0_putField_53 : decode cX0_putField 53 = .ok (.iload_n 2, 1) := by decide +kernel
theorem dX0_putField_54 : decode cX0_putField 54 = .ok (.iload 4, 2) := by decide +kernel
theorem dX0_putField_56 : decode cX0_putField 56 = .ok (.iload 5, 2) := by decide +kernel
theorem dX0_putField_58 : decode cX0_putField 58 = .ok (.iconst 0, 1) := by decide +kernel
theorem dX0_putField_59 : decode cX0_putField 59 = .ok (.iconst (-1), 1) := by decide +kernel
theorem dX0_putField_6 : decode cX0_putField 6 = .ok (.invokestatic 179, 3) := by decide +kernel
theorem dX0_putField_60 : decode cX0_putField 60 = .ok (.invokevirtual 292, 3) := by decide +kernel
theorem dX0_putField_63 : decode cX0_putField 63 = .ok (.return_, 1) := by decide +kernel
theorem dX0_putField_64 : decode cX0_putField 64 = .ok (.iload_n 3, 1) := by decide +kernel
theorem dX0_putField_65 : decode cX0_putField 65 = .ok (.ifCond .eq 4, 3) := by decide +kernel
theorem dX0_putField_68 : decode cX0_putField 68 = .ok (.return_, 1) := by decide +kernel
theorem dX0_putField_69 : decode cX0_putField 69 = .ok (.aload_n 0, 1) := by decide +kernel
theorem dX0_putField_70 : decode cX0_putField 70 = .ok (.getfield 29, 3) := by decide +kernel
theorem dX0_putField_73 : decode cX0_putField 73 = .ok (.iload_n 2, 1) := by decide +kernel
theorem dX0_putField_74 : decode cX0_putField 74 = .ok (.laload, 1) := by decide +kernel
theorem dX0_putField_75 : decode cX0_putField 75 = .ok (.invokestatic 217, 3) := by decide +kernel
theorem dX0_putField_78 : decode cX0_putField 78 = .ok (.istore 5, 2) := by decide +kernel
theorem dX0_putField_80 : decode cX0_putField 80 = .ok (.iload_n 2, 1) := by decide +kernel
theorem dX0_putField_81 : decode cX0_putField 81 = .ok (.iconst 1, 1) := by decide +kernel
theorem dX0_putField_82 : decode cX0_putField 82 = .ok (.iadd, 1) := by decide +kernel
theorem dX0_putField_83 : decode cX0_putField 83 = .ok (.istore 6, 2) := by decide +kernel
theorem dX0_putField_85 : decode cX0_putField 85 = .ok (.iconst 0, 1) := by decide +kernel
theorem dX0_putField_86 : decode cX0_putField 86 = .ok (.istore 7, 2) := by decide +kernel
theorem dX0_putField_88 : decode cX0_putField 88 = .ok (.iload 7, 2) := by decide +kernel
theorem dX0_putField_9 : decode cX0_putField 9 = .ok (.istore 4, 2) := by decide +kernel
theorem dX0_putField_90 : decode cX0_putField 90 = .ok (.iload 5, 2) := by decide +kernel
theorem dX0_putField_92 : decode cX0_putField 92 = .ok (.if_icmp .ge 42, 3) := by decide +kernel
theorem dX0_putField_95 : decode cX0_putField 95 = .ok (.aload_n 0, 1) := by decide +kernel
theorem dX0_putField_96 : decode cX0_putField 96 = .ok (.getfield 29, 3) := by decide +kernel
theorem dX0_putField_99 : decode cX0_putField 99 = .ok (.iload 6, 2) := by decide +kernel
noncomputable def k_X0_putField_134 (l1 : Int32) (l2 : Int32) (l6 : Int32) (s : t_S) : Option (t_S) :=
 (f_X0_splice l2 l6 l6 (1 : Int32) l1 s).bind (fun r1 =>
 some (r1))
set_option maxRecDepth 4000 in
set_option maxHeartbeats 1000000 in
theorem B_X0_putField_134 {D : va_G} {cy : Nat → ClassId} {ad : Nat → Nat} {bs : Nat} {X : State → Heap → Prop} (l1 : Int32) (l2 : Int32) (l6 : Int32) (s : t_S) (Q : t_S → Prop) (hk : t_hk (k_X0_putField_134 l1 l2 l6 s) Q) : mj_G D cy ad bs X cX0_putField 8 yX0_putField.cls none yX0_putField.name 2 0 0 1065 (t_P (fun v s' => v = none ∧ Q (s'))) 134 [(0, .ref 334), (1, .int l1), (2, .int l2), (6, .int l6)] [] (t_m s) 1065 0 0 := by
  refine mj_aload_n dX0_putField_134 0 rfl ?_
  refine mj_iload_n dX0_putField_135 2 rfl ?_
  refine mj_iload dX0_putField_136 3 rfl ?_
  refine mj_iload dX0_putField_138 3 rfl ?_
  refine mj_iconst (v := 1) dX0_putField_140 (by decide) ?_
  refine mj_iload_n dX0_putField_141 1 rfl ?_
  refine t_bndK hk (fun r1 er1 hk => ?_)
  refine t_callVvE dX0_putField_142 M_X0_splice (C_X0_splice _ _ _ _ _ _ _ er1) ML_X0_292 IM_X0_splice SE_X0_splice qc_334 rfl (As := [.int l2, .int l6, .int l6, .int 1, .int l1]) rfl rfl (Nat.le_of_ble_eq_true rfl) (Nat.le_of_ble_eq_true rfl) (Nat.le_of_ble_eq_true rfl) (Nat.le_of_ble_eq_true rfl) ?_
  exact t_somK hk (fun hf => t_vret dX0_putField_145 rfl ⟨rfl, hf⟩ (Nat.le_of_ble_eq_true rfl) (Nat.le_of_ble_eq_true rfl))
noncomputable def k_X0_putField_88 (l1 : Int32) (l2 : Int32) (l5 : Int32) (l6 : Int32) (l7 : Int32) (s : t_S) : Option ((Int32 × Int32 × Int32 × Int32 × Int32 × t_S) ⊕ (t_S)) :=
 if l5 ≤ l7 then ((k_X0_putField_134 l1 l2 l6 s).map Sum.inr)
 else (if t_ix l6 240 = true then
  if l1 ≤ (f_X8_wordOf (s.2.1 340 (l6.toNatClampNeg)) s) then ((k_X0_putField_134 l1 l2 l6 s).map Sum.inr)
 else (if t_ix (l6 + (1 : Int32)) 240 = true then
  some (.inl (l1, l2, l5, (l6 + ((1 : Int32) + (f_X8_size (s.2.1 340 ((l6 + (1 : Int32)).toNatClampNeg)) s))), (l7 + 1), s))
else none)
else none)
set_option maxRecDepth 4000 in
set_option maxHeartbeats 1000000 in
theorem B_X0_putField_88 {D : va_G} {cy : Nat → ClassId} {ad : Nat → Nat} {bs : Nat} {X : State → Heap → Prop} (l1 : Int32) (l2 : Int32) (l5 : Int32) (l6 : Int32) (l7 : Int32) (s : t_S) (Q : (Int32 × Int32 × Int32 × Int32 × Int32 × t_S) ⊕ (t_S) → Prop) (Hb88 : ∀ (y0 : Int32) (y1 : Int32) (y2 : Int32) (y3 : Int32) (y4 : Int32) (y5 : t_S), Q (.inl (y0, y1, y2, y3, y4, y5)) → mj_G D cy ad bs X cX0_putField 8 yX0_putField.cls none yX0_putField.name 2 0 0 1065 (t_P (fun v s' => v = none ∧ Q (.inr (s')))) 88 [(0, .ref 334), (1, .int (y0)), (2, .int (y1)), (5, .int (y2)), (6, .int (y3)), (7, .int (y4))] [] (t_m y5) 1065 0 0) (hk : t_hk (k_X0_putField_88 l1 l2 l5 l6 l7 s) Q) : mj_G D cy ad bs X cX0_putField 8 yX0_putField.cls none yX0_putField.name 2 0 0 1065 (t_P (fun v s' => v = none ∧ Q (.inr (s')))) 88 [(0, .ref 334), (1, .int l1), (2, .int l2), (5, .int l5), (6, .int l6), (7, .int l7)] [] (t_m s) 1065 0 0 := by
  refine mj_iload dX0_putField_88 5 rfl ?_
  refine mj_iload dX0_putField_90 3 rfl ?_
  refine mj_icmp_ge 134 dX0_putField_92 (by decide) (fun z => t_posK hk z (fun hk => ?_)) (fun z => t_negK hk z (fun hk => ?_))
  · refine mj_sublv [(0, .ref 334), (1, .int l1), (2, .int l2), (6, .int l6)] [0, 1, 2, 4] rfl ?_
    refine t_mapK hk (fun hk => ?_)
    exact B_X0_putField_134 _ _ _ _ _ hk
  · refine mj_aload_n dX0_putField_95 0 rfl ?_
    refine t_getR 340 dX0_putField_96 F_X0_29 qr_334_8 ?_
    refine mj_iload dX0_putField_99 4 rfl ?_
    refine t_chkK hk (fun c0 hk => ?_)
    refine t_lald dX0_putField_101 qa_340 (t_ixv c0) ?_
    refine t_callSiP dX0_putField_102 M_X8_wordOf (C_X8_wordOf _ _) ML_X0_186 SM_X8_wordOf (As := [.long (s.2.1 340 (l6.toNatClampNeg))]) rfl rfl (Nat.le_of_ble_eq_true rfl) (Nat.le_of_ble_eq_true rfl) (Nat.le_of_ble_eq_true rfl) (Nat.le_of_ble_eq_true rfl) ?_
    refine mj_iload_n dX0_putField_105 1 rfl ?_
    refine mj_icmp_ge 134 dX0_putField_106 (by decide) (fun z => t_posK hk z (fun hk => ?_)) (fun z => t_negK hk z (fun hk => ?_))
    · refine mj_sublv [(0, .ref 334), (1, .int l1), (2, .int l2), (6, .int l6)] [0, 1, 2, 4] rfl ?_
      refine t_mapK hk (fun hk => ?_)
      exact B_X0_putField_134 _ _ _ _ _ hk
    · refine mj_iload dX0_putField_109 4 rfl ?_
      refine mj_iconst (v := 1) dX0_putField_111 (by decide) ?_
      refine mj_aload_n dX0_putField_112 0 rfl ?_
      refine t_getR 340 dX0_putField_113 F_X0_29 qr_334_8 ?_
      refine mj_iload dX0_putField_116 4 rfl ?_
      refine mj_iconst (v := 1) dX0_putField_118 (by decide) ?_
      refine mj_iadd dX0_putField_119 ?_
      refine t_chkK hk (fun c2 hk => ?_)
      refine t_lald dX0_putField_120 qa_340 (t_ixv c2) ?_
      refine t_callSiP dX0_putField_121 M_X8_size (C_X8_size _ _) ML_X0_150 SM_X8_size (As := [.long (s.2.1 340 ((l6 + (1 : Int32)).toNatClampNeg))]) rfl rfl (Nat.le_of_ble_eq_true rfl) (Nat.le_of_ble_eq_true rfl) (Nat.le_of_ble_eq_true rfl) (Nat.le_of_ble_eq_true rfl) ?_
      refine mj_iadd dX0_putField_124 ?_
      refine mj_iadd dX0_putField_125 ?_
      refine mj_istore (lv2 := [(6, .int (l6 + ((1 : Int32) + (f_X8_size (s.2.1 340 ((l6 + (1 : Int32)).toNatClampNeg)) s)))), (0, .ref 334), (1, .int l1), (2, .int l2), (5, .int l5), (7, .int l7)]) dX0_putField_126 (by decide) rfl ?_
      refine mj_iinc (k := 5) (v := (l7 + 1)) (lv2 := [(7, .int (l7 + 1)), (6, .int (l6 + ((1 : Int32) + (f_X8_size (s.2.1 340 ((l6 + (1 : Int32)).toNatClampNeg)) s)))), (0, .ref 334), (1, .int l1), (2, .int l2), (5, .int l5)]) dX0_putField_128 rfl rfl (by decide) rfl ?_
      refine mj_goto 88 dX0_putField_131 (by decide) ?_
      refine mj_sublv [(0, .ref 334), (1, .int l1), (2, .int l2), (5, .int l5), (6, .int (l6 + ((1 : Int32) + (f_X8_size (s.2.1 340 ((l6 + (1 : Int32)).toNatClampNeg)) s)))), (7, .int (l7 + 1))] [2, 3, 4, 5, 1, 0] rfl ?_
      exact t_somK hk (fun hf => Hb88 l1 l2 l5 (l6 + ((1 : Int32) + (f_X8_size (s.2.1 340 ((l6 + (1 : Int32)).toNatClampNeg)) s))) (l7 + 1) s hf)
noncomputable def b_X0_putField_88 (x : Int32 × Int32 × Int32 × Int32 × Int32 × t_S) : Option ((Int32 × Int32 × Int32 × Int32 × Int32 × t_S) ⊕ (t_S)) := k_X0_putField_88 x.1 x.2.1 x.2.2.1 x.2.2.2.1 x.2.2.2.2.1 x.2.2.2.2.2
set_option maxRecDepth 4000 in
set_option maxHeartbeats 1000000 in
theorem LH_X0_putField_88 {D : va_G} {cy : Nat → ClassId} {ad : Nat → Nat} {bs : Nat} {X : State → Heap → Prop} : ∀ (n : Nat) (y0 : Int32) (y1 : Int32) (y2 : Int32) (y3 : Int32) (y4 : Int32) (y5 : t_S) (Q : t_S → Prop) (hk : t_hk (t_loop (b_X0_putField_88) n (y0, y1, y2, y3, y4, y5)) Q), mj_G D cy ad bs X cX0_putField 8 yX0_putField.cls none yX0_putField.name 2 0 0 1065 (t_P (fun v s' => v = none ∧ Q (s'))) 88 [(0, .ref 334), (1, .int (y0)), (2, .int (y1)), (5, .int (y2)), (6, .int (y3)), (7, .int (y4))] [] (t_m y5) 1065 0 0 := by
  intro n
  induction n with
  | zero => intro y0 y1 y2 y3 y4 y5 Q hk; obtain ⟨r, hr, _⟩ := hk; cases hr
  | succ n ih =>
    intro y0 y1 y2 y3 y4 y5 Q hk
    exact B_X0_putField_88 y0 y1 y2 y3 y4 y5 (fun y => t_lq (b_X0_putField_88) n Q y) (fun y0' y1' y2' y3' y4' y5' hy => ih y0' y1' y2' y3' y4' y5' Q hy) (t_lp hk)
noncomputable def f_X0_putField (x1 : Int32) (x2 : Int32) (x3 : Int32) (s : t_S) : Option (t_S) :=
 (f_X8_fieldAt 340 x2 x1 s).bind (fun r1 =>
 if r1 < (0 : Int32) then (if x3 = (0 : Int32) then (if t_ix x2 240 = true then
  t_loop (b_X0_putField_88) t_N (x1, x2, (f_X8_partsOf (s.2.1 340 (x2.toNatClampNeg)) s), (x2 + (1 : Int32)), 0, s)
else none)
 else (some (s)))
 else (if t_ix r1 240 = true then
  if x3 = (0 : Int32) then ((f_X0_splice x2 r1 (r1 + (f_X8_size (s.2.1 340 (r1.toNatClampNeg)) s)) (0 : Int32) (-1 : Int32) s).bind (fun r6 =>
 some (r6)))
 else ((f_X0_splice x2 (r1 - (1 : Int32)) (r1 + (f_X8_size (s.2.1 340 (r1.toNatClampNeg)) s)) (-1 : Int32) (-2 : Int32) s).bind (fun r7 =>
 some (r7)))
else none))
set_option maxRecDepth 4000 in
set_option maxHeartbeats 1000000 in
theorem C_X0_putField (x1 : Int32) (x2 : Int32) (x3 : Int32) (s : t_S) (r : t_S) (hr : f_X0_putField x1 x2 x3 s = some r) : t_C yX0_putField cX0_putField 8 none 2 [.ref 334, .int x1, .int x2, .int x3] s (fun v s' => v = none ∧ s' = r) := by
  refine t_C.imp (P := fun v s' => v = none ∧ (fun q => q = r) (s')) (t_C.of (by decide +kernel) (Nat.le_of_ble_eq_true rfl) ?_) (fun v s' hp => hp)
  intro D cy ad bs X
  have hk : t_hk (f_X0_putField x1 x2 x3 s) (fun q => q = r) := ⟨r, hr, rfl⟩
  show mj_G D cy ad bs X cX0_putField 8 yX0_putField.cls none yX0_putField.name 2 0 0 1065 (t_P (fun v s' => v = none ∧ (fun q => q = r) (s'))) 0 [(0, .ref 334), (1, .int x1), (2, .int x2), (3, .int x3)] [] (t_m s) 1065 0 0
  refine mj_aload_n dX0_putField_0 0 rfl ?_
  refine t_getR 340 dX0_putField_1 F_X0_29 qr_334_8 ?_
  refine mj_iload_n dX0_putField_4 2 rfl ?_
  refine mj_iload_n dX0_putField_5 1 rfl ?_
  refine t_bndK hk (fun r1 er1 hk => ?_)
  refine t_callSiP dX0_putField_6 M_X8_fieldAt (C_X8_fieldAt _ _ _ _ _ er1) ML_X0_179 SM_X8_fieldAt (As := [.ref 340, .int x2, .int x1]) rfl rfl (Nat.le_of_ble_eq_true rfl) (Nat.le_of_ble_eq_true rfl) (Nat.le_of_ble_eq_true rfl) (Nat.le_of_ble_eq_true rfl) ?_
  refine mj_istore (lv2 := [(4, .int r1), (0, .ref 334), (1, .int x1), (2, .int x2), (3, .int x3)]) dX0_putField_9 (by decide) rfl ?_
  refine mj_iload dX0_putField_11 0 rfl ?_
  refine mj_if_lt 64 dX0_putField_13 (by decide) (fun z => t_posK hk z (fun hk => ?_)) (fun z => t_negK hk z (fun hk => ?_))
  · refine mj_iload_n dX0_putField_64 4 rfl ?_
    refine mj_if_eq 69 dX0_putField_65 (by decide) (fun z => t_posK hk z (fun hk => ?_)) (fun z => t_negK hk z (fun hk => ?_))
    · refine mj_aload_n dX0_putField_69 1 rfl ?_
      refine t_getR 340 dX0_putField_70 F_X0_29 qr_334_8 ?_
      refine mj_iload_n dX0_putField_73 3 rfl ?_
      refine t_chkK hk (fun c1 hk => ?_)
      refine t_lald dX0_putField_74 qa_340 (t_ixv c1) ?_
      refine t_callSiP dX0_putField_75 M_X8_partsOf (C_X8_partsOf _ _) ML_X0_217 SM_X8_partsOf (As := [.long (s.2.1 340 (x2.toNatClampNeg))]) rfl rfl (Nat.le_of_ble_eq_true rfl) (Nat.le_of_ble_eq_true rfl) (Nat.le_of_ble_eq_true rfl) (Nat.le_of_ble_eq_true rfl) ?_
      refine mj_istore (lv2 := [(5, .int (f_X8_partsOf (s.2.1 340 (x2.toNatClampNeg)) s)), (4, .int r1), (0, .ref 334), (1, .int x1), (2, .int x2), (3, .int x3)]) dX0_putField_78 (by decide) rfl ?_
      refine mj_iload_n dX0_putField_80 4 rfl ?_
      refine mj_iconst (v := 1) dX0_putField_81 (by decide) ?_
      refine mj_iadd dX0_putField_82 ?_
      refine mj_istore (lv2 := [(6, .int (x2 + (1 : Int32))), (5, .int (f_X8_partsOf (s.2.1 340 (x2.toNatClampNeg)) s)), (4, .int r1), (0, .ref 334), (1, .int x1), (2, .int x2), (3, .int x3)]) dX0_putField_83 (by decide) rfl ?_
      refine mj_iconst (v := 0) dX0_putField_85 (by decide) ?_
      refine mj_istore (lv2 := [(7, .int 0), (6, .int (x2 + (1 : Int32))), (5, .int (f_X8_partsOf (s.2.1 340 (x2.toNatClampNeg)) s)), (4, .int r1), (0, .ref 334), (1, .int x1), (2, .int x2), (3, .int x3)]) dX0_putField_86 (by decide) rfl ?_
      refine mj_sublv [(0, .ref 334), (1, .int x1), (2, .int x2), (5, .int (f_X8_partsOf (s.2.1 340 (x2.toNatClampNeg)) s)), (6, .int (x2 + (1 : Int32))), (7, .int 0)] [4, 5, 6, 2, 1, 0] rfl ?_
      exact LH_X0_putField_88 _ x1 x2 (f_X8_partsOf (s.2.1 340 (x2.toNatClampNeg)) s) (x2 + (1 : Int32)) 0 s _ hk
    · exact t_somK hk (fun hf => t_vret dX0_putField_68 rfl ⟨rfl, hf⟩ (Nat.le_of_ble_eq_true rfl) (Nat.le_of_ble_eq_true rfl))
  · refine mj_iload dX0_putField_16 0 rfl ?_
    refine mj_aload_n dX0_putField_18 1 rfl ?_
    refine t_getR 340 dX0_putField_19 F_X0_29 qr_334_8 ?_
    refine mj_iload dX0_putField_22 0 rfl ?_
    refine t_chkK hk (fun c3 hk => ?_)
    refine t_lald dX0_putField_24 qa_340 (t_ixv c3) ?_
    refine t_callSiP dX0_putField_25 M_X8_size (C_X8_size _ _) ML_X0_150 SM_X8_size (As := [.long (s.2.1 340 (r1.toNatClampNeg))]) rfl rfl (Nat.le_of_ble_eq_true rfl) (Nat.le_of_ble_eq_true rfl) (Nat.le_of_ble_eq_true rfl) (Nat.le_of_ble_eq_true rfl) ?_
    refine mj_iadd dX0_putField_28 ?_
    refine mj_istore (lv2 := [(5, .int (r1 + (f_X8_size (s.2.1 340 (r1.toNatClampNeg)) s))), (4, .int r1), (0, .ref 334), (1, .int x1), (2, .int x2), (3, .int x3)]) dX0_putField_29 (by decide) rfl ?_
    refine mj_iload_n dX0_putField_31 5 rfl ?_
    refine mj_if_eq 52 dX0_putField_32 (by decide) (fun z => t_posK hk z (fun hk => ?_)) (fun z => t_negK hk z (fun hk => ?_))
    · refine mj_aload_n dX0_putField_52 2 rfl ?_
      refine mj_iload_n dX0_putField_53 4 rfl ?_
      refine mj_iload dX0_putField_54 1 rfl ?_
      refine mj_iload dX0_putField_56 0 rfl ?_
      refine mj_iconst (v := 0) dX0_putField_58 (by decide) ?_
      refine mj_iconst (v := (-1)) dX0_putField_59 (by decide) ?_
      refine t_bndK hk (fun r6 er6 hk => ?_)
      refine t_callVvE dX0_putField_60 M_X0_splice (C_X0_splice _ _ _ _ _ _ _ er6) ML_X0_292 IM_X0_splice SE_X0_splice qc_334 rfl (As := [.int x2, .int r1, .int (r1 + (f_X8_size (s.2.1 340 (r1.toNatClampNeg)) s)), .int 0, .int (-1)]) rfl rfl (Nat.le_of_ble_eq_true rfl) (Nat.le_of_ble_eq_true rfl) (Nat.le_of_ble_eq_true rfl) (Nat.le_of_ble_eq_true rfl) ?_
      exact t_somK hk (fun hf => t_vret dX0_putField_63 rfl ⟨rfl, hf⟩ (Nat.le_of_ble_eq_true rfl) (Nat.le_of_ble_eq_true rfl))
    · refine mj_aload_n dX0_putField_35 2 rfl ?_
      refine mj_iload_n dX0_putField_36 4 rfl ?_
      refine mj_iload dX0_putField_37 1 rfl ?_
      refine mj_iconst (v := 1) dX0_putField_39 (by decide) ?_
      refine mj_isub dX0_putField_40 ?_
      refine mj_iload dX0_putField_41 0 rfl ?_
      refine mj_iconst (v := (-1)) dX0_putField_43 (by decide) ?_
      refine mj_bipush (v := (-2)) dX0_putField_44 (by decide) ?_
      refine t_bndK hk (fun r7 er7 hk => ?_)
      refine t_callVvE dX0_putField_46 M_X0_splice (C_X0_splice _ _ _ _ _ _ _ er7) ML_X0_292 IM_X0_splice SE_X0_splice qc_334 rfl (As := [.int x2, .int (r1 - (1 : Int32)), .int (r1 + (f_X8_size (s.2.1 340 (r1.toNatClampNeg)) s)), .int (-1), .int (-2)]) rfl rfl (Nat.le_of_ble_eq_true rfl) (Nat.le_of_ble_eq_true rfl) (Nat.le_of_ble_eq_true rfl) (Nat.le_of_ble_eq_true rfl) ?_
      refine mj_goto 63 dX0_putField_49 (by decide) ?_
      exact t_somK hk (fun hf => t_vret dX0_putField_63 rfl ⟨rfl, hf⟩ (Nat.le_of_ble_eq_true rfl) (Nat.le_of_ble_eq_true rfl))

theorem dX0_topAt_0 : decode cX0_topAt 0 = .ok (.aload_n 0, 1) := by decide +kernel
theorem dX0_topAt_1 : decode cX0_topAt 1 = .ok (.getfield 62, 3) := by decide +kernel
theorem dX0_topAt_11 : decode cX0_topAt 11 = .ok (.aload_n 0, 1) := by decide +kernel
theorem dX0_topAt_12 : decode cX0_topAt 12 = .ok (.getfield 62, 3) := by decide +kernel
theorem dX0_topAt_15 : decode cX0_topAt 15 = .ok (.iconst 1, 1) := by decide +kernel
theorem dX0_topAt_16 : decode cX0_topAt 16 = .ok (.isub, 1) := by decide +kernel
theorem dX0_topAt_17 : decode cX0_topAt 17 = .ok (.iaload, 1) := by decide +kernel
theorem dX0_topAt_18 : decode cX0_topAt 18 = .ok (.goto 4, 3) := by decide +kernel
theorem dX0_topAt_21 : decode cX0_topAt 21 = .ok (.iconst 0, 1) := by decide +kernel
theorem dX0_topAt_22 : decode cX0_topAt 22 = .ok (.ireturn, 1) := by decide +kernel
theorem dX0_topAt_4 : decode cX0_topAt 4 = .ok (.ifCond .le 17, 3) := by decide +kernel
theorem dX0_topAt_7 : decode cX0_topAt 7 = .ok (.aload_n 0, 1) := by decide +kernel
theorem dX0_topAt_8 : decode cX0_topAt 8 = .ok (.getfield 24, 3) := by decide +kernel
noncomputable def f_X0_topAt (s : t_S) : Option (Int32) :=
 if (s.1 334 7) ≤ (0 : Int32) then (some (0 : Int32))
 else (if t_ix ((s.1 334 7) - (1 : Int32)) 3201 = true then
  some (s.1 339 (((s.1 334 7) - (1 : Int32)).toNatClampNeg))
else none)
set_option maxRecDepth 4000 in
set_option maxHeartbeats 1000000 in
theorem C_X0_topAt (s : t_S) (r : Int32) (hr : f_X0_topAt s = some r) : t_C yX0_topAt cX0_topAt 1 (some .int) 0 [.ref 334] s (fun v s' => v = some (.int r) ∧ s' = s) := by
  refine t_C.imp (P := fun v s' => s' = s ∧ ∃ x, v = some (.int x) ∧ (fun q => q = r) (x)) (t_C.of (by decide +kernel) (Nat.le_of_ble_eq_true rfl) ?_) (fun v s' hp => by obtain ⟨rfl, x, rfl, rfl⟩ := hp; exact ⟨rfl, rfl⟩)
  intro D cy ad bs X
  have hk : t_hk (f_X0_topAt s) (fun q => q = r) := ⟨r, hr, rfl⟩
  show mj_G D cy ad bs X cX0_topAt 1 yX0_topAt.cls (some .int) yX0_topAt.name 0 0 0 1065 (t_P (fun v s' => s' = s ∧ ∃ x, v = some (.int x) ∧ (fun q => q = r) (x))) 0 [(0, .ref 334)] [] (t_m s) 1065 0 0
  refine mj_aload_n dX0_topAt_0 0 rfl ?_
  refine t_getI dX0_topAt_1 F_X0_62 qf_334_7 ?_
  refine mj_if_le 21 dX0_topAt_4 (by decide) (fun z => t_posK hk z (fun hk => ?_)) (fun z => t_negK hk z (fun hk => ?_))
  · refine mj_iconst (v := 0) dX0_topAt_21 (by decide) ?_
    exact t_somK hk (fun hf => t_iret dX0_topAt_22 rfl rfl ⟨rfl, _, rfl, hf⟩ (Nat.le_of_ble_eq_true rfl) (Nat.le_of_ble_eq_true rfl))
  · refine mj_aload_n dX0_topAt_7 0 rfl ?_
    refine t_getR 339 dX0_topAt_8 F_X0_24 qr_334_6 ?_
    refine mj_aload_n dX0_topAt_11 0 rfl ?_
    refine t_getI dX0_topAt_12 F_X0_62 qf_334_7 ?_
    refine mj_iconst (v := 1) dX0_topAt_15 (by decide) ?_
    refine mj_isub dX0_topAt_16 ?_
    refine t_chkK hk (fun c0 hk => ?_)
    refine t_iald dX0_topAt_17 qa_339 (t_ixv c0) ?_
    refine mj_goto 22 dX0_topAt_18 (by decide) ?_
    exact t_somK hk (fun hf => t_iret dX0_topAt_22 rfl rfl ⟨rfl, _, rfl, hf⟩ (Nat.le_of_ble_eq_true rfl) (Nat.le_of_ble_eq_true rfl))

theorem dX0_top_0 : decode cX0_top 0 = .ok (.aload_n 0, 1) := by decide +kernel
theorem dX0_top_1 : decode cX0_top 1 = .ok (.getfield 21, 3) := by decide +kernel
theorem dX0_top_4 : decode cX0_top 4 = .ok (.aload_n 0, 1) := by decide +kernel
theorem dX0_top_5 : decode cX0_top 5 = .ok (.invokevirtual 65, 3) := by decide +kernel
theorem dX0_top_8 : decode cX0_top 8 = .ok (.laload, 1) := by decide +kernel
theorem dX0_top_9 : decode cX0_top 9 = .ok (.lreturn, 1) := by decide +kernel
noncomputable def f_X0_top (s : t_S) : Option (Int64) :=
 (f_X0_topAt s).bind (fun r1 =>
 if t_ix r1 48000 = true then
  some (s.2.1 338 (r1.toNatClampNeg))
else none)
set_option maxRecDepth 4000 in
set_option maxHeartbeats 1000000 in
theorem C_X0_top (s : t_S) (r : Int64) (hr : f_X0_top s = some r) : t_C yX0_top cX0_top 1 (some .long) 1 [.ref 334] s (fun v s' => v = some (.long r) ∧ s' = s) := by
  refine t_C.imp (P := fun v s' => s' = s ∧ ∃ x, v = some (.long x) ∧ (fun q => q = r) (x)) (t_C.of (by decide +kernel) (Nat.le_of_ble_eq_true rfl) ?_) (fun v s' hp => by obtain ⟨rfl, x, rfl, rfl⟩ := hp; exact ⟨rfl, rfl⟩)
  intro D cy ad bs X
  have hk : t_hk (f_X0_top s) (fun q => q = r) := ⟨r, hr, rfl⟩
  show mj_G D cy ad bs X cX0_top 1 yX0_top.cls (some .long) yX0_top.name 1 0 0 1065 (t_P (fun v s' => s' = s ∧ ∃ x, v = some (.long x) ∧ (fun q => q = r) (x))) 0 [(0, .ref 334)] [] (t_m s) 1065 0 0
  refine mj_aload_n dX0_top_0 0 rfl ?_
  refine t_getR 338 dX0_top_1 F_X0_21 qr_334_5 ?_
  refine mj_aload_n dX0_top_4 0 rfl ?_
  refine t_bndK hk (fun r1 er1 hk => ?_)
  refine t_callViP dX0_top_5 M_X0_topAt (C_X0_topAt _ _ er1) ML_X0_65 IM_X0_topAt SE_X0_topAt qc_334 rfl (As := []) rfl rfl (Nat.le_of_ble_eq_true rfl) (Nat.le_of_ble_eq_true rfl) (Nat.le_of_ble_eq_true rfl) (Nat.le_of_ble_eq_true rfl) ?_
  refine t_chkK hk (fun c1 hk => ?_)
  refine t_lald dX0_top_8 qa_338 (t_ixv c1) ?_
  exact t_somK hk (fun hf => t_lret dX0_top_9 rfl ⟨rfl, _, rfl, hf⟩ (Nat.le_of_ble_eq_true rfl) (Nat.le_of_ble_eq_true rfl))

theorem dX8_cell_0 : decode cX8_cell 0 = .ok (.lload_n 2, 1) := by decide +kernel
theorem dX8_cell_1 : decode cX8_cell 1 = .ok (.bipush 12, 2) := by decide +kernel
theorem dX8_cell_10 : decode cX8_cell 10 = .ok (.i2l, 1) := by decide +kernel
theorem dX8_cell_11 : decode cX8_cell 11 = .ok (.lor, 1) := by decide +kernel
theorem dX8_cell_12 : decode cX8_cell 12 = .ok (.lreturn, 1) := by decide +kernel
theorem dX8_cell_3 : decode cX8_cell 3 = .ok (.lshl, 1) := by decide +kernel
theorem dX8_cell_4 : decode cX8_cell 4 = .ok (.iload_n 1, 1) := by decide +kernel
theorem dX8_cell_5 : decode cX8_cell 5 = .ok (.i2l, 1) := by decide +kernel
theorem dX8_cell_6 : decode cX8_cell 6 = .ok (.iconst 4, 1) := by decide +kernel
theorem dX8_cell_7 : decode cX8_cell 7 = .ok (.lshl, 1) := by decide +kernel
theorem dX8_cell_8 : decode cX8_cell 8 = .ok (.lor, 1) := by decide +kernel
theorem dX8_cell_9 : decode cX8_cell 9 = .ok (.iload_n 0, 1) := by decide +kernel
noncomputable def f_X8_cell (x1 : Int32) (x2 : Int32) (x3 : Int64) (s : t_S) : Int64 :=
 (((x3 <<< ((12 : Int32).toInt64 &&& 63)) ||| (x2.toInt64 <<< ((4 : Int32).toInt64 &&& 63))) ||| x1.toInt64)
set_option maxRecDepth 4000 in
set_option maxHeartbeats 1000000 in
theorem C_X8_cell (x1 : Int32) (x2 : Int32) (x3 : Int64) (s : t_S) : t_C yX8_cell cX8_cell 4 (some .long) 0 [.int x1, .int x2, .long x3] s (fun v s' => v = some (.long (f_X8_cell x1 x2 x3 s)) ∧ s' = s) := by
  refine t_C.imp (P := fun v s' => s' = s ∧ ∃ x, v = some (.long x) ∧ (fun r => r = f_X8_cell x1 x2 x3 s) (x)) (t_C.of (by decide +kernel) (Nat.le_of_ble_eq_true rfl) ?_) (fun v s' hp => by obtain ⟨rfl, x, rfl, rfl⟩ := hp; exact ⟨rfl, rfl⟩)
  intro D cy ad bs X
  have hk : t_ht (f_X8_cell x1 x2 x3 s) (fun r => r = f_X8_cell x1 x2 x3 s) := rfl
  show mj_G D cy ad bs X cX8_cell 4 yX8_cell.cls (some .long) yX8_cell.name 0 0 0 1065 (t_P (fun v s' => s' = s ∧ ∃ x, v = some (.long x) ∧ (fun r => r = f_X8_cell x1 x2 x3 s) (x))) 0 [(0, .int x1), (1, .int x2), (2, .long x3)] [] (t_m s) 1065 0 0
  refine mj_lload_n dX8_cell_0 2 rfl ?_
  refine mj_bipush (v := 12) dX8_cell_1 (by decide) ?_
  refine mj_lshl dX8_cell_3 rfl ?_
  refine mj_iload_n dX8_cell_4 1 rfl ?_
  refine mj_i2l (v := x2.toInt64) dX8_cell_5 rfl ?_
  refine mj_iconst (v := 4) dX8_cell_6 (by decide) ?_
  refine mj_lshl dX8_cell_7 rfl ?_
  refine mj_lor dX8_cell_8 ?_
  refine mj_iload_n dX8_cell_9 0 rfl ?_
  refine mj_i2l (v := x1.toInt64) dX8_cell_10 rfl ?_
  refine mj_lor dX8_cell_11 ?_
  exact t_lret dX8_cell_12 rfl ⟨rfl, _, rfl, hk⟩ (Nat.le_of_ble_eq_true rfl) (Nat.le_of_ble_eq_true rfl)

theorem dX8_kind_0 : decode cX8_kind 0 = .ok (.lload_n 0, 1) := by decide +kernel
theorem dX8_kind_1 : decode cX8_kind 1 = .ok (.l2i, 1) := by decide +kernel
theorem dX8_kind_2 : decode cX8_kind 2 = .ok (.bipush 15, 2) := by decide +kernel
theorem dX8_kind_4 : decode cX8_kind 4 = .ok (.iand, 1) := by decide +kernel
theorem dX8_kind_5 : decode cX8_kind 5 = .ok (.ireturn, 1) := by decide +kernel
noncomputable def f_X8_kind (x1 : Int64) (s : t_S) : Int32 :=
 (x1.toInt32 &&& (15 : Int32))
set_option maxRecDepth 4000 in
set_option maxHeartbeats 1000000 in
theorem C_X8_kind (x1 : Int64) (s : t_S) : t_C yX8_kind cX8_kind 2 (some .int) 0 [.long x1] s (fun v s' => v = some (.int (f_X8_kind x1 s)) ∧ s' = s) := by
  refine t_C.imp (P := fun v s' => s' = s ∧ ∃ x, v = some (.int x) ∧ (fun r => r = f_X8_kind x1 s) (x)) (t_C.of (by decide +kernel) (Nat.le_of_ble_eq_true rfl) ?_) (fun v s' hp => by obtain ⟨rfl, x, rfl, rfl⟩ := hp; exact ⟨rfl, rfl⟩)
  intro D cy ad bs X
  have hk : t_ht (f_X8_kind x1 s) (fun r => r = f_X8_kind x1 s) := rfl
  show mj_G D cy ad bs X cX8_kind 2 yX8_kind.cls (some .int) yX8_kind.name 0 0 0 1065 (t_P (fun v s' => s' = s ∧ ∃ x, v = some (.int x) ∧ (fun r => r = f_X8_kind x1 s) (x))) 0 [(0, .long x1)] [] (t_m s) 1065 0 0
  refine mj_lload_n dX8_kind_0 0 rfl ?_
  refine mj_l2i (v := x1.toInt32) dX8_kind_1 rfl ?_
  refine mj_bipush (v := 15) dX8_kind_2 (by decide) ?_
  refine mj_iand dX8_kind_4 ?_
  exact t_iret dX8_kind_5 rfl rfl ⟨rfl, _, rfl, hk⟩ (Nat.le_of_ble_eq_true rfl) (Nat.le_of_ble_eq_true rfl)

theorem dX0_putPart_0 : decode cX0_putPart 0 = .ok (.iload 4, 2) := by decide +kernel
theorem dX0_putPart_100 : decode cX0_putPart 100 = .ok (.invokestatic 150, 3) := by decide +kernel
theorem dX0_putPart_103 : decode cX0_putPart 103 = .ok (.iadd, 1) := by decide +kernel
theorem dX0_putPart_104 : decode cX0_putPart 104 = .ok (.iconst 0, 1) := by decide +kernel
theorem dX0_putPart_105 : decode cX0_putPart 105 = .ok (.iconst (-1), 1) := by decide +kernel
theorem dX0_putPart_106 : decode cX0_putPart 106 = .ok (.invokevirtual 292, 3) := by decide +kernel
theorem dX0_putPart_109 : decode cX0_putPart 109 = .ok (.aload_n 0, 1) := by decide +kernel
theorem dX0_putPart_11 : decode cX0_putPart 11 = .ok (.aload_n 0, 1) := by decide +kernel
theorem dX0_putPart_110 : decode cX0_putPart 110 = .ok (.getfield 71, 3) := by decide +kernel
theorem dX0_putPart_113 : decode cX0_putPart 113 = .ok (.ifCond .ne 64, 3) := by decide +kernel
theorem dX0_putPart_116 : decode cX0_putPart 116 = .ok (.aload_n 0, 1) := by decide +kernel
theorem dX0_putPart_117 : decode cX0_putPart 117 = .ok (.getfield 29, 3) := by decide +kernel
theorem dX0_putPart_12 : decode cX0_putPart 12 = .ok (.getfield 29, 3) := by decide +kernel
theorem dX0_putPart_120 : decode cX0_putPart 120 = .ok (.iload 4, 2) := by decide +kernel
theorem dX0_putPart_122 : decode cX0_putPart 122 = .ok (.bipush 7, 2) := by decide +kernel
theorem dX0_putPart_124 : decode cX0_putPart 124 = .ok (.aload_n 0, 1) := by decide +kernel
theorem dX0_putPart_125 : decode cX0_putPart 125 = .ok (.getfield 29, 3) := by decide +kernel
theorem dX0_putPart_128 : decode cX0_putPart 128 = .ok (.iload 4, 2) := by decide +kernel
theorem dX0_putPart_130 : decode cX0_putPart 130 = .ok (.laload, 1) := by decide +kernel
theorem dX0_putPart_131 : decode cX0_putPart 131 = .ok (.invokestatic 150, 3) := by decide +kernel
theorem dX0_putPart_134 : decode cX0_putPart 134 = .ok (.lload_n 2, 1) := by decide +kernel
theorem dX0_putPart_135 : decode cX0_putPart 135 = .ok (.l2i, 1) := by decide +kernel
theorem dX0_putPart_136 : decode cX0_putPart 136 = .ok (.i2l, 1) := by decide +kernel
theorem dX0_putPart_137 : decode cX0_putPart 137 = .ok (.invokestatic 189, 3) := by decide +kernel
theorem dX0_putPart_140 : decode cX0_putPart 140 = .ok (.lastore, 1) := by decide +kernel
theorem dX0_putPart_141 : decode cX0_putPart 141 = .ok (.goto 36, 3) := by decide +kernel
theorem dX0_putPart_144 : decode cX0_putPart 144 = .ok (.iload_n 1, 1) := by decide +kernel
theorem dX0_putPart_145 : decode cX0_putPart 145 = .ok (.bipush 38, 2) := by decide +kernel
theorem dX0_putPart_147 : decode cX0_putPart 147 = .ok (.if_icmp .ne 25, 3) := by decide +kernel
theorem dX0_putPart_15 : decode cX0_putPart 15 = .ok (.iload 4, 2) := by decide +kernel
theorem dX0_putPart_150 : decode cX0_putPart 150 = .ok (.iload 7, 2) := by decide +kernel
theorem dX0_putPart_152 : decode cX0_putPart 152 = .ok (.bipush 8, 2) := by decide +kernel
theorem dX0_putPart_154 : decode cX0_putPart 154 = .ok (.if_icmp .ne 18, 3) := by decide +kernel
theorem dX0_putPart_157 : decode cX0_putPart 157 = .ok (.iload 8, 2) := by decide +kernel
theorem dX0_putPart_159 : decode cX0_putPart 159 = .ok (.ifCond .ne 13, 3) := by decide +kernel
theorem dX0_putPart_162 : decode cX0_putPart 162 = .ok (.aload_n 0, 1) := by decide +kernel
theorem dX0_putPart_163 : decode cX0_putPart 163 = .ok (.lload_n 2, 1) := by decide +kernel
theorem dX0_putPart_164 : decode cX0_putPart 164 = .ok (.iload 4, 2) := by decide +kernel
theorem dX0_putPart_166 : decode cX0_putPart 166 = .ok (.invokevirtual 296, 3) := by decide +kernel
theorem dX0_putPart_169 : decode cX0_putPart 169 = .ok (.goto 8, 3) := by decide +kernel
theorem dX0_putPart_17 : decode cX0_putPart 17 = .ok (.laload, 1) := by decide +kernel
theorem dX0_putPart_172 : decode cX0_putPart 172 = .ok (.aload_n 0, 1) := by decide +kernel
theorem dX0_putPart_173 : decode cX0_putPart 173 = .ok (.iconst 1, 1) := by decide +kernel
theorem dX0_putPart_174 : decode cX0_putPart 174 = .ok (.putfield 71, 3) := by decide +kernel
theorem dX0_putPart_177 : decode cX0_putPart 177 = .ok (.aload_n 0, 1) := by decide +kernel
theorem dX0_putPart_178 : decode cX0_putPart 178 = .ok (.getfield 71, 3) := by decide +kernel
theorem dX0_putPart_18 : decode cX0_putPart 18 = .ok (.lstore 5, 2) := by decide +kernel
theorem dX0_putPart_181 : decode cX0_putPart 181 = .ok (.ifCond .eq 4, 3) := by decide +kernel
theorem dX0_putPart_184 : decode cX0_putPart 184 = .ok (.return_, 1) := by decide +kernel
theorem dX0_putPart_185 : decode cX0_putPart 185 = .ok (.aload_n 0, 1) := by decide +kernel
theorem dX0_putPart_186 : decode cX0_putPart 186 = .ok (.dup, 1) := by decide +kernel
theorem dX0_putPart_187 : decode cX0_putPart 187 = .ok (.getfield 62, 3) := by decide +kernel
theorem dX0_putPart_190 : decode cX0_putPart 190 = .ok (.iconst 1, 1) := by decide +kernel
theorem dX0_putPart_191 : decode cX0_putPart 191 = .ok (.isub, 1) := by decide +kernel
theorem dX0_putPart_192 : decode cX0_putPart 192 = .ok (.putfield 62, 3) := by decide +kernel
theorem dX0_putPart_195 : decode cX0_putPart 195 = .ok (.aload_n 0, 1) := by decide +kernel
theorem dX0_putPart_196 : decode cX0_putPart 196 = .ok (.aload_n 0, 1) := by decide +kernel
theorem dX0_putPart_197 : decode cX0_putPart 197 = .ok (.getfield 29, 3) := by decide +kernel
theorem dX0_putPart_2 : decode cX0_putPart 2 = .ok (.ifCond .ge 9, 3) := by decide +kernel
theorem dX0_putPart_20 : decode cX0_putPart 20 = .ok (.lload 5, 2) := by decide +kernel
theorem dX0_putPart_200 : decode cX0_putPart 200 = .ok (.iconst 0, 1) := by decide +kernel
theorem dX0_putPart_201 : decode cX0_putPart 201 = .ok (.invokevirtual 102, 3) := by decide +kernel
theorem dX0_putPart_204 : decode cX0_putPart 204 = .ok (.return_, 1) := by decide +kernel
theorem dX0_putPart_22 : decode cX0_putPart 22 = .ok (.invokestatic 160, 3) := by decide +kernel
theorem dX0_putPart_25 : decode cX0_putPart 25 = .ok (.istore 7, 2) := by decide +kernel
theorem dX0_putPart_27 : decode cX0_putPart 27 = .ok (.aload_n 0, 1) := by decide +kernel
theorem dX0_putPart_28 : decode cX0_putPart 28 = .ok (.invokevirtual 233, 3) := by decide +kernel
theorem dX0_putPart_31 : decode cX0_putPart 31 = .ok (.invokestatic 160, 3) := by decide +kernel
theorem dX0_putPart_34 : decode cX0_putPart 34 = .ok (.iconst 4, 1) := by decide +kernel
theorem dX0_putPart_35 : decode cX0_putPart 35 = .ok (.if_icmp .ne 7, 3) := by decide +kernel
theorem dX0_putPart_38 : decode cX0_putPart 38 = .ok (.iconst 1, 1) := by decide +kernel
theorem dX0_putPart_39 : decode cX0_putPart 39 = .ok (.goto 4, 3) := by decide +kernel
theorem dX0_putPart_42 : decode cX0_putPart 42 = .ok (.iconst 0, 1) := by decide +kernel
theorem dX0_putPart_43 : decode cX0_putPart 43 = .ok (.istore 8, 2) := by decide +kernel
theorem dX0_putPart_45 : decode cX0_putPart 45 = .ok (.iload_n 1, 1) := by decide +kernel
theorem dX0_putPart_46 : decode cX0_putPart 46 = .ok (.bipush 37, 2) := by decide +kernel
theorem dX0_putPart_48 : decode cX0_putPart 48 = .ok (.if_icmp .ne 23, 3) := by decide +kernel
theorem dX0_putPart_5 : decode cX0_putPart 5 = .ok (.ldc2_w 69, 3) := by decide +kernel
theorem dX0_putPart_51 : decode cX0_putPart 51 = .ok (.iload 7, 2) := by decide +kernel
theorem dX0_putPart_53 : decode cX0_putPart 53 = .ok (.bipush 6, 2) := by decide +kernel
theorem dX0_putPart_55 : decode cX0_putPart 55 = .ok (.if_icmp .ne 16, 3) := by decide +kernel
theorem dX0_putPart_58 : decode cX0_putPart 58 = .ok (.aload_n 0, 1) := by decide +kernel
theorem dX0_putPart_59 : decode cX0_putPart 59 = .ok (.lload_n 2, 1) := by decide +kernel
theorem dX0_putPart_60 : decode cX0_putPart 60 = .ok (.l2i, 1) := by decide +kernel
theorem dX0_putPart_61 : decode cX0_putPart 61 = .ok (.iload 4, 2) := by decide +kernel
theorem dX0_putPart_63 : decode cX0_putPart 63 = .ok (.iload 8, 2) := by decide +kernel
theorem dX0_putPart_65 : decode cX0_putPart 65 = .ok (.invokevirtual 288, 3) := by decide +kernel
theorem dX0_putPart_68 : decode cX0_putPart 68 = .ok (.goto 109, 3) := by decide +kernel
theorem dX0_putPart_71 : decode cX0_putPart 71 = .ok (.iload_n 1, 1) := by decide +kernel
theorem dX0_putPart_72 : decode cX0_putPart 72 = .ok (.bipush 37, 2) := by decide +kernel
theorem dX0_putPart_74 : decode cX0_putPart 74 = .ok (.if_icmp .ne 70, 3) := by decide +kernel
theorem dX0_putPart_77 : decode cX0_putPart 77 = .ok (.iload 7, 2) := by decide +kernel
theorem dX0_putPart_79 : decode cX0_putPart 79 = .ok (.bipush 7, 2) := by decide +kernel
theorem dX0_putPart_8 : decode cX0_putPart 8 = .ok (.goto 10, 3) := by decide +kernel
theorem dX0_putPart_81 : decode cX0_putPart 81 = .ok (.if_icmp .ne 63, 3) := by decide +kernel
theorem dX0_putPart_84 : decode cX0_putPart 84 = .ok (.iload 8, 2) := by decide +kernel
theorem dX0_putPart_86 : decode cX0_putPart 86 = .ok (.ifCond .ne 58, 3) := by decide +kernel
theorem dX0_putPart_89 : decode cX0_putPart 89 = .ok (.aload_n 0, 1) := by decide +kernel
theorem dX0_putPart_90 : decode cX0_putPart 90 = .ok (.iload 4, 2) := by decide +kernel
theorem dX0_putPart_92 : decode cX0_putPart 92 = .ok (.iload 4, 2) := by decide +kernel
theorem dX0_putPart_94 : decode cX0_putPart 94 = .ok (.iconst 1, 1) := by decide +kernel
theorem dX0_putPart_95 : decode cX0_putPart 95 = .ok (.iadd, 1) := by decide +kernel
theorem dX0_putPart_96 : decode cX0_putPart 96 = .ok (.iload 4, 2) := by decide +kernel
theorem dX0_putPart_98 : decode cX0_putPart 98 = .ok (.lload 5, 2) := by decide +kernel
noncomputable def k_X0_putPart_177 (s : t_S) : Option (t_S) :=
 if (s.1 334 12) = (0 : Int32) then (t_let (t_setI s 334 7 ((s.1 334 7) - (1 : Int32))) (fun s1 =>
 (f_X0_pushFrom 340 (0 : Int32) s1).bind (fun r1 =>
 some (r1))))
 else (some (s))
set_option maxRecDepth 4000 in
set_option maxHeartbeats 1000000 in
theorem B_X0_putPart_177 {D : va_G} {cy : Nat → ClassId} {ad : Nat → Nat} {bs : Nat} {X : State → Heap → Prop} (s : t_S) (Q : t_S → Prop) (hk : t_hk (k_X0_putPart_177 s) Q) : mj_G D cy ad bs X cX0_putPart 9 yX0_putPart.cls none yX0_putPart.name 3 0 0 1065 (t_P (fun v s' => v = none ∧ Q (s'))) 177 [(0, .ref 334)] [] (t_m s) 1065 0 0 := by
  refine mj_aload_n dX0_putPart_177 0 rfl ?_
  refine t_getI dX0_putPart_178 F_X0_71 qf_334_12 ?_
  refine mj_if_eq 185 dX0_putPart_181 (by decide) (fun z => t_posK hk z (fun hk => ?_)) (fun z => t_negK hk z (fun hk => ?_))
  · refine mj_aload_n dX0_putPart_185 0 rfl ?_
    refine mj_dup dX0_putPart_186 rfl ?_
    refine t_getI dX0_putPart_187 F_X0_62 qf_334_7 ?_
    refine mj_iconst (v := 1) dX0_putPart_190 (by decide) ?_
    refine mj_isub dX0_putPart_191 ?_
    refine t_putIK dX0_putPart_192 F_X0_62 qf_334_7 rfl (fun s1 ws1 => t_letE hk ws1 (fun hk => ?_))
    refine mj_aload_n dX0_putPart_195 0 rfl ?_
    refine mj_aload_n dX0_putPart_196 0 rfl ?_
    refine t_getR 340 dX0_putPart_197 F_X0_29 qr_334_8 ?_
    refine mj_iconst (v := 0) dX0_putPart_200 (by decide) ?_
    refine t_bndK hk (fun r1 er1 hk => ?_)
    refine t_callVvE dX0_putPart_201 M_X0_pushFrom (C_X0_pushFrom _ _ _ _ er1) ML_X0_102 IM_X0_pushFrom SE_X0_pushFrom qc_334 rfl (As := [.ref 340, .int 0]) rfl rfl (Nat.le_of_ble_eq_true rfl) (Nat.le_of_ble_eq_true rfl) (Nat.le_of_ble_eq_true rfl) (Nat.le_of_ble_eq_true rfl) ?_
    exact t_somK hk (fun hf => t_vret dX0_putPart_204 rfl ⟨rfl, hf⟩ (Nat.le_of_ble_eq_true rfl) (Nat.le_of_ble_eq_true rfl))
  · exact t_somK hk (fun hf => t_vret dX0_putPart_184 rfl ⟨rfl, hf⟩ (Nat.le_of_ble_eq_true rfl) (Nat.le_of_ble_eq_true rfl))
noncomputable def k_X0_putPart_172 (s : t_S) : Option (t_S) :=
 t_let (t_setI s 334 12 (1 : Int32)) (fun s1 =>
 k_X0_putPart_177 s1)
set_option maxRecDepth 4000 in
set_option maxHeartbeats 1000000 in
theorem B_X0_putPart_172 {D : va_G} {cy : Nat → ClassId} {ad : Nat → Nat} {bs : Nat} {X : State → Heap → Prop} (s : t_S) (Q : t_S → Prop) (hk : t_hk (k_X0_putPart_172 s) Q) : mj_G D cy ad bs X cX0_putPart 9 yX0_putPart.cls none yX0_putPart.name 3 0 0 1065 (t_P (fun v s' => v = none ∧ Q (s'))) 172 [(0, .ref 334)] [] (t_m s) 1065 0 0 := by
  refine mj_aload_n dX0_putPart_172 0 rfl ?_
  refine mj_iconst (v := 1) dX0_putPart_173 (by decide) ?_
  refine t_putIK dX0_putPart_174 F_X0_71 qf_334_12 rfl (fun s1 ws1 => t_letE hk ws1 (fun hk => ?_))
  exact B_X0_putPart_177 _ _ hk
noncomputable def k_X0_putPart_144 (l1 : Int32) (l2 : Int64) (l4 : Int32) (l7 : Int32) (l8 : Int32) (s : t_S) : Option (t_S) :=
 if l1 = (38 : Int32) then (if l7 = (8 : Int32) then (if l8 = (0 : Int32) then ((f_X0_putElement l2 l4 s).bind (fun r1 =>
 k_X0_putPart_177 r1))
 else (k_X0_putPart_172 s))
 else (k_X0_putPart_172 s))
 else (k_X0_putPart_172 s)
set_option maxRecDepth 4000 in
set_option maxHeartbeats 1000000 in
theorem B_X0_putPart_144 {D : va_G} {cy : Nat → ClassId} {ad : Nat → Nat} {bs : Nat} {X : State → Heap → Prop} (l1 : Int32) (l2 : Int64) (l4 : Int32) (l7 : Int32) (l8 : Int32) (s : t_S) (Q : t_S → Prop) (hk : t_hk (k_X0_putPart_144 l1 l2 l4 l7 l8 s) Q) : mj_G D cy ad bs X cX0_putPart 9 yX0_putPart.cls none yX0_putPart.name 3 0 0 1065 (t_P (fun v s' => v = none ∧ Q (s'))) 144 [(0, .ref 334), (1, .int l1), (2, .long l2), (4, .int l4), (7, .int l7), (8, .int l8)] [] (t_m s) 1065 0 0 := by
  refine mj_iload_n dX0_putPart_144 1 rfl ?_
  refine mj_bipush (v := 38) dX0_putPart_145 (by decide) ?_
  refine mj_icmp_ne 172 dX0_putPart_147 (by decide) (fun z => t_negK hk z (fun hk => ?_)) (fun z => t_posK hk z (fun hk => ?_))
  · refine mj_sublv [(0, .ref 334)] [0] rfl ?_
    exact B_X0_putPart_172 _ _ hk
  · refine mj_iload dX0_putPart_150 4 rfl ?_
    refine mj_bipush (v := 8) dX0_putPart_152 (by decide) ?_
    refine mj_icmp_ne 172 dX0_putPart_154 (by decide) (fun z => t_negK hk z (fun hk => ?_)) (fun z => t_posK hk z (fun hk => ?_))
    · refine mj_sublv [(0, .ref 334)] [0] rfl ?_
      exact B_X0_putPart_172 _ _ hk
    · refine mj_iload dX0_putPart_157 5 rfl ?_
      refine mj_if_ne 172 dX0_putPart_159 (by decide) (fun z => t_negK hk z (fun hk => ?_)) (fun z => t_posK hk z (fun hk => ?_))
      · refine mj_sublv [(0, .ref 334)] [0] rfl ?_
        exact B_X0_putPart_172 _ _ hk
      · refine mj_aload_n dX0_putPart_162 0 rfl ?_
        refine mj_lload_n dX0_putPart_163 2 rfl ?_
        refine mj_iload dX0_putPart_164 3 rfl ?_
        refine t_bndK hk (fun r1 er1 hk => ?_)
        refine t_callVvE dX0_putPart_166 M_X0_putElement (C_X0_putElement _ _ _ _ er1) ML_X0_296 IM_X0_putElement SE_X0_putElement qc_334 rfl (As := [.long l2, .int l4]) rfl rfl (Nat.le_of_ble_eq_true rfl) (Nat.le_of_ble_eq_true rfl) (Nat.le_of_ble_eq_true rfl) (Nat.le_of_ble_eq_true rfl) ?_
        refine mj_goto 177 dX0_putPart_169 (by decide) ?_
        refine mj_sublv [(0, .ref 334)] [0] rfl ?_
        exact B_X0_putPart_177 _ _ hk
noncomputable def k_X0_putPart_71 (l1 : Int32) (l2 : Int64) (l4 : Int32) (l5 : Int64) (l7 : Int32) (l8 : Int32) (s : t_S) : Option (t_S) :=
 if l1 = (37 : Int32) then (if l7 = (7 : Int32) then (if l8 = (0 : Int32) then ((f_X0_splice l4 (l4 + (1 : Int32)) (l4 + (f_X8_size l5 s)) (0 : Int32) (-1 : Int32) s).bind (fun r2 =>
 if (r2.1 334 12) = (0 : Int32) then (if t_ix l4 240 = true then
  t_let (t_setJ r2 340 (l4.toNatClampNeg) (f_X8_cell (7 : Int32) (f_X8_size (r2.2.1 340 (l4.toNatClampNeg)) r2) l2.toInt32.toInt64 r2)) (fun s1 =>
 k_X0_putPart_177 s1)
else none)
 else (k_X0_putPart_177 r2)))
 else (k_X0_putPart_144 l1 l2 l4 l7 l8 s))
 else (k_X0_putPart_144 l1 l2 l4 l7 l8 s))
 else (k_X0_putPart_144 l1 l2 l4 l7 l8 s)
set_option maxRecDepth 4000 in
set_option maxHeartbeats 1000000 in
theorem B_X0_putPart_71 {D : va_G} {cy : Nat → ClassId} {ad : Nat → Nat} {bs : Nat} {X : State → Heap → Prop} (l1 : Int32) (l2 : Int64) (l4 : Int32) (l5 : Int64) (l7 : Int32) (l8 : Int32) (s : t_S) (Q : t_S → Prop) (hk : t_hk (k_X0_putPart_71 l1 l2 l4 l5 l7 l8 s) Q) : mj_G D cy ad bs X cX0_putPart 9 yX0_putPart.cls none yX0_putPart.name 3 0 0 1065 (t_P (fun v s' => v = none ∧ Q (s'))) 71 [(0, .ref 334), (1, .int l1), (2, .long l2), (4, .int l4), (5, .long l5), (7, .int l7), (8, .int l8)] [] (t_m s) 1065 0 0 := by
  refine mj_iload_n dX0_putPart_71 1 rfl ?_
  refine mj_bipush (v := 37) dX0_putPart_72 (by decide) ?_
  refine mj_icmp_ne 144 dX0_putPart_74 (by decide) (fun z => t_negK hk z (fun hk => ?_)) (fun z => t_posK hk z (fun hk => ?_))
  · refine mj_sublv [(0, .ref 334), (1, .int l1), (2, .long l2), (4, .int l4), (7, .int l7), (8, .int l8)] [0, 1, 2, 3, 5, 6] rfl ?_
    exact B_X0_putPart_144 _ _ _ _ _ _ _ hk
  · refine mj_iload dX0_putPart_77 5 rfl ?_
    refine mj_bipush (v := 7) dX0_putPart_79 (by decide) ?_
    refine mj_icmp_ne 144 dX0_putPart_81 (by decide) (fun z => t_negK hk z (fun hk => ?_)) (fun z => t_posK hk z (fun hk => ?_))
    · refine mj_sublv [(0, .ref 334), (1, .int l1), (2, .long l2), (4, .int l4), (7, .int l7), (8, .int l8)] [0, 1, 2, 3, 5, 6] rfl ?_
      exact B_X0_putPart_144 _ _ _ _ _ _ _ hk
    · refine mj_iload dX0_putPart_84 6 rfl ?_
      refine mj_if_ne 144 dX0_putPart_86 (by decide) (fun z => t_negK hk z (fun hk => ?_)) (fun z => t_posK hk z (fun hk => ?_))
      · refine mj_sublv [(0, .ref 334), (1, .int l1), (2, .long l2), (4, .int l4), (7, .int l7), (8, .int l8)] [0, 1, 2, 3, 5, 6] rfl ?_
        exact B_X0_putPart_144 _ _ _ _ _ _ _ hk
      · refine mj_aload_n dX0_putPart_89 0 rfl ?_
        refine mj_iload dX0_putPart_90 3 rfl ?_
        refine mj_iload dX0_putPart_92 3 rfl ?_
        refine mj_iconst (v := 1) dX0_putPart_94 (by decide) ?_
        refine mj_iadd dX0_putPart_95 ?_
        refine mj_iload dX0_putPart_96 3 rfl ?_
        refine mj_lload dX0_putPart_98 4 rfl ?_
        refine t_callSiP dX0_putPart_100 M_X8_size (C_X8_size _ _) ML_X0_150 SM_X8_size (As := [.long l5]) rfl rfl (Nat.le_of_ble_eq_true rfl) (Nat.le_of_ble_eq_true rfl) (Nat.le_of_ble_eq_true rfl) (Nat.le_of_ble_eq_true rfl) ?_
        refine mj_iadd dX0_putPart_103 ?_
        refine mj_iconst (v := 0) dX0_putPart_104 (by decide) ?_
        refine mj_iconst (v := (-1)) dX0_putPart_105 (by decide) ?_
        refine t_bndK hk (fun r2 er2 hk => ?_)
        refine t_callVvE dX0_putPart_106 M_X0_splice (C_X0_splice _ _ _ _ _ _ _ er2) ML_X0_292 IM_X0_splice SE_X0_splice qc_334 rfl (As := [.int l4, .int (l4 + (1 : Int32)), .int (l4 + (f_X8_size l5 s)), .int 0, .int (-1)]) rfl rfl (Nat.le_of_ble_eq_true rfl) (Nat.le_of_ble_eq_true rfl) (Nat.le_of_ble_eq_true rfl) (Nat.le_of_ble_eq_true rfl) ?_
        refine mj_aload_n dX0_putPart_109 0 rfl ?_
        refine t_getI dX0_putPart_110 F_X0_71 qf_334_12 ?_
        refine mj_if_ne 177 dX0_putPart_113 (by decide) (fun z => t_negK hk z (fun hk => ?_)) (fun z => t_posK hk z (fun hk => ?_))
        · refine mj_sublv [(0, .ref 334)] [0] rfl ?_
          exact B_X0_putPart_177 _ _ hk
        · refine mj_aload_n dX0_putPart_116 0 rfl ?_
          refine t_getR 340 dX0_putPart_117 F_X0_29 qr_334_8 ?_
          refine mj_iload dX0_putPart_120 3 rfl ?_
          refine mj_bipush (v := 7) dX0_putPart_122 (by decide) ?_
          refine mj_aload_n dX0_putPart_124 0 rfl ?_
          refine t_getR 340 dX0_putPart_125 F_X0_29 qr_334_8 ?_
          refine mj_iload dX0_putPart_128 3 rfl ?_
          refine t_chkK hk (fun c2 hk => ?_)
          refine t_lald dX0_putPart_130 qa_340 (t_ixv c2) ?_
          refine t_callSiP dX0_putPart_131 M_X8_size (C_X8_size _ _) ML_X0_150 SM_X8_size (As := [.long (r2.2.1 340 (l4.toNatClampNeg))]) rfl rfl (Nat.le_of_ble_eq_true rfl) (Nat.le_of_ble_eq_true rfl) (Nat.le_of_ble_eq_true rfl) (Nat.le_of_ble_eq_true rfl) ?_
          refine mj_lload_n dX0_putPart_134 2 rfl ?_
          refine mj_l2i (v := l2.toInt32) dX0_putPart_135 rfl ?_
          refine mj_i2l (v := l2.toInt32.toInt64) dX0_putPart_136 rfl ?_
          refine t_callSlP dX0_putPart_137 M_X8_cell (C_X8_cell _ _ _ _) ML_X0_189 SM_X8_cell (As := [.int 7, .int (f_X8_size (r2.2.1 340 (l4.toNatClampNeg)) r2), .long l2.toInt32.toInt64]) rfl rfl (Nat.le_of_ble_eq_true rfl) (Nat.le_of_ble_eq_true rfl) (Nat.le_of_ble_eq_true rfl) (Nat.le_of_ble_eq_true rfl) ?_
          refine t_lastK dX0_putPart_140 qa_340 (t_ixv c2) (fun s1 ws1 => t_letE hk ws1 (fun hk => ?_))
          refine mj_goto 177 dX0_putPart_141 (by decide) ?_
          refine mj_sublv [(0, .ref 334)] [0] rfl ?_
          exact B_X0_putPart_177 _ _ hk
noncomputable def k_X0_putPart_43 (l1 : Int32) (l2 : Int64) (l4 : Int32) (l5 : Int64) (l7 : Int32) (k0 : Int32) (s : t_S) : Option (t_S) :=
 if l1 = (37 : Int32) then (if l7 = (6 : Int32) then ((f_X0_putField l2.toInt32 l4 k0 s).bind (fun r1 =>
 k_X0_putPart_177 r1))
 else (k_X0_putPart_71 l1 l2 l4 l5 l7 k0 s))
 else (k_X0_putPart_71 l1 l2 l4 l5 l7 k0 s)
set_option maxRecDepth 4000 in
set_option maxHeartbeats 1000000 in
theorem B_X0_putPart_43 {D : va_G} {cy : Nat → ClassId} {ad : Nat → Nat} {bs : Nat} {X : State → Heap → Prop} (l1 : Int32) (l2 : Int64) (l4 : Int32) (l5 : Int64) (l7 : Int32) (k0 : Int32) (s : t_S) (Q : t_S → Prop) (hk : t_hk (k_X0_putPart_43 l1 l2 l4 l5 l7 k0 s) Q) : mj_G D cy ad bs X cX0_putPart 9 yX0_putPart.cls none yX0_putPart.name 3 0 0 1065 (t_P (fun v s' => v = none ∧ Q (s'))) 43 [(0, .ref 334), (1, .int l1), (2, .long l2), (4, .int l4), (5, .long l5), (7, .int l7)] [.int k0] (t_m s) 1065 0 0 := by
  refine mj_istore (lv2 := [(8, .int k0), (0, .ref 334), (1, .int l1), (2, .long l2), (4, .int l4), (5, .long l5), (7, .int l7)]) dX0_putPart_43 (by decide) rfl ?_
  refine mj_iload_n dX0_putPart_45 2 rfl ?_
  refine mj_bipush (v := 37) dX0_putPart_46 (by decide) ?_
  refine mj_icmp_ne 71 dX0_putPart_48 (by decide) (fun z => t_negK hk z (fun hk => ?_)) (fun z => t_posK hk z (fun hk => ?_))
  · refine mj_sublv [(0, .ref 334), (1, .int l1), (2, .long l2), (4, .int l4), (5, .long l5), (7, .int l7), (8, .int k0)] [1, 2, 3, 4, 5, 6, 0] rfl ?_
    exact B_X0_putPart_71 _ _ _ _ _ _ _ _ hk
  · refine mj_iload dX0_putPart_51 6 rfl ?_
    refine mj_bipush (v := 6) dX0_putPart_53 (by decide) ?_
    refine mj_icmp_ne 71 dX0_putPart_55 (by decide) (fun z => t_negK hk z (fun hk => ?_)) (fun z => t_posK hk z (fun hk => ?_))
    · refine mj_sublv [(0, .ref 334), (1, .int l1), (2, .long l2), (4, .int l4), (5, .long l5), (7, .int l7), (8, .int k0)] [1, 2, 3, 4, 5, 6, 0] rfl ?_
      exact B_X0_putPart_71 _ _ _ _ _ _ _ _ hk
    · refine mj_aload_n dX0_putPart_58 1 rfl ?_
      refine mj_lload_n dX0_putPart_59 3 rfl ?_
      refine mj_l2i (v := l2.toInt32) dX0_putPart_60 rfl ?_
      refine mj_iload dX0_putPart_61 4 rfl ?_
      refine mj_iload dX0_putPart_63 0 rfl ?_
      refine t_bndK hk (fun r1 er1 hk => ?_)
      refine t_callVvE dX0_putPart_65 M_X0_putField (C_X0_putField _ _ _ _ _ er1) ML_X0_288 IM_X0_putField SE_X0_putField qc_334 rfl (As := [.int l2.toInt32, .int l4, .int k0]) rfl rfl (Nat.le_of_ble_eq_true rfl) (Nat.le_of_ble_eq_true rfl) (Nat.le_of_ble_eq_true rfl) (Nat.le_of_ble_eq_true rfl) ?_
      refine mj_goto 177 dX0_putPart_68 (by decide) ?_
      refine mj_sublv [(0, .ref 334)] [1] rfl ?_
      exact B_X0_putPart_177 _ _ hk
noncomputable def k_X0_putPart_18 (l1 : Int32) (l2 : Int64) (l4 : Int32) (k0 : Int64) (s : t_S) : Option (t_S) :=
 (f_X0_top s).bind (fun r2 =>
 if (f_X8_kind r2 s) = (4 : Int32) then (k_X0_putPart_43 l1 l2 l4 k0 (f_X8_kind k0 s) 1 s)
 else (k_X0_putPart_43 l1 l2 l4 k0 (f_X8_kind k0 s) 0 s))
set_option maxRecDepth 4000 in
set_option maxHeartbeats 1000000 in
theorem B_X0_putPart_18 {D : va_G} {cy : Nat → ClassId} {ad : Nat → Nat} {bs : Nat} {X : State → Heap → Prop} (l1 : Int32) (l2 : Int64) (l4 : Int32) (k0 : Int64) (s : t_S) (Q : t_S → Prop) (hk : t_hk (k_X0_putPart_18 l1 l2 l4 k0 s) Q) : mj_G D cy ad bs X cX0_putPart 9 yX0_putPart.cls none yX0_putPart.name 3 0 0 1065 (t_P (fun v s' => v = none ∧ Q (s'))) 18 [(0, .ref 334), (1, .int l1), (2, .long l2), (4, .int l4)] [.long k0] (t_m s) 1065 0 0 := by
  refine mj_lstore (lv2 := [(5, .long k0), (0, .ref 334), (1, .int l1), (2, .long l2), (4, .int l4)]) dX0_putPart_18 (by decide) rfl ?_
  refine mj_lload dX0_putPart_20 0 rfl ?_
  refine t_callSiP dX0_putPart_22 M_X8_kind (C_X8_kind _ _) ML_X0_160 SM_X8_kind (As := [.long k0]) rfl rfl (Nat.le_of_ble_eq_true rfl) (Nat.le_of_ble_eq_true rfl) (Nat.le_of_ble_eq_true rfl) (Nat.le_of_ble_eq_true rfl) ?_
  refine mj_istore (lv2 := [(7, .int (f_X8_kind k0 s)), (5, .long k0), (0, .ref 334), (1, .int l1), (2, .long l2), (4, .int l4)]) dX0_putPart_25 (by decide) rfl ?_
  refine mj_aload_n dX0_putPart_27 2 rfl ?_
  refine t_bndK hk (fun r2 er2 hk => ?_)
  refine t_callVlP dX0_putPart_28 M_X0_top (C_X0_top _ _ er2) ML_X0_233 IM_X0_top SE_X0_top qc_334 rfl (As := []) rfl rfl (Nat.le_of_ble_eq_true rfl) (Nat.le_of_ble_eq_true rfl) (Nat.le_of_ble_eq_true rfl) (Nat.le_of_ble_eq_true rfl) ?_
  refine t_callSiP dX0_putPart_31 M_X8_kind (C_X8_kind _ _) ML_X0_160 SM_X8_kind (As := [.long r2]) rfl rfl (Nat.le_of_ble_eq_true rfl) (Nat.le_of_ble_eq_true rfl) (Nat.le_of_ble_eq_true rfl) (Nat.le_of_ble_eq_true rfl) ?_
  refine mj_iconst (v := 4) dX0_putPart_34 (by decide) ?_
  refine mj_icmp_ne 42 dX0_putPart_35 (by decide) (fun z => t_negK hk z (fun hk => ?_)) (fun z => t_posK hk z (fun hk => ?_))
  · refine mj_iconst (v := 0) dX0_putPart_42 (by decide) ?_
    refine mj_sublv [(0, .ref 334), (1, .int l1), (2, .long l2), (4, .int l4), (5, .long k0), (7, .int (f_X8_kind k0 s))] [2, 3, 4, 5, 1, 0] rfl ?_
    exact B_X0_putPart_43 _ _ _ _ _ _ _ _ hk
  · refine mj_iconst (v := 1) dX0_putPart_38 (by decide) ?_
    refine mj_goto 43 dX0_putPart_39 (by decide) ?_
    refine mj_sublv [(0, .ref 334), (1, .int l1), (2, .long l2), (4, .int l4), (5, .long k0), (7, .int (f_X8_kind k0 s))] [2, 3, 4, 5, 1, 0] rfl ?_
    exact B_X0_putPart_43 _ _ _ _ _ _ _ _ hk
noncomputable def f_X0_putPart (x1 : Int32) (x2 : Int64) (x3 : Int32) (s : t_S) : Option (t_S) :=
 if (0 : Int32) ≤ x3 then (if t_ix x3 240 = true then
  k_X0_putPart_18 x1 x2 x3 (s.2.1 340 (x3.toNatClampNeg)) s
else none)
 else (k_X0_putPart_18 x1 x2 x3 20 s)
set_option maxRecDepth 4000 in
set_option maxHeartbeats 1000000 in
theorem C_X0_putPart (x1 : Int32) (x2 : Int64) (x3 : Int32) (s : t_S) (r : t_S) (hr : f_X0_putPart x1 x2 x3 s = some r) : t_C yX0_putPart cX0_putPart 9 none 3 [.ref 334, .int x1, .long x2, .int x3] s (fun v s' => v = none ∧ s' = r) := by
  refine t_C.imp (P := fun v s' => v = none ∧ (fun q => q = r) (s')) (t_C.of (by decide +kernel) (Nat.le_of_ble_eq_true rfl) ?_) (fun v s' hp => hp)
  intro D cy ad bs X
  have hk : t_hk (f_X0_putPart x1 x2 x3 s) (fun q => q = r) := ⟨r, hr, rfl⟩
  show mj_G D cy ad bs X cX0_putPart 9 yX0_putPart.cls none yX0_putPart.name 3 0 0 1065 (t_P (fun v s' => v = none ∧ (fun q => q = r) (s'))) 0 [(0, .ref 334), (1, .int x1), (2, .long x2), (4, .int x3)] [] (t_m s) 1065 0 0
  refine mj_iload dX0_putPart_0 3 rfl ?_
  refine mj_if_ge 11 dX0_putPart_2 (by decide) (fun z => t_posK hk z (fun hk => ?_)) (fun z => t_negK hk z (fun hk => ?_))
  · refine mj_aload_n dX0_putPart_11 0 rfl ?_
    refine t_getR 340 dX0_putPart_12 F_X0_29 qr_334_8 ?_
    refine mj_iload dX0_putPart_15 3 rfl ?_
    refine t_chkK hk (fun c0 hk => ?_)
    refine t_lald dX0_putPart_17 qa_340 (t_ixv c0) ?_
    exact B_X0_putPart_18 _ _ _ _ _ _ hk
  · refine mj_ldc2 dX0_putPart_5 K_X0_69 ?_
    refine mj_goto 18 dX0_putPart_8 (by decide) ?_
    exact B_X0_putPart_18 _ _ _ _ _ _ hk

theorem dX0_stepInto_0 : decode cX0_stepInto 0 = .ok (.iload 4, 2) := by decide +kernel
theorem dX0_stepInto_100 : decode cX0_stepInto 100 = .ok (.if_icmp .ne 23, 3) := by decide +kernel
theorem dX0_stepInto_103 : decode cX0_stepInto 103 = .ok (.lload 5, 2) := by decide +kernel
theorem dX0_stepInto_105 : decode cX0_stepInto 105 = .ok (.invokestatic 186, 3) := by decide +kernel
theorem dX0_stepInto_108 : decode cX0_stepInto 108 = .ok (.i2l, 1) := by decide +kernel
theorem dX0_stepInto_109 : decode cX0_stepInto 109 = .ok (.lload_n 2, 1) := by decide +kernel
theorem dX0_stepInto_11 : decode cX0_stepInto 11 = .ok (.aload_n 0, 1) := by decide +kernel
theorem dX0_stepInto_110 : decode cX0_stepInto 110 = .ok (.lcmp, 1) := by decide +kernel
theorem dX0_stepInto_111 : decode cX0_stepInto 111 = .ok (.ifCond .ne 10, 3) := by decide +kernel
theorem dX0_stepInto_114 : decode cX0_stepInto 114 = .ok (.iload 4, 2) := by decide +kernel
theorem dX0_stepInto_116 : decode cX0_stepInto 116 = .ok (.iconst 1, 1) := by decide +kernel
theorem dX0_stepInto_117 : decode cX0_stepInto 117 = .ok (.iadd, 1) := by decide +kernel
theorem dX0_stepInto_118 : decode cX0_stepInto 118 = .ok (.goto 4, 3) := by decide +kernel
theorem dX0_stepInto_12 : decode cX0_stepInto 12 = .ok (.getfield 29, 3) := by decide +kernel
theorem dX0_stepInto_121 : decode cX0_stepInto 121 = .ok (.iconst (-1), 1) := by decide +kernel
theorem dX0_stepInto_122 : decode cX0_stepInto 122 = .ok (.ireturn, 1) := by decide +kernel
theorem dX0_stepInto_123 : decode cX0_stepInto 123 = .ok (.iload_n 1, 1) := by decide +kernel
theorem dX0_stepInto_124 : decode cX0_stepInto 124 = .ok (.bipush 37, 2) := by decide +kernel
theorem dX0_stepInto_126 : decode cX0_stepInto 126 = .ok (.if_icmp .eq 10, 3) := by decide +kernel
theorem dX0_stepInto_129 : decode cX0_stepInto 129 = .ok (.iload 7, 2) := by decide +kernel
theorem dX0_stepInto_131 : decode cX0_stepInto 131 = .ok (.bipush 8, 2) := by decide +kernel
theorem dX0_stepInto_133 : decode cX0_stepInto 133 = .ok (.if_icmp .eq 11, 3) := by decide +kernel
theorem dX0_stepInto_136 : decode cX0_stepInto 136 = .ok (.aload_n 0, 1) := by decide +kernel
theorem dX0_stepInto_137 : decode cX0_stepInto 137 = .ok (.iconst 1, 1) := by decide +kernel
theorem dX0_stepInto_138 : decode cX0_stepInto 138 = .ok (.putfield 71, 3) := by decide +kernel
theorem dX0_stepInto_141 : decode cX0_stepInto 141 = .ok (.goto 25, 3) := by decide +kernel
theorem dX0_stepInto_144 : decode cX0_stepInto 144 = .ok (.lload_n 2, 1) := by decide +kernel
theorem dX0_stepInto_145 : decode cX0_stepInto 145 = .ok (.lconst 0, 1) := by decide +kernel
theorem dX0_stepInto_146 : decode cX0_stepInto 146 = .ok (.lcmp, 1) := by decide +kernel
theorem dX0_stepInto_147 : decode cX0_stepInto 147 = .ok (.ifCond .lt 14, 3) := by decide +kernel
theorem dX0_stepInto_15 : decode cX0_stepInto 15 = .ok (.iload 4, 2) := by decide +kernel
theorem dX0_stepInto_150 : decode cX0_stepInto 150 = .ok (.lload_n 2, 1) := by decide +kernel
theorem dX0_stepInto_151 : decode cX0_stepInto 151 = .ok (.lload 5, 2) := by decide +kernel
theorem dX0_stepInto_153 : decode cX0_stepInto 153 = .ok (.invokestatic 217, 3) := by decide +kernel
theorem dX0_stepInto_156 : decode cX0_stepInto 156 = .ok (.i2l, 1) := by decide +kernel
theorem dX0_stepInto_157 : decode cX0_stepInto 157 = .ok (.lcmp, 1) := by decide +kernel
theorem dX0_stepInto_158 : decode cX0_stepInto 158 = .ok (.ifCond .lt 8, 3) := by decide +kernel
theorem dX0_stepInto_161 : decode cX0_stepInto 161 = .ok (.aload_n 0, 1) := by decide +kernel
theorem dX0_stepInto_162 : decode cX0_stepInto 162 = .ok (.iconst 2, 1) := by decide +kernel
theorem dX0_stepInto_163 : decode cX0_stepInto 163 = .ok (.putfield 71, 3) := by decide +kernel
theorem dX0_stepInto_166 : decode cX0_stepInto 166 = .ok (.aload_n 0, 1) := by decide +kernel
theorem dX0_stepInto_167 : decode cX0_stepInto 167 = .ok (.getfield 71, 3) := by decide +kernel
theorem dX0_stepInto_17 : decode cX0_stepInto 17 = .ok (.laload, 1) := by decide +kernel
theorem dX0_stepInto_170 : decode cX0_stepInto 170 = .ok (.ifCond .eq 7, 3) := by decide +kernel
theorem dX0_stepInto_173 : decode cX0_stepInto 173 = .ok (.iconst (-1), 1) := by decide +kernel
theorem dX0_stepInto_174 : decode cX0_stepInto 174 = .ok (.goto 14, 3) := by decide +kernel
theorem dX0_stepInto_177 : decode cX0_stepInto 177 = .ok (.aload_n 0, 1) := by decide +kernel
theorem dX0_stepInto_178 : decode cX0_stepInto 178 = .ok (.getfield 29, 3) := by decide +kernel
theorem dX0_stepInto_18 : decode cX0_stepInto 18 = .ok (.lstore 5, 2) := by decide +kernel
theorem dX0_stepInto_181 : decode cX0_stepInto 181 = .ok (.iload 4, 2) := by decide +kernel
theorem dX0_stepInto_183 : decode cX0_stepInto 183 = .ok (.lload_n 2, 1) := by decide +kernel
theorem dX0_stepInto_184 : decode cX0_stepInto 184 = .ok (.l2i, 1) := by decide +kernel
theorem dX0_stepInto_185 : decode cX0_stepInto 185 = .ok (.invokestatic 220, 3) := by decide +kernel
theorem dX0_stepInto_188 : decode cX0_stepInto 188 = .ok (.ireturn, 1) := by decide +kernel
theorem dX0_stepInto_2 : decode cX0_stepInto 2 = .ok (.ifCond .ge 9, 3) := by decide +kernel
theorem dX0_stepInto_20 : decode cX0_stepInto 20 = .ok (.lload 5, 2) := by decide +kernel
theorem dX0_stepInto_22 : decode cX0_stepInto 22 = .ok (.invokestatic 160, 3) := by decide +kernel
theorem dX0_stepInto_25 : decode cX0_stepInto 25 = .ok (.istore 7, 2) := by decide +kernel
theorem dX0_stepInto_27 : decode cX0_stepInto 27 = .ok (.iload 4, 2) := by decide +kernel
theorem dX0_stepInto_29 : decode cX0_stepInto 29 = .ok (.ifCond .lt 36, 3) := by decide +kernel
theorem dX0_stepInto_32 : decode cX0_stepInto 32 = .ok (.aload_n 0, 1) := by decide +kernel
theorem dX0_stepInto_33 : decode cX0_stepInto 33 = .ok (.getfield 274, 3) := by decide +kernel
theorem dX0_stepInto_36 : decode cX0_stepInto 36 = .ok (.aload_n 0, 1) := by decide +kernel
theorem dX0_stepInto_37 : decode cX0_stepInto 37 = .ok (.getfield 35, 3) := by decide +kernel
theorem dX0_stepInto_40 : decode cX0_stepInto 40 = .ok (.arraylength, 1) := by decide +kernel
theorem dX0_stepInto_41 : decode cX0_stepInto 41 = .ok (.if_icmp .ge 24, 3) := by decide +kernel
theorem dX0_stepInto_44 : decode cX0_stepInto 44 = .ok (.aload_n 0, 1) := by decide +kernel
theorem dX0_stepInto_45 : decode cX0_stepInto 45 = .ok (.getfield 35, 3) := by decide +kernel
theorem dX0_stepInto_48 : decode cX0_stepInto 48 = .ok (.aload_n 0, 1) := by decide +kernel
theorem dX0_stepInto_49 : decode cX0_stepInto 49 = .ok (.getfield 274, 3) := by decide +kernel
theorem dX0_stepInto_5 : decode cX0_stepInto 5 = .ok (.ldc2_w 69, 3) := by decide +kernel
theorem dX0_stepInto_52 : decode cX0_stepInto 52 = .ok (.iload 4, 2) := by decide +kernel
theorem dX0_stepInto_54 : decode cX0_stepInto 54 = .ok (.iastore, 1) := by decide +kernel
theorem dX0_stepInto_55 : decode cX0_stepInto 55 = .ok (.aload_n 0, 1) := by decide +kernel
theorem dX0_stepInto_56 : decode cX0_stepInto 56 = .ok (.dup, 1) := by decide +kernel
theorem dX0_stepInto_57 : decode cX0_stepInto 57 = .ok (.getfield 274, 3) := by decide +kernel
theorem dX0_stepInto_60 : decode cX0_stepInto 60 = .ok (.iconst 1, 1) := by decide +kernel
theorem dX0_stepInto_61 : decode cX0_stepInto 61 = .ok (.iadd, 1) := by decide +kernel
theorem dX0_stepInto_62 : decode cX0_stepInto 62 = .ok (.putfield 274, 3) := by decide +kernel
theorem dX0_stepInto_65 : decode cX0_stepInto 65 = .ok (.iload_n 1, 1) := by decide +kernel
theorem dX0_stepInto_66 : decode cX0_stepInto 66 = .ok (.bipush 37, 2) := by decide +kernel
theorem dX0_stepInto_68 : decode cX0_stepInto 68 = .ok (.if_icmp .ne 22, 3) := by decide +kernel
theorem dX0_stepInto_71 : decode cX0_stepInto 71 = .ok (.iload 7, 2) := by decide +kernel
theorem dX0_stepInto_73 : decode cX0_stepInto 73 = .ok (.bipush 6, 2) := by decide +kernel
theorem dX0_stepInto_75 : decode cX0_stepInto 75 = .ok (.if_icmp .ne 15, 3) := by decide +kernel
theorem dX0_stepInto_78 : decode cX0_stepInto 78 = .ok (.aload_n 0, 1) := by decide +kernel
theorem dX0_stepInto_79 : decode cX0_stepInto 79 = .ok (.getfield 29, 3) := by decide +kernel
theorem dX0_stepInto_8 : decode cX0_stepInto 8 = .ok (.goto 10, 3) := by decide +kernel
theorem dX0_stepInto_82 : decode cX0_stepInto 82 = .ok (.iload 4, 2) := by decide +kernel
theorem dX0_stepInto_84 : decode cX0_stepInto 84 = .ok (.lload_n 2, 1) := by decide +kernel
theorem dX0_stepInto_85 : decode cX0_stepInto 85 = .ok (.l2i, 1) := by decide +kernel
theorem dX0_stepInto_86 : decode cX0_stepInto 86 = .ok (.invokestatic 179, 3) := by decide +kernel
theorem dX0_stepInto_89 : decode cX0_stepInto 89 = .ok (.ireturn, 1) := by decide +kernel
theorem dX0_stepInto_90 : decode cX0_stepInto 90 = .ok (.iload_n 1, 1) := by decide +kernel
theorem dX0_stepInto_91 : decode cX0_stepInto 91 = .ok (.bipush 37, 2) := by decide +kernel
theorem dX0_stepInto_93 : decode cX0_stepInto 93 = .ok (.if_icmp .ne 30, 3) := by decide +kernel
theorem dX0_stepInto_96 : decode cX0_stepInto 96 = .ok (.iload 7, 2) := by decide +kernel
theorem dX0_stepInto_98 : decode cX0_stepInto 98 = .ok (.bipush 7, 2) := by decide +kernel
noncomputable def k_X0_stepInto_166 (l2 : Int64) (l4 : Int32) (s : t_S) : Option (Int32 × t_S) :=
 if (s.1 334 12) = (0 : Int32) then ((f_X8_elementAt 340 l4 l2.toInt32 s).bind (fun r1 =>
 some (r1, s)))
 else (some ((-1 : Int32), s))
set_option maxRecDepth 4000 in
set_option maxHeartbeats 1000000 in
theorem B_X0_stepInto_166 {D : va_G} {cy : Nat → ClassId} {ad : Nat → Nat} {bs : Nat} {X : State → Heap → Prop} (l2 : Int64) (l4 : Int32) (s : t_S) (Q : Int32 × t_S → Prop) (hk : t_hk (k_X0_stepInto_166 l2 l4 s) Q) : mj_G D cy ad bs X cX0_stepInto 8 yX0_stepInto.cls (some .int) yX0_stepInto.name 1 0 0 1065 (t_P (fun v s' => ∃ x, v = some (.int x) ∧ Q ((x, s')))) 166 [(0, .ref 334), (2, .long l2), (4, .int l4)] [] (t_m s) 1065 0 0 := by
  refine mj_aload_n dX0_stepInto_166 0 rfl ?_
  refine t_getI dX0_stepInto_167 F_X0_71 qf_334_12 ?_
  refine mj_if_eq 177 dX0_stepInto_170 (by decide) (fun z => t_posK hk z (fun hk => ?_)) (fun z => t_negK hk z (fun hk => ?_))
  · refine mj_aload_n dX0_stepInto_177 0 rfl ?_
    refine t_getR 340 dX0_stepInto_178 F_X0_29 qr_334_8 ?_
    refine mj_iload dX0_stepInto_181 2 rfl ?_
    refine mj_lload_n dX0_stepInto_183 1 rfl ?_
    refine mj_l2i (v := l2.toInt32) dX0_stepInto_184 rfl ?_
    refine t_bndK hk (fun r1 er1 hk => ?_)
    refine t_callSiP dX0_stepInto_185 M_X8_elementAt (C_X8_elementAt _ _ _ _ _ er1) ML_X0_220 SM_X8_elementAt (As := [.ref 340, .int l4, .int l2.toInt32]) rfl rfl (Nat.le_of_ble_eq_true rfl) (Nat.le_of_ble_eq_true rfl) (Nat.le_of_ble_eq_true rfl) (Nat.le_of_ble_eq_true rfl) ?_
    exact t_somK hk (fun hf => t_iret dX0_stepInto_188 rfl rfl ⟨_, rfl, hf⟩ (Nat.le_of_ble_eq_true rfl) (Nat.le_of_ble_eq_true rfl))
  · refine mj_iconst (v := (-1)) dX0_stepInto_173 (by decide) ?_
    refine mj_goto 188 dX0_stepInto_174 (by decide) ?_
    exact t_somK hk (fun hf => t_iret dX0_stepInto_188 rfl rfl ⟨_, rfl, hf⟩ (Nat.le_of_ble_eq_true rfl) (Nat.le_of_ble_eq_true rfl))
noncomputable def k_X0_stepInto_136 (l2 : Int64) (l4 : Int32) (s : t_S) : Option (Int32 × t_S) :=
 t_let (t_setI s 334 12 (1 : Int32)) (fun s1 =>
 k_X0_stepInto_166 l2 l4 s1)
set_option maxRecDepth 4000 in
set_option maxHeartbeats 1000000 in
theorem B_X0_stepInto_136 {D : va_G} {cy : Nat → ClassId} {ad : Nat → Nat} {bs : Nat} {X : State → Heap → Prop} (l2 : Int64) (l4 : Int32) (s : t_S) (Q : Int32 × t_S → Prop) (hk : t_hk (k_X0_stepInto_136 l2 l4 s) Q) : mj_G D cy ad bs X cX0_stepInto 8 yX0_stepInto.cls (some .int) yX0_stepInto.name 1 0 0 1065 (t_P (fun v s' => ∃ x, v = some (.int x) ∧ Q ((x, s')))) 136 [(0, .ref 334), (2, .long l2), (4, .int l4)] [] (t_m s) 1065 0 0 := by
  refine mj_aload_n dX0_stepInto_136 0 rfl ?_
  refine mj_iconst (v := 1) dX0_stepInto_137 (by decide) ?_
  refine t_putIK dX0_stepInto_138 F_X0_71 qf_334_12 rfl (fun s1 ws1 => t_letE hk ws1 (fun hk => ?_))
  refine mj_goto 166 dX0_stepInto_141 (by decide) ?_
  exact B_X0_stepInto_166 _ _ _ _ hk
noncomputable def k_X0_stepInto_161 (l2 : Int64) (l4 : Int32) (s : t_S) : Option (Int32 × t_S) :=
 t_let (t_setI s 334 12 (2 : Int32)) (fun s1 =>
 k_X0_stepInto_166 l2 l4 s1)
set_option maxRecDepth 4000 in
set_option maxHeartbeats 1000000 in
theorem B_X0_stepInto_161 {D : va_G} {cy : Nat → ClassId} {ad : Nat → Nat} {bs : Nat} {X : State → Heap → Prop} (l2 : Int64) (l4 : Int32) (s : t_S) (Q : Int32 × t_S → Prop) (hk : t_hk (k_X0_stepInto_161 l2 l4 s) Q) : mj_G D cy ad bs X cX0_stepInto 8 yX0_stepInto.cls (some .int) yX0_stepInto.name 1 0 0 1065 (t_P (fun v s' => ∃ x, v = some (.int x) ∧ Q ((x, s')))) 161 [(0, .ref 334), (2, .long l2), (4, .int l4)] [] (t_m s) 1065 0 0 := by
  refine mj_aload_n dX0_stepInto_161 0 rfl ?_
  refine mj_iconst (v := 2) dX0_stepInto_162 (by decide) ?_
  refine t_putIK dX0_stepInto_163 F_X0_71 qf_334_12 rfl (fun s1 ws1 => t_letE hk ws1 (fun hk => ?_))
  exact B_X0_stepInto_166 _ _ _ _ hk
noncomputable def k_X0_stepInto_123 (l1 : Int32) (l2 : Int64) (l4 : Int32) (l5 : Int64) (l7 : Int32) (s : t_S) : Option (Int32 × t_S) :=
 if l1 = (37 : Int32) then (k_X0_stepInto_136 l2 l4 s)
 else (if l7 = (8 : Int32) then (if (lg_cmp l2 (0 : Int64)) < (0 : Int32) then (k_X0_stepInto_161 l2 l4 s)
 else (if (lg_cmp l2 ((f_X8_partsOf l5 s).toInt64)) < (0 : Int32) then (k_X0_stepInto_166 l2 l4 s)
 else (k_X0_stepInto_161 l2 l4 s)))
 else (k_X0_stepInto_136 l2 l4 s))
set_option maxRecDepth 4000 in
set_option maxHeartbeats 1000000 in
theorem B_X0_stepInto_123 {D : va_G} {cy : Nat → ClassId} {ad : Nat → Nat} {bs : Nat} {X : State → Heap → Prop} (l1 : Int32) (l2 : Int64) (l4 : Int32) (l5 : Int64) (l7 : Int32) (s : t_S) (Q : Int32 × t_S → Prop) (hk : t_hk (k_X0_stepInto_123 l1 l2 l4 l5 l7 s) Q) : mj_G D cy ad bs X cX0_stepInto 8 yX0_stepInto.cls (some .int) yX0_stepInto.name 1 0 0 1065 (t_P (fun v s' => ∃ x, v = some (.int x) ∧ Q ((x, s')))) 123 [(0, .ref 334), (1, .int l1), (2, .long l2), (4, .int l4), (5, .long l5), (7, .int l7)] [] (t_m s) 1065 0 0 := by
  refine mj_iload_n dX0_stepInto_123 1 rfl ?_
  refine mj_bipush (v := 37) dX0_stepInto_124 (by decide) ?_
  refine mj_icmp_eq 136 dX0_stepInto_126 (by decide) (fun z => t_posK hk z (fun hk => ?_)) (fun z => t_negK hk z (fun hk => ?_))
  · refine mj_sublv [(0, .ref 334), (2, .long l2), (4, .int l4)] [0, 2, 3] rfl ?_
    exact B_X0_stepInto_136 _ _ _ _ hk
  · refine mj_iload dX0_stepInto_129 5 rfl ?_
    refine mj_bipush (v := 8) dX0_stepInto_131 (by decide) ?_
    refine mj_icmp_eq 144 dX0_stepInto_133 (by decide) (fun z => t_posK hk z (fun hk => ?_)) (fun z => t_negK hk z (fun hk => ?_))
    · refine mj_lload_n dX0_stepInto_144 2 rfl ?_
      refine mj_lconst (v := 0) dX0_stepInto_145 (by decide) ?_
      refine mj_lcmp dX0_stepInto_146 ?_
      refine mj_if_lt 161 dX0_stepInto_147 (by decide) (fun z => t_posK hk z (fun hk => ?_)) (fun z => t_negK hk z (fun hk => ?_))
      · refine mj_sublv [(0, .ref 334), (2, .long l2), (4, .int l4)] [0, 2, 3] rfl ?_
        exact B_X0_stepInto_161 _ _ _ _ hk
      · refine mj_lload_n dX0_stepInto_150 2 rfl ?_
        refine mj_lload dX0_stepInto_151 4 rfl ?_
        refine t_callSiP dX0_stepInto_153 M_X8_partsOf (C_X8_partsOf _ _) ML_X0_217 SM_X8_partsOf (As := [.long l5]) rfl rfl (Nat.le_of_ble_eq_true rfl) (Nat.le_of_ble_eq_true rfl) (Nat.le_of_ble_eq_true rfl) (Nat.le_of_ble_eq_true rfl) ?_
        refine mj_i2l (v := (f_X8_partsOf l5 s).toInt64) dX0_stepInto_156 rfl ?_
        refine mj_lcmp dX0_stepInto_157 ?_
        refine mj_if_lt 166 dX0_stepInto_158 (by decide) (fun z => t_posK hk z (fun hk => ?_)) (fun z => t_negK hk z (fun hk => ?_))
        · refine mj_sublv [(0, .ref 334), (2, .long l2), (4, .int l4)] [0, 2, 3] rfl ?_
          exact B_X0_stepInto_166 _ _ _ _ hk
        · refine mj_sublv [(0, .ref 334), (2, .long l2), (4, .int l4)] [0, 2, 3] rfl ?_
          exact B_X0_stepInto_161 _ _ _ _ hk
    · refine mj_sublv [(0, .ref 334), (2, .long l2), (4, .int l4)] [0, 2, 3] rfl ?_
      exact B_X0_stepInto_136 _ _ _ _ hk
noncomputable def k_X0_stepInto_90 (l1 : Int32) (l2 : Int64) (l4 : Int32) (l5 : Int64) (l7 : Int32) (s : t_S) : Option (Int32 × t_S) :=
 if l1 = (37 : Int32) then (if l7 = (7 : Int32) then (if (lg_cmp ((f_X8_wordOf l5 s).toInt64) l2) = (0 : Int32) then (some ((l4 + (1 : Int32)), s))
 else (some ((-1 : Int32), s)))
 else (k_X0_stepInto_123 l1 l2 l4 l5 l7 s))
 else (k_X0_stepInto_123 l1 l2 l4 l5 l7 s)
set_option maxRecDepth 4000 in
set_option maxHeartbeats 1000000 in
theorem B_X0_stepInto_90 {D : va_G} {cy : Nat → ClassId} {ad : Nat → Nat} {bs : Nat} {X : State → Heap → Prop} (l1 : Int32) (l2 : Int64) (l4 : Int32) (l5 : Int64) (l7 : Int32) (s : t_S) (Q : Int32 × t_S → Prop) (hk : t_hk (k_X0_stepInto_90 l1 l2 l4 l5 l7 s) Q) : mj_G D cy ad bs X cX0_stepInto 8 yX0_stepInto.cls (some .int) yX0_stepInto.name 1 0 0 1065 (t_P (fun v s' => ∃ x, v = some (.int x) ∧ Q ((x, s')))) 90 [(0, .ref 334), (1, .int l1), (2, .long l2), (4, .int l4), (5, .long l5), (7, .int l7)] [] (t_m s) 1065 0 0 := by
  refine mj_iload_n dX0_stepInto_90 1 rfl ?_
  refine mj_bipush (v := 37) dX0_stepInto_91 (by decide) ?_
  refine mj_icmp_ne 123 dX0_stepInto_93 (by decide) (fun z => t_negK hk z (fun hk => ?_)) (fun z => t_posK hk z (fun hk => ?_))
  · exact B_X0_stepInto_123 _ _ _ _ _ _ _ hk
  · refine mj_iload dX0_stepInto_96 5 rfl ?_
    refine mj_bipush (v := 7) dX0_stepInto_98 (by decide) ?_
    refine mj_icmp_ne 123 dX0_stepInto_100 (by decide) (fun z => t_negK hk z (fun hk => ?_)) (fun z => t_posK hk z (fun hk => ?_))
    · exact B_X0_stepInto_123 _ _ _ _ _ _ _ hk
    · refine mj_lload dX0_stepInto_103 4 rfl ?_
      refine t_callSiP dX0_stepInto_105 M_X8_wordOf (C_X8_wordOf _ _) ML_X0_186 SM_X8_wordOf (As := [.long l5]) rfl rfl (Nat.le_of_ble_eq_true rfl) (Nat.le_of_ble_eq_true rfl) (Nat.le_of_ble_eq_true rfl) (Nat.le_of_ble_eq_true rfl) ?_
      refine mj_i2l (v := (f_X8_wordOf l5 s).toInt64) dX0_stepInto_108 rfl ?_
      refine mj_lload_n dX0_stepInto_109 2 rfl ?_
      refine mj_lcmp dX0_stepInto_110 ?_
      refine mj_if_ne 121 dX0_stepInto_111 (by decide) (fun z => t_negK hk z (fun hk => ?_)) (fun z => t_posK hk z (fun hk => ?_))
      · refine mj_iconst (v := (-1)) dX0_stepInto_121 (by decide) ?_
        exact t_somK hk (fun hf => t_iret dX0_stepInto_122 rfl rfl ⟨_, rfl, hf⟩ (Nat.le_of_ble_eq_true rfl) (Nat.le_of_ble_eq_true rfl))
      · refine mj_iload dX0_stepInto_114 3 rfl ?_
        refine mj_iconst (v := 1) dX0_stepInto_116 (by decide) ?_
        refine mj_iadd dX0_stepInto_117 ?_
        refine mj_goto 122 dX0_stepInto_118 (by decide) ?_
        exact t_somK hk (fun hf => t_iret dX0_stepInto_122 rfl rfl ⟨_, rfl, hf⟩ (Nat.le_of_ble_eq_true rfl) (Nat.le_of_ble_eq_true rfl))
noncomputable def k_X0_stepInto_65 (l1 : Int32) (l2 : Int64) (l4 : Int32) (l5 : Int64) (l7 : Int32) (s : t_S) : Option (Int32 × t_S) :=
 if l1 = (37 : Int32) then (if l7 = (6 : Int32) then ((f_X8_fieldAt 340 l4 l2.toInt32 s).bind (fun r1 =>
 some (r1, s)))
 else (k_X0_stepInto_90 l1 l2 l4 l5 l7 s))
 else (k_X0_stepInto_90 l1 l2 l4 l5 l7 s)
set_option maxRecDepth 4000 in
set_option maxHeartbeats 1000000 in
theorem B_X0_stepInto_65 {D : va_G} {cy : Nat → ClassId} {ad : Nat → Nat} {bs : Nat} {X : State → Heap → Prop} (l1 : Int32) (l2 : Int64) (l4 : Int32) (l5 : Int64) (l7 : Int32) (s : t_S) (Q : Int32 × t_S → Prop) (hk : t_hk (k_X0_stepInto_65 l1 l2 l4 l5 l7 s) Q) : mj_G D cy ad bs X cX0_stepInto 8 yX0_stepInto.cls (some .int) yX0_stepInto.name 1 0 0 1065 (t_P (fun v s' => ∃ x, v = some (.int x) ∧ Q ((x, s')))) 65 [(0, .ref 334), (1, .int l1), (2, .long l2), (4, .int l4), (5, .long l5), (7, .int l7)] [] (t_m s) 1065 0 0 := by
  refine mj_iload_n dX0_stepInto_65 1 rfl ?_
  refine mj_bipush (v := 37) dX0_stepInto_66 (by decide) ?_
  refine mj_icmp_ne 90 dX0_stepInto_68 (by decide) (fun z => t_negK hk z (fun hk => ?_)) (fun z => t_posK hk z (fun hk => ?_))
  · exact B_X0_stepInto_90 _ _ _ _ _ _ _ hk
  · refine mj_iload dX0_stepInto_71 5 rfl ?_
    refine mj_bipush (v := 6) dX0_stepInto_73 (by decide) ?_
    refine mj_icmp_ne 90 dX0_stepInto_75 (by decide) (fun z => t_negK hk z (fun hk => ?_)) (fun z => t_posK hk z (fun hk => ?_))
    · exact B_X0_stepInto_90 _ _ _ _ _ _ _ hk
    · refine mj_aload_n dX0_stepInto_78 0 rfl ?_
      refine t_getR 340 dX0_stepInto_79 F_X0_29 qr_334_8 ?_
      refine mj_iload dX0_stepInto_82 3 rfl ?_
      refine mj_lload_n dX0_stepInto_84 2 rfl ?_
      refine mj_l2i (v := l2.toInt32) dX0_stepInto_85 rfl ?_
      refine t_bndK hk (fun r1 er1 hk => ?_)
      refine t_callSiP dX0_stepInto_86 M_X8_fieldAt (C_X8_fieldAt _ _ _ _ _ er1) ML_X0_179 SM_X8_fieldAt (As := [.ref 340, .int l4, .int l2.toInt32]) rfl rfl (Nat.le_of_ble_eq_true rfl) (Nat.le_of_ble_eq_true rfl) (Nat.le_of_ble_eq_true rfl) (Nat.le_of_ble_eq_true rfl) ?_
      exact t_somK hk (fun hf => t_iret dX0_stepInto_89 rfl rfl ⟨_, rfl, hf⟩ (Nat.le_of_ble_eq_true rfl) (Nat.le_of_ble_eq_true rfl))
noncomputable def k_X0_stepInto_18 (l1 : Int32) (l2 : Int64) (l4 : Int32) (k0 : Int64) (s : t_S) : Option (Int32 × t_S) :=
 if l4 < (0 : Int32) then (k_X0_stepInto_65 l1 l2 l4 k0 (f_X8_kind k0 s) s)
 else (if (124 : Int32) ≤ (s.1 334 11) then (k_X0_stepInto_65 l1 l2 l4 k0 (f_X8_kind k0 s) s)
 else (if t_ix (s.1 334 11) 124 = true then
  t_let (t_setI s 342 ((s.1 334 11).toNatClampNeg) l4) (fun s1 =>
 t_let (t_setI s1 334 11 ((s1.1 334 11) + (1 : Int32))) (fun s2 =>
 k_X0_stepInto_65 l1 l2 l4 k0 (f_X8_kind k0 s) s2))
else none))
set_option maxRecDepth 4000 in
set_option maxHeartbeats 1000000 in
theorem B_X0_stepInto_18 {D : va_G} {cy : Nat → ClassId} {ad : Nat → Nat} {bs : Nat} {X : State → Heap → Prop} (l1 : Int32) (l2 : Int64) (l4 : Int32) (k0 : Int64) (s : t_S) (Q : Int32 × t_S → Prop) (hk : t_hk (k_X0_stepInto_18 l1 l2 l4 k0 s) Q) : mj_G D cy ad bs X cX0_stepInto 8 yX0_stepInto.cls (some .int) yX0_stepInto.name 1 0 0 1065 (t_P (fun v s' => ∃ x, v = some (.int x) ∧ Q ((x, s')))) 18 [(0, .ref 334), (1, .int l1), (2, .long l2), (4, .int l4)] [.long k0] (t_m s) 1065 0 0 := by
  refine mj_lstore (lv2 := [(5, .long k0), (0, .ref 334), (1, .int l1), (2, .long l2), (4, .int l4)]) dX0_stepInto_18 (by decide) rfl ?_
  refine mj_lload dX0_stepInto_20 0 rfl ?_
  refine t_callSiP dX0_stepInto_22 M_X8_kind (C_X8_kind _ _) ML_X0_160 SM_X8_kind (As := [.long k0]) rfl rfl (Nat.le_of_ble_eq_true rfl) (Nat.le_of_ble_eq_true rfl) (Nat.le_of_ble_eq_true rfl) (Nat.le_of_ble_eq_true rfl) ?_
  refine mj_istore (lv2 := [(7, .int (f_X8_kind k0 s)), (5, .long k0), (0, .ref 334), (1, .int l1), (2, .long l2), (4, .int l4)]) dX0_stepInto_25 (by decide) rfl ?_
  refine mj_iload dX0_stepInto_27 5 rfl ?_
  refine mj_if_lt 65 dX0_stepInto_29 (by decide) (fun z => t_posK hk z (fun hk => ?_)) (fun z => t_negK hk z (fun hk => ?_))
  · refine mj_sublv [(0, .ref 334), (1, .int l1), (2, .long l2), (4, .int l4), (5, .long k0), (7, .int (f_X8_kind k0 s))] [2, 3, 4, 5, 1, 0] rfl ?_
    exact B_X0_stepInto_65 _ _ _ _ _ _ _ hk
  · refine mj_aload_n dX0_stepInto_32 2 rfl ?_
    refine t_getI dX0_stepInto_33 F_X0_274 qf_334_11 ?_
    refine mj_aload_n dX0_stepInto_36 2 rfl ?_
    refine t_getR 342 dX0_stepInto_37 F_X0_35 qr_334_10 ?_
    refine t_alen1 (v := 124) dX0_stepInto_40 qa_342 (by decide) ?_
    refine mj_icmp_ge 65 dX0_stepInto_41 (by decide) (fun z => t_posK hk z (fun hk => ?_)) (fun z => t_negK hk z (fun hk => ?_))
    · refine mj_sublv [(0, .ref 334), (1, .int l1), (2, .long l2), (4, .int l4), (5, .long k0), (7, .int (f_X8_kind k0 s))] [2, 3, 4, 5, 1, 0] rfl ?_
      exact B_X0_stepInto_65 _ _ _ _ _ _ _ hk
    · refine mj_aload_n dX0_stepInto_44 2 rfl ?_
      refine t_getR 342 dX0_stepInto_45 F_X0_35 qr_334_10 ?_
      refine mj_aload_n dX0_stepInto_48 2 rfl ?_
      refine t_getI dX0_stepInto_49 F_X0_274 qf_334_11 ?_
      refine mj_iload dX0_stepInto_52 5 rfl ?_
      refine t_chkK hk (fun c1 hk => ?_)
      refine t_iastK dX0_stepInto_54 qa_342 (t_ixv c1) (fun s1 ws1 => t_letE hk ws1 (fun hk => ?_))
      refine mj_aload_n dX0_stepInto_55 2 rfl ?_
      refine mj_dup dX0_stepInto_56 rfl ?_
      refine t_getI dX0_stepInto_57 F_X0_274 qf_334_11 ?_
      refine mj_iconst (v := 1) dX0_stepInto_60 (by decide) ?_
      refine mj_iadd dX0_stepInto_61 ?_
      refine t_putIK dX0_stepInto_62 F_X0_274 qf_334_11 rfl (fun s2 ws2 => t_letE hk ws2 (fun hk => ?_))
      refine mj_sublv [(0, .ref 334), (1, .int l1), (2, .long l2), (4, .int l4), (5, .long k0), (7, .int (f_X8_kind k0 s))] [2, 3, 4, 5, 1, 0] rfl ?_
      exact B_X0_stepInto_65 _ _ _ _ _ _ _ hk
noncomputable def f_X0_stepInto (x1 : Int32) (x2 : Int64) (x3 : Int32) (s : t_S) : Option (Int32 × t_S) :=
 if (0 : Int32) ≤ x3 then (if t_ix x3 240 = true then
  k_X0_stepInto_18 x1 x2 x3 (s.2.1 340 (x3.toNatClampNeg)) s
else none)
 else (k_X0_stepInto_18 x1 x2 x3 20 s)
set_option maxRecDepth 4000 in
set_option maxHeartbeats 1000000 in
theorem C_X0_stepInto (x1 : Int32) (x2 : Int64) (x3 : Int32) (s : t_S) (r : Int32 × t_S) (hr : f_X0_stepInto x1 x2 x3 s = some r) : t_C yX0_stepInto cX0_stepInto 8 (some .int) 1 [.ref 334, .int x1, .long x2, .int x3] s (fun v s' => v = some (.int r.1) ∧ s' = r.2) := by
  refine t_C.imp (P := fun v s' => ∃ x, v = some (.int x) ∧ (fun q => q = r) ((x, s'))) (t_C.of (by decide +kernel) (Nat.le_of_ble_eq_true rfl) ?_) (fun v s' hp => by obtain ⟨x, rfl, rfl⟩ := hp; exact ⟨rfl, rfl⟩)
  intro D cy ad bs X
  have hk : t_hk (f_X0_stepInto x1 x2 x3 s) (fun q => q = r) := ⟨r, hr, rfl⟩
  show mj_G D cy ad bs X cX0_stepInto 8 yX0_stepInto.cls (some .int) yX0_stepInto.name 1 0 0 1065 (t_P (fun v s' => ∃ x, v = some (.int x) ∧ (fun q => q = r) ((x, s')))) 0 [(0, .ref 334), (1, .int x1), (2, .long x2), (4, .int x3)] [] (t_m s) 1065 0 0
  refine mj_iload dX0_stepInto_0 3 rfl ?_
  refine mj_if_ge 11 dX0_stepInto_2 (by decide) (fun z => t_posK hk z (fun hk => ?_)) (fun z => t_negK hk z (fun hk => ?_))
  · refine mj_aload_n dX0_stepInto_11 0 rfl ?_
    refine t_getR 340 dX0_stepInto_12 F_X0_29 qr_334_8 ?_
    refine mj_iload dX0_stepInto_15 3 rfl ?_
    refine t_chkK hk (fun c0 hk => ?_)
    refine t_lald dX0_stepInto_17 qa_340 (t_ixv c0) ?_
    exact B_X0_stepInto_18 _ _ _ _ _ _ hk
  · refine mj_ldc2 dX0_stepInto_5 K_X0_69 ?_
    refine mj_goto 18 dX0_stepInto_8 (by decide) ?_
    exact B_X0_stepInto_18 _ _ _ _ _ _ hk

theorem dX8_told_0 : decode cX8_told 0 = .ok (.lload_n 0, 1) := by decide +kernel
theorem dX8_told_1 : decode cX8_told 1 = .ok (.bipush 12, 2) := by decide +kernel
theorem dX8_told_3 : decode cX8_told 3 = .ok (.lshr, 1) := by decide +kernel
theorem dX8_told_4 : decode cX8_told 4 = .ok (.lreturn, 1) := by decide +kernel
noncomputable def f_X8_told (x1 : Int64) (s : t_S) : Int64 :=
 (x1 >>> ((12 : Int32).toInt64 &&& 63))
set_option maxRecDepth 4000 in
set_option maxHeartbeats 1000000 in
theorem C_X8_told (x1 : Int64) (s : t_S) : t_C yX8_told cX8_told 2 (some .long) 0 [.long x1] s (fun v s' => v = some (.long (f_X8_told x1 s)) ∧ s' = s) := by
  refine t_C.imp (P := fun v s' => s' = s ∧ ∃ x, v = some (.long x) ∧ (fun r => r = f_X8_told x1 s) (x)) (t_C.of (by decide +kernel) (Nat.le_of_ble_eq_true rfl) ?_) (fun v s' hp => by obtain ⟨rfl, x, rfl, rfl⟩ := hp; exact ⟨rfl, rfl⟩)
  intro D cy ad bs X
  have hk : t_ht (f_X8_told x1 s) (fun r => r = f_X8_told x1 s) := rfl
  show mj_G D cy ad bs X cX8_told 2 yX8_told.cls (some .long) yX8_told.name 0 0 0 1065 (t_P (fun v s' => s' = s ∧ ∃ x, v = some (.long x) ∧ (fun r => r = f_X8_told x1 s) (x))) 0 [(0, .long x1)] [] (t_m s) 1065 0 0
  refine mj_lload_n dX8_told_0 0 rfl ?_
  refine mj_bipush (v := 12) dX8_told_1 (by decide) ?_
  refine mj_lshr dX8_told_3 rfl ?_
  exact t_lret dX8_told_4 rfl ⟨rfl, _, rfl, hk⟩ (Nat.le_of_ble_eq_true rfl) (Nat.le_of_ble_eq_true rfl)

