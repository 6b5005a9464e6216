theorem qa_2 : t_oka 2 0 12000 = true := by decide +kernel
theorem qa_3 : t_oka 3 1 12001 = true := by decide +kernel
theorem qa_324 : t_oka 324 1 3001 = true := by decide +kernel
theorem qa_4 : t_oka 4 1 12001 = true := by decide +kernel
theorem qa_5 : t_oka 5 2 12001 = true := by decide +kernel
theorem qc_12 : t_okc 12 8 = true := by decide +kernel
theorem qc_316 : t_okc 316 11 = true := by decide +kernel
theorem qc_353 : t_okc 353 10 = true := by decide +kernel
theorem qc_428 : t_okc 428 5 = true := by decide +kernel
theorem qc_845 : t_okc 845 6 = true := by decide +kernel
theorem qc_846 : t_okc 846 3 = true := by decide +kernel
theorem qc_864 : t_okc 864 7 = true := by decide +kernel
theorem qf_12_4 : t_okf 12 8 4 0 = true := by decide +kernel
theorem qf_12_5 : t_okf 12 8 5 0 = true := by decide +kernel
theorem qf_1_10 : t_okf 1 2 10 1 = true := by decide +kernel
theorem qf_1_11 : t_okf 1 2 11 0 = true := by decide +kernel
theorem qf_1_12 : t_okf 1 2 12 0 = true := by decide +kernel
theorem qf_1_13 : t_okf 1 2 13 0 = true := by decide +kernel
theorem qf_1_2 : t_okf 1 2 2 0 = true := by decide +kernel
theorem qf_1_6 : t_okf 1 2 6 0 = true := by decide +kernel
theorem qf_1_7 : t_okf 1 2 7 0 = true := by decide +kernel
theorem qf_1_8 : t_okf 1 2 8 0 = true := by decide +kernel
theorem qf_1_9 : t_okf 1 2 9 0 = true := by decide +kernel
theorem qf_316_10 : t_okf 316 11 10 0 = true := by decide +kernel
theorem qf_316_13 : t_okf 316 11 13 0 = true := by decide +kernel
theorem qf_316_15 : t_okf 316 11 15 0 = true := by decide +kernel
theorem qf_316_8 : t_okf 316 11 8 0 = true := by decide +kernel
theorem qf_334_14 : t_okf 334 0 14 0 = true := by decide +kernel
theorem qf_334_2 : t_okf 334 0 2 0 = true := by decide +kernel
theorem qf_334_4 : t_okf 334 0 4 0 = true := by decide +kernel
theorem qf_353_11 : t_okf 353 10 11 0 = true := by decide +kernel
theorem qf_353_9 : t_okf 353 10 9 0 = true := by decide +kernel
theorem qf_428_0 : t_okf 428 5 0 0 = true := by decide +kernel
theorem qf_428_18 : t_okf 428 5 18 0 = true := by decide +kernel
theorem qf_428_9 : t_okf 428 5 9 0 = true := by decide +kernel
theorem qf_845_10 : t_okf 845 6 10 0 = true := by decide +kernel
theorem qf_845_11 : t_okf 845 6 11 0 = true := by decide +kernel
theorem qf_845_12 : t_okf 845 6 12 0 = true := by decide +kernel
theorem qf_845_13 : t_okf 845 6 13 0 = true := by decide +kernel
theorem qf_845_14 : t_okf 845 6 14 0 = true := by decide +kernel
theorem qf_845_15 : t_okf 845 6 15 0 = true := by decide +kernel
theorem qf_845_16 : t_okf 845 6 16 0 = true := by decide +kernel
theorem qf_845_7 : t_okf 845 6 7 0 = true := by decide +kernel
theorem qf_845_9 : t_okf 845 6 9 0 = true := by decide +kernel
theorem qf_846_6 : t_okf 846 3 6 0 = true := by decide +kernel
theorem qf_846_7 : t_okf 846 3 7 0 = true := by decide +kernel
theorem qf_846_8 : t_okf 846 3 8 0 = true := by decide +kernel
theorem qf_864_6 : t_okf 864 7 6 0 = true := by decide +kernel
theorem qf_864_7 : t_okf 864 7 7 1 = true := by decide +kernel
theorem qr_0_2 : t_okr 0 12 2 316 = true := by decide +kernel
theorem qr_0_6 : t_okr 0 12 6 845 = true := by decide +kernel
theorem qr_1_0 : t_okr 1 2 0 2 = true := by decide +kernel
theorem qr_1_3 : t_okr 1 2 3 3 = true := by decide +kernel
theorem qr_1_4 : t_okr 1 2 4 4 = true := by decide +kernel
theorem qr_1_5 : t_okr 1 2 5 5 = true := by decide +kernel
theorem qr_316_7 : t_okr 316 11 7 324 = true := by decide +kernel
theorem qr_353_21 : t_okr 353 10 21 334 = true := by decide +kernel
theorem qr_845_0 : t_okr 845 6 0 1 = true := by decide +kernel
theorem qr_845_1 : t_okr 845 6 1 316 = true := by decide +kernel
theorem qr_845_2 : t_okr 845 6 2 353 = true := by decide +kernel
theorem qr_845_3 : t_okr 845 6 3 334 = true := by decide +kernel
theorem qr_845_4 : t_okr 845 6 4 428 = true := by decide +kernel
theorem qr_845_5 : t_okr 845 6 5 846 = true := by decide +kernel
theorem qr_846_1 : t_okr 846 3 1 316 = true := by decide +kernel
theorem qr_846_2 : t_okr 846 3 2 353 = true := by decide +kernel
theorem qr_864_0 : t_okr 864 7 0 12 = true := by decide +kernel
theorem dX2_append4_0 : decode cX2_append4 0 = .ok (.bipush 24, 2) := by decide +kernel
theorem dX2_append4_11 : decode cX2_append4 11 = .ok (.aload_n 0, 1) := by decide +kernel
theorem dX2_append4_12 : decode cX2_append4 12 = .ok (.getfield 61, 3) := by decide +kernel
theorem dX2_append4_15 : decode cX2_append4 15 = .ok (.iload_n 1, 1) := by decide +kernel
theorem dX2_append4_16 : decode cX2_append4 16 = .ok (.iload_n 2, 1) := by decide +kernel
theorem dX2_append4_17 : decode cX2_append4 17 = .ok (.iushr, 1) := by decide +kernel
theorem dX2_append4_18 : decode cX2_append4 18 = .ok (.i2b, 1) := by decide +kernel
theorem dX2_append4_19 : decode cX2_append4 19 = .ok (.bastore, 1) := by decide +kernel
theorem dX2_append4_2 : decode cX2_append4 2 = .ok (.istore_n 2, 1) := by decide +kernel
theorem dX2_append4_20 : decode cX2_append4 20 = .ok (.aload_n 0, 1) := by decide +kernel
theorem dX2_append4_21 : decode cX2_append4 21 = .ok (.dup, 1) := by decide +kernel
theorem dX2_append4_22 : decode cX2_append4 22 = .ok (.getfield 61, 3) := by decide +kernel
theorem dX2_append4_25 : decode cX2_append4 25 = .ok (.iconst 1, 1) := by decide +kernel
theorem dX2_append4_26 : decode cX2_append4 26 = .ok (.iadd, 1) := by decide +kernel
theorem dX2_append4_27 : decode cX2_append4 27 = .ok (.putfield 61, 3) := by decide +kernel
theorem dX2_append4_3 : decode cX2_append4 3 = .ok (.iload_n 2, 1) := by decide +kernel
theorem dX2_append4_30 : decode cX2_append4 30 = .ok (.iinc 2 (-8), 3) := by decide +kernel
theorem dX2_append4_33 : decode cX2_append4 33 = .ok (.goto (-30), 3) := by decide +kernel
theorem dX2_append4_36 : decode cX2_append4 36 = .ok (.return_, 1) := by decide +kernel
theorem dX2_append4_4 : decode cX2_append4 4 = .ok (.ifCond .lt 32, 3) := by decide +kernel
theorem dX2_append4_7 : decode cX2_append4 7 = .ok (.aload_n 0, 1) := by decide +kernel
theorem dX2_append4_8 : decode cX2_append4 8 = .ok (.getfield 11, 3) := by decide +kernel
set_option maxRecDepth 4000 in
set_option maxHeartbeats 400000 in
theorem N_X2_append4_0 (s : t_S) (x1 : Int32) (h_I_1_1 : s.1 1 1 = 0) : t_C yX2_append4 cX2_append4 3 none 0 [.ref 1, .int x1] s (fun v s' => v = none ∧ (s'.1 1 1 = 4) ∧ t_keep [1, 2] s s') := by
  refine t_C.of (by decide +kernel) (Nat.le_of_ble_eq_true rfl) ?_
  intro D cy ad bs X
  suffices main : ∀ post : Option Value → t_S → Prop, (∀ v s', (v = none ∧ (s'.1 1 1 = 4) ∧ t_keep [1, 2] s s') → post v s') → mj_G D cy ad bs X cX2_append4 3 yX2_append4.cls none yX2_append4.name 0 0 0 1065 (t_P post) 0 [(0, .ref 1), (1, .int x1)] [] (t_m s) 1065 0 0 from main _ (fun _ _ h => h)
  intro post hpost
  refine mj_bipush (v := 24) dX2_append4_0 (by decide) ?_
  refine mj_istore_n 2 (lv2 := [(2, .int 24), (0, .ref 1), (1, .int x1)]) dX2_append4_2 rfl (by decide) rfl ?_
  refine mj_iload_n dX2_append4_3 0 rfl ?_
  refine mj_if_lt 36 dX2_append4_4 (by decide) (fun z => absurd z (by decide)) (fun _ => ?_)
  refine mj_aload_n dX2_append4_7 1 rfl ?_
  refine t_getR 2 dX2_append4_8 F_X2_11 qr_1_0 ?_
  refine mj_aload_n dX2_append4_11 1 rfl ?_
  refine t_getI dX2_append4_12 F_X2_61 qf_1_1 ?_
  rw [h_I_1_1]
  refine mj_iload_n dX2_append4_15 2 rfl ?_
  refine mj_iload_n dX2_append4_16 0 rfl ?_
  refine mj_iushr dX2_append4_17 rfl ?_
  generalize hgg1 : ((x1 : Int32).toUInt32 >>> ((24 : Int32).toUInt32 &&& Int32.toUInt32 31)).toInt32 = g1
  refine mj_i2b (v := g1.toInt8.toInt32) dX2_append4_18 rfl ?_
  refine t_bast dX2_append4_19 qa_2 (by unfold vp_in; decide) ?_
  rw [show (0 : Int32).toNatClampNeg = 0 by decide]
  obtain ⟨s2, w3⟩ : ∃ z, z = t_setI s 2 0 ((g1.toInt8.toInt32 : Int32).toInt8.toInt32) := ⟨_, rfl⟩
  rw [← w3]
  refine mj_aload_n dX2_append4_20 1 rfl ?_
  refine mj_dup dX2_append4_21 rfl ?_
  refine t_getI dX2_append4_22 F_X2_61 qf_1_1 ?_
  rw [((t_oI w3 1 1 rfl).trans h_I_1_1)]
  refine mj_iconst (v := 1) dX2_append4_25 (by decide) ?_
  refine mj_iadd dX2_append4_26 ?_
  rw [show (0 : Int32) + 1 = 1 by decide]
  refine t_putI dX2_append4_27 F_X2_61 qf_1_1 (by decide) ?_
  obtain ⟨s4, w5⟩ : ∃ z, z = t_setI s2 1 1 1 := ⟨_, rfl⟩
  rw [← w5]
  refine mj_iinc (k := 0) (v := 16) (lv2 := [(2, .int 16), (0, .ref 1), (1, .int x1)]) dX2_append4_30 rfl (by decide) (by decide) rfl ?_
  refine mj_goto 3 dX2_append4_33 (by decide) ?_
  refine mj_iload_n dX2_append4_3 0 rfl ?_
  refine mj_if_lt 36 dX2_append4_4 (by decide) (fun z => absurd z (by decide)) (fun _ => ?_)
  refine mj_aload_n dX2_append4_7 1 rfl ?_
  refine t_getR 2 dX2_append4_8 F_X2_11 qr_1_0 ?_
  refine mj_aload_n dX2_append4_11 1 rfl ?_
  refine t_getI dX2_append4_12 F_X2_61 qf_1_1 ?_
  rw [(t_wI w5)]
  refine mj_iload_n dX2_append4_15 2 rfl ?_
  refine mj_iload_n dX2_append4_16 0 rfl ?_
  refine mj_iushr dX2_append4_17 rfl ?_
  generalize hgg6 : ((x1 : Int32).toUInt32 >>> ((16 : Int32).toUInt32 &&& Int32.toUInt32 31)).toInt32 = g6
  refine mj_i2b (v := g6.toInt8.toInt32) dX2_append4_18 rfl ?_
  refine t_bast dX2_append4_19 qa_2 (by unfold vp_in; decide) ?_
  rw [show (1 : Int32).toNatClampNeg = 1 by decide]
  obtain ⟨s7, w8⟩ : ∃ z, z = t_setI s4 2 1 ((g6.toInt8.toInt32 : Int32).toInt8.toInt32) := ⟨_, rfl⟩
  rw [← w8]
  refine mj_aload_n dX2_append4_20 1 rfl ?_
  refine mj_dup dX2_append4_21 rfl ?_
  refine t_getI dX2_append4_22 F_X2_61 qf_1_1 ?_
  rw [((t_oI w8 1 1 rfl).trans (t_wI w5))]
  refine mj_iconst (v := 1) dX2_append4_25 (by decide) ?_
  refine mj_iadd dX2_append4_26 ?_
  rw [show (1 : Int32) + 1 = 2 by decide]
  refine t_putI dX2_append4_27 F_X2_61 qf_1_1 (by decide) ?_
  obtain ⟨s9, w10⟩ : ∃ z, z = t_setI s7 1 1 2 := ⟨_, rfl⟩
  rw [← w10]
  refine mj_iinc (k := 0) (v := 8) (lv2 := [(2, .int 8), (0, .ref 1), (1, .int x1)]) dX2_append4_30 rfl (by decide) (by decide) rfl ?_
  refine mj_goto 3 dX2_append4_33 (by decide) ?_
  refine mj_iload_n dX2_append4_3 0 rfl ?_
  refine mj_if_lt 36 dX2_append4_4 (by decide) (fun z => absurd z (by decide)) (fun _ => ?_)
  refine mj_aload_n dX2_append4_7 1 rfl ?_
  refine t_getR 2 dX2_append4_8 F_X2_11 qr_1_0 ?_
  refine mj_aload_n dX2_append4_11 1 rfl ?_
  refine t_getI dX2_append4_12 F_X2_61 qf_1_1 ?_
  rw [(t_wI w10)]
  refine mj_iload_n dX2_append4_15 2 rfl ?_
  refine mj_iload_n dX2_append4_16 0 rfl ?_
  refine mj_iushr dX2_append4_17 rfl ?_
  generalize hgg11 : ((x1 : Int32).toUInt32 >>> ((8 : Int32).toUInt32 &&& Int32.toUInt32 31)).toInt32 = g11
  refine mj_i2b (v := g11.toInt8.toInt32) dX2_append4_18 rfl ?_
  refine t_bast dX2_append4_19 qa_2 (by unfold vp_in; decide) ?_
  rw [show (2 : Int32).toNatClampNeg = 2 by decide]
  obtain ⟨s12, w13⟩ : ∃ z, z = t_setI s9 2 2 ((g11.toInt8.toInt32 : Int32).toInt8.toInt32) := ⟨_, rfl⟩
  rw [← w13]
  refine mj_aload_n dX2_append4_20 1 rfl ?_
  refine mj_dup dX2_append4_21 rfl ?_
  refine t_getI dX2_append4_22 F_X2_61 qf_1_1 ?_
  rw [((t_oI w13 1 1 rfl).trans (t_wI w10))]
  refine mj_iconst (v := 1) dX2_append4_25 (by decide) ?_
  refine mj_iadd dX2_append4_26 ?_
  rw [show (2 : Int32) + 1 = 3 by decide]
  refine t_putI dX2_append4_27 F_X2_61 qf_1_1 (by decide) ?_
  obtain ⟨s14, w15⟩ : ∃ z, z = t_setI s12 1 1 3 := ⟨_, rfl⟩
  rw [← w15]
  refine mj_iinc (k := 0) (v := 0) (lv2 := [(2, .int 0), (0, .ref 1), (1, .int x1)]) dX2_append4_30 rfl (by decide) (by decide) rfl ?_
  refine mj_goto 3 dX2_append4_33 (by decide) ?_
  refine mj_iload_n dX2_append4_3 0 rfl ?_
  refine mj_if_lt 36 dX2_append4_4 (by decide) (fun z => absurd z (by decide)) (fun _ => ?_)
  refine mj_aload_n dX2_append4_7 1 rfl ?_
  refine t_getR 2 dX2_append4_8 F_X2_11 qr_1_0 ?_
  refine mj_aload_n dX2_append4_11 1 rfl ?_
  refine t_getI dX2_append4_12 F_X2_61 qf_1_1 ?_
  rw [(t_wI w15)]
  refine mj_iload_n dX2_append4_15 2 rfl ?_
  refine mj_iload_n dX2_append4_16 0 rfl ?_
  refine mj_iushr dX2_append4_17 rfl ?_
  generalize hgg16 : ((x1 : Int32).toUInt32 >>> ((0 : Int32).toUInt32 &&& Int32.toUInt32 31)).toInt32 = g16
  refine mj_i2b (v := g16.toInt8.toInt32) dX2_append4_18 rfl ?_
  refine t_bast dX2_append4_19 qa_2 (by unfold vp_in; decide) ?_
  rw [show (3 : Int32).toNatClampNeg = 3 by decide]
  obtain ⟨s17, w18⟩ : ∃ z, z = t_setI s14 2 3 ((g16.toInt8.toInt32 : Int32).toInt8.toInt32) := ⟨_, rfl⟩
  rw [← w18]
  refine mj_aload_n dX2_append4_20 1 rfl ?_
  refine mj_dup dX2_append4_21 rfl ?_
  refine t_getI dX2_append4_22 F_X2_61 qf_1_1 ?_
  rw [((t_oI w18 1 1 rfl).trans (t_wI w15))]
  refine mj_iconst (v := 1) dX2_append4_25 (by decide) ?_
  refine mj_iadd dX2_append4_26 ?_
  rw [show (3 : Int32) + 1 = 4 by decide]
  refine t_putI dX2_append4_27 F_X2_61 qf_1_1 (by decide) ?_
  obtain ⟨s19, w20⟩ : ∃ z, z = t_setI s17 1 1 4 := ⟨_, rfl⟩
  rw [← w20]
  refine mj_iinc (k := 0) (v := (-8)) (lv2 := [(2, .int (-8)), (0, .ref 1), (1, .int x1)]) dX2_append4_30 rfl (by decide) (by decide) rfl ?_
  refine mj_goto 3 dX2_append4_33 (by decide) ?_
  refine mj_iload_n dX2_append4_3 0 rfl ?_
  refine mj_if_lt 36 dX2_append4_4 (by decide) (fun _ => ?_) (fun z => absurd (by decide) z)
  exact t_vret dX2_append4_36 rfl (hpost _ _ ⟨rfl, (t_wI w20), ((((((((t_keep_I w3 (by decide)).trans (t_keep_I w5 (by decide))).trans (t_keep_I w8 (by decide))).trans (t_keep_I w10 (by decide))).trans (t_keep_I w13 (by decide))).trans (t_keep_I w15 (by decide))).trans (t_keep_I w18 (by decide))).trans (t_keep_I w20 (by decide)))⟩) (Nat.le_of_ble_eq_true rfl) (Nat.le_of_ble_eq_true rfl)

set_option maxRecDepth 4000 in
set_option maxHeartbeats 400000 in
theorem N_X2_append4_4 (s : t_S) (x1 : Int32) (h_I_1_1 : s.1 1 1 = 4) : t_C yX2_append4 cX2_append4 3 none 0 [.ref 1, .int x1] s (fun v s' => v = none ∧ (s'.1 1 1 = 8) ∧ t_keep [1, 2] s s') := by
  refine t_C.of (by decide +kernel) (Nat.le_of_ble_eq_true rfl) ?_
  intro D cy ad bs X
  suffices main : ∀ post : Option Value → t_S → Prop, (∀ v s', (v = none ∧ (s'.1 1 1 = 8) ∧ t_keep [1, 2] s s') → post v s') → mj_G D cy ad bs X cX2_append4 3 yX2_append4.cls none yX2_append4.name 0 0 0 1065 (t_P post) 0 [(0, .ref 1), (1, .int x1)] [] (t_m s) 1065 0 0 from main _ (fun _ _ h => h)
  intro post hpost
  refine mj_bipush (v := 24) dX2_append4_0 (by decide) ?_
  refine mj_istore_n 2 (lv2 := [(2, .int 24), (0, .ref 1), (1, .int x1)]) dX2_append4_2 rfl (by decide) rfl ?_
  refine mj_iload_n dX2_append4_3 0 rfl ?_
  refine mj_if_lt 36 dX2_append4_4 (by decide) (fun z => absurd z (by decide)) (fun _ => ?_)
  refine mj_aload_n dX2_append4_7 1 rfl ?_
  refine t_getR 2 dX2_append4_8 F_X2_11 qr_1_0 ?_
  refine mj_aload_n dX2_append4_11 1 rfl ?_
  refine t_getI dX2_append4_12 F_X2_61 qf_1_1 ?_
  rw [h_I_1_1]
  refine mj_iload_n dX2_append4_15 2 rfl ?_
  refine mj_iload_n dX2_append4_16 0 rfl ?_
  refine mj_iushr dX2_append4_17 rfl ?_
  generalize hgg1 : ((x1 : Int32).toUInt32 >>> ((24 : Int32).toUInt32 &&& Int32.toUInt32 31)).toInt32 = g1
  refine mj_i2b (v := g1.toInt8.toInt32) dX2_append4_18 rfl ?_
  refine t_bast dX2_append4_19 qa_2 (by unfold vp_in; decide) ?_
  rw [show (4 : Int32).toNatClampNeg = 4 by decide]
  obtain ⟨s2, w3⟩ : ∃ z, z = t_setI s 2 4 ((g1.toInt8.toInt32 : Int32).toInt8.toInt32) := ⟨_, rfl⟩
  rw [← w3]
  refine mj_aload_n dX2_append4_20 1 rfl ?_
  refine mj_dup dX2_append4_21 rfl ?_
  refine t_getI dX2_append4_22 F_X2_61 qf_1_1 ?_
  rw [((t_oI w3 1 1 rfl).trans h_I_1_1)]
  refine mj_iconst (v := 1) dX2_append4_25 (by decide) ?_
  refine mj_iadd dX2_append4_26 ?_
  rw [show (4 : Int32) + 1 = 5 by decide]
  refine t_putI dX2_append4_27 F_X2_61 qf_1_1 (by decide) ?_
  obtain ⟨s4, w5⟩ : ∃ z, z = t_setI s2 1 1 5 := ⟨_, rfl⟩
  rw [← w5]
  refine mj_iinc (k := 0) (v := 16) (lv2 := [(2, .int 16), (0, .ref 1), (1, .int x1)]) dX2_append4_30 rfl (by decide) (by decide) rfl ?_
  refine mj_goto 3 dX2_append4_33 (by decide) ?_
  refine mj_iload_n dX2_append4_3 0 rfl ?_
  refine mj_if_lt 36 dX2_append4_4 (by decide) (fun z => absurd z (by decide)) (fun _ => ?_)
  refine mj_aload_n dX2_append4_7 1 rfl ?_
  refine t_getR 2 dX2_append4_8 F_X2_11 qr_1_0 ?_
  refine mj_aload_n dX2_append4_11 1 rfl ?_
  refine t_getI dX2_append4_12 F_X2_61 qf_1_1 ?_
  rw [(t_wI w5)]
  refine mj_iload_n dX2_append4_15 2 rfl ?_
  refine mj_iload_n dX2_append4_16 0 rfl ?_
  refine mj_iushr dX2_append4_17 rfl ?_
  generalize hgg6 : ((x1 : Int32).toUInt32 >>> ((16 : Int32).toUInt32 &&& Int32.toUInt32 31)).toInt32 = g6
  refine mj_i2b (v := g6.toInt8.toInt32) dX2_append4_18 rfl ?_
  refine t_bast dX2_append4_19 qa_2 (by unfold vp_in; decide) ?_
  rw [show (5 : Int32).toNatClampNeg = 5 by decide]
  obtain ⟨s7, w8⟩ : ∃ z, z = t_setI s4 2 5 ((g6.toInt8.toInt32 : Int32).toInt8.toInt32) := ⟨_, rfl⟩
  rw [← w8]
  refine mj_aload_n dX2_append4_20 1 rfl ?_
  refine mj_dup dX2_append4_21 rfl ?_
  refine t_getI dX2_append4_22 F_X2_61 qf_1_1 ?_
  rw [((t_oI w8 1 1 rfl).trans (t_wI w5))]
  refine mj_iconst (v := 1) dX2_append4_25 (by decide) ?_
  refine mj_iadd dX2_append4_26 ?_
  rw [show (5 : Int32) + 1 = 6 by decide]
  refine t_putI dX2_append4_27 F_X2_61 qf_1_1 (by decide) ?_
  obtain ⟨s9, w10⟩ : ∃ z, z = t_setI s7 1 1 6 := ⟨_, rfl⟩
  rw [← w10]
  refine mj_iinc (k := 0) (v := 8) (lv2 := [(2, .int 8), (0, .ref 1), (1, .int x1)]) dX2_append4_30 rfl (by decide) (by decide) rfl ?_
  refine mj_goto 3 dX2_append4_33 (by decide) ?_
  refine mj_iload_n dX2_append4_3 0 rfl ?_
  refine mj_if_lt 36 dX2_append4_4 (by decide) (fun z => absurd z (by decide)) (fun _ => ?_)
  refine mj_aload_n dX2_append4_7 1 rfl ?_
  refine t_getR 2 dX2_append4_8 F_X2_11 qr_1_0 ?_
  refine mj_aload_n dX2_append4_11 1 rfl ?_
  refine t_getI dX2_append4_12 F_X2_61 qf_1_1 ?_
  rw [(t_wI w10)]
  refine mj_iload_n dX2_append4_15 2 rfl ?_
  refine mj_iload_n dX2_append4_16 0 rfl ?_
  refine mj_iushr dX2_append4_17 rfl ?_
  generalize hgg11 : ((x1 : Int32).toUInt32 >>> ((8 : Int32).toUInt32 &&& Int32.toUInt32 31)).toInt32 = g11
  refine mj_i2b (v := g11.toInt8.toInt32) dX2_append4_18 rfl ?_
  refine t_bast dX2_append4_19 qa_2 (by unfold vp_in; decide) ?_
  rw [show (6 : Int32).toNatClampNeg = 6 by decide]
  obtain ⟨s12, w13⟩ : ∃ z, z = t_setI s9 2 6 ((g11.toInt8.toInt32 : Int32).toInt8.toInt32) := ⟨_, rfl⟩
  rw [← w13]
  refine mj_aload_n dX2_append4_20 1 rfl ?_
  refine mj_dup dX2_append4_21 rfl ?_
  refine t_getI dX2_append4_22 F_X2_61 qf_1_1 ?_
  rw [((t_oI w13 1 1 rfl).trans (t_wI w10))]
  refine mj_iconst (v := 1) dX2_append4_25 (by decide) ?_
  refine mj_iadd dX2_append4_26 ?_
  rw [show (6 : Int32) + 1 = 7 by decide]
  refine t_putI dX2_append4_27 F_X2_61 qf_1_1 (by decide) ?_
  obtain ⟨s14, w15⟩ : ∃ z, z = t_setI s12 1 1 7 := ⟨_, rfl⟩
  rw [← w15]
  refine mj_iinc (k := 0) (v := 0) (lv2 := [(2, .int 0), (0, .ref 1), (1, .int x1)]) dX2_append4_30 rfl (by decide) (by decide) rfl ?_
  refine mj_goto 3 dX2_append4_33 (by decide) ?_
  refine mj_iload_n dX2_append4_3 0 rfl ?_
  refine mj_if_lt 36 dX2_append4_4 (by decide) (fun z => absurd z (by decide)) (fun _ => ?_)
  refine mj_aload_n dX2_append4_7 1 rfl ?_
  refine t_getR 2 dX2_append4_8 F_X2_11 qr_1_0 ?_
  refine mj_aload_n dX2_append4_11 1 rfl ?_
  refine t_getI dX2_append4_12 F_X2_61 qf_1_1 ?_
  rw [(t_wI w15)]
  refine mj_iload_n dX2_append4_15 2 rfl ?_
  refine mj_iload_n dX2_append4_16 0 rfl ?_
  refine mj_iushr dX2_append4_17 rfl ?_
  generalize hgg16 : ((x1 : Int32).toUInt32 >>> ((0 : Int32).toUInt32 &&& Int32.toUInt32 31)).toInt32 = g16
  refine mj_i2b (v := g16.toInt8.toInt32) dX2_append4_18 rfl ?_
  refine t_bast dX2_append4_19 qa_2 (by unfold vp_in; decide) ?_
  rw [show (7 : Int32).toNatClampNeg = 7 by decide]
  obtain ⟨s17, w18⟩ : ∃ z, z = t_setI s14 2 7 ((g16.toInt8.toInt32 : Int32).toInt8.toInt32) := ⟨_, rfl⟩
  rw [← w18]
  refine mj_aload_n dX2_append4_20 1 rfl ?_
  refine mj_dup dX2_append4_21 rfl ?_
  refine t_getI dX2_append4_22 F_X2_61 qf_1_1 ?_
  rw [((t_oI w18 1 1 rfl).trans (t_wI w15))]
  refine mj_iconst (v := 1) dX2_append4_25 (by decide) ?_
  refine mj_iadd dX2_append4_26 ?_
  rw [show (7 : Int32) + 1 = 8 by decide]
  refine t_putI dX2_append4_27 F_X2_61 qf_1_1 (by decide) ?_
  obtain ⟨s19, w20⟩ : ∃ z, z = t_setI s17 1 1 8 := ⟨_, rfl⟩
  rw [← w20]
  refine mj_iinc (k := 0) (v := (-8)) (lv2 := [(2, .int (-8)), (0, .ref 1), (1, .int x1)]) dX2_append4_30 rfl (by decide) (by decide) rfl ?_
  refine mj_goto 3 dX2_append4_33 (by decide) ?_
  refine mj_iload_n dX2_append4_3 0 rfl ?_
  refine mj_if_lt 36 dX2_append4_4 (by decide) (fun _ => ?_) (fun z => absurd (by decide) z)
  exact t_vret dX2_append4_36 rfl (hpost _ _ ⟨rfl, (t_wI w20), ((((((((t_keep_I w3 (by decide)).trans (t_keep_I w5 (by decide))).trans (t_keep_I w8 (by decide))).trans (t_keep_I w10 (by decide))).trans (t_keep_I w13 (by decide))).trans (t_keep_I w15 (by decide))).trans (t_keep_I w18 (by decide))).trans (t_keep_I w20 (by decide)))⟩) (Nat.le_of_ble_eq_true rfl) (Nat.le_of_ble_eq_true rfl)

set_option maxRecDepth 4000 in
set_option maxHeartbeats 400000 in
theorem N_X2_append4_8 (s : t_S) (x1 : Int32) (h_I_1_1 : s.1 1 1 = 8) : t_C yX2_append4 cX2_append4 3 none 0 [.ref 1, .int x1] s (fun v s' => v = none ∧ (s'.1 1 1 = 12) ∧ t_keep [1, 2] s s') := by
  refine t_C.of (by decide +kernel) (Nat.le_of_ble_eq_true rfl) ?_
  intro D cy ad bs X
  suffices main : ∀ post : Option Value → t_S → Prop, (∀ v s', (v = none ∧ (s'.1 1 1 = 12) ∧ t_keep [1, 2] s s') → post v s') → mj_G D cy ad bs X cX2_append4 3 yX2_append4.cls none yX2_append4.name 0 0 0 1065 (t_P post) 0 [(0, .ref 1), (1, .int x1)] [] (t_m s) 1065 0 0 from main _ (fun _ _ h => h)
  intro post hpost
  refine mj_bipush (v := 24) dX2_append4_0 (by decide) ?_
  refine mj_istore_n 2 (lv2 := [(2, .int 24), (0, .ref 1), (1, .int x1)]) dX2_append4_2 rfl (by decide) rfl ?_
  refine mj_iload_n dX2_append4_3 0 rfl ?_
  refine mj_if_lt 36 dX2_append4_4 (by decide) (fun z => absurd z (by decide)) (fun _ => ?_)
  refine mj_aload_n dX2_append4_7 1 rfl ?_
  refine t_getR 2 dX2_append4_8 F_X2_11 qr_1_0 ?_
  refine mj_aload_n dX2_append4_11 1 rfl ?_
  refine t_getI dX2_append4_12 F_X2_61 qf_1_1 ?_
  rw [h_I_1_1]
  refine mj_iload_n dX2_append4_15 2 rfl ?_
  refine mj_iload_n dX2_append4_16 0 rfl ?_
  refine mj_iushr dX2_append4_17 rfl ?_
  generalize hgg1 : ((x1 : Int32).toUInt32 >>> ((24 : Int32).toUInt32 &&& Int32.toUInt32 31)).toInt32 = g1
  refine mj_i2b (v := g1.toInt8.toInt32) dX2_append4_18 rfl ?_
  refine t_bast dX2_append4_19 qa_2 (by unfold vp_in; decide) ?_
  rw [show (8 : Int32).toNatClampNeg = 8 by decide]
  obtain ⟨s2, w3⟩ : ∃ z, z = t_setI s 2 8 ((g1.toInt8.toInt32 : Int32).toInt8.toInt32) := ⟨_, rfl⟩
  rw [← w3]
  refine mj_aload_n dX2_append4_20 1 rfl ?_
  refine mj_dup dX2_append4_21 rfl ?_
  refine t_getI dX2_append4_22 F_X2_61 qf_1_1 ?_
  rw [((t_oI w3 1 1 rfl).trans h_I_1_1)]
  refine mj_iconst (v := 1) dX2_append4_25 (by decide) ?_
  refine mj_iadd dX2_append4_26 ?_
  rw [show (8 : Int32) + 1 = 9 by decide]
  refine t_putI dX2_append4_27 F_X2_61 qf_1_1 (by decide) ?_
  obtain ⟨s4, w5⟩ : ∃ z, z = t_setI s2 1 1 9 := ⟨_, rfl⟩
  rw [← w5]
  refine mj_iinc (k := 0) (v := 16) (lv2 := [(2, .int 16), (0, .ref 1), (1, .int x1)]) dX2_append4_30 rfl (by decide) (by decide) rfl ?_
  refine mj_goto 3 dX2_append4_33 (by decide) ?_
  refine mj_iload_n dX2_append4_3 0 rfl ?_
  refine mj_if_lt 36 dX2_append4_4 (by decide) (fun z => absurd z (by decide)) (fun _ => ?_)
  refine mj_aload_n dX2_append4_7 1 rfl ?_
  refine t_getR 2 dX2_append4_8 F_X2_11 qr_1_0 ?_
  refine mj_aload_n dX2_append4_11 1 rfl ?_
  refine t_getI dX2_append4_12 F_X2_61 qf_1_1 ?_
  rw [(t_wI w5)]
  refine mj_iload_n dX2_append4_15 2 rfl ?_
  refine mj_iload_n dX2_append4_16 0 rfl ?_
  refine mj_iushr dX2_append4_17 rfl ?_
  generalize hgg6 : ((x1 : Int32).toUInt32 >>> ((16 : Int32).toUInt32 &&& Int32.toUInt32 31)).toInt32 = g6
  refine mj_i2b (v := g6.toInt8.toInt32) dX2_append4_18 rfl ?_
  refine t_bast dX2_append4_19 qa_2 (by unfold vp_in; decide) ?_
  rw [show (9 : Int32).toNatClampNeg = 9 by decide]
  obtain ⟨s7, w8⟩ : ∃ z, z = t_setI s4 2 9 ((g6.toInt8.toInt32 : Int32).toInt8.toInt32) := ⟨_, rfl⟩
  rw [← w8]
  refine mj_aload_n dX2_append4_20 1 rfl ?_
  refine mj_dup dX2_append4_21 rfl ?_
  refine t_getI dX2_append4_22 F_X2_61 qf_1_1 ?_
  rw [((t_oI w8 1 1 rfl).trans (t_wI w5))]
  refine mj_iconst (v := 1) dX2_append4_25 (by decide) ?_
  refine mj_iadd dX2_append4_26 ?_
  rw [show (9 : Int32) + 1 = 10 by decide]
  refine t_putI dX2_append4_27 F_X2_61 qf_1_1 (by decide) ?_
  obtain ⟨s9, w10⟩ : ∃ z, z = t_setI s7 1 1 10 := ⟨_, rfl⟩
  rw [← w10]
  refine mj_iinc (k := 0) (v := 8) (lv2 := [(2, .int 8), (0, .ref 1), (1, .int x1)]) dX2_append4_30 rfl (by decide) (by decide) rfl ?_
  refine mj_goto 3 dX2_append4_33 (by decide) ?_
  refine mj_iload_n dX2_append4_3 0 rfl ?_
  refine mj_if_lt 36 dX2_append4_4 (by decide) (fun z => absurd z (by decide)) (fun _ => ?_)
  refine mj_aload_n dX2_append4_7 1 rfl ?_
  refine t_getR 2 dX2_append4_8 F_X2_11 qr_1_0 ?_
  refine mj_aload_n dX2_append4_11 1 rfl ?_
  refine t_getI dX2_append4_12 F_X2_61 qf_1_1 ?_
  rw [(t_wI w10)]
  refine mj_iload_n dX2_append4_15 2 rfl ?_
  refine mj_iload_n dX2_append4_16 0 rfl ?_
  refine mj_iushr dX2_append4_17 rfl ?_
  generalize hgg11 : ((x1 : Int32).toUInt32 >>> ((8 : Int32).toUInt32 &&& Int32.toUInt32 31)).toInt32 = g11
  refine mj_i2b (v := g11.toInt8.toInt32) dX2_append4_18 rfl ?_
  refine t_bast dX2_append4_19 qa_2 (by unfold vp_in; decide) ?_
  rw [show (10 : Int32).toNatClampNeg = 10 by decide]
  obtain ⟨s12, w13⟩ : ∃ z, z = t_setI s9 2 10 ((g11.toInt8.toInt32 : Int32).toInt8.toInt32) := ⟨_, rfl⟩
  rw [← w13]
  refine mj_aload_n dX2_append4_20 1 rfl ?_
  refine mj_dup dX2_append4_21 rfl ?_
  refine t_getI dX2_append4_22 F_X2_61 qf_1_1 ?_
  rw [((t_oI w13 1 1 rfl).trans (t_wI w10))]
  refine mj_iconst (v := 1) dX2_append4_25 (by decide) ?_
  refine mj_iadd dX2_append4_26 ?_
  rw [show (10 : Int32) + 1 = 11 by decide]
  refine t_putI dX2_append4_27 F_X2_61 qf_1_1 (by decide) ?_
  obtain ⟨s14, w15⟩ : ∃ z, z = t_setI s12 1 1 11 := ⟨_, rfl⟩
  rw [← w15]
  refine mj_iinc (k := 0) (v := 0) (lv2 := [(2, .int 0), (0, .ref 1), (1, .int x1)]) dX2_append4_30 rfl (by decide) (by decide) rfl ?_
  refine mj_goto 3 dX2_append4_33 (by decide) ?_
  refine mj_iload_n dX2_append4_3 0 rfl ?_
  refine mj_if_lt 36 dX2_append4_4 (by decide) (fun z => absurd z (by decide)) (fun _ => ?_)
  refine mj_aload_n dX2_append4_7 1 rfl ?_
  refine t_getR 2 dX2_append4_8 F_X2_11 qr_1_0 ?_
  refine mj_aload_n dX2_append4_11 1 rfl ?_
  refine t_getI dX2_append4_12 F_X2_61 qf_1_1 ?_
  rw [(t_wI w15)]
  refine mj_iload_n dX2_append4_15 2 rfl ?_
  refine mj_iload_n dX2_append4_16 0 rfl ?_
  refine mj_iushr dX2_append4_17 rfl ?_
  generalize hgg16 : ((x1 : Int32).toUInt32 >>> ((0 : Int32).toUInt32 &&& Int32.toUInt32 31)).toInt32 = g16
  refine mj_i2b (v := g16.toInt8.toInt32) dX2_append4_18 rfl ?_
  refine t_bast dX2_append4_19 qa_2 (by unfold vp_in; decide) ?_
  rw [show (11 : Int32).toNatClampNeg = 11 by decide]
  obtain ⟨s17, w18⟩ : ∃ z, z = t_setI s14 2 11 ((g16.toInt8.toInt32 : Int32).toInt8.toInt32) := ⟨_, rfl⟩
  rw [← w18]
  refine mj_aload_n dX2_append4_20 1 rfl ?_
  refine mj_dup dX2_append4_21 rfl ?_
  refine t_getI dX2_append4_22 F_X2_61 qf_1_1 ?_
  rw [((t_oI w18 1 1 rfl).trans (t_wI w15))]
  refine mj_iconst (v := 1) dX2_append4_25 (by decide) ?_
  refine mj_iadd dX2_append4_26 ?_
  rw [show (11 : Int32) + 1 = 12 by decide]
  refine t_putI dX2_append4_27 F_X2_61 qf_1_1 (by decide) ?_
  obtain ⟨s19, w20⟩ : ∃ z, z = t_setI s17 1 1 12 := ⟨_, rfl⟩
  rw [← w20]
  refine mj_iinc (k := 0) (v := (-8)) (lv2 := [(2, .int (-8)), (0, .ref 1), (1, .int x1)]) dX2_append4_30 rfl (by decide) (by decide) rfl ?_
  refine mj_goto 3 dX2_append4_33 (by decide) ?_
  refine mj_iload_n dX2_append4_3 0 rfl ?_
  refine mj_if_lt 36 dX2_append4_4 (by decide) (fun _ => ?_) (fun z => absurd (by decide) z)
  exact t_vret dX2_append4_36 rfl (hpost _ _ ⟨rfl, (t_wI w20), ((((((((t_keep_I w3 (by decide)).trans (t_keep_I w5 (by decide))).trans (t_keep_I w8 (by decide))).trans (t_keep_I w10 (by decide))).trans (t_keep_I w13 (by decide))).trans (t_keep_I w15 (by decide))).trans (t_keep_I w18 (by decide))).trans (t_keep_I w20 (by decide)))⟩) (Nat.le_of_ble_eq_true rfl) (Nat.le_of_ble_eq_true rfl)

set_option maxRecDepth 4000 in
set_option maxHeartbeats 400000 in
theorem N_X2_append4_12 (s : t_S) (x1 : Int32) (h_I_1_1 : s.1 1 1 = 12) : t_C yX2_append4 cX2_append4 3 none 0 [.ref 1, .int x1] s (fun v s' => v = none ∧ (s'.1 1 1 = 16) ∧ t_keep [1, 2] s s') := by
  refine t_C.of (by decide +kernel) (Nat.le_of_ble_eq_true rfl) ?_
  intro D cy ad bs X
  suffices main : ∀ post : Option Value → t_S → Prop, (∀ v s', (v = none ∧ (s'.1 1 1 = 16) ∧ t_keep [1, 2] s s') → post v s') → mj_G D cy ad bs X cX2_append4 3 yX2_append4.cls none yX2_append4.name 0 0 0 1065 (t_P post) 0 [(0, .ref 1), (1, .int x1)] [] (t_m s) 1065 0 0 from main _ (fun _ _ h => h)
  intro post hpost
  refine mj_bipush (v := 24) dX2_append4_0 (by decide) ?_
  refine mj_istore_n 2 (lv2 := [(2, .int 24), (0, .ref 1), (1, .int x1)]) dX2_append4_2 rfl (by decide) rfl ?_
  refine mj_iload_n dX2_append4_3 0 rfl ?_
  refine mj_if_lt 36 dX2_append4_4 (by decide) (fun z => absurd z (by decide)) (fun _ => ?_)
  refine mj_aload_n dX2_append4_7 1 rfl ?_
  refine t_getR 2 dX2_append4_8 F_X2_11 qr_1_0 ?_
  refine mj_aload_n dX2_append4_11 1 rfl ?_
  refine t_getI dX2_append4_12 F_X2_61 qf_1_1 ?_
  rw [h_I_1_1]
  refine mj_iload_n dX2_append4_15 2 rfl ?_
  refine mj_iload_n dX2_append4_16 0 rfl ?_
  refine mj_iushr dX2_append4_17 rfl ?_
  generalize hgg1 : ((x1 : Int32).toUInt32 >>> ((24 : Int32).toUInt32 &&& Int32.toUInt32 31)).toInt32 = g1
  refine mj_i2b (v := g1.toInt8.toInt32) dX2_append4_18 rfl ?_
  refine t_bast dX2_append4_19 qa_2 (by unfold vp_in; decide) ?_
  rw [show (12 : Int32).toNatClampNeg = 12 by decide]
  obtain ⟨s2, w3⟩ : ∃ z, z = t_setI s 2 12 ((g1.toInt8.toInt32 : Int32).toInt8.toInt32) := ⟨_, rfl⟩
  rw [← w3]
  refine mj_aload_n dX2_append4_20 1 rfl ?_
  refine mj_dup dX2_append4_21 rfl ?_
  refine t_getI dX2_append4_22 F_X2_61 qf_1_1 ?_
  rw [((t_oI w3 1 1 rfl).trans h_I_1_1)]
  refine mj_iconst (v := 1) dX2_append4_25 (by decide) ?_
  refine mj_iadd dX2_append4_26 ?_
  rw [show (12 : Int32) + 1 = 13 by decide]
  refine t_putI dX2_append4_27 F_X2_61 qf_1_1 (by decide) ?_
  obtain ⟨s4, w5⟩ : ∃ z, z = t_setI s2 1 1 13 := ⟨_, rfl⟩
  rw [← w5]
  refine mj_iinc (k := 0) (v := 16) (lv2 := [(2, .int 16), (0, .ref 1), (1, .int x1)]) dX2_append4_30 rfl (by decide) (by decide) rfl ?_
  refine mj_goto 3 dX2_append4_33 (by decide) ?_
  refine mj_iload_n dX2_append4_3 0 rfl ?_
  refine mj_if_lt 36 dX2_append4_4 (by decide) (fun z => absurd z (by decide)) (fun _ => ?_)
  refine mj_aload_n dX2_append4_7 1 rfl ?_
  refine t_getR 2 dX2_append4_8 F_X2_11 qr_1_0 ?_
  refine mj_aload_n dX2_append4_11 1 rfl ?_
  refine t_getI dX2_append4_12 F_X2_61 qf_1_1 ?_
  rw [(t_wI w5)]
  refine mj_iload_n dX2_append4_15 2 rfl ?_
  refine mj_iload_n dX2_append4_16 0 rfl ?_
  refine mj_iushr dX2_append4_17 rfl ?_
  generalize hgg6 : ((x1 : Int32).toUInt32 >>> ((16 : Int32).toUInt32 &&& Int32.toUInt32 31)).toInt32 = g6
  refine mj_i2b (v := g6.toInt8.toInt32) dX2_append4_18 rfl ?_
  refine t_bast dX2_append4_19 qa_2 (by unfold vp_in; decide) ?_
  rw [show (13 : Int32).toNatClampNeg = 13 by decide]
  obtain ⟨s7, w8⟩ : ∃ z, z = t_setI s4 2 13 ((g6.toInt8.toInt32 : Int32).toInt8.toInt32) := ⟨_, rfl⟩
  rw [← w8]
  refine mj_aload_n dX2_append4_20 1 rfl ?_
  refine mj_dup dX2_append4_21 rfl ?_
  refine t_getI dX2_append4_22 F_X2_61 qf_1_1 ?_
  rw [((t_oI w8 1 1 rfl).trans (t_wI w5))]
  refine mj_iconst (v := 1) dX2_append4_25 (by decide) ?_
  refine mj_iadd dX2_append4_26 ?_
  rw [show (13 : Int32) + 1 = 14 by decide]
  refine t_putI dX2_append4_27 F_X2_61 qf_1_1 (by decide) ?_
  obtain ⟨s9, w10⟩ : ∃ z, z = t_setI s7 1 1 14 := ⟨_, rfl⟩
  rw [← w10]
  refine mj_iinc (k := 0) (v := 8) (lv2 := [(2, .int 8), (0, .ref 1), (1, .int x1)]) dX2_append4_30 rfl (by decide) (by decide) rfl ?_
  refine mj_goto 3 dX2_append4_33 (by decide) ?_
  refine mj_iload_n dX2_append4_3 0 rfl ?_
  refine mj_if_lt 36 dX2_append4_4 (by decide) (fun z => absurd z (by decide)) (fun _ => ?_)
  refine mj_aload_n dX2_append4_7 1 rfl ?_
  refine t_getR 2 dX2_append4_8 F_X2_11 qr_1_0 ?_
  refine mj_aload_n dX2_append4_11 1 rfl ?_
  refine t_getI dX2_append4_12 F_X2_61 qf_1_1 ?_
  rw [(t_wI w10)]
  refine mj_iload_n dX2_append4_15 2 rfl ?_
  refine mj_iload_n dX2_append4_16 0 rfl ?_
  refine mj_iushr dX2_append4_17 rfl ?_
  generalize hgg11 : ((x1 : Int32).toUInt32 >>> ((8 : Int32).toUInt32 &&& Int32.toUInt32 31)).toInt32 = g11
  refine mj_i2b (v := g11.toInt8.toInt32) dX2_append4_18 rfl ?_
  refine t_bast dX2_append4_19 qa_2 (by unfold vp_in; decide) ?_
  rw [show (14 : Int32).toNatClampNeg = 14 by decide]
  obtain ⟨s12, w13⟩ : ∃ z, z = t_setI s9 2 14 ((g11.toInt8.toInt32 : Int32).toInt8.toInt32) := ⟨_, rfl⟩
  rw [← w13]
  refine mj_aload_n dX2_append4_20 1 rfl ?_
  refine mj_dup dX2_append4_21 rfl ?_
  refine t_getI dX2_append4_22 F_X2_61 qf_1_1 ?_
  rw [((t_oI w13 1 1 rfl).trans (t_wI w10))]
  refine mj_iconst (v := 1) dX2_append4_25 (by decide) ?_
  refine mj_iadd dX2_append4_26 ?_
  rw [show (14 : Int32) + 1 = 15 by decide]
  refine t_putI dX2_append4_27 F_X2_61 qf_1_1 (by decide) ?_
  obtain ⟨s14, w15⟩ : ∃ z, z = t_setI s12 1 1 15 := ⟨_, rfl⟩
  rw [← w15]
  refine mj_iinc (k := 0) (v := 0) (lv2 := [(2, .int 0), (0, .ref 1), (1, .int x1)]) dX2_append4_30 rfl (by decide) (by decide) rfl ?_
  refine mj_goto 3 dX2_append4_33 (by decide) ?_
  refine mj_iload_n dX2_append4_3 0 rfl ?_
  refine mj_if_lt 36 dX2_append4_4 (by decide) (fun z => absurd z (by decide)) (fun _ => ?_)
  refine mj_aload_n dX2_append4_7 1 rfl ?_
  refine t_getR 2 dX2_append4_8 F_X2_11 qr_1_0 ?_
  refine mj_aload_n dX2_append4_11 1 rfl ?_
  refine t_getI dX2_append4_12 F_X2_61 qf_1_1 ?_
  rw [(t_wI w15)]
  refine mj_iload_n dX2_append4_15 2 rfl ?_
  refine mj_iload_n dX2_append4_16 0 rfl ?_
  refine mj_iushr dX2_append4_17 rfl ?_
  generalize hgg16 : ((x1 : Int32).toUInt32 >>> ((0 : Int32).toUInt32 &&& Int32.toUInt32 31)).toInt32 = g16
  refine mj_i2b (v := g16.toInt8.toInt32) dX2_append4_18 rfl ?_
  refine t_bast dX2_append4_19 qa_2 (by unfold vp_in; decide) ?_
  rw [show (15 : Int32).toNatClampNeg = 15 by decide]
  obtain ⟨s17, w18⟩ : ∃ z, z = t_setI s14 2 15 ((g16.toInt8.toInt32 : Int32).toInt8.toInt32) := ⟨_, rfl⟩
  rw [← w18]
  refine mj_aload_n dX2_append4_20 1 rfl ?_
  refine mj_dup dX2_append4_21 rfl ?_
  refine t_getI dX2_append4_22 F_X2_61 qf_1_1 ?_
  rw [((t_oI w18 1 1 rfl).trans (t_wI w15))]
  refine mj_iconst (v := 1) dX2_append4_25 (by decide) ?_
  refine mj_iadd dX2_append4_26 ?_
  rw [show (15 : Int32) + 1 = 16 by decide]
  refine t_putI dX2_append4_27 F_X2_61 qf_1_1 (by decide) ?_
  obtain ⟨s19, w20⟩ : ∃ z, z = t_setI s17 1 1 16 := ⟨_, rfl⟩
  rw [← w20]
  refine mj_iinc (k := 0) (v := (-8)) (lv2 := [(2, .int (-8)), (0, .ref 1), (1, .int x1)]) dX2_append4_30 rfl (by decide) (by decide) rfl ?_
  refine mj_goto 3 dX2_append4_33 (by decide) ?_
  refine mj_iload_n dX2_append4_3 0 rfl ?_
  refine mj_if_lt 36 dX2_append4_4 (by decide) (fun _ => ?_) (fun z => absurd (by decide) z)
  exact t_vret dX2_append4_36 rfl (hpost _ _ ⟨rfl, (t_wI w20), ((((((((t_keep_I w3 (by decide)).trans (t_keep_I w5 (by decide))).trans (t_keep_I w8 (by decide))).trans (t_keep_I w10 (by decide))).trans (t_keep_I w13 (by decide))).trans (t_keep_I w15 (by decide))).trans (t_keep_I w18 (by decide))).trans (t_keep_I w20 (by decide)))⟩) (Nat.le_of_ble_eq_true rfl) (Nat.le_of_ble_eq_true rfl)

set_option maxRecDepth 4000 in
set_option maxHeartbeats 400000 in
theorem N_X2_append4_16 (s : t_S) (x1 : Int32) (h_I_1_1 : s.1 1 1 = 16) : t_C yX2_append4 cX2_append4 3 none 0 [.ref 1, .int x1] s (fun v s' => v = none ∧ (s'.1 1 1 = 20) ∧ t_keep [1, 2] s s') := by
  refine t_C.of (by decide +kernel) (Nat.le_of_ble_eq_true rfl) ?_
  intro D cy ad bs X
  suffices main : ∀ post : Option Value → t_S → Prop, (∀ v s', (v = none ∧ (s'.1 1 1 = 20) ∧ t_keep [1, 2] s s') → post v s') → mj_G D cy ad bs X cX2_append4 3 yX2_append4.cls none yX2_append4.name 0 0 0 1065 (t_P post) 0 [(0, .ref 1), (1, .int x1)] [] (t_m s) 1065 0 0 from main _ (fun _ _ h => h)
  intro post hpost
  refine mj_bipush (v := 24) dX2_append4_0 (by decide) ?_
  refine mj_istore_n 2 (lv2 := [(2, .int 24), (0, .ref 1), (1, .int x1)]) dX2_append4_2 rfl (by decide) rfl ?_
  refine mj_iload_n dX2_append4_3 0 rfl ?_
  refine mj_if_lt 36 dX2_append4_4 (by decide) (fun z => absurd z (by decide)) (fun _ => ?_)
  refine mj_aload_n dX2_append4_7 1 rfl ?_
  refine t_getR 2 dX2_append4_8 F_X2_11 qr_1_0 ?_
  refine mj_aload_n dX2_append4_11 1 rfl ?_
  refine t_getI dX2_append4_12 F_X2_61 qf_1_1 ?_
  rw [h_I_1_1]
  refine mj_iload_n dX2_append4_15 2 rfl ?_
  refine mj_iload_n dX2_append4_16 0 rfl ?_
  refine mj_iushr dX2_append4_17 rfl ?_
  generalize hgg1 : ((x1 : Int32).toUInt32 >>> ((24 : Int32).toUInt32 &&& Int32.toUInt32 31)).toInt32 = g1
  refine mj_i2b (v := g1.toInt8.toInt32) dX2_append4_18 rfl ?_
  refine t_bast dX2_append4_19 qa_2 (by unfold vp_in; decide) ?_
  rw [show (16 : Int32).toNatClampNeg = 16 by decide]
  obtain ⟨s2, w3⟩ : ∃ z, z = t_setI s 2 16 ((g1.toInt8.toInt32 : Int32).toInt8.toInt32) := ⟨_, rfl⟩
  rw [← w3]
  refine mj_aload_n dX2_append4_20 1 rfl ?_
  refine mj_dup dX2_append4_21 rfl ?_
  refine t_getI dX2_append4_22 F_X2_61 qf_1_1 ?_
  rw [((t_oI w3 1 1 rfl).trans h_I_1_1)]
  refine mj_iconst (v := 1) dX2_append4_25 (by decide) ?_
  refine mj_iadd dX2_append4_26 ?_
  rw [show (16 : Int32) + 1 = 17 by decide]
  refine t_putI dX2_append4_27 F_X2_61 qf_1_1 (by decide) ?_
  obtain ⟨s4, w5⟩ : ∃ z, z = t_setI s2 1 1 17 := ⟨_, rfl⟩
  rw [← w5]
  refine mj_iinc (k := 0) (v := 16) (lv2 := [(2, .int 16), (0, .ref 1), (1, .int x1)]) dX2_append4_30 rfl (by decide) (by decide) rfl ?_
  refine mj_goto 3 dX2_append4_33 (by decide) ?_
  refine mj_iload_n dX2_append4_3 0 rfl ?_
  refine mj_if_lt 36 dX2_append4_4 (by decide) (fun z => absurd z (by decide)) (fun _ => ?_)
  refine mj_aload_n dX2_append4_7 1 rfl ?_
  refine t_getR 2 dX2_append4_8 F_X2_11 qr_1_0 ?_
  refine mj_aload_n dX2_append4_11 1 rfl ?_
  refine t_getI dX2_append4_12 F_X2_61 qf_1_1 ?_
  rw [(t_wI w5)]
  refine mj_iload_n dX2_append4_15 2 rfl ?_
  refine mj_iload_n dX2_append4_16 0 rfl ?_
  refine mj_iushr dX2_append4_17 rfl ?_
  generalize hgg6 : ((x1 : Int32).toUInt32 >>> ((16 : Int32).toUInt32 &&& Int32.toUInt32 31)).toInt32 = g6
  refine mj_i2b (v := g6.toInt8.toInt32) dX2_append4_18 rfl ?_
  refine t_bast dX2_append4_19 qa_2 (by unfold vp_in; decide) ?_
  rw [show (17 : Int32).toNatClampNeg = 17 by decide]
  obtain ⟨s7, w8⟩ : ∃ z, z = t_setI s4 2 17 ((g6.toInt8.toInt32 : Int32).toInt8.toInt32) := ⟨_, rfl⟩
  rw [← w8]
  refine mj_aload_n dX2_append4_20 1 rfl ?_
  refine mj_dup dX2_append4_21 rfl ?_
  refine t_getI dX2_append4_22 F_X2_61 qf_1_1 ?_
  rw [((t_oI w8 1 1 rfl).trans (t_wI w5))]
  refine mj_iconst (v := 1) dX2_append4_25 (by decide) ?_
  refine mj_iadd dX2_append4_26 ?_
  rw [show (17 : Int32) + 1 = 18 by decide]
  refine t_putI dX2_append4_27 F_X2_61 qf_1_1 (by decide) ?_
  obtain ⟨s9, w10⟩ : ∃ z, z = t_setI s7 1 1 18 := ⟨_, rfl⟩
  rw [← w10]
  refine mj_iinc (k := 0) (v := 8) (lv2 := [(2, .int 8), (0, .ref 1), (1, .int x1)]) dX2_append4_30 rfl (by decide) (by decide) rfl ?_
  refine mj_goto 3 dX2_append4_33 (by decide) ?_
  refine mj_iload_n dX2_append4_3 0 rfl ?_
  refine mj_if_lt 36 dX2_append4_4 (by decide) (fun z => absurd z (by decide)) (fun _ => ?_)
  refine mj_aload_n dX2_append4_7 1 rfl ?_
  refine t_getR 2 dX2_append4_8 F_X2_11 qr_1_0 ?_
  refine mj_aload_n dX2_append4_11 1 rfl ?_
  refine t_getI dX2_append4_12 F_X2_61 qf_1_1 ?_
  rw [(t_wI w10)]
  refine mj_iload_n dX2_append4_15 2 rfl ?_
  refine mj_iload_n dX2_append4_16 0 rfl ?_
  refine mj_iushr dX2_append4_17 rfl ?_
  generalize hgg11 : ((x1 : Int32).toUInt32 >>> ((8 : Int32).toUInt32 &&& Int32.toUInt32 31)).toInt32 = g11
  refine mj_i2b (v := g11.toInt8.toInt32) dX2_append4_18 rfl ?_
  refine t_bast dX2_append4_19 qa_2 (by unfold vp_in; decide) ?_
  rw [show (18 : Int32).toNatClampNeg = 18 by decide]
  obtain ⟨s12, w13⟩ : ∃ z, z = t_setI s9 2 18 ((g11.toInt8.toInt32 : Int32).toInt8.toInt32) := ⟨_, rfl⟩
  rw [← w13]
  refine mj_aload_n dX2_append4_20 1 rfl ?_
  refine mj_dup dX2_append4_21 rfl ?_
  refine t_getI dX2_append4_22 F_X2_61 qf_1_1 ?_
  rw [((t_oI w13 1 1 rfl).trans (t_wI w10))]
  refine mj_iconst (v := 1) dX2_append4_25 (by decide) ?_
  refine mj_iadd dX2_append4_26 ?_
  rw [show (18 : Int32) + 1 = 19 by decide]
  refine t_putI dX2_append4_27 F_X2_61 qf_1_1 (by decide) ?_
  obtain ⟨s14, w15⟩ : ∃ z, z = t_setI s12 1 1 19 := ⟨_, rfl⟩
  rw [← w15]
  refine mj_iinc (k := 0) (v := 0) (lv2 := [(2, .int 0), (0, .ref 1), (1, .int x1)]) dX2_append4_30 rfl (by decide) (by decide) rfl ?_
  refine mj_goto 3 dX2_append4_33 (by decide) ?_
  refine mj_iload_n dX2_append4_3 0 rfl ?_
  refine mj_if_lt 36 dX2_append4_4 (by decide) (fun z => absurd z (by decide)) (fun _ => ?_)
  refine mj_aload_n dX2_append4_7 1 rfl ?_
  refine t_getR 2 dX2_append4_8 F_X2_11 qr_1_0 ?_
  refine mj_aload_n dX2_append4_11 1 rfl ?_
  refine t_getI dX2_append4_12 F_X2_61 qf_1_1 ?_
  rw [(t_wI w15)]
  refine mj_iload_n dX2_append4_15 2 rfl ?_
  refine mj_iload_n dX2_append4_16 0 rfl ?_
  refine mj_iushr dX2_append4_17 rfl ?_
  generalize hgg16 : ((x1 : Int32).toUInt32 >>> ((0 : Int32).toUInt32 &&& Int32.toUInt32 31)).toInt32 = g16
  refine mj_i2b (v := g16.toInt8.toInt32) dX2_append4_18 rfl ?_
  refine t_bast dX2_append4_19 qa_2 (by unfold vp_in; decide) ?_
  rw [show (19 : Int32).toNatClampNeg = 19 by decide]
  obtain ⟨s17, w18⟩ : ∃ z, z = t_setI s14 2 19 ((g16.toInt8.toInt32 : Int32).toInt8.toInt32) := ⟨_, rfl⟩
  rw [← w18]
  refine mj_aload_n dX2_append4_20 1 rfl ?_
  refine mj_dup dX2_append4_21 rfl ?_
  refine t_getI dX2_append4_22 F_X2_61 qf_1_1 ?_
  rw [((t_oI w18 1 1 rfl).trans (t_wI w15))]
  refine mj_iconst (v := 1) dX2_append4_25 (by decide) ?_
  refine mj_iadd dX2_append4_26 ?_
  rw [show (19 : Int32) + 1 = 20 by decide]
  refine t_putI dX2_append4_27 F_X2_61 qf_1_1 (by decide) ?_
  obtain ⟨s19, w20⟩ : ∃ z, z = t_setI s17 1 1 20 := ⟨_, rfl⟩
  rw [← w20]
  refine mj_iinc (k := 0) (v := (-8)) (lv2 := [(2, .int (-8)), (0, .ref 1), (1, .int x1)]) dX2_append4_30 rfl (by decide) (by decide) rfl ?_
  refine mj_goto 3 dX2_append4_33 (by decide) ?_
  refine mj_iload_n dX2_append4_3 0 rfl ?_
  refine mj_if_lt 36 dX2_append4_4 (by decide) (fun _ => ?_) (fun z => absurd (by decide) z)
  exact t_vret dX2_append4_36 rfl (hpost _ _ ⟨rfl, (t_wI w20), ((((((((t_keep_I w3 (by decide)).trans (t_keep_I w5 (by decide))).trans (t_keep_I w8 (by decide))).trans (t_keep_I w10 (by decide))).trans (t_keep_I w13 (by decide))).trans (t_keep_I w15 (by decide))).trans (t_keep_I w18 (by decide))).trans (t_keep_I w20 (by decide)))⟩) (Nat.le_of_ble_eq_true rfl) (Nat.le_of_ble_eq_true rfl)

theorem dX2_append_0 : decode cX2_append 0 = .ok (.aload_n 0, 1) := by decide +kernel
theorem dX2_append_1 : decode cX2_append 1 = .ok (.getfield 61, 3) := by decide +kernel
theorem dX2_append_10 : decode cX2_append 10 = .ok (.if_icmp .le 6, 3) := by decide +kernel
theorem dX2_append_16 : decode cX2_append 16 = .ok (.aload_n 0, 1) := by decide +kernel
theorem dX2_append_17 : decode cX2_append 17 = .ok (.iload_n 1, 1) := by decide +kernel
theorem dX2_append_18 : decode cX2_append 18 = .ok (.invokevirtual 64, 3) := by decide +kernel
theorem dX2_append_21 : decode cX2_append 21 = .ok (.aload_n 0, 1) := by decide +kernel
theorem dX2_append_22 : decode cX2_append 22 = .ok (.iload_n 2, 1) := by decide +kernel
theorem dX2_append_23 : decode cX2_append 23 = .ok (.invokevirtual 64, 3) := by decide +kernel
theorem dX2_append_26 : decode cX2_append 26 = .ok (.aload_n 0, 1) := by decide +kernel
theorem dX2_append_27 : decode cX2_append 27 = .ok (.iload_n 3, 1) := by decide +kernel
theorem dX2_append_28 : decode cX2_append 28 = .ok (.invokevirtual 64, 3) := by decide +kernel
theorem dX2_append_31 : decode cX2_append 31 = .ok (.aload_n 0, 1) := by decide +kernel
theorem dX2_append_32 : decode cX2_append 32 = .ok (.iload 4, 2) := by decide +kernel
theorem dX2_append_34 : decode cX2_append 34 = .ok (.invokevirtual 64, 3) := by decide +kernel
theorem dX2_append_37 : decode cX2_append 37 = .ok (.aload_n 0, 1) := by decide +kernel
theorem dX2_append_38 : decode cX2_append 38 = .ok (.iload 5, 2) := by decide +kernel
theorem dX2_append_4 : decode cX2_append 4 = .ok (.bipush 20, 2) := by decide +kernel
theorem dX2_append_40 : decode cX2_append 40 = .ok (.invokevirtual 64, 3) := by decide +kernel
theorem dX2_append_43 : decode cX2_append 43 = .ok (.aload_n 0, 1) := by decide +kernel
theorem dX2_append_44 : decode cX2_append 44 = .ok (.getfield 61, 3) := by decide +kernel
theorem dX2_append_47 : decode cX2_append 47 = .ok (.ireturn, 1) := by decide +kernel
theorem dX2_append_6 : decode cX2_append 6 = .ok (.iadd, 1) := by decide +kernel
theorem dX2_append_7 : decode cX2_append 7 = .ok (.sipush 12000, 3) := by decide +kernel
set_option maxRecDepth 4000 in
set_option maxHeartbeats 400000 in
theorem N_X2_append (s : t_S) (x1 : Int32) (x2 : Int32) (x3 : Int32) (x4 : Int32) (x5 : Int32) (h_I_1_1 : s.1 1 1 = 0) : t_C yX2_append cX2_append 6 (some .int) 1 [.ref 1, .int x1, .int x2, .int x3, .int x4, .int x5] s (fun v s' => v = some (.int 20) ∧ t_keep [1, 2] s s') := by
  refine t_C.of (by decide +kernel) (Nat.le_of_ble_eq_true rfl) ?_
  intro D cy ad bs X
  suffices main : ∀ post : Option Value → t_S → Prop, (∀ v s', (v = some (.int 20) ∧ t_keep [1, 2] s s') → post v s') → mj_G D cy ad bs X cX2_append 6 yX2_append.cls (some .int) yX2_append.name 1 0 0 1065 (t_P post) 0 [(0, .ref 1), (1, .int x1), (2, .int x2), (3, .int x3), (4, .int x4), (5, .int x5)] [] (t_m s) 1065 0 0 from main _ (fun _ _ h => h)
  intro post hpost
  refine mj_aload_n dX2_append_0 0 rfl ?_
  refine t_getI dX2_append_1 F_X2_61 qf_1_1 ?_
  rw [h_I_1_1]
  refine mj_bipush (v := 20) dX2_append_4 (by decide) ?_
  refine mj_iadd dX2_append_6 ?_
  rw [show (0 : Int32) + 20 = 20 by decide]
  refine mj_sipush (v := 12000) dX2_append_7 (by decide) ?_
  refine mj_icmp_le 16 dX2_append_10 (by decide) (fun _ => ?_) (fun z => absurd (by decide) z)
  refine mj_aload_n dX2_append_16 0 rfl ?_
  refine mj_iload_n dX2_append_17 1 rfl ?_
  refine t_callV dX2_append_18 M_X2_append4 (N_X2_append4_0 s x1 h_I_1_1) ML_X2_64 IM_X2_append4 SE_X2_append4 qc_1 rfl (As := [.int x1]) rfl rfl (Nat.le_of_ble_eq_true rfl) (Nat.le_of_ble_eq_true rfl) (Nat.le_of_ble_eq_true rfl) (Nat.le_of_ble_eq_true rfl) (fun v s1 hp => ?_)
  obtain ⟨rfl, e2, k3⟩ := hp
  refine mj_aload_n dX2_append_21 0 rfl ?_
  refine mj_iload_n dX2_append_22 2 rfl ?_
  refine t_callV dX2_append_23 M_X2_append4 (N_X2_append4_4 s1 x2 e2) ML_X2_64 IM_X2_append4 SE_X2_append4 qc_1 rfl (As := [.int x2]) rfl rfl (Nat.le_of_ble_eq_true rfl) (Nat.le_of_ble_eq_true rfl) (Nat.le_of_ble_eq_true rfl) (Nat.le_of_ble_eq_true rfl) (fun v s4 hp => ?_)
  obtain ⟨rfl, e5, k6⟩ := hp
  refine mj_aload_n dX2_append_26 0 rfl ?_
  refine mj_iload_n dX2_append_27 3 rfl ?_
  refine t_callV dX2_append_28 M_X2_append4 (N_X2_append4_8 s4 x3 e5) ML_X2_64 IM_X2_append4 SE_X2_append4 qc_1 rfl (As := [.int x3]) rfl rfl (Nat.le_of_ble_eq_true rfl) (Nat.le_of_ble_eq_true rfl) (Nat.le_of_ble_eq_true rfl) (Nat.le_of_ble_eq_true rfl) (fun v s7 hp => ?_)
  obtain ⟨rfl, e8, k9⟩ := hp
  refine mj_aload_n dX2_append_31 0 rfl ?_
  refine mj_iload dX2_append_32 4 rfl ?_
  refine t_callV dX2_append_34 M_X2_append4 (N_X2_append4_12 s7 x4 e8) ML_X2_64 IM_X2_append4 SE_X2_append4 qc_1 rfl (As := [.int x4]) rfl rfl (Nat.le_of_ble_eq_true rfl) (Nat.le_of_ble_eq_true rfl) (Nat.le_of_ble_eq_true rfl) (Nat.le_of_ble_eq_true rfl) (fun v s10 hp => ?_)
  obtain ⟨rfl, e11, k12⟩ := hp
  refine mj_aload_n dX2_append_37 0 rfl ?_
  refine mj_iload dX2_append_38 5 rfl ?_
  refine t_callV dX2_append_40 M_X2_append4 (N_X2_append4_16 s10 x5 e11) ML_X2_64 IM_X2_append4 SE_X2_append4 qc_1 rfl (As := [.int x5]) rfl rfl (Nat.le_of_ble_eq_true rfl) (Nat.le_of_ble_eq_true rfl) (Nat.le_of_ble_eq_true rfl) (Nat.le_of_ble_eq_true rfl) (fun v s13 hp => ?_)
  obtain ⟨rfl, e14, k15⟩ := hp
  refine mj_aload_n dX2_append_43 0 rfl ?_
  refine t_getI dX2_append_44 F_X2_61 qf_1_1 ?_
  rw [e14]
  exact t_iret dX2_append_47 rfl (by decide) (hpost _ _ ⟨rfl, (((((k3.mono (by decide)).trans (k6.mono (by decide))).trans (k9.mono (by decide))).trans (k12.mono (by decide))).trans (k15.mono (by decide)))⟩) (Nat.le_of_ble_eq_true rfl) (Nat.le_of_ble_eq_true rfl)

theorem dX12_feed_0 : decode cX12_feed 0 = .ok (.aload_n 0, 1) := by decide +kernel
theorem dX12_feed_1 : decode cX12_feed 1 = .ok (.getfield 10, 3) := by decide +kernel
theorem dX12_feed_11 : decode cX12_feed 11 = .ok (.invokevirtual 99, 3) := by decide +kernel
theorem dX12_feed_14 : decode cX12_feed 14 = .ok (.ireturn, 1) := by decide +kernel
theorem dX12_feed_4 : decode cX12_feed 4 = .ok (.iload_n 1, 1) := by decide +kernel
theorem dX12_feed_5 : decode cX12_feed 5 = .ok (.iload_n 2, 1) := by decide +kernel
theorem dX12_feed_6 : decode cX12_feed 6 = .ok (.iload_n 3, 1) := by decide +kernel
theorem dX12_feed_7 : decode cX12_feed 7 = .ok (.iload 4, 2) := by decide +kernel
theorem dX12_feed_9 : decode cX12_feed 9 = .ok (.iload 5, 2) := by decide +kernel
set_option maxRecDepth 4000 in
set_option maxHeartbeats 400000 in
theorem N_X12_feed (s : t_S) (x1 : Int32) (x2 : Int32) (x3 : Int32) (x4 : Int32) (x5 : Int32) (h_I_1_1 : s.1 1 1 = 0) : t_C yX12_feed cX12_feed 6 (some .int) 2 [.ref 0, .int x1, .int x2, .int x3, .int x4, .int x5] s (fun v s' => v = some (.int 20) ∧ t_keep [1, 2] s s') := by
  refine t_C.of (by decide +kernel) (Nat.le_of_ble_eq_true rfl) ?_
  intro D cy ad bs X
  suffices main : ∀ post : Option Value → t_S → Prop, (∀ v s', (v = some (.int 20) ∧ t_keep [1, 2] s s') → post v s') → mj_G D cy ad bs X cX12_feed 6 yX12_feed.cls (some .int) yX12_feed.name 2 0 0 1065 (t_P post) 0 [(0, .ref 0), (1, .int x1), (2, .int x2), (3, .int x3), (4, .int x4), (5, .int x5)] [] (t_m s) 1065 0 0 from main _ (fun _ _ h => h)
  intro post hpost
  refine mj_aload_n dX12_feed_0 0 rfl ?_
  refine t_getR 1 dX12_feed_1 F_X12_10 qr_0_0 ?_
  refine mj_iload_n dX12_feed_4 1 rfl ?_
  refine mj_iload_n dX12_feed_5 2 rfl ?_
  refine mj_iload_n dX12_feed_6 3 rfl ?_
  refine mj_iload dX12_feed_7 4 rfl ?_
  refine mj_iload dX12_feed_9 5 rfl ?_
  refine t_callV dX12_feed_11 M_X2_append (N_X2_append s x1 x2 x3 x4 x5 h_I_1_1) ML_X12_99 IM_X2_append SE_X2_append qc_1 rfl (As := [.int x1, .int x2, .int x3, .int x4, .int x5]) rfl rfl (Nat.le_of_ble_eq_true rfl) (Nat.le_of_ble_eq_true rfl) (Nat.le_of_ble_eq_true rfl) (Nat.le_of_ble_eq_true rfl) (fun v s1 hp => ?_)
  obtain ⟨rfl, k2⟩ := hp
  exact t_iret dX12_feed_14 rfl (by decide) (hpost _ _ ⟨rfl, (k2.mono (by decide))⟩) (Nat.le_of_ble_eq_true rfl) (Nat.le_of_ble_eq_true rfl)

theorem dJ7_fill_53178_0 : decode cJ7_fill_53178 0 = .ok (.iconst 0, 1) := by decide +kernel
theorem dJ7_fill_53178_1 : decode cJ7_fill_53178 1 = .ok (.istore_n 2, 1) := by decide +kernel
theorem dJ7_fill_53178_10 : decode cJ7_fill_53178 10 = .ok (.aload_n 0, 1) := by decide +kernel
theorem dJ7_fill_53178_11 : decode cJ7_fill_53178 11 = .ok (.iload_n 2, 1) := by decide +kernel
theorem dJ7_fill_53178_12 : decode cJ7_fill_53178 12 = .ok (.iload_n 1, 1) := by decide +kernel
theorem dJ7_fill_53178_13 : decode cJ7_fill_53178 13 = .ok (.iastore, 1) := by decide +kernel
theorem dJ7_fill_53178_14 : decode cJ7_fill_53178 14 = .ok (.iinc 2 1, 3) := by decide +kernel
theorem dJ7_fill_53178_17 : decode cJ7_fill_53178 17 = .ok (.goto (-12), 3) := by decide +kernel
theorem dJ7_fill_53178_2 : decode cJ7_fill_53178 2 = .ok (.aload_n 0, 1) := by decide +kernel
theorem dJ7_fill_53178_20 : decode cJ7_fill_53178 20 = .ok (.return_, 1) := by decide +kernel
theorem dJ7_fill_53178_3 : decode cJ7_fill_53178 3 = .ok (.arraylength, 1) := by decide +kernel
theorem dJ7_fill_53178_4 : decode cJ7_fill_53178 4 = .ok (.istore_n 3, 1) := by decide +kernel
theorem dJ7_fill_53178_5 : decode cJ7_fill_53178 5 = .ok (.iload_n 2, 1) := by decide +kernel
theorem dJ7_fill_53178_6 : decode cJ7_fill_53178 6 = .ok (.iload_n 3, 1) := by decide +kernel
theorem dJ7_fill_53178_7 : decode cJ7_fill_53178 7 = .ok (.if_icmp .ge 13, 3) := by decide +kernel
/-- the first i of an array's ints are v, all else is as it was -/
def t_fl1 (s0 s : t_S) (a i : Nat) (v : Int32) : Prop := (∀ j, j < i → s.1 a j = v) ∧ (∀ j, i ≤ j → s.1 a j = s0.1 a j) ∧ (∀ b, b ≠ a → s.1 b = s0.1 b) ∧ s.2 = s0.2
theorem N_fill_loop {D : va_G} {cy : Nat → ClassId} {ad : Nat → Nat} {bs : Nat} {X : State → Heap → Prop} (s0 : t_S) (a len : Nat) (v : Int32) (ha : t_oka a 1 len = true) (hl : len < 2 ^ 31) : ∀ (m i : Nat) (s : t_S), i + m = len → t_fl1 s0 s a i v → mj_G D cy ad bs X cJ7_fill_53178 4 yJ7_fill_53178.cls none yJ7_fill_53178.name 0 0 0 1065 (t_P (fun r s' => r = none ∧ t_fl1 s0 s' a len v)) 5 [(2, .int (nI i)), (3, .int (nI len)), (0, .ref a), (1, .int v)] [] (t_m s) 1065 0 0 := by
  intro m
  induction m with
  | zero =>
    intro i s hi hs
    refine mj_iload_n dJ7_fill_53178_5 0 rfl ?_
    refine mj_iload_n dJ7_fill_53178_6 1 rfl ?_
    refine mj_icmp_ge 20 dJ7_fill_53178_7 (by decide) (fun _ => ?_) (fun z => absurd (nI_le (by omega) (by omega)) z)
    exact t_vret dJ7_fill_53178_20 rfl ⟨rfl, by rw [show len = i by omega]; exact hs⟩ (Nat.le_of_ble_eq_true rfl) (Nat.le_of_ble_eq_true rfl)
  | succ m ih =>
    intro i s hi hs
    refine mj_iload_n dJ7_fill_53178_5 0 rfl ?_
    refine mj_iload_n dJ7_fill_53178_6 1 rfl ?_
    refine mj_icmp_ge 20 dJ7_fill_53178_7 (by decide) (fun z => absurd z (nI_ge (by omega) (by omega))) (fun _ => ?_)
    refine mj_aload_n dJ7_fill_53178_10 2 rfl ?_
    refine mj_iload_n dJ7_fill_53178_11 0 rfl ?_
    refine mj_iload_n dJ7_fill_53178_12 3 rfl ?_
    refine t_iast dJ7_fill_53178_13 ha (vp_in_nI (by omega) (by omega)) ?_
    rw [nI_clamp (show i < 2 ^ 31 by omega)]
    refine mj_iinc (k := 0) (v := nI (i + 1)) (lv2 := [(2, .int (nI (i + 1))), (3, .int (nI len)), (0, .ref a), (1, .int v)]) dJ7_fill_53178_14 rfl (nI_1 i) (by decide) rfl ?_
    refine mj_goto 5 dJ7_fill_53178_17 (by decide) ?_
    obtain ⟨h1, h2, h3, h4⟩ := hs
    refine ih (i + 1) _ (by omega) ⟨fun j hj => ?_, fun j hj => ?_, fun b hb => ?_, h4⟩
    · by_cases e : j = i
      · subst e
        show va_up s.1 a (va_up (s.1 a) j v) a j = v
        rw [mj_up_eq, mj_up_eq]
      · show va_up s.1 a (va_up (s.1 a) i v) a j = v
        rw [mj_up_eq, mj_up_ne _ _ e]
        exact h1 j (by omega)
    · show va_up s.1 a (va_up (s.1 a) i v) a j = _
      rw [mj_up_eq, mj_up_ne _ _ (by omega)]
      exact h2 j (by omega)
    · show va_up s.1 a (va_up (s.1 a) i v) b = _
      rw [mj_up_ne _ _ hb]
      exact h3 b hb
theorem N_fill (s : t_S) (a len : Nat) (v : Int32) (ha : t_oka a 1 len = true) (hl : len < 2 ^ 31) : t_C yJ7_fill_53178 cJ7_fill_53178 4 none 0 [.ref a, .int v] s (fun r s' => r = none ∧ t_fl1 s s' a len v) := by
  refine t_C.of (by decide +kernel) (Nat.le_of_ble_eq_true rfl) ?_
  intro D cy ad bs X
  show mj_G D cy ad bs X cJ7_fill_53178 4 yJ7_fill_53178.cls none yJ7_fill_53178.name 0 0 0 1065 (t_P _) 0 [(0, .ref a), (1, .int v)] [] (t_m s) 1065 0 0
  refine mj_iconst (v := 0) dJ7_fill_53178_0 (by decide) ?_
  refine mj_istore_n 2 (lv2 := [(2, .int 0), (0, .ref a), (1, .int v)]) dJ7_fill_53178_1 rfl (by decide) rfl ?_
  refine mj_aload_n dJ7_fill_53178_2 1 rfl ?_
  refine t_alen1 (v := nI len) dJ7_fill_53178_3 ha rfl ?_
  refine mj_istore_n 3 (lv2 := [(3, .int (nI len)), (2, .int 0), (0, .ref a), (1, .int v)]) dJ7_fill_53178_4 rfl (by decide) rfl ?_
  refine mj_sublv [(2, .int (nI 0)), (3, .int (nI len)), (0, .ref a), (1, .int v)] [1, 0, 2, 3] rfl ?_
  exact N_fill_loop s a len v ha hl len 0 s (by omega) ⟨fun j hj => absurd hj (by omega), fun j hj => rfl, fun b hb => rfl, rfl⟩
theorem N_fillK (s : t_S) (a len : Nat) (v : Int32) (ha : t_oka a 1 len = true) (hl : len < 2 ^ 31) : t_C yJ7_fill_53178 cJ7_fill_53178 4 none 0 [.ref a, .int v] s (fun r s' => r = none ∧ t_keep [a] s s') :=
  (N_fill s a len v ha hl).imp (fun r s' ⟨h1, h2⟩ => ⟨h1, fun b hb => by
    have hne : b ≠ a := by intro e; subst e; simp at hb
    exact ⟨h2.2.2.1 b hne, by rw [h2.2.2.2], by rw [h2.2.2.2]⟩⟩)
theorem N_fill0 (s : t_S) (a len : Nat) (ha : t_oka a 1 len = true) (hl : len < 2 ^ 31) (hz : ∀ i, s.1 a i = 0) : t_C yJ7_fill_53178 cJ7_fill_53178 4 none 0 [.ref a, .int 0] s (fun r s' => r = none ∧ (∀ i, s'.1 a i = 0) ∧ t_keep [a] s s') :=
  (N_fill s a len 0 ha hl).imp (fun r s' ⟨h1, h2⟩ => ⟨h1, fun i => by
    by_cases hi : i < len
    · exact h2.1 i hi
    · rw [h2.2.1 i (by omega)]; exact hz i, fun b hb => by
    have hne : b ≠ a := by intro e; subst e; simp at hb
    exact ⟨h2.2.2.1 b hne, by rw [h2.2.2.2], by rw [h2.2.2.2]⟩⟩)

theorem dX8_clearLog_0 : decode cX8_clearLog 0 = .ok (.aload_n 0, 1) := by decide +kernel
theorem dX8_clearLog_1 : decode cX8_clearLog 1 = .ok (.iconst 0, 1) := by decide +kernel
theorem dX8_clearLog_10 : decode cX8_clearLog 10 = .ok (.return_, 1) := by decide +kernel
theorem dX8_clearLog_2 : decode cX8_clearLog 2 = .ok (.putfield 74, 3) := by decide +kernel
theorem dX8_clearLog_5 : decode cX8_clearLog 5 = .ok (.aload_n 0, 1) := by decide +kernel
theorem dX8_clearLog_6 : decode cX8_clearLog 6 = .ok (.iconst 0, 1) := by decide +kernel
theorem dX8_clearLog_7 : decode cX8_clearLog 7 = .ok (.putfield 77, 3) := by decide +kernel
set_option maxRecDepth 4000 in
set_option maxHeartbeats 400000 in
theorem N_X8_clearLog (s : t_S) : t_C yX8_clearLog cX8_clearLog 1 none 0 [.ref 12] s (fun v s' => v = none ∧ (s'.1 12 2 = s.1 12 2) ∧ (s'.1 12 4 = 0) ∧ (s'.1 12 5 = 0) ∧ t_keep [12] s s') := by
  refine t_C.of (by decide +kernel) (Nat.le_of_ble_eq_true rfl) ?_
  intro D cy ad bs X
  suffices main : ∀ post : Option Value → t_S → Prop, (∀ v s', (v = none ∧ (s'.1 12 2 = s.1 12 2) ∧ (s'.1 12 4 = 0) ∧ (s'.1 12 5 = 0) ∧ t_keep [12] s s') → post v s') → mj_G D cy ad bs X cX8_clearLog 1 yX8_clearLog.cls none yX8_clearLog.name 0 0 0 1065 (t_P post) 0 [(0, .ref 12)] [] (t_m s) 1065 0 0 from main _ (fun _ _ h => h)
  intro post hpost
  refine mj_aload_n dX8_clearLog_0 0 rfl ?_
  refine mj_iconst (v := 0) dX8_clearLog_1 (by decide) ?_
  refine t_putI dX8_clearLog_2 F_X8_74 qf_12_4 (by decide) ?_
  obtain ⟨s1, w2⟩ : ∃ z, z = t_setI s 12 4 0 := ⟨_, rfl⟩
  rw [← w2]
  refine mj_aload_n dX8_clearLog_5 0 rfl ?_
  refine mj_iconst (v := 0) dX8_clearLog_6 (by decide) ?_
  refine t_putI dX8_clearLog_7 F_X8_77 qf_12_5 (by decide) ?_
  obtain ⟨s3, w4⟩ : ∃ z, z = t_setI s1 12 5 0 := ⟨_, rfl⟩
  rw [← w4]
  exact t_vret dX8_clearLog_10 rfl (hpost _ _ ⟨rfl, ((t_oI w4 12 2 rfl).trans ((t_oI w2 12 2 rfl).trans rfl)), ((t_oI w4 12 4 rfl).trans (t_wI w2)), (t_wI w4), ((t_keep_I w2 (by decide)).trans (t_keep_I w4 (by decide)))⟩) (Nat.le_of_ble_eq_true rfl) (Nat.le_of_ble_eq_true rfl)

theorem dX7_close_0 : decode cX7_close 0 = .ok (.aload_n 0, 1) := by decide +kernel
theorem dX7_close_1 : decode cX7_close 1 = .ok (.iconst 0, 1) := by decide +kernel
theorem dX7_close_10 : decode cX7_close 10 = .ok (.aload_n 0, 1) := by decide +kernel
theorem dX7_close_11 : decode cX7_close 11 = .ok (.lconst 0, 1) := by decide +kernel
theorem dX7_close_12 : decode cX7_close 12 = .ok (.putfield 46, 3) := by decide +kernel
theorem dX7_close_15 : decode cX7_close 15 = .ok (.aload_n 0, 1) := by decide +kernel
theorem dX7_close_16 : decode cX7_close 16 = .ok (.getfield 15, 3) := by decide +kernel
theorem dX7_close_19 : decode cX7_close 19 = .ok (.invokevirtual 50, 3) := by decide +kernel
theorem dX7_close_2 : decode cX7_close 2 = .ok (.putfield 38, 3) := by decide +kernel
theorem dX7_close_22 : decode cX7_close 22 = .ok (.return_, 1) := by decide +kernel
theorem dX7_close_5 : decode cX7_close 5 = .ok (.aload_n 0, 1) := by decide +kernel
theorem dX7_close_6 : decode cX7_close 6 = .ok (.iconst 0, 1) := by decide +kernel
theorem dX7_close_7 : decode cX7_close 7 = .ok (.putfield 42, 3) := by decide +kernel
set_option maxRecDepth 4000 in
set_option maxHeartbeats 400000 in
theorem N_X7_close (s : t_S) : t_C yX7_close cX7_close 1 none 1 [.ref 864] s (fun v s' => v = none ∧ (s'.1 12 2 = s.1 12 2) ∧ (s'.1 12 4 = 0) ∧ (s'.1 12 5 = 0) ∧ (s'.1 864 10 = s.1 864 10) ∧ (s'.1 864 11 = s.1 864 11) ∧ (s'.1 864 6 = 0) ∧ (s'.1 864 8 = 0) ∧ (s'.1 864 9 = s.1 864 9) ∧ (s'.2.1 864 7 = 0) ∧ t_keep [12, 864] s s') := by
  refine t_C.of (by decide +kernel) (Nat.le_of_ble_eq_true rfl) ?_
  intro D cy ad bs X
  suffices main : ∀ post : Option Value → t_S → Prop, (∀ v s', (v = none ∧ (s'.1 12 2 = s.1 12 2) ∧ (s'.1 12 4 = 0) ∧ (s'.1 12 5 = 0) ∧ (s'.1 864 10 = s.1 864 10) ∧ (s'.1 864 11 = s.1 864 11) ∧ (s'.1 864 6 = 0) ∧ (s'.1 864 8 = 0) ∧ (s'.1 864 9 = s.1 864 9) ∧ (s'.2.1 864 7 = 0) ∧ t_keep [12, 864] s s') → post v s') → mj_G D cy ad bs X cX7_close 1 yX7_close.cls none yX7_close.name 1 0 0 1065 (t_P post) 0 [(0, .ref 864)] [] (t_m s) 1065 0 0 from main _ (fun _ _ h => h)
  intro post hpost
  refine mj_aload_n dX7_close_0 0 rfl ?_
  refine mj_iconst (v := 0) dX7_close_1 (by decide) ?_
  refine t_putI dX7_close_2 F_X7_38 qf_864_8 (by decide) ?_
  obtain ⟨s1, w2⟩ : ∃ z, z = t_setI s 864 8 0 := ⟨_, rfl⟩
  rw [← w2]
  refine mj_aload_n dX7_close_5 0 rfl ?_
  refine mj_iconst (v := 0) dX7_close_6 (by decide) ?_
  refine t_putI dX7_close_7 F_X7_42 qf_864_6 (by decide) ?_
  obtain ⟨s3, w4⟩ : ∃ z, z = t_setI s1 864 6 0 := ⟨_, rfl⟩
  rw [← w4]
  refine mj_aload_n dX7_close_10 0 rfl ?_
  refine mj_lconst (v := 0) dX7_close_11 (by decide) ?_
  refine t_putJ dX7_close_12 F_X7_46 qf_864_7 rfl ?_
  obtain ⟨s5, w6⟩ : ∃ z, z = t_setJ s3 864 7 0 := ⟨_, rfl⟩
  rw [← w6]
  refine mj_aload_n dX7_close_15 0 rfl ?_
  refine t_getR 12 dX7_close_16 F_X7_15 qr_864_0 ?_
  refine t_callV dX7_close_19 M_X8_clearLog (N_X8_clearLog s5) ML_X7_50 IM_X8_clearLog SE_X8_clearLog qc_12 rfl (As := []) rfl rfl (Nat.le_of_ble_eq_true rfl) (Nat.le_of_ble_eq_true rfl) (Nat.le_of_ble_eq_true rfl) (Nat.le_of_ble_eq_true rfl) (fun v s7 hp => ?_)
  obtain ⟨rfl, e8, e9, e10, k11⟩ := hp
  exact t_vret dX7_close_22 rfl (hpost _ _ ⟨rfl, (e8.trans ((t_cJI w6 12 2).trans ((t_oI w4 12 2 rfl).trans ((t_oI w2 12 2 rfl).trans rfl)))), e9, e10, ((congrFun (k11 864 (by decide)).1 10).trans ((t_cJI w6 864 10).trans ((t_oI w4 864 10 rfl).trans ((t_oI w2 864 10 rfl).trans rfl)))), ((congrFun (k11 864 (by decide)).1 11).trans ((t_cJI w6 864 11).trans ((t_oI w4 864 11 rfl).trans ((t_oI w2 864 11 rfl).trans rfl)))), ((congrFun (k11 864 (by decide)).1 6).trans ((t_cJI w6 864 6).trans (t_wI w4))), ((congrFun (k11 864 (by decide)).1 8).trans ((t_cJI w6 864 8).trans ((t_oI w4 864 8 rfl).trans (t_wI w2)))), ((congrFun (k11 864 (by decide)).1 9).trans ((t_cJI w6 864 9).trans ((t_oI w4 864 9 rfl).trans ((t_oI w2 864 9 rfl).trans rfl)))), ((congrFun (k11 864 (by decide)).2.1 7).trans (t_wJ w6)), ((((t_keep_I w2 (by decide)).trans (t_keep_I w4 (by decide))).trans (t_keep_J w6 (by decide))).trans (k11.mono (by decide)))⟩) (Nat.le_of_ble_eq_true rfl) (Nat.le_of_ble_eq_true rfl)

theorem dX2_forget_0 : decode cX2_forget 0 = .ok (.aload_n 0, 1) := by decide +kernel
theorem dX2_forget_1 : decode cX2_forget 1 = .ok (.getfield 68, 3) := by decide +kernel
theorem dX2_forget_4 : decode cX2_forget 4 = .ok (.iload_n 1, 1) := by decide +kernel
theorem dX2_forget_43 : decode cX2_forget 43 = .ok (.return_, 1) := by decide +kernel
theorem dX2_forget_5 : decode cX2_forget 5 = .ok (.if_icmp .le 38, 3) := by decide +kernel
set_option maxRecDepth 4000 in
set_option maxHeartbeats 400000 in
theorem N_X2_forget (s : t_S) (wd : Int32) (hwd : wd.toInt ≤ 66) (h_I_1_13 : s.1 1 13 = wd) : t_C yX2_forget cX2_forget 2 none 0 [.ref 1, .int 66] s (fun v s' => v = none ∧ s' = s) := by
  refine t_C.of (by decide +kernel) (Nat.le_of_ble_eq_true rfl) ?_
  intro D cy ad bs X
  suffices main : ∀ post : Option Value → t_S → Prop, (∀ v s', (v = none ∧ s' = s) → post v s') → mj_G D cy ad bs X cX2_forget 2 yX2_forget.cls none yX2_forget.name 0 0 0 1065 (t_P post) 0 [(0, .ref 1), (1, .int 66)] [] (t_m s) 1065 0 0 from main _ (fun _ _ h => h)
  intro post hpost
  refine mj_aload_n dX2_forget_0 0 rfl ?_
  refine t_getI dX2_forget_1 F_X2_68 qf_1_13 ?_
  rw [h_I_1_13]
  refine mj_iload_n dX2_forget_4 1 rfl ?_
  refine mj_icmp_le 43 dX2_forget_5 (by decide) (fun z1 => ?_) (fun z1 => ?_)
  · have z1i : wd.toInt ≤ 66 := (t_le (66) rfl).mp z1
    exact t_vret dX2_forget_43 rfl (hpost _ _ ⟨rfl, rfl⟩) (Nat.le_of_ble_eq_true rfl) (Nat.le_of_ble_eq_true rfl)
  · have z1i : ¬ wd.toInt ≤ 66 := fun q => z1 ((t_le (66) rfl).mpr q)
    exfalso; omega

theorem dX11_clear_0 : decode cX11_clear 0 = .ok (.aload_n 0, 1) := by decide +kernel
theorem dX11_clear_1 : decode cX11_clear 1 = .ok (.iconst 0, 1) := by decide +kernel
theorem dX11_clear_10 : decode cX11_clear 10 = .ok (.aload_n 0, 1) := by decide +kernel
theorem dX11_clear_11 : decode cX11_clear 11 = .ok (.iconst 0, 1) := by decide +kernel
theorem dX11_clear_12 : decode cX11_clear 12 = .ok (.putfield 72, 3) := by decide +kernel
theorem dX11_clear_15 : decode cX11_clear 15 = .ok (.return_, 1) := by decide +kernel
theorem dX11_clear_2 : decode cX11_clear 2 = .ok (.putfield 65, 3) := by decide +kernel
theorem dX11_clear_5 : decode cX11_clear 5 = .ok (.aload_n 0, 1) := by decide +kernel
theorem dX11_clear_6 : decode cX11_clear 6 = .ok (.iconst 0, 1) := by decide +kernel
theorem dX11_clear_7 : decode cX11_clear 7 = .ok (.putfield 69, 3) := by decide +kernel
set_option maxRecDepth 4000 in
set_option maxHeartbeats 400000 in
theorem N_X11_clear (s : t_S) : t_C yX11_clear cX11_clear 1 none 0 [.ref 316] s (fun v s' => v = none ∧ (s'.1 316 10 = 0) ∧ (s'.1 316 13 = 0) ∧ (s'.1 316 15 = s.1 316 15) ∧ (s'.1 316 8 = 0) ∧ t_keep [316] s s') := by
  refine t_C.of (by decide +kernel) (Nat.le_of_ble_eq_true rfl) ?_
  intro D cy ad bs X
  suffices main : ∀ post : Option Value → t_S → Prop, (∀ v s', (v = none ∧ (s'.1 316 10 = 0) ∧ (s'.1 316 13 = 0) ∧ (s'.1 316 15 = s.1 316 15) ∧ (s'.1 316 8 = 0) ∧ t_keep [316] s s') → post v s') → mj_G D cy ad bs X cX11_clear 1 yX11_clear.cls none yX11_clear.name 0 0 0 1065 (t_P post) 0 [(0, .ref 316)] [] (t_m s) 1065 0 0 from main _ (fun _ _ h => h)
  intro post hpost
  refine mj_aload_n dX11_clear_0 0 rfl ?_
  refine mj_iconst (v := 0) dX11_clear_1 (by decide) ?_
  refine t_putI dX11_clear_2 F_X11_65 qf_316_8 (by decide) ?_
  obtain ⟨s1, w2⟩ : ∃ z, z = t_setI s 316 8 0 := ⟨_, rfl⟩
  rw [← w2]
  refine mj_aload_n dX11_clear_5 0 rfl ?_
  refine mj_iconst (v := 0) dX11_clear_6 (by decide) ?_
  refine t_putI dX11_clear_7 F_X11_69 qf_316_10 (by decide) ?_
  obtain ⟨s3, w4⟩ : ∃ z, z = t_setI s1 316 10 0 := ⟨_, rfl⟩
  rw [← w4]
  refine mj_aload_n dX11_clear_10 0 rfl ?_
  refine mj_iconst (v := 0) dX11_clear_11 (by decide) ?_
  refine t_putI dX11_clear_12 F_X11_72 qf_316_13 (by decide) ?_
  obtain ⟨s5, w6⟩ : ∃ z, z = t_setI s3 316 13 0 := ⟨_, rfl⟩
  rw [← w6]
  exact t_vret dX11_clear_15 rfl (hpost _ _ ⟨rfl, ((t_oI w6 316 10 rfl).trans (t_wI w4)), (t_wI w6), ((t_oI w6 316 15 rfl).trans ((t_oI w4 316 15 rfl).trans ((t_oI w2 316 15 rfl).trans rfl))), ((t_oI w6 316 8 rfl).trans ((t_oI w4 316 8 rfl).trans (t_wI w2))), (((t_keep_I w2 (by decide)).trans (t_keep_I w4 (by decide))).trans (t_keep_I w6 (by decide)))⟩) (Nat.le_of_ble_eq_true rfl) (Nat.le_of_ble_eq_true rfl)

theorem dX10_clear_0 : decode cX10_clear 0 = .ok (.aload_n 0, 1) := by decide +kernel
theorem dX10_clear_1 : decode cX10_clear 1 = .ok (.iconst 0, 1) := by decide +kernel
theorem dX10_clear_10 : decode cX10_clear 10 = .ok (.return_, 1) := by decide +kernel
theorem dX10_clear_2 : decode cX10_clear 2 = .ok (.putfield 70, 3) := by decide +kernel
theorem dX10_clear_5 : decode cX10_clear 5 = .ok (.aload_n 0, 1) := by decide +kernel
theorem dX10_clear_6 : decode cX10_clear 6 = .ok (.iconst 0, 1) := by decide +kernel
theorem dX10_clear_7 : decode cX10_clear 7 = .ok (.putfield 74, 3) := by decide +kernel
set_option maxRecDepth 4000 in
set_option maxHeartbeats 400000 in
theorem N_X10_clear (s : t_S) : t_C yX10_clear cX10_clear 1 none 0 [.ref 353] s (fun v s' => v = none ∧ (s'.1 353 11 = 0) ∧ (s'.1 353 13 = s.1 353 13) ∧ (s'.1 353 15 = s.1 353 15) ∧ (s'.1 353 17 = s.1 353 17) ∧ (s'.1 353 20 = s.1 353 20) ∧ (s'.1 353 9 = 0) ∧ t_keep [353] s s') := by
  refine t_C.of (by decide +kernel) (Nat.le_of_ble_eq_true rfl) ?_
  intro D cy ad bs X
  suffices main : ∀ post : Option Value → t_S → Prop, (∀ v s', (v = none ∧ (s'.1 353 11 = 0) ∧ (s'.1 353 13 = s.1 353 13) ∧ (s'.1 353 15 = s.1 353 15) ∧ (s'.1 353 17 = s.1 353 17) ∧ (s'.1 353 20 = s.1 353 20) ∧ (s'.1 353 9 = 0) ∧ t_keep [353] s s') → post v s') → mj_G D cy ad bs X cX10_clear 1 yX10_clear.cls none yX10_clear.name 0 0 0 1065 (t_P post) 0 [(0, .ref 353)] [] (t_m s) 1065 0 0 from main _ (fun _ _ h => h)
  intro post hpost
  refine mj_aload_n dX10_clear_0 0 rfl ?_
  refine mj_iconst (v := 0) dX10_clear_1 (by decide) ?_
  refine t_putI dX10_clear_2 F_X10_70 qf_353_9 (by decide) ?_
  obtain ⟨s1, w2⟩ : ∃ z, z = t_setI s 353 9 0 := ⟨_, rfl⟩
  rw [← w2]
  refine mj_aload_n dX10_clear_5 0 rfl ?_
  refine mj_iconst (v := 0) dX10_clear_6 (by decide) ?_
  refine t_putI dX10_clear_7 F_X10_74 qf_353_11 (by decide) ?_
  obtain ⟨s3, w4⟩ : ∃ z, z = t_setI s1 353 11 0 := ⟨_, rfl⟩
  rw [← w4]
  exact t_vret dX10_clear_10 rfl (hpost _ _ ⟨rfl, (t_wI w4), ((t_oI w4 353 13 rfl).trans ((t_oI w2 353 13 rfl).trans rfl)), ((t_oI w4 353 15 rfl).trans ((t_oI w2 353 15 rfl).trans rfl)), ((t_oI w4 353 17 rfl).trans ((t_oI w2 353 17 rfl).trans rfl)), ((t_oI w4 353 20 rfl).trans ((t_oI w2 353 20 rfl).trans rfl)), ((t_oI w4 353 9 rfl).trans (t_wI w2)), ((t_keep_I w2 (by decide)).trans (t_keep_I w4 (by decide)))⟩) (Nat.le_of_ble_eq_true rfl) (Nat.le_of_ble_eq_true rfl)

theorem dX5_clear_0 : decode cX5_clear 0 = .ok (.aload_n 0, 1) := by decide +kernel
theorem dX5_clear_1 : decode cX5_clear 1 = .ok (.iconst 0, 1) := by decide +kernel
theorem dX5_clear_10 : decode cX5_clear 10 = .ok (.aload_n 0, 1) := by decide +kernel
theorem dX5_clear_11 : decode cX5_clear 11 = .ok (.iconst 0, 1) := by decide +kernel
theorem dX5_clear_12 : decode cX5_clear 12 = .ok (.putfield 67, 3) := by decide +kernel
theorem dX5_clear_15 : decode cX5_clear 15 = .ok (.return_, 1) := by decide +kernel
theorem dX5_clear_2 : decode cX5_clear 2 = .ok (.putfield 60, 3) := by decide +kernel
theorem dX5_clear_5 : decode cX5_clear 5 = .ok (.aload_n 0, 1) := by decide +kernel
theorem dX5_clear_6 : decode cX5_clear 6 = .ok (.iconst 0, 1) := by decide +kernel
theorem dX5_clear_7 : decode cX5_clear 7 = .ok (.putfield 64, 3) := by decide +kernel
set_option maxRecDepth 4000 in
set_option maxHeartbeats 400000 in
theorem N_X5_clear (s : t_S) : t_C yX5_clear cX5_clear 1 none 0 [.ref 428] s (fun v s' => v = none ∧ (s'.1 428 0 = 0) ∧ (s'.1 428 18 = 0) ∧ (s'.1 428 9 = 0) ∧ t_keep [428] s s') := by
  refine t_C.of (by decide +kernel) (Nat.le_of_ble_eq_true rfl) ?_
  intro D cy ad bs X
  suffices main : ∀ post : Option Value → t_S → Prop, (∀ v s', (v = none ∧ (s'.1 428 0 = 0) ∧ (s'.1 428 18 = 0) ∧ (s'.1 428 9 = 0) ∧ t_keep [428] s s') → post v s') → mj_G D cy ad bs X cX5_clear 1 yX5_clear.cls none yX5_clear.name 0 0 0 1065 (t_P post) 0 [(0, .ref 428)] [] (t_m s) 1065 0 0 from main _ (fun _ _ h => h)
  intro post hpost
  refine mj_aload_n dX5_clear_0 0 rfl ?_
  refine mj_iconst (v := 0) dX5_clear_1 (by decide) ?_
  refine t_putI dX5_clear_2 F_X5_60 qf_428_0 (by decide) ?_
  obtain ⟨s1, w2⟩ : ∃ z, z = t_setI s 428 0 0 := ⟨_, rfl⟩
  rw [← w2]
  refine mj_aload_n dX5_clear_5 0 rfl ?_
  refine mj_iconst (v := 0) dX5_clear_6 (by decide) ?_
  refine t_putI dX5_clear_7 F_X5_64 qf_428_9 (by decide) ?_
  obtain ⟨s3, w4⟩ : ∃ z, z = t_setI s1 428 9 0 := ⟨_, rfl⟩
  rw [← w4]
  refine mj_aload_n dX5_clear_10 0 rfl ?_
  refine mj_iconst (v := 0) dX5_clear_11 (by decide) ?_
  refine t_putI dX5_clear_12 F_X5_67 qf_428_18 (by decide) ?_
  obtain ⟨s5, w6⟩ : ∃ z, z = t_setI s3 428 18 0 := ⟨_, rfl⟩
  rw [← w6]
  exact t_vret dX5_clear_15 rfl (hpost _ _ ⟨rfl, ((t_oI w6 428 0 rfl).trans ((t_oI w4 428 0 rfl).trans (t_wI w2))), (t_wI w6), ((t_oI w6 428 9 rfl).trans (t_wI w4)), (((t_keep_I w2 (by decide)).trans (t_keep_I w4 (by decide))).trans (t_keep_I w6 (by decide)))⟩) (Nat.le_of_ble_eq_true rfl) (Nat.le_of_ble_eq_true rfl)

theorem dX3_clear_0 : decode cX3_clear 0 = .ok (.aload_n 0, 1) := by decide +kernel
theorem dX3_clear_1 : decode cX3_clear 1 = .ok (.iconst 0, 1) := by decide +kernel
theorem dX3_clear_10 : decode cX3_clear 10 = .ok (.aload_n 0, 1) := by decide +kernel
theorem dX3_clear_11 : decode cX3_clear 11 = .ok (.iconst 0, 1) := by decide +kernel
theorem dX3_clear_12 : decode cX3_clear 12 = .ok (.putfield 41, 3) := by decide +kernel
theorem dX3_clear_15 : decode cX3_clear 15 = .ok (.return_, 1) := by decide +kernel
theorem dX3_clear_2 : decode cX3_clear 2 = .ok (.putfield 34, 3) := by decide +kernel
theorem dX3_clear_5 : decode cX3_clear 5 = .ok (.aload_n 0, 1) := by decide +kernel
theorem dX3_clear_6 : decode cX3_clear 6 = .ok (.iconst 0, 1) := by decide +kernel
theorem dX3_clear_7 : decode cX3_clear 7 = .ok (.putfield 38, 3) := by decide +kernel
set_option maxRecDepth 4000 in
set_option maxHeartbeats 400000 in
theorem N_X3_clear (s : t_S) : t_C yX3_clear cX3_clear 1 none 0 [.ref 846] s (fun v s' => v = none ∧ (s'.1 846 6 = 0) ∧ (s'.1 846 7 = 0) ∧ (s'.1 846 8 = 0) ∧ t_keep [846] s s') := by
  refine t_C.of (by decide +kernel) (Nat.le_of_ble_eq_true rfl) ?_
  intro D cy ad bs X
  suffices main : ∀ post : Option Value → t_S → Prop, (∀ v s', (v = none ∧ (s'.1 846 6 = 0) ∧ (s'.1 846 7 = 0) ∧ (s'.1 846 8 = 0) ∧ t_keep [846] s s') → post v s') → mj_G D cy ad bs X cX3_clear 1 yX3_clear.cls none yX3_clear.name 0 0 0 1065 (t_P post) 0 [(0, .ref 846)] [] (t_m s) 1065 0 0 from main _ (fun _ _ h => h)
  intro post hpost
  refine mj_aload_n dX3_clear_0 0 rfl ?_
  refine mj_iconst (v := 0) dX3_clear_1 (by decide) ?_
  refine t_putI dX3_clear_2 F_X3_34 qf_846_6 (by decide) ?_
  obtain ⟨s1, w2⟩ : ∃ z, z = t_setI s 846 6 0 := ⟨_, rfl⟩
  rw [← w2]
  refine mj_aload_n dX3_clear_5 0 rfl ?_
  refine mj_iconst (v := 0) dX3_clear_6 (by decide) ?_
  refine t_putI dX3_clear_7 F_X3_38 qf_846_7 (by decide) ?_
  obtain ⟨s3, w4⟩ : ∃ z, z = t_setI s1 846 7 0 := ⟨_, rfl⟩
  rw [← w4]
  refine mj_aload_n dX3_clear_10 0 rfl ?_
  refine mj_iconst (v := 0) dX3_clear_11 (by decide) ?_
  refine t_putI dX3_clear_12 F_X3_41 qf_846_8 (by decide) ?_
  obtain ⟨s5, w6⟩ : ∃ z, z = t_setI s3 846 8 0 := ⟨_, rfl⟩
  rw [← w6]
  exact t_vret dX3_clear_15 rfl (hpost _ _ ⟨rfl, ((t_oI w6 846 6 rfl).trans ((t_oI w4 846 6 rfl).trans (t_wI w2))), ((t_oI w6 846 7 rfl).trans (t_wI w4)), (t_wI w6), (((t_keep_I w2 (by decide)).trans (t_keep_I w4 (by decide))).trans (t_keep_I w6 (by decide)))⟩) (Nat.le_of_ble_eq_true rfl) (Nat.le_of_ble_eq_true rfl)

theorem dX2_skipBlanks_0 : decode cX2_skipBlanks 0 = .ok (.iconst 0, 1) := by decide +kernel
theorem dX2_skipBlanks_1 : decode cX2_skipBlanks 1 = .ok (.istore_n 1, 1) := by decide +kernel
theorem dX2_skipBlanks_10 : decode cX2_skipBlanks 10 = .ok (.if_icmp .ge 75, 3) := by decide +kernel
theorem dX2_skipBlanks_2 : decode cX2_skipBlanks 2 = .ok (.aload_n 0, 1) := by decide +kernel
theorem dX2_skipBlanks_3 : decode cX2_skipBlanks 3 = .ok (.getfield 89, 3) := by decide +kernel
theorem dX2_skipBlanks_6 : decode cX2_skipBlanks 6 = .ok (.aload_n 0, 1) := by decide +kernel
theorem dX2_skipBlanks_7 : decode cX2_skipBlanks 7 = .ok (.getfield 61, 3) := by decide +kernel
theorem dX2_skipBlanks_85 : decode cX2_skipBlanks 85 = .ok (.return_, 1) := by decide +kernel
set_option maxRecDepth 4000 in
set_option maxHeartbeats 400000 in
theorem N_X2_skipBlanks (s : t_S) (h_I_1_1 : s.1 1 1 = 0) (h_I_1_2 : s.1 1 2 = 0) : t_C yX2_skipBlanks cX2_skipBlanks 3 none 0 [.ref 1] s (fun v s' => v = none ∧ s' = s) := by
  refine t_C.of (by decide +kernel) (Nat.le_of_ble_eq_true rfl) ?_
  intro D cy ad bs X
  suffices main : ∀ post : Option Value → t_S → Prop, (∀ v s', (v = none ∧ s' = s) → post v s') → mj_G D cy ad bs X cX2_skipBlanks 3 yX2_skipBlanks.cls none yX2_skipBlanks.name 0 0 0 1065 (t_P post) 0 [(0, .ref 1)] [] (t_m s) 1065 0 0 from main _ (fun _ _ h => h)
  intro post hpost
  refine mj_iconst (v := 0) dX2_skipBlanks_0 (by decide) ?_
  refine mj_istore_n 1 (lv2 := [(1, .int 0), (0, .ref 1)]) dX2_skipBlanks_1 rfl (by decide) rfl ?_
  refine mj_aload_n dX2_skipBlanks_2 1 rfl ?_
  refine t_getI dX2_skipBlanks_3 F_X2_89 qf_1_2 ?_
  rw [h_I_1_2]
  refine mj_aload_n dX2_skipBlanks_6 1 rfl ?_
  refine t_getI dX2_skipBlanks_7 F_X2_61 qf_1_1 ?_
  rw [h_I_1_1]
  refine mj_icmp_ge 85 dX2_skipBlanks_10 (by decide) (fun _ => ?_) (fun z => absurd (by decide) z)
  exact t_vret dX2_skipBlanks_85 rfl (hpost _ _ ⟨rfl, rfl⟩) (Nat.le_of_ble_eq_true rfl) (Nat.le_of_ble_eq_true rfl)

theorem dX2_advance_0 : decode cX2_advance 0 = .ok (.aload_n 0, 1) := by decide +kernel
theorem dX2_advance_1 : decode cX2_advance 1 = .ok (.getfield 103, 3) := by decide +kernel
theorem dX2_advance_11 : decode cX2_advance 11 = .ok (.iconst 1, 1) := by decide +kernel
theorem dX2_advance_12 : decode cX2_advance 12 = .ok (.iadd, 1) := by decide +kernel
theorem dX2_advance_13 : decode cX2_advance 13 = .ok (.aload_n 0, 1) := by decide +kernel
theorem dX2_advance_14 : decode cX2_advance 14 = .ok (.getfield 86, 3) := by decide +kernel
theorem dX2_advance_17 : decode cX2_advance 17 = .ok (.if_icmp .lt 4, 3) := by decide +kernel
theorem dX2_advance_21 : decode cX2_advance 21 = .ok (.aload_n 0, 1) := by decide +kernel
theorem dX2_advance_22 : decode cX2_advance 22 = .ok (.dup, 1) := by decide +kernel
theorem dX2_advance_23 : decode cX2_advance 23 = .ok (.getfield 109, 3) := by decide +kernel
theorem dX2_advance_26 : decode cX2_advance 26 = .ok (.iconst 1, 1) := by decide +kernel
theorem dX2_advance_27 : decode cX2_advance 27 = .ok (.iadd, 1) := by decide +kernel
theorem dX2_advance_28 : decode cX2_advance 28 = .ok (.putfield 109, 3) := by decide +kernel
theorem dX2_advance_31 : decode cX2_advance 31 = .ok (.aload_n 0, 1) := by decide +kernel
theorem dX2_advance_32 : decode cX2_advance 32 = .ok (.aload_n 0, 1) := by decide +kernel
theorem dX2_advance_33 : decode cX2_advance 33 = .ok (.getfield 15, 3) := by decide +kernel
theorem dX2_advance_36 : decode cX2_advance 36 = .ok (.aload_n 0, 1) := by decide +kernel
theorem dX2_advance_37 : decode cX2_advance 37 = .ok (.getfield 109, 3) := by decide +kernel
theorem dX2_advance_4 : decode cX2_advance 4 = .ok (.ifCond .ne 16, 3) := by decide +kernel
theorem dX2_advance_40 : decode cX2_advance 40 = .ok (.iaload, 1) := by decide +kernel
theorem dX2_advance_41 : decode cX2_advance 41 = .ok (.putfield 74, 3) := by decide +kernel
theorem dX2_advance_44 : decode cX2_advance 44 = .ok (.aload_n 0, 1) := by decide +kernel
theorem dX2_advance_45 : decode cX2_advance 45 = .ok (.aload_n 0, 1) := by decide +kernel
theorem dX2_advance_46 : decode cX2_advance 46 = .ok (.getfield 19, 3) := by decide +kernel
theorem dX2_advance_49 : decode cX2_advance 49 = .ok (.aload_n 0, 1) := by decide +kernel
theorem dX2_advance_50 : decode cX2_advance 50 = .ok (.getfield 109, 3) := by decide +kernel
theorem dX2_advance_53 : decode cX2_advance 53 = .ok (.iaload, 1) := by decide +kernel
theorem dX2_advance_54 : decode cX2_advance 54 = .ok (.putfield 112, 3) := by decide +kernel
theorem dX2_advance_57 : decode cX2_advance 57 = .ok (.aload_n 0, 1) := by decide +kernel
theorem dX2_advance_58 : decode cX2_advance 58 = .ok (.aload_n 0, 1) := by decide +kernel
theorem dX2_advance_59 : decode cX2_advance 59 = .ok (.getfield 22, 3) := by decide +kernel
theorem dX2_advance_62 : decode cX2_advance 62 = .ok (.aload_n 0, 1) := by decide +kernel
theorem dX2_advance_63 : decode cX2_advance 63 = .ok (.getfield 109, 3) := by decide +kernel
theorem dX2_advance_66 : decode cX2_advance 66 = .ok (.laload, 1) := by decide +kernel
theorem dX2_advance_67 : decode cX2_advance 67 = .ok (.putfield 95, 3) := by decide +kernel
theorem dX2_advance_7 : decode cX2_advance 7 = .ok (.aload_n 0, 1) := by decide +kernel
theorem dX2_advance_70 : decode cX2_advance 70 = .ok (.aload_n 0, 1) := by decide +kernel
theorem dX2_advance_71 : decode cX2_advance 71 = .ok (.getfield 74, 3) := by decide +kernel
theorem dX2_advance_74 : decode cX2_advance 74 = .ok (.iconst 5, 1) := by decide +kernel
theorem dX2_advance_75 : decode cX2_advance 75 = .ok (.if_icmp .ne 16, 3) := by decide +kernel
theorem dX2_advance_8 : decode cX2_advance 8 = .ok (.getfield 109, 3) := by decide +kernel
theorem dX2_advance_91 : decode cX2_advance 91 = .ok (.return_, 1) := by decide +kernel
set_option maxRecDepth 4000 in
set_option maxHeartbeats 400000 in
theorem N_X2_advance (s : t_S) (h_I_1_6 : s.1 1 6 = 1) (h_I_1_7 : s.1 1 7 = (-1)) (h_I_1_11 : s.1 1 11 = 0) (h_I_3_0 : s.1 3 0 = 4) (h_I_4_0 : s.1 4 0 = 0) (h_J_5_0 : s.2.1 5 0 = 0) : t_C yX2_advance cX2_advance 1 none 0 [.ref 1] s (fun v s' => v = none ∧ (s'.1 1 1 = s.1 1 1) ∧ (s'.1 1 11 = s.1 1 11) ∧ (s'.1 1 12 = s.1 1 12) ∧ (s'.1 1 13 = s.1 1 13) ∧ (s'.1 1 2 = s.1 1 2) ∧ (s'.1 1 6 = s.1 1 6) ∧ (s'.1 1 7 = 0) ∧ (s'.1 1 8 = 4) ∧ (s'.1 1 9 = 0) ∧ (s'.2.1 1 10 = 0) ∧ t_keep [1] s s') := by
  refine t_C.of (by decide +kernel) (Nat.le_of_ble_eq_true rfl) ?_
  intro D cy ad bs X
  suffices main : ∀ post : Option Value → t_S → Prop, (∀ v s', (v = none ∧ (s'.1 1 1 = s.1 1 1) ∧ (s'.1 1 11 = s.1 1 11) ∧ (s'.1 1 12 = s.1 1 12) ∧ (s'.1 1 13 = s.1 1 13) ∧ (s'.1 1 2 = s.1 1 2) ∧ (s'.1 1 6 = s.1 1 6) ∧ (s'.1 1 7 = 0) ∧ (s'.1 1 8 = 4) ∧ (s'.1 1 9 = 0) ∧ (s'.2.1 1 10 = 0) ∧ t_keep [1] s s') → post v s') → mj_G D cy ad bs X cX2_advance 1 yX2_advance.cls none yX2_advance.name 0 0 0 1065 (t_P post) 0 [(0, .ref 1)] [] (t_m s) 1065 0 0 from main _ (fun _ _ h => h)
  intro post hpost
  refine mj_aload_n dX2_advance_0 0 rfl ?_
  refine t_getI dX2_advance_1 F_X2_103 qf_1_11 ?_
  rw [h_I_1_11]
  refine mj_if_ne 20 dX2_advance_4 (by decide) (fun z => absurd (by decide) z) (fun _ => ?_)
  refine mj_aload_n dX2_advance_7 0 rfl ?_
  refine t_getI dX2_advance_8 F_X2_109 qf_1_7 ?_
  rw [h_I_1_7]
  refine mj_iconst (v := 1) dX2_advance_11 (by decide) ?_
  refine mj_iadd dX2_advance_12 ?_
  rw [show ((-1) : Int32) + 1 = 0 by decide]
  refine mj_aload_n dX2_advance_13 0 rfl ?_
  refine t_getI dX2_advance_14 F_X2_86 qf_1_6 ?_
  rw [h_I_1_6]
  refine mj_icmp_lt 21 dX2_advance_17 (by decide) (fun _ => ?_) (fun z => absurd (by decide) z)
  refine mj_aload_n dX2_advance_21 0 rfl ?_
  refine mj_dup dX2_advance_22 rfl ?_
  refine t_getI dX2_advance_23 F_X2_109 qf_1_7 ?_
  rw [h_I_1_7]
  refine mj_iconst (v := 1) dX2_advance_26 (by decide) ?_
  refine mj_iadd dX2_advance_27 ?_
  rw [show ((-1) : Int32) + 1 = 0 by decide]
  refine t_putI dX2_advance_28 F_X2_109 qf_1_7 (by decide) ?_
  obtain ⟨s1, w2⟩ : ∃ z, z = t_setI s 1 7 0 := ⟨_, rfl⟩
  rw [← w2]
  refine mj_aload_n dX2_advance_31 0 rfl ?_
  refine mj_aload_n dX2_advance_32 0 rfl ?_
  refine t_getR 3 dX2_advance_33 F_X2_15 qr_1_3 ?_
  refine mj_aload_n dX2_advance_36 0 rfl ?_
  refine t_getI dX2_advance_37 F_X2_109 qf_1_7 ?_
  rw [(t_wI w2)]
  refine t_iald dX2_advance_40 qa_3 (by unfold vp_in; decide) ?_
  rw [show (0 : Int32).toNatClampNeg = 0 by decide]
  rw [((t_oI w2 3 0 rfl).trans h_I_3_0)]
  refine t_putI dX2_advance_41 F_X2_74 qf_1_8 (by decide) ?_
  obtain ⟨s3, w4⟩ : ∃ z, z = t_setI s1 1 8 4 := ⟨_, rfl⟩
  rw [← w4]
  refine mj_aload_n dX2_advance_44 0 rfl ?_
  refine mj_aload_n dX2_advance_45 0 rfl ?_
  refine t_getR 4 dX2_advance_46 F_X2_19 qr_1_4 ?_
  refine mj_aload_n dX2_advance_49 0 rfl ?_
  refine t_getI dX2_advance_50 F_X2_109 qf_1_7 ?_
  rw [((t_oI w4 1 7 rfl).trans (t_wI w2))]
  refine t_iald dX2_advance_53 qa_4 (by unfold vp_in; decide) ?_
  rw [show (0 : Int32).toNatClampNeg = 0 by decide]
  rw [((t_oI w4 4 0 rfl).trans ((t_oI w2 4 0 rfl).trans h_I_4_0))]
  refine t_putI dX2_advance_54 F_X2_112 qf_1_9 (by decide) ?_
  obtain ⟨s5, w6⟩ : ∃ z, z = t_setI s3 1 9 0 := ⟨_, rfl⟩
  rw [← w6]
  refine mj_aload_n dX2_advance_57 0 rfl ?_
  refine mj_aload_n dX2_advance_58 0 rfl ?_
  refine t_getR 5 dX2_advance_59 F_X2_22 qr_1_5 ?_
  refine mj_aload_n dX2_advance_62 0 rfl ?_
  refine t_getI dX2_advance_63 F_X2_109 qf_1_7 ?_
  rw [((t_oI w6 1 7 rfl).trans ((t_oI w4 1 7 rfl).trans (t_wI w2)))]
  refine t_lald dX2_advance_66 qa_5 (by unfold vp_in; decide) ?_
  rw [show (0 : Int32).toNatClampNeg = 0 by decide]
  rw [((t_cIJ w6 5 0).trans ((t_cIJ w4 5 0).trans ((t_cIJ w2 5 0).trans h_J_5_0)))]
  refine t_putJ dX2_advance_67 F_X2_95 qf_1_10 rfl ?_
  obtain ⟨s7, w8⟩ : ∃ z, z = t_setJ s5 1 10 0 := ⟨_, rfl⟩
  rw [← w8]
  refine mj_aload_n dX2_advance_70 0 rfl ?_
  refine t_getI dX2_advance_71 F_X2_74 qf_1_8 ?_
  rw [((t_cJI w8 1 8).trans ((t_oI w6 1 8 rfl).trans (t_wI w4)))]
  refine mj_iconst (v := 5) dX2_advance_74 (by decide) ?_
  refine mj_icmp_ne 91 dX2_advance_75 (by decide) (fun _ => ?_) (fun z => absurd z (by decide))
  exact t_vret dX2_advance_91 rfl (hpost _ _ ⟨rfl, ((t_cJI w8 1 1).trans ((t_oI w6 1 1 rfl).trans ((t_oI w4 1 1 rfl).trans ((t_oI w2 1 1 rfl).trans rfl)))), ((t_cJI w8 1 11).trans ((t_oI w6 1 11 rfl).trans ((t_oI w4 1 11 rfl).trans ((t_oI w2 1 11 rfl).trans rfl)))), ((t_cJI w8 1 12).trans ((t_oI w6 1 12 rfl).trans ((t_oI w4 1 12 rfl).trans ((t_oI w2 1 12 rfl).trans rfl)))), ((t_cJI w8 1 13).trans ((t_oI w6 1 13 rfl).trans ((t_oI w4 1 13 rfl).trans ((t_oI w2 1 13 rfl).trans rfl)))), ((t_cJI w8 1 2).trans ((t_oI w6 1 2 rfl).trans ((t_oI w4 1 2 rfl).trans ((t_oI w2 1 2 rfl).trans rfl)))), ((t_cJI w8 1 6).trans ((t_oI w6 1 6 rfl).trans ((t_oI w4 1 6 rfl).trans ((t_oI w2 1 6 rfl).trans rfl)))), ((t_cJI w8 1 7).trans ((t_oI w6 1 7 rfl).trans ((t_oI w4 1 7 rfl).trans (t_wI w2)))), ((t_cJI w8 1 8).trans ((t_oI w6 1 8 rfl).trans (t_wI w4))), ((t_cJI w8 1 9).trans (t_wI w6)), (t_wJ w8), ((((t_keep_I w2 (by decide)).trans (t_keep_I w4 (by decide))).trans (t_keep_I w6 (by decide))).trans (t_keep_J w8 (by decide)))⟩) (Nat.le_of_ble_eq_true rfl) (Nat.le_of_ble_eq_true rfl)

theorem dX2_scan_0 : decode cX2_scan 0 = .ok (.aload_n 0, 1) := by decide +kernel
theorem dX2_scan_1 : decode cX2_scan 1 = .ok (.iconst 0, 1) := by decide +kernel
theorem dX2_scan_10 : decode cX2_scan 10 = .ok (.iconst 0, 1) := by decide +kernel
theorem dX2_scan_100 : decode cX2_scan 100 = .ok (.aload_n 0, 1) := by decide +kernel
theorem dX2_scan_101 : decode cX2_scan 101 = .ok (.dup, 1) := by decide +kernel
theorem dX2_scan_102 : decode cX2_scan 102 = .ok (.getfield 86, 3) := by decide +kernel
theorem dX2_scan_105 : decode cX2_scan 105 = .ok (.iconst 1, 1) := by decide +kernel
theorem dX2_scan_106 : decode cX2_scan 106 = .ok (.iadd, 1) := by decide +kernel
theorem dX2_scan_107 : decode cX2_scan 107 = .ok (.putfield 86, 3) := by decide +kernel
theorem dX2_scan_11 : decode cX2_scan 11 = .ok (.istore_n 1, 1) := by decide +kernel
theorem dX2_scan_110 : decode cX2_scan 110 = .ok (.iinc 2 1, 3) := by decide +kernel
theorem dX2_scan_113 : decode cX2_scan 113 = .ok (.goto (-99), 3) := by decide +kernel
theorem dX2_scan_116 : decode cX2_scan 116 = .ok (.aload_n 0, 1) := by decide +kernel
theorem dX2_scan_117 : decode cX2_scan 117 = .ok (.iconst 0, 1) := by decide +kernel
theorem dX2_scan_118 : decode cX2_scan 118 = .ok (.putfield 103, 3) := by decide +kernel
theorem dX2_scan_12 : decode cX2_scan 12 = .ok (.iconst 0, 1) := by decide +kernel
theorem dX2_scan_121 : decode cX2_scan 121 = .ok (.aload_n 0, 1) := by decide +kernel
theorem dX2_scan_122 : decode cX2_scan 122 = .ok (.iconst 0, 1) := by decide +kernel
theorem dX2_scan_123 : decode cX2_scan 123 = .ok (.putfield 106, 3) := by decide +kernel
theorem dX2_scan_126 : decode cX2_scan 126 = .ok (.aload_n 0, 1) := by decide +kernel
theorem dX2_scan_127 : decode cX2_scan 127 = .ok (.iconst (-1), 1) := by decide +kernel
theorem dX2_scan_128 : decode cX2_scan 128 = .ok (.putfield 109, 3) := by decide +kernel
theorem dX2_scan_13 : decode cX2_scan 13 = .ok (.istore_n 2, 1) := by decide +kernel
theorem dX2_scan_131 : decode cX2_scan 131 = .ok (.aload_n 0, 1) := by decide +kernel
theorem dX2_scan_132 : decode cX2_scan 132 = .ok (.invokevirtual 80, 3) := by decide +kernel
theorem dX2_scan_135 : decode cX2_scan 135 = .ok (.return_, 1) := by decide +kernel
theorem dX2_scan_14 : decode cX2_scan 14 = .ok (.iload_n 2, 1) := by decide +kernel
theorem dX2_scan_15 : decode cX2_scan 15 = .ok (.sipush 12000, 3) := by decide +kernel
theorem dX2_scan_18 : decode cX2_scan 18 = .ok (.if_icmp .gt 98, 3) := by decide +kernel
theorem dX2_scan_2 : decode cX2_scan 2 = .ok (.putfield 86, 3) := by decide +kernel
theorem dX2_scan_21 : decode cX2_scan 21 = .ok (.iload_n 1, 1) := by decide +kernel
theorem dX2_scan_22 : decode cX2_scan 22 = .ok (.iconst 4, 1) := by decide +kernel
theorem dX2_scan_23 : decode cX2_scan 23 = .ok (.if_icmp .eq 93, 3) := by decide +kernel
theorem dX2_scan_26 : decode cX2_scan 26 = .ok (.iload_n 1, 1) := by decide +kernel
theorem dX2_scan_27 : decode cX2_scan 27 = .ok (.iconst 5, 1) := by decide +kernel
theorem dX2_scan_28 : decode cX2_scan 28 = .ok (.if_icmp .eq 88, 3) := by decide +kernel
theorem dX2_scan_31 : decode cX2_scan 31 = .ok (.aload_n 0, 1) := by decide +kernel
theorem dX2_scan_32 : decode cX2_scan 32 = .ok (.invokevirtual 92, 3) := by decide +kernel
theorem dX2_scan_35 : decode cX2_scan 35 = .ok (.aload_n 0, 1) := by decide +kernel
theorem dX2_scan_36 : decode cX2_scan 36 = .ok (.lconst 0, 1) := by decide +kernel
theorem dX2_scan_37 : decode cX2_scan 37 = .ok (.putfield 95, 3) := by decide +kernel
theorem dX2_scan_40 : decode cX2_scan 40 = .ok (.aload_n 0, 1) := by decide +kernel
theorem dX2_scan_41 : decode cX2_scan 41 = .ok (.getfield 19, 3) := by decide +kernel
theorem dX2_scan_44 : decode cX2_scan 44 = .ok (.iload_n 2, 1) := by decide +kernel
theorem dX2_scan_45 : decode cX2_scan 45 = .ok (.aload_n 0, 1) := by decide +kernel
theorem dX2_scan_46 : decode cX2_scan 46 = .ok (.getfield 89, 3) := by decide +kernel
theorem dX2_scan_49 : decode cX2_scan 49 = .ok (.iastore, 1) := by decide +kernel
theorem dX2_scan_5 : decode cX2_scan 5 = .ok (.aload_n 0, 1) := by decide +kernel
theorem dX2_scan_50 : decode cX2_scan 50 = .ok (.aload_n 0, 1) := by decide +kernel
theorem dX2_scan_51 : decode cX2_scan 51 = .ok (.getfield 89, 3) := by decide +kernel
theorem dX2_scan_54 : decode cX2_scan 54 = .ok (.aload_n 0, 1) := by decide +kernel
theorem dX2_scan_55 : decode cX2_scan 55 = .ok (.getfield 61, 3) := by decide +kernel
theorem dX2_scan_58 : decode cX2_scan 58 = .ok (.if_icmp .lt 7, 3) := by decide +kernel
theorem dX2_scan_6 : decode cX2_scan 6 = .ok (.iconst 0, 1) := by decide +kernel
theorem dX2_scan_61 : decode cX2_scan 61 = .ok (.iconst 4, 1) := by decide +kernel
theorem dX2_scan_62 : decode cX2_scan 62 = .ok (.goto 20, 3) := by decide +kernel
theorem dX2_scan_7 : decode cX2_scan 7 = .ok (.putfield 89, 3) := by decide +kernel
theorem dX2_scan_82 : decode cX2_scan 82 = .ok (.istore_n 1, 1) := by decide +kernel
theorem dX2_scan_83 : decode cX2_scan 83 = .ok (.aload_n 0, 1) := by decide +kernel
theorem dX2_scan_84 : decode cX2_scan 84 = .ok (.getfield 15, 3) := by decide +kernel
theorem dX2_scan_87 : decode cX2_scan 87 = .ok (.iload_n 2, 1) := by decide +kernel
theorem dX2_scan_88 : decode cX2_scan 88 = .ok (.iload_n 1, 1) := by decide +kernel
theorem dX2_scan_89 : decode cX2_scan 89 = .ok (.iastore, 1) := by decide +kernel
theorem dX2_scan_90 : decode cX2_scan 90 = .ok (.aload_n 0, 1) := by decide +kernel
theorem dX2_scan_91 : decode cX2_scan 91 = .ok (.getfield 22, 3) := by decide +kernel
theorem dX2_scan_94 : decode cX2_scan 94 = .ok (.iload_n 2, 1) := by decide +kernel
theorem dX2_scan_95 : decode cX2_scan 95 = .ok (.aload_n 0, 1) := by decide +kernel
theorem dX2_scan_96 : decode cX2_scan 96 = .ok (.getfield 95, 3) := by decide +kernel
theorem dX2_scan_99 : decode cX2_scan 99 = .ok (.lastore, 1) := by decide +kernel
set_option maxRecDepth 4000 in
set_option maxHeartbeats 400000 in
theorem N_X2_scan (s : t_S) (h_I_1_1 : s.1 1 1 = 0) : t_C yX2_scan cX2_scan 3 none 1 [.ref 1] s (fun v s' => v = none ∧ (s'.1 1 1 = s.1 1 1) ∧ (s'.1 1 11 = 0) ∧ (s'.1 1 12 = 0) ∧ (s'.1 1 13 = s.1 1 13) ∧ (s'.1 1 2 = 0) ∧ (s'.1 1 6 = 1) ∧ (s'.1 1 7 = 0) ∧ (s'.1 1 8 = 4) ∧ (s'.1 1 9 = 0) ∧ (s'.1 3 0 = 4) ∧ (s'.1 4 0 = 0) ∧ (s'.2.1 1 10 = 0) ∧ (s'.2.1 5 0 = 0) ∧ t_keep [1, 3, 4, 5] s s') := by
  refine t_C.of (by decide +kernel) (Nat.le_of_ble_eq_true rfl) ?_
  intro D cy ad bs X
  suffices main : ∀ post : Option Value → t_S → Prop, (∀ v s', (v = none ∧ (s'.1 1 1 = s.1 1 1) ∧ (s'.1 1 11 = 0) ∧ (s'.1 1 12 = 0) ∧ (s'.1 1 13 = s.1 1 13) ∧ (s'.1 1 2 = 0) ∧ (s'.1 1 6 = 1) ∧ (s'.1 1 7 = 0) ∧ (s'.1 1 8 = 4) ∧ (s'.1 1 9 = 0) ∧ (s'.1 3 0 = 4) ∧ (s'.1 4 0 = 0) ∧ (s'.2.1 1 10 = 0) ∧ (s'.2.1 5 0 = 0) ∧ t_keep [1, 3, 4, 5] s s') → post v s') → mj_G D cy ad bs X cX2_scan 3 yX2_scan.cls none yX2_scan.name 1 0 0 1065 (t_P post) 0 [(0, .ref 1)] [] (t_m s) 1065 0 0 from main _ (fun _ _ h => h)
  intro post hpost
  refine mj_aload_n dX2_scan_0 0 rfl ?_
  refine mj_iconst (v := 0) dX2_scan_1 (by decide) ?_
  refine t_putI dX2_scan_2 F_X2_86 qf_1_6 (by decide) ?_
  obtain ⟨s1, w2⟩ : ∃ z, z = t_setI s 1 6 0 := ⟨_, rfl⟩
  rw [← w2]
  refine mj_aload_n dX2_scan_5 0 rfl ?_
  refine mj_iconst (v := 0) dX2_scan_6 (by decide) ?_
  refine t_putI dX2_scan_7 F_X2_89 qf_1_2 (by decide) ?_
  obtain ⟨s3, w4⟩ : ∃ z, z = t_setI s1 1 2 0 := ⟨_, rfl⟩
  rw [← w4]
  refine mj_iconst (v := 0) dX2_scan_10 (by decide) ?_
  refine mj_istore_n 1 (lv2 := [(1, .int 0), (0, .ref 1)]) dX2_scan_11 rfl (by decide) rfl ?_
  refine mj_iconst (v := 0) dX2_scan_12 (by decide) ?_
  refine mj_istore_n 2 (lv2 := [(2, .int 0), (1, .int 0), (0, .ref 1)]) dX2_scan_13 rfl (by decide) rfl ?_
  refine mj_iload_n dX2_scan_14 0 rfl ?_
  refine mj_sipush (v := 12000) dX2_scan_15 (by decide) ?_
  refine mj_icmp_gt 116 dX2_scan_18 (by decide) (fun z => absurd z (by decide)) (fun _ => ?_)
  refine mj_iload_n dX2_scan_21 1 rfl ?_
  refine mj_iconst (v := 4) dX2_scan_22 (by decide) ?_
  refine mj_icmp_eq 116 dX2_scan_23 (by decide) (fun z => absurd z (by decide)) (fun _ => ?_)
  refine mj_iload_n dX2_scan_26 1 rfl ?_
  refine mj_iconst (v := 5) dX2_scan_27 (by decide) ?_
  refine mj_icmp_eq 116 dX2_scan_28 (by decide) (fun z => absurd z (by decide)) (fun _ => ?_)
  refine mj_aload_n dX2_scan_31 2 rfl ?_
  refine t_callV dX2_scan_32 M_X2_skipBlanks (N_X2_skipBlanks s3 ((t_oI w4 1 1 rfl).trans ((t_oI w2 1 1 rfl).trans h_I_1_1)) (t_wI w4)) ML_X2_92 IM_X2_skipBlanks SE_X2_skipBlanks qc_1 rfl (As := []) rfl rfl (Nat.le_of_ble_eq_true rfl) (Nat.le_of_ble_eq_true rfl) (Nat.le_of_ble_eq_true rfl) (Nat.le_of_ble_eq_true rfl) (fun v s5 hp => ?_)
  obtain ⟨rfl, hq⟩ := hp
  rw [hq]
  clear hq s5
  refine mj_aload_n dX2_scan_35 2 rfl ?_
  refine mj_lconst (v := 0) dX2_scan_36 (by decide) ?_
  refine t_putJ dX2_scan_37 F_X2_95 qf_1_10 rfl ?_
  obtain ⟨s6, w7⟩ : ∃ z, z = t_setJ s3 1 10 0 := ⟨_, rfl⟩
  rw [← w7]
  refine mj_aload_n dX2_scan_40 2 rfl ?_
  refine t_getR 4 dX2_scan_41 F_X2_19 qr_1_4 ?_
  refine mj_iload_n dX2_scan_44 0 rfl ?_
  refine mj_aload_n dX2_scan_45 2 rfl ?_
  refine t_getI dX2_scan_46 F_X2_89 qf_1_2 ?_
  rw [((t_cJI w7 1 2).trans (t_wI w4))]
  refine t_iast dX2_scan_49 qa_4 (by unfold vp_in; decide) ?_
  rw [show (0 : Int32).toNatClampNeg = 0 by decide]
  obtain ⟨s8, w9⟩ : ∃ z, z = t_setI s6 4 0 0 := ⟨_, rfl⟩
  rw [← w9]
  refine mj_aload_n dX2_scan_50 2 rfl ?_
  refine t_getI dX2_scan_51 F_X2_89 qf_1_2 ?_
  rw [((t_oI w9 1 2 rfl).trans ((t_cJI w7 1 2).trans (t_wI w4)))]
  refine mj_aload_n dX2_scan_54 2 rfl ?_
  refine t_getI dX2_scan_55 F_X2_61 qf_1_1 ?_
  rw [((t_oI w9 1 1 rfl).trans ((t_cJI w7 1 1).trans ((t_oI w4 1 1 rfl).trans ((t_oI w2 1 1 rfl).trans h_I_1_1))))]
  refine mj_icmp_lt 65 dX2_scan_58 (by decide) (fun z => absurd z (by decide)) (fun _ => ?_)
  refine mj_iconst (v := 4) dX2_scan_61 (by decide) ?_
  refine mj_goto 82 dX2_scan_62 (by decide) ?_
  refine mj_istore_n 1 (lv2 := [(1, .int 4), (2, .int 0), (0, .ref 1)]) dX2_scan_82 rfl (by decide) rfl ?_
  refine mj_aload_n dX2_scan_83 2 rfl ?_
  refine t_getR 3 dX2_scan_84 F_X2_15 qr_1_3 ?_
  refine mj_iload_n dX2_scan_87 1 rfl ?_
  refine mj_iload_n dX2_scan_88 0 rfl ?_
  refine t_iast dX2_scan_89 qa_3 (by unfold vp_in; decide) ?_
  rw [show (0 : Int32).toNatClampNeg = 0 by decide]
  obtain ⟨s10, w11⟩ : ∃ z, z = t_setI s8 3 0 4 := ⟨_, rfl⟩
  rw [← w11]
  refine mj_aload_n dX2_scan_90 2 rfl ?_
  refine t_getR 5 dX2_scan_91 F_X2_22 qr_1_5 ?_
  refine mj_iload_n dX2_scan_94 1 rfl ?_
  refine mj_aload_n dX2_scan_95 2 rfl ?_
  refine t_getJ dX2_scan_96 F_X2_95 qf_1_10 ?_
  rw [((t_cIJ w11 1 10).trans ((t_cIJ w9 1 10).trans (t_wJ w7)))]
  refine t_last dX2_scan_99 qa_5 (by unfold vp_in; decide) ?_
  rw [show (0 : Int32).toNatClampNeg = 0 by decide]
  obtain ⟨s12, w13⟩ : ∃ z, z = t_setJ s10 5 0 0 := ⟨_, rfl⟩
  rw [← w13]
  refine mj_aload_n dX2_scan_100 2 rfl ?_
  refine mj_dup dX2_scan_101 rfl ?_
  refine t_getI dX2_scan_102 F_X2_86 qf_1_6 ?_
  rw [((t_cJI w13 1 6).trans ((t_oI w11 1 6 rfl).trans ((t_oI w9 1 6 rfl).trans ((t_cJI w7 1 6).trans ((t_oI w4 1 6 rfl).trans (t_wI w2))))))]
  refine mj_iconst (v := 1) dX2_scan_105 (by decide) ?_
  refine mj_iadd dX2_scan_106 ?_
  rw [show (0 : Int32) + 1 = 1 by decide]
  refine t_putI dX2_scan_107 F_X2_86 qf_1_6 (by decide) ?_
  obtain ⟨s14, w15⟩ : ∃ z, z = t_setI s12 1 6 1 := ⟨_, rfl⟩
  rw [← w15]
  refine mj_iinc (k := 1) (v := 1) (lv2 := [(2, .int 1), (1, .int 4), (0, .ref 1)]) dX2_scan_110 rfl (by decide) (by decide) rfl ?_
  refine mj_goto 14 dX2_scan_113 (by decide) ?_
  refine mj_iload_n dX2_scan_14 0 rfl ?_
  refine mj_sipush (v := 12000) dX2_scan_15 (by decide) ?_
  refine mj_icmp_gt 116 dX2_scan_18 (by decide) (fun z => absurd z (by decide)) (fun _ => ?_)
  refine mj_iload_n dX2_scan_21 1 rfl ?_
  refine mj_iconst (v := 4) dX2_scan_22 (by decide) ?_
  refine mj_icmp_eq 116 dX2_scan_23 (by decide) (fun _ => ?_) (fun z => absurd (by decide) z)
  refine mj_aload_n dX2_scan_116 2 rfl ?_
  refine mj_iconst (v := 0) dX2_scan_117 (by decide) ?_
  refine t_putI dX2_scan_118 F_X2_103 qf_1_11 (by decide) ?_
  obtain ⟨s16, w17⟩ : ∃ z, z = t_setI s14 1 11 0 := ⟨_, rfl⟩
  rw [← w17]
  refine mj_aload_n dX2_scan_121 2 rfl ?_
  refine mj_iconst (v := 0) dX2_scan_122 (by decide) ?_
  refine t_putI dX2_scan_123 F_X2_106 qf_1_12 (by decide) ?_
  obtain ⟨s18, w19⟩ : ∃ z, z = t_setI s16 1 12 0 := ⟨_, rfl⟩
  rw [← w19]
  refine mj_aload_n dX2_scan_126 2 rfl ?_
  refine mj_iconst (v := (-1)) dX2_scan_127 (by decide) ?_
  refine t_putI dX2_scan_128 F_X2_109 qf_1_7 (by decide) ?_
  obtain ⟨s20, w21⟩ : ∃ z, z = t_setI s18 1 7 (-1) := ⟨_, rfl⟩
  rw [← w21]
  refine mj_aload_n dX2_scan_131 2 rfl ?_
  refine t_callV dX2_scan_132 M_X2_advance (N_X2_advance s20 ((t_oI w21 1 6 rfl).trans ((t_oI w19 1 6 rfl).trans ((t_oI w17 1 6 rfl).trans (t_wI w15)))) (t_wI w21) ((t_oI w21 1 11 rfl).trans ((t_oI w19 1 11 rfl).trans (t_wI w17))) ((t_oI w21 3 0 rfl).trans ((t_oI w19 3 0 rfl).trans ((t_oI w17 3 0 rfl).trans ((t_oI w15 3 0 rfl).trans ((t_cJI w13 3 0).trans (t_wI w11)))))) ((t_oI w21 4 0 rfl).trans ((t_oI w19 4 0 rfl).trans ((t_oI w17 4 0 rfl).trans ((t_oI w15 4 0 rfl).trans ((t_cJI w13 4 0).trans ((t_oI w11 4 0 rfl).trans (t_wI w9))))))) ((t_cIJ w21 5 0).trans ((t_cIJ w19 5 0).trans ((t_cIJ w17 5 0).trans ((t_cIJ w15 5 0).trans (t_wJ w13)))))) ML_X2_80 IM_X2_advance SE_X2_advance qc_1 rfl (As := []) rfl rfl (Nat.le_of_ble_eq_true rfl) (Nat.le_of_ble_eq_true rfl) (Nat.le_of_ble_eq_true rfl) (Nat.le_of_ble_eq_true rfl) (fun v s22 hp => ?_)
  obtain ⟨rfl, e23, e24, e25, e26, e27, e28, e29, e30, e31, e32, k33⟩ := hp
  exact t_vret dX2_scan_135 rfl (hpost _ _ ⟨rfl, (e23.trans ((t_oI w21 1 1 rfl).trans ((t_oI w19 1 1 rfl).trans ((t_oI w17 1 1 rfl).trans ((t_oI w15 1 1 rfl).trans ((t_cJI w13 1 1).trans ((t_oI w11 1 1 rfl).trans ((t_oI w9 1 1 rfl).trans ((t_cJI w7 1 1).trans ((t_oI w4 1 1 rfl).trans ((t_oI w2 1 1 rfl).trans rfl))))))))))), (e24.trans ((t_oI w21 1 11 rfl).trans ((t_oI w19 1 11 rfl).trans (t_wI w17)))), (e25.trans ((t_oI w21 1 12 rfl).trans (t_wI w19))), (e26.trans ((t_oI w21 1 13 rfl).trans ((t_oI w19 1 13 rfl).trans ((t_oI w17 1 13 rfl).trans ((t_oI w15 1 13 rfl).trans ((t_cJI w13 1 13).trans ((t_oI w11 1 13 rfl).trans ((t_oI w9 1 13 rfl).trans ((t_cJI w7 1 13).trans ((t_oI w4 1 13 rfl).trans ((t_oI w2 1 13 rfl).trans rfl))))))))))), (e27.trans ((t_oI w21 1 2 rfl).trans ((t_oI w19 1 2 rfl).trans ((t_oI w17 1 2 rfl).trans ((t_oI w15 1 2 rfl).trans ((t_cJI w13 1 2).trans ((t_oI w11 1 2 rfl).trans ((t_oI w9 1 2 rfl).trans ((t_cJI w7 1 2).trans (t_wI w4)))))))))), (e28.trans ((t_oI w21 1 6 rfl).trans ((t_oI w19 1 6 rfl).trans ((t_oI w17 1 6 rfl).trans (t_wI w15))))), e29, e30, e31, ((congrFun (k33 3 (by decide)).1 0).trans ((t_oI w21 3 0 rfl).trans ((t_oI w19 3 0 rfl).trans ((t_oI w17 3 0 rfl).trans ((t_oI w15 3 0 rfl).trans ((t_cJI w13 3 0).trans (t_wI w11))))))), ((congrFun (k33 4 (by decide)).1 0).trans ((t_oI w21 4 0 rfl).trans ((t_oI w19 4 0 rfl).trans ((t_oI w17 4 0 rfl).trans ((t_oI w15 4 0 rfl).trans ((t_cJI w13 4 0).trans ((t_oI w11 4 0 rfl).trans (t_wI w9)))))))), e32, ((congrFun (k33 5 (by decide)).2.1 0).trans ((t_cIJ w21 5 0).trans ((t_cIJ w19 5 0).trans ((t_cIJ w17 5 0).trans ((t_cIJ w15 5 0).trans (t_wJ w13)))))), (((((((((((t_keep_I w2 (by decide)).trans (t_keep_I w4 (by decide))).trans (t_keep_J w7 (by decide))).trans (t_keep_I w9 (by decide))).trans (t_keep_I w11 (by decide))).trans (t_keep_J w13 (by decide))).trans (t_keep_I w15 (by decide))).trans (t_keep_I w17 (by decide))).trans (t_keep_I w19 (by decide))).trans (t_keep_I w21 (by decide))).trans (k33.mono (by decide)))⟩) (Nat.le_of_ble_eq_true rfl) (Nat.le_of_ble_eq_true rfl)

theorem dX6_startReading_0 : decode cX6_startReading 0 = .ok (.aload_n 0, 1) := by decide +kernel
theorem dX6_startReading_1 : decode cX6_startReading 1 = .ok (.iconst 0, 1) := by decide +kernel
theorem dX6_startReading_10 : decode cX6_startReading 10 = .ok (.aload_n 0, 1) := by decide +kernel
theorem dX6_startReading_11 : decode cX6_startReading 11 = .ok (.iconst 0, 1) := by decide +kernel
theorem dX6_startReading_12 : decode cX6_startReading 12 = .ok (.putfield 131, 3) := by decide +kernel
theorem dX6_startReading_15 : decode cX6_startReading 15 = .ok (.aload_n 0, 1) := by decide +kernel
theorem dX6_startReading_16 : decode cX6_startReading 16 = .ok (.iconst (-1), 1) := by decide +kernel
theorem dX6_startReading_17 : decode cX6_startReading 17 = .ok (.putfield 134, 3) := by decide +kernel
theorem dX6_startReading_2 : decode cX6_startReading 2 = .ok (.putfield 106, 3) := by decide +kernel
theorem dX6_startReading_20 : decode cX6_startReading 20 = .ok (.aload_n 0, 1) := by decide +kernel
theorem dX6_startReading_21 : decode cX6_startReading 21 = .ok (.iconst (-1), 1) := by decide +kernel
theorem dX6_startReading_22 : decode cX6_startReading 22 = .ok (.putfield 137, 3) := by decide +kernel
theorem dX6_startReading_25 : decode cX6_startReading 25 = .ok (.aload_n 0, 1) := by decide +kernel
theorem dX6_startReading_26 : decode cX6_startReading 26 = .ok (.iconst (-1), 1) := by decide +kernel
theorem dX6_startReading_27 : decode cX6_startReading 27 = .ok (.putfield 140, 3) := by decide +kernel
theorem dX6_startReading_30 : decode cX6_startReading 30 = .ok (.aload_n 0, 1) := by decide +kernel
theorem dX6_startReading_31 : decode cX6_startReading 31 = .ok (.iconst 0, 1) := by decide +kernel
theorem dX6_startReading_32 : decode cX6_startReading 32 = .ok (.putfield 116, 3) := by decide +kernel
theorem dX6_startReading_35 : decode cX6_startReading 35 = .ok (.aload_n 0, 1) := by decide +kernel
theorem dX6_startReading_36 : decode cX6_startReading 36 = .ok (.getfield 18, 3) := by decide +kernel
theorem dX6_startReading_39 : decode cX6_startReading 39 = .ok (.invokevirtual 143, 3) := by decide +kernel
theorem dX6_startReading_42 : decode cX6_startReading 42 = .ok (.aload_n 0, 1) := by decide +kernel
theorem dX6_startReading_43 : decode cX6_startReading 43 = .ok (.getfield 28, 3) := by decide +kernel
theorem dX6_startReading_46 : decode cX6_startReading 46 = .ok (.invokevirtual 144, 3) := by decide +kernel
theorem dX6_startReading_49 : decode cX6_startReading 49 = .ok (.return_, 1) := by decide +kernel
theorem dX6_startReading_5 : decode cX6_startReading 5 = .ok (.aload_n 0, 1) := by decide +kernel
theorem dX6_startReading_6 : decode cX6_startReading 6 = .ok (.iconst 0, 1) := by decide +kernel
theorem dX6_startReading_7 : decode cX6_startReading 7 = .ok (.putfield 128, 3) := by decide +kernel
set_option maxRecDepth 4000 in
set_option maxHeartbeats 400000 in
theorem N_X6_startReading (s : t_S) (h_I_1_1 : s.1 1 1 = 0) : t_C yX6_startReading cX6_startReading 1 none 2 [.ref 845] s (fun v s' => v = none ∧ (s'.1 1 1 = s.1 1 1) ∧ (s'.1 1 11 = 0) ∧ (s'.1 1 12 = 0) ∧ (s'.1 1 13 = s.1 1 13) ∧ (s'.1 1 2 = 0) ∧ (s'.1 1 6 = 1) ∧ (s'.1 1 7 = 0) ∧ (s'.1 1 8 = 4) ∧ (s'.1 1 9 = 0) ∧ (s'.1 3 0 = 4) ∧ (s'.1 4 0 = 0) ∧ (s'.1 845 10 = 0) ∧ (s'.1 845 11 = s.1 845 11) ∧ (s'.1 845 12 = (-1)) ∧ (s'.1 845 13 = (-1)) ∧ (s'.1 845 14 = (-1)) ∧ (s'.1 845 15 = 0) ∧ (s'.1 845 16 = s.1 845 16) ∧ (s'.1 845 7 = 0) ∧ (s'.1 845 9 = 0) ∧ (s'.1 846 6 = 0) ∧ (s'.1 846 7 = 0) ∧ (s'.1 846 8 = 0) ∧ (s'.2.1 1 10 = 0) ∧ (s'.2.1 5 0 = 0) ∧ t_keep [1, 3, 4, 5, 845, 846] s s') := by
  refine t_C.of (by decide +kernel) (Nat.le_of_ble_eq_true rfl) ?_
  intro D cy ad bs X
  suffices main : ∀ post : Option Value → t_S → Prop, (∀ v s', (v = none ∧ (s'.1 1 1 = s.1 1 1) ∧ (s'.1 1 11 = 0) ∧ (s'.1 1 12 = 0) ∧ (s'.1 1 13 = s.1 1 13) ∧ (s'.1 1 2 = 0) ∧ (s'.1 1 6 = 1) ∧ (s'.1 1 7 = 0) ∧ (s'.1 1 8 = 4) ∧ (s'.1 1 9 = 0) ∧ (s'.1 3 0 = 4) ∧ (s'.1 4 0 = 0) ∧ (s'.1 845 10 = 0) ∧ (s'.1 845 11 = s.1 845 11) ∧ (s'.1 845 12 = (-1)) ∧ (s'.1 845 13 = (-1)) ∧ (s'.1 845 14 = (-1)) ∧ (s'.1 845 15 = 0) ∧ (s'.1 845 16 = s.1 845 16) ∧ (s'.1 845 7 = 0) ∧ (s'.1 845 9 = 0) ∧ (s'.1 846 6 = 0) ∧ (s'.1 846 7 = 0) ∧ (s'.1 846 8 = 0) ∧ (s'.2.1 1 10 = 0) ∧ (s'.2.1 5 0 = 0) ∧ t_keep [1, 3, 4, 5, 845, 846] s s') → post v s') → mj_G D cy ad bs X cX6_startReading 1 yX6_startReading.cls none yX6_startReading.name 2 0 0 1065 (t_P post) 0 [(0, .ref 845)] [] (t_m s) 1065 0 0 from main _ (fun _ _ h => h)
  intro post hpost
  refine mj_aload_n dX6_startReading_0 0 rfl ?_
  refine mj_iconst (v := 0) dX6_startReading_1 (by decide) ?_
  refine t_putI dX6_startReading_2 F_X6_106 qf_845_10 (by decide) ?_
  obtain ⟨s1, w2⟩ : ∃ z, z = t_setI s 845 10 0 := ⟨_, rfl⟩
  rw [← w2]
  refine mj_aload_n dX6_startReading_5 0 rfl ?_
  refine mj_iconst (v := 0) dX6_startReading_6 (by decide) ?_
  refine t_putI dX6_startReading_7 F_X6_128 qf_845_7 (by decide) ?_
  obtain ⟨s3, w4⟩ : ∃ z, z = t_setI s1 845 7 0 := ⟨_, rfl⟩
  rw [← w4]
  refine mj_aload_n dX6_startReading_10 0 rfl ?_
  refine mj_iconst (v := 0) dX6_startReading_11 (by decide) ?_
  refine t_putI dX6_startReading_12 F_X6_131 qf_845_9 (by decide) ?_
  obtain ⟨s5, w6⟩ : ∃ z, z = t_setI s3 845 9 0 := ⟨_, rfl⟩
  rw [← w6]
  refine mj_aload_n dX6_startReading_15 0 rfl ?_
  refine mj_iconst (v := (-1)) dX6_startReading_16 (by decide) ?_
  refine t_putI dX6_startReading_17 F_X6_134 qf_845_12 (by decide) ?_
  obtain ⟨s7, w8⟩ : ∃ z, z = t_setI s5 845 12 (-1) := ⟨_, rfl⟩
  rw [← w8]
  refine mj_aload_n dX6_startReading_20 0 rfl ?_
  refine mj_iconst (v := (-1)) dX6_startReading_21 (by decide) ?_
  refine t_putI dX6_startReading_22 F_X6_137 qf_845_13 (by decide) ?_
  obtain ⟨s9, w10⟩ : ∃ z, z = t_setI s7 845 13 (-1) := ⟨_, rfl⟩
  rw [← w10]
  refine mj_aload_n dX6_startReading_25 0 rfl ?_
  refine mj_iconst (v := (-1)) dX6_startReading_26 (by decide) ?_
  refine t_putI dX6_startReading_27 F_X6_140 qf_845_14 (by decide) ?_
  obtain ⟨s11, w12⟩ : ∃ z, z = t_setI s9 845 14 (-1) := ⟨_, rfl⟩
  rw [← w12]
  refine mj_aload_n dX6_startReading_30 0 rfl ?_
  refine mj_iconst (v := 0) dX6_startReading_31 (by decide) ?_
  refine t_putI dX6_startReading_32 F_X6_116 qf_845_15 (by decide) ?_
  obtain ⟨s13, w14⟩ : ∃ z, z = t_setI s11 845 15 0 := ⟨_, rfl⟩
  rw [← w14]
  refine mj_aload_n dX6_startReading_35 0 rfl ?_
  refine t_getR 846 dX6_startReading_36 F_X6_18 qr_845_5 ?_
  refine t_callV dX6_startReading_39 M_X3_clear (N_X3_clear s13) ML_X6_143 IM_X3_clear SE_X3_clear qc_846 rfl (As := []) rfl rfl (Nat.le_of_ble_eq_true rfl) (Nat.le_of_ble_eq_true rfl) (Nat.le_of_ble_eq_true rfl) (Nat.le_of_ble_eq_true rfl) (fun v s15 hp => ?_)
  obtain ⟨rfl, e16, e17, e18, k19⟩ := hp
  refine mj_aload_n dX6_startReading_42 0 rfl ?_
  refine t_getR 1 dX6_startReading_43 F_X6_28 qr_845_0 ?_
  refine t_callV dX6_startReading_46 M_X2_scan (N_X2_scan s15 ((congrFun (k19 1 (by decide)).1 1).trans ((t_oI w14 1 1 rfl).trans ((t_oI w12 1 1 rfl).trans ((t_oI w10 1 1 rfl).trans ((t_oI w8 1 1 rfl).trans ((t_oI w6 1 1 rfl).trans ((t_oI w4 1 1 rfl).trans ((t_oI w2 1 1 rfl).trans h_I_1_1))))))))) ML_X6_144 IM_X2_scan SE_X2_scan qc_1 rfl (As := []) rfl rfl (Nat.le_of_ble_eq_true rfl) (Nat.le_of_ble_eq_true rfl) (Nat.le_of_ble_eq_true rfl) (Nat.le_of_ble_eq_true rfl) (fun v s20 hp => ?_)
  obtain ⟨rfl, e21, e22, e23, e24, e25, e26, e27, e28, e29, e30, e31, e32, e33, k34⟩ := hp
  exact t_vret dX6_startReading_49 rfl (hpost _ _ ⟨rfl, (e21.trans ((congrFun (k19 1 (by decide)).1 1).trans ((t_oI w14 1 1 rfl).trans ((t_oI w12 1 1 rfl).trans ((t_oI w10 1 1 rfl).trans ((t_oI w8 1 1 rfl).trans ((t_oI w6 1 1 rfl).trans ((t_oI w4 1 1 rfl).trans ((t_oI w2 1 1 rfl).trans rfl))))))))), e22, e23, (e24.trans ((congrFun (k19 1 (by decide)).1 13).trans ((t_oI w14 1 13 rfl).trans ((t_oI w12 1 13 rfl).trans ((t_oI w10 1 13 rfl).trans ((t_oI w8 1 13 rfl).trans ((t_oI w6 1 13 rfl).trans ((t_oI w4 1 13 rfl).trans ((t_oI w2 1 13 rfl).trans rfl))))))))), e25, e26, e27, e28, e29, e30, e31, ((congrFun (k34 845 (by decide)).1 10).trans ((congrFun (k19 845 (by decide)).1 10).trans ((t_oI w14 845 10 rfl).trans ((t_oI w12 845 10 rfl).trans ((t_oI w10 845 10 rfl).trans ((t_oI w8 845 10 rfl).trans ((t_oI w6 845 10 rfl).trans ((t_oI w4 845 10 rfl).trans (t_wI w2))))))))), ((congrFun (k34 845 (by decide)).1 11).trans ((congrFun (k19 845 (by decide)).1 11).trans ((t_oI w14 845 11 rfl).trans ((t_oI w12 845 11 rfl).trans ((t_oI w10 845 11 rfl).trans ((t_oI w8 845 11 rfl).trans ((t_oI w6 845 11 rfl).trans ((t_oI w4 845 11 rfl).trans ((t_oI w2 845 11 rfl).trans rfl))))))))), ((congrFun (k34 845 (by decide)).1 12).trans ((congrFun (k19 845 (by decide)).1 12).trans ((t_oI w14 845 12 rfl).trans ((t_oI w12 845 12 rfl).trans ((t_oI w10 845 12 rfl).trans (t_wI w8)))))), ((congrFun (k34 845 (by decide)).1 13).trans ((congrFun (k19 845 (by decide)).1 13).trans ((t_oI w14 845 13 rfl).trans ((t_oI w12 845 13 rfl).trans (t_wI w10))))), ((congrFun (k34 845 (by decide)).1 14).trans ((congrFun (k19 845 (by decide)).1 14).trans ((t_oI w14 845 14 rfl).trans (t_wI w12)))), ((congrFun (k34 845 (by decide)).1 15).trans ((congrFun (k19 845 (by decide)).1 15).trans (t_wI w14))), ((congrFun (k34 845 (by decide)).1 16).trans ((congrFun (k19 845 (by decide)).1 16).trans ((t_oI w14 845 16 rfl).trans ((t_oI w12 845 16 rfl).trans ((t_oI w10 845 16 rfl).trans ((t_oI w8 845 16 rfl).trans ((t_oI w6 845 16 rfl).trans ((t_oI w4 845 16 rfl).trans ((t_oI w2 845 16 rfl).trans rfl))))))))), ((congrFun (k34 845 (by decide)).1 7).trans ((congrFun (k19 845 (by decide)).1 7).trans ((t_oI w14 845 7 rfl).trans ((t_oI w12 845 7 rfl).trans ((t_oI w10 845 7 rfl).trans ((t_oI w8 845 7 rfl).trans ((t_oI w6 845 7 rfl).trans (t_wI w4)))))))), ((congrFun (k34 845 (by decide)).1 9).trans ((congrFun (k19 845 (by decide)).1 9).trans ((t_oI w14 845 9 rfl).trans ((t_oI w12 845 9 rfl).trans ((t_oI w10 845 9 rfl).trans ((t_oI w8 845 9 rfl).trans (t_wI w6))))))), ((congrFun (k34 846 (by decide)).1 6).trans e16), ((congrFun (k34 846 (by decide)).1 7).trans e17), ((congrFun (k34 846 (by decide)).1 8).trans e18), e32, e33, (((((((((t_keep_I w2 (by decide)).trans (t_keep_I w4 (by decide))).trans (t_keep_I w6 (by decide))).trans (t_keep_I w8 (by decide))).trans (t_keep_I w10 (by decide))).trans (t_keep_I w12 (by decide))).trans (t_keep_I w14 (by decide))).trans (k19.mono (by decide))).trans (k34.mono (by decide)))⟩) (Nat.le_of_ble_eq_true rfl) (Nat.le_of_ble_eq_true rfl)

theorem dX3_settleNames_0 : decode cX3_settleNames 0 = .ok (.iconst 0, 1) := by decide +kernel
theorem dX3_settleNames_1 : decode cX3_settleNames 1 = .ok (.istore_n 1, 1) := by decide +kernel
theorem dX3_settleNames_2 : decode cX3_settleNames 2 = .ok (.iload_n 1, 1) := by decide +kernel
theorem dX3_settleNames_3 : decode cX3_settleNames 3 = .ok (.aload_n 0, 1) := by decide +kernel
theorem dX3_settleNames_33 : decode cX3_settleNames 33 = .ok (.iconst 0, 1) := by decide +kernel
theorem dX3_settleNames_34 : decode cX3_settleNames 34 = .ok (.istore_n 1, 1) := by decide +kernel
theorem dX3_settleNames_35 : decode cX3_settleNames 35 = .ok (.iload_n 1, 1) := by decide +kernel
theorem dX3_settleNames_36 : decode cX3_settleNames 36 = .ok (.aload_n 0, 1) := by decide +kernel
theorem dX3_settleNames_37 : decode cX3_settleNames 37 = .ok (.getfield 34, 3) := by decide +kernel
theorem dX3_settleNames_4 : decode cX3_settleNames 4 = .ok (.getfield 34, 3) := by decide +kernel
theorem dX3_settleNames_40 : decode cX3_settleNames 40 = .ok (.if_icmp .ge 30, 3) := by decide +kernel
theorem dX3_settleNames_7 : decode cX3_settleNames 7 = .ok (.if_icmp .ge 26, 3) := by decide +kernel
theorem dX3_settleNames_70 : decode cX3_settleNames 70 = .ok (.return_, 1) := by decide +kernel
set_option maxRecDepth 4000 in
set_option maxHeartbeats 400000 in
theorem N_X3_settleNames (s : t_S) (h_I_846_6 : s.1 846 6 = 0) : t_C yX3_settleNames cX3_settleNames 2 none 0 [.ref 846] s (fun v s' => v = none ∧ s' = s) := by
  refine t_C.of (by decide +kernel) (Nat.le_of_ble_eq_true rfl) ?_
  intro D cy ad bs X
  suffices main : ∀ post : Option Value → t_S → Prop, (∀ v s', (v = none ∧ s' = s) → post v s') → mj_G D cy ad bs X cX3_settleNames 2 yX3_settleNames.cls none yX3_settleNames.name 0 0 0 1065 (t_P post) 0 [(0, .ref 846)] [] (t_m s) 1065 0 0 from main _ (fun _ _ h => h)
  intro post hpost
  refine mj_iconst (v := 0) dX3_settleNames_0 (by decide) ?_
  refine mj_istore_n 1 (lv2 := [(1, .int 0), (0, .ref 846)]) dX3_settleNames_1 rfl (by decide) rfl ?_
  refine mj_iload_n dX3_settleNames_2 0 rfl ?_
  refine mj_aload_n dX3_settleNames_3 1 rfl ?_
  refine t_getI dX3_settleNames_4 F_X3_34 qf_846_6 ?_
  rw [h_I_846_6]
  refine mj_icmp_ge 33 dX3_settleNames_7 (by decide) (fun _ => ?_) (fun z => absurd (by decide) z)
  refine mj_iconst (v := 0) dX3_settleNames_33 (by decide) ?_
  refine mj_istore_n 1 (lv2 := [(1, .int 0), (0, .ref 846)]) dX3_settleNames_34 rfl (by decide) rfl ?_
  refine mj_iload_n dX3_settleNames_35 0 rfl ?_
  refine mj_aload_n dX3_settleNames_36 1 rfl ?_
  refine t_getI dX3_settleNames_37 F_X3_34 qf_846_6 ?_
  rw [h_I_846_6]
  refine mj_icmp_ge 70 dX3_settleNames_40 (by decide) (fun _ => ?_) (fun z => absurd (by decide) z)
  exact t_vret dX3_settleNames_70 rfl (hpost _ _ ⟨rfl, rfl⟩) (Nat.le_of_ble_eq_true rfl) (Nat.le_of_ble_eq_true rfl)

theorem dX10_measure_0 : decode cX10_measure 0 = .ok (.iconst 0, 1) := by decide +kernel
theorem dX10_measure_1 : decode cX10_measure 1 = .ok (.istore_n 1, 1) := by decide +kernel
theorem dX10_measure_2 : decode cX10_measure 2 = .ok (.iload_n 1, 1) := by decide +kernel
theorem dX10_measure_26 : decode cX10_measure 26 = .ok (.iconst 1, 1) := by decide +kernel
theorem dX10_measure_27 : decode cX10_measure 27 = .ok (.istore_n 1, 1) := by decide +kernel
theorem dX10_measure_28 : decode cX10_measure 28 = .ok (.iconst 0, 1) := by decide +kernel
theorem dX10_measure_29 : decode cX10_measure 29 = .ok (.istore_n 2, 1) := by decide +kernel
theorem dX10_measure_3 : decode cX10_measure 3 = .ok (.aload_n 0, 1) := by decide +kernel
theorem dX10_measure_30 : decode cX10_measure 30 = .ok (.iload_n 1, 1) := by decide +kernel
theorem dX10_measure_31 : decode cX10_measure 31 = .ok (.ifCond .eq 67, 3) := by decide +kernel
theorem dX10_measure_34 : decode cX10_measure 34 = .ok (.iload_n 2, 1) := by decide +kernel
theorem dX10_measure_35 : decode cX10_measure 35 = .ok (.bipush 61, 2) := by decide +kernel
theorem dX10_measure_37 : decode cX10_measure 37 = .ok (.if_icmp .gt 61, 3) := by decide +kernel
theorem dX10_measure_4 : decode cX10_measure 4 = .ok (.getfield 74, 3) := by decide +kernel
theorem dX10_measure_40 : decode cX10_measure 40 = .ok (.iconst 0, 1) := by decide +kernel
theorem dX10_measure_41 : decode cX10_measure 41 = .ok (.istore_n 1, 1) := by decide +kernel
theorem dX10_measure_42 : decode cX10_measure 42 = .ok (.iconst 0, 1) := by decide +kernel
theorem dX10_measure_43 : decode cX10_measure 43 = .ok (.istore_n 3, 1) := by decide +kernel
theorem dX10_measure_44 : decode cX10_measure 44 = .ok (.iload_n 3, 1) := by decide +kernel
theorem dX10_measure_45 : decode cX10_measure 45 = .ok (.aload_n 0, 1) := by decide +kernel
theorem dX10_measure_46 : decode cX10_measure 46 = .ok (.getfield 74, 3) := by decide +kernel
theorem dX10_measure_49 : decode cX10_measure 49 = .ok (.if_icmp .ge 43, 3) := by decide +kernel
theorem dX10_measure_7 : decode cX10_measure 7 = .ok (.if_icmp .ge 19, 3) := by decide +kernel
theorem dX10_measure_92 : decode cX10_measure 92 = .ok (.iinc 2 1, 3) := by decide +kernel
theorem dX10_measure_95 : decode cX10_measure 95 = .ok (.goto (-65), 3) := by decide +kernel
theorem dX10_measure_98 : decode cX10_measure 98 = .ok (.return_, 1) := by decide +kernel
set_option maxRecDepth 4000 in
set_option maxHeartbeats 400000 in
theorem N_X10_measure (s : t_S) (h_I_353_11 : s.1 353 11 = 0) : t_C yX10_measure cX10_measure 5 none 0 [.ref 353] s (fun v s' => v = none ∧ s' = s) := by
  refine t_C.of (by decide +kernel) (Nat.le_of_ble_eq_true rfl) ?_
  intro D cy ad bs X
  suffices main : ∀ post : Option Value → t_S → Prop, (∀ v s', (v = none ∧ s' = s) → post v s') → mj_G D cy ad bs X cX10_measure 5 yX10_measure.cls none yX10_measure.name 0 0 0 1065 (t_P post) 0 [(0, .ref 353)] [] (t_m s) 1065 0 0 from main _ (fun _ _ h => h)
  intro post hpost
  refine mj_iconst (v := 0) dX10_measure_0 (by decide) ?_
  refine mj_istore_n 1 (lv2 := [(1, .int 0), (0, .ref 353)]) dX10_measure_1 rfl (by decide) rfl ?_
  refine mj_iload_n dX10_measure_2 0 rfl ?_
  refine mj_aload_n dX10_measure_3 1 rfl ?_
  refine t_getI dX10_measure_4 F_X10_74 qf_353_11 ?_
  rw [h_I_353_11]
  refine mj_icmp_ge 26 dX10_measure_7 (by decide) (fun _ => ?_) (fun z => absurd (by decide) z)
  refine mj_iconst (v := 1) dX10_measure_26 (by decide) ?_
  refine mj_istore_n 1 (lv2 := [(1, .int 1), (0, .ref 353)]) dX10_measure_27 rfl (by decide) rfl ?_
  refine mj_iconst (v := 0) dX10_measure_28 (by decide) ?_
  refine mj_istore_n 2 (lv2 := [(2, .int 0), (1, .int 1), (0, .ref 353)]) dX10_measure_29 rfl (by decide) rfl ?_
  refine mj_iload_n dX10_measure_30 1 rfl ?_
  refine mj_if_eq 98 dX10_measure_31 (by decide) (fun z => absurd z (by decide)) (fun _ => ?_)
  refine mj_iload_n dX10_measure_34 0 rfl ?_
  refine mj_bipush (v := 61) dX10_measure_35 (by decide) ?_
  refine mj_icmp_gt 98 dX10_measure_37 (by decide) (fun z => absurd z (by decide)) (fun _ => ?_)
  refine mj_iconst (v := 0) dX10_measure_40 (by decide) ?_
  refine mj_istore_n 1 (lv2 := [(1, .int 0), (2, .int 0), (0, .ref 353)]) dX10_measure_41 rfl (by decide) rfl ?_
  refine mj_iconst (v := 0) dX10_measure_42 (by decide) ?_
  refine mj_istore_n 3 (lv2 := [(3, .int 0), (1, .int 0), (2, .int 0), (0, .ref 353)]) dX10_measure_43 rfl (by decide) rfl ?_
  refine mj_iload_n dX10_measure_44 0 rfl ?_
  refine mj_aload_n dX10_measure_45 3 rfl ?_
  refine t_getI dX10_measure_46 F_X10_74 qf_353_11 ?_
  rw [h_I_353_11]
  refine mj_icmp_ge 92 dX10_measure_49 (by decide) (fun _ => ?_) (fun z => absurd (by decide) z)
  refine mj_iinc (k := 2) (v := 1) (lv2 := [(2, .int 1), (3, .int 0), (1, .int 0), (0, .ref 353)]) dX10_measure_92 rfl (by decide) (by decide) rfl ?_
  refine mj_goto 30 dX10_measure_95 (by decide) ?_
  refine mj_iload_n dX10_measure_30 2 rfl ?_
  refine mj_if_eq 98 dX10_measure_31 (by decide) (fun _ => ?_) (fun z => absurd (by decide) z)
  exact t_vret dX10_measure_98 rfl (hpost _ _ ⟨rfl, rfl⟩) (Nat.le_of_ble_eq_true rfl) (Nat.le_of_ble_eq_true rfl)

theorem dX3_settleTold_0 : decode cX3_settleTold 0 = .ok (.iconst 0, 1) := by decide +kernel
theorem dX3_settleTold_1 : decode cX3_settleTold 1 = .ok (.istore_n 1, 1) := by decide +kernel
theorem dX3_settleTold_10 : decode cX3_settleTold 10 = .ok (.if_icmp .ge 35, 3) := by decide +kernel
theorem dX3_settleTold_105 : decode cX3_settleTold 105 = .ok (.return_, 1) := by decide +kernel
theorem dX3_settleTold_2 : decode cX3_settleTold 2 = .ok (.iload_n 1, 1) := by decide +kernel
theorem dX3_settleTold_3 : decode cX3_settleTold 3 = .ok (.aload_n 0, 1) := by decide +kernel
theorem dX3_settleTold_4 : decode cX3_settleTold 4 = .ok (.getfield 18, 3) := by decide +kernel
theorem dX3_settleTold_45 : decode cX3_settleTold 45 = .ok (.aload_n 0, 1) := by decide +kernel
theorem dX3_settleTold_46 : decode cX3_settleTold 46 = .ok (.getfield 22, 3) := by decide +kernel
theorem dX3_settleTold_49 : decode cX3_settleTold 49 = .ok (.invokevirtual 68, 3) := by decide +kernel
theorem dX3_settleTold_52 : decode cX3_settleTold 52 = .ok (.iconst 0, 1) := by decide +kernel
theorem dX3_settleTold_53 : decode cX3_settleTold 53 = .ok (.istore_n 1, 1) := by decide +kernel
theorem dX3_settleTold_54 : decode cX3_settleTold 54 = .ok (.iload_n 1, 1) := by decide +kernel
theorem dX3_settleTold_55 : decode cX3_settleTold 55 = .ok (.aload_n 0, 1) := by decide +kernel
theorem dX3_settleTold_56 : decode cX3_settleTold 56 = .ok (.getfield 22, 3) := by decide +kernel
theorem dX3_settleTold_59 : decode cX3_settleTold 59 = .ok (.getfield 73, 3) := by decide +kernel
theorem dX3_settleTold_62 : decode cX3_settleTold 62 = .ok (.if_icmp .ge 43, 3) := by decide +kernel
theorem dX3_settleTold_7 : decode cX3_settleTold 7 = .ok (.getfield 56, 3) := by decide +kernel
set_option maxRecDepth 4000 in
set_option maxHeartbeats 400000 in
theorem N_X3_settleTold (s : t_S) (h_I_316_13 : s.1 316 13 = 0) (h_I_353_11 : s.1 353 11 = 0) : t_C yX3_settleTold cX3_settleTold 2 none 1 [.ref 846] s (fun v s' => v = none ∧ s' = s) := by
  refine t_C.of (by decide +kernel) (Nat.le_of_ble_eq_true rfl) ?_
  intro D cy ad bs X
  suffices main : ∀ post : Option Value → t_S → Prop, (∀ v s', (v = none ∧ s' = s) → post v s') → mj_G D cy ad bs X cX3_settleTold 2 yX3_settleTold.cls none yX3_settleTold.name 1 0 0 1065 (t_P post) 0 [(0, .ref 846)] [] (t_m s) 1065 0 0 from main _ (fun _ _ h => h)
  intro post hpost
  refine mj_iconst (v := 0) dX3_settleTold_0 (by decide) ?_
  refine mj_istore_n 1 (lv2 := [(1, .int 0), (0, .ref 846)]) dX3_settleTold_1 rfl (by decide) rfl ?_
  refine mj_iload_n dX3_settleTold_2 0 rfl ?_
  refine mj_aload_n dX3_settleTold_3 1 rfl ?_
  refine t_getR 316 dX3_settleTold_4 F_X3_18 qr_846_1 ?_
  refine t_getI dX3_settleTold_7 F_X3_56 qf_316_13 ?_
  rw [h_I_316_13]
  refine mj_icmp_ge 45 dX3_settleTold_10 (by decide) (fun _ => ?_) (fun z => absurd (by decide) z)
  refine mj_aload_n dX3_settleTold_45 1 rfl ?_
  refine t_getR 353 dX3_settleTold_46 F_X3_22 qr_846_2 ?_
  refine t_callV dX3_settleTold_49 M_X10_measure (N_X10_measure s h_I_353_11) ML_X3_68 IM_X10_measure SE_X10_measure qc_353 rfl (As := []) rfl rfl (Nat.le_of_ble_eq_true rfl) (Nat.le_of_ble_eq_true rfl) (Nat.le_of_ble_eq_true rfl) (Nat.le_of_ble_eq_true rfl) (fun v s1 hp => ?_)
  obtain ⟨rfl, hq⟩ := hp
  rw [hq]
  clear hq s1
  refine mj_iconst (v := 0) dX3_settleTold_52 (by decide) ?_
  refine mj_istore_n 1 (lv2 := [(1, .int 0), (0, .ref 846)]) dX3_settleTold_53 rfl (by decide) rfl ?_
  refine mj_iload_n dX3_settleTold_54 0 rfl ?_
  refine mj_aload_n dX3_settleTold_55 1 rfl ?_
  refine t_getR 353 dX3_settleTold_56 F_X3_22 qr_846_2 ?_
  refine t_getI dX3_settleTold_59 F_X3_73 qf_353_11 ?_
  rw [h_I_353_11]
  refine mj_icmp_ge 105 dX3_settleTold_62 (by decide) (fun _ => ?_) (fun z => absurd (by decide) z)
  exact t_vret dX3_settleTold_105 rfl (hpost _ _ ⟨rfl, rfl⟩) (Nat.le_of_ble_eq_true rfl) (Nat.le_of_ble_eq_true rfl)

theorem dX6_finishReading_0 : decode cX6_finishReading 0 = .ok (.aload_n 0, 1) := by decide +kernel
theorem dX6_finishReading_1 : decode cX6_finishReading 1 = .ok (.getfield 28, 3) := by decide +kernel
theorem dX6_finishReading_12 : decode cX6_finishReading 12 = .ok (.getfield 82, 3) := by decide +kernel
theorem dX6_finishReading_15 : decode cX6_finishReading 15 = .ok (.ifCond .eq 4, 3) := by decide +kernel
theorem dX6_finishReading_19 : decode cX6_finishReading 19 = .ok (.aload_n 0, 1) := by decide +kernel
theorem dX6_finishReading_20 : decode cX6_finishReading 20 = .ok (.getfield 18, 3) := by decide +kernel
theorem dX6_finishReading_23 : decode cX6_finishReading 23 = .ok (.invokevirtual 150, 3) := by decide +kernel
theorem dX6_finishReading_26 : decode cX6_finishReading 26 = .ok (.aload_n 0, 1) := by decide +kernel
theorem dX6_finishReading_27 : decode cX6_finishReading 27 = .ok (.getfield 116, 3) := by decide +kernel
theorem dX6_finishReading_30 : decode cX6_finishReading 30 = .ok (.ifCond .ne 10, 3) := by decide +kernel
theorem dX6_finishReading_33 : decode cX6_finishReading 33 = .ok (.aload_n 0, 1) := by decide +kernel
theorem dX6_finishReading_34 : decode cX6_finishReading 34 = .ok (.getfield 18, 3) := by decide +kernel
theorem dX6_finishReading_37 : decode cX6_finishReading 37 = .ok (.invokevirtual 153, 3) := by decide +kernel
theorem dX6_finishReading_4 : decode cX6_finishReading 4 = .ok (.iconst 0, 1) := by decide +kernel
theorem dX6_finishReading_40 : decode cX6_finishReading 40 = .ok (.aload_n 0, 1) := by decide +kernel
theorem dX6_finishReading_41 : decode cX6_finishReading 41 = .ok (.getfield 28, 3) := by decide +kernel
theorem dX6_finishReading_44 : decode cX6_finishReading 44 = .ok (.aload_n 0, 1) := by decide +kernel
theorem dX6_finishReading_45 : decode cX6_finishReading 45 = .ok (.getfield 18, 3) := by decide +kernel
theorem dX6_finishReading_48 : decode cX6_finishReading 48 = .ok (.getfield 156, 3) := by decide +kernel
theorem dX6_finishReading_5 : decode cX6_finishReading 5 = .ok (.putfield 147, 3) := by decide +kernel
theorem dX6_finishReading_51 : decode cX6_finishReading 51 = .ok (.putfield 82, 3) := by decide +kernel
theorem dX6_finishReading_54 : decode cX6_finishReading 54 = .ok (.aload_n 0, 1) := by decide +kernel
theorem dX6_finishReading_55 : decode cX6_finishReading 55 = .ok (.getfield 28, 3) := by decide +kernel
theorem dX6_finishReading_58 : decode cX6_finishReading 58 = .ok (.aload_n 0, 1) := by decide +kernel
theorem dX6_finishReading_59 : decode cX6_finishReading 59 = .ok (.getfield 18, 3) := by decide +kernel
theorem dX6_finishReading_62 : decode cX6_finishReading 62 = .ok (.getfield 157, 3) := by decide +kernel
theorem dX6_finishReading_65 : decode cX6_finishReading 65 = .ok (.putfield 160, 3) := by decide +kernel
theorem dX6_finishReading_68 : decode cX6_finishReading 68 = .ok (.return_, 1) := by decide +kernel
theorem dX6_finishReading_8 : decode cX6_finishReading 8 = .ok (.aload_n 0, 1) := by decide +kernel
theorem dX6_finishReading_9 : decode cX6_finishReading 9 = .ok (.getfield 28, 3) := by decide +kernel
set_option maxRecDepth 4000 in
set_option maxHeartbeats 400000 in
theorem N_X6_finishReading (s : t_S) (h_I_1_11 : s.1 1 11 = 0) (h_I_316_13 : s.1 316 13 = 0) (h_I_353_11 : s.1 353 11 = 0) (h_I_845_15 : s.1 845 15 = 0) (h_I_846_6 : s.1 846 6 = 0) (h_I_846_7 : s.1 846 7 = 0) (h_I_846_8 : s.1 846 8 = 0) : t_C yX6_finishReading cX6_finishReading 1 none 2 [.ref 845] s (fun v s' => v = none ∧ (s'.1 1 1 = 0) ∧ (s'.1 1 11 = 0) ∧ (s'.1 1 12 = 0) ∧ (s'.1 1 13 = s.1 1 13) ∧ (s'.1 1 2 = s.1 1 2) ∧ (s'.1 1 6 = s.1 1 6) ∧ (s'.1 1 7 = s.1 1 7) ∧ (s'.1 1 8 = s.1 1 8) ∧ (s'.1 1 9 = s.1 1 9) ∧ (s'.2.1 1 10 = s.2.1 1 10) ∧ t_keep [1] s s') := by
  refine t_C.of (by decide +kernel) (Nat.le_of_ble_eq_true rfl) ?_
  intro D cy ad bs X
  suffices main : ∀ post : Option Value → t_S → Prop, (∀ v s', (v = none ∧ (s'.1 1 1 = 0) ∧ (s'.1 1 11 = 0) ∧ (s'.1 1 12 = 0) ∧ (s'.1 1 13 = s.1 1 13) ∧ (s'.1 1 2 = s.1 1 2) ∧ (s'.1 1 6 = s.1 1 6) ∧ (s'.1 1 7 = s.1 1 7) ∧ (s'.1 1 8 = s.1 1 8) ∧ (s'.1 1 9 = s.1 1 9) ∧ (s'.2.1 1 10 = s.2.1 1 10) ∧ t_keep [1] s s') → post v s') → mj_G D cy ad bs X cX6_finishReading 1 yX6_finishReading.cls none yX6_finishReading.name 2 0 0 1065 (t_P post) 0 [(0, .ref 845)] [] (t_m s) 1065 0 0 from main _ (fun _ _ h => h)
  intro post hpost
  refine mj_aload_n dX6_finishReading_0 0 rfl ?_
  refine t_getR 1 dX6_finishReading_1 F_X6_28 qr_845_0 ?_
  refine mj_iconst (v := 0) dX6_finishReading_4 (by decide) ?_
  refine t_putI dX6_finishReading_5 F_X6_147 qf_1_1 (by decide) ?_
  obtain ⟨s1, w2⟩ : ∃ z, z = t_setI s 1 1 0 := ⟨_, rfl⟩
  rw [← w2]
  refine mj_aload_n dX6_finishReading_8 0 rfl ?_
  refine t_getR 1 dX6_finishReading_9 F_X6_28 qr_845_0 ?_
  refine t_getI dX6_finishReading_12 F_X6_82 qf_1_11 ?_
  rw [((t_oI w2 1 11 rfl).trans h_I_1_11)]
  refine mj_if_eq 19 dX6_finishReading_15 (by decide) (fun _ => ?_) (fun z => absurd (by decide) z)
  refine mj_aload_n dX6_finishReading_19 0 rfl ?_
  refine t_getR 846 dX6_finishReading_20 F_X6_18 qr_845_5 ?_
  refine t_callV dX6_finishReading_23 M_X3_settleNames (N_X3_settleNames s1 ((t_oI w2 846 6 rfl).trans h_I_846_6)) ML_X6_150 IM_X3_settleNames SE_X3_settleNames qc_846 rfl (As := []) rfl rfl (Nat.le_of_ble_eq_true rfl) (Nat.le_of_ble_eq_true rfl) (Nat.le_of_ble_eq_true rfl) (Nat.le_of_ble_eq_true rfl) (fun v s3 hp => ?_)
  obtain ⟨rfl, hq⟩ := hp
  rw [hq]
  clear hq s3
  refine mj_aload_n dX6_finishReading_26 0 rfl ?_
  refine t_getI dX6_finishReading_27 F_X6_116 qf_845_15 ?_
  rw [((t_oI w2 845 15 rfl).trans h_I_845_15)]
  refine mj_if_ne 40 dX6_finishReading_30 (by decide) (fun z => absurd (by decide) z) (fun _ => ?_)
  refine mj_aload_n dX6_finishReading_33 0 rfl ?_
  refine t_getR 846 dX6_finishReading_34 F_X6_18 qr_845_5 ?_
  refine t_callV dX6_finishReading_37 M_X3_settleTold (N_X3_settleTold s1 ((t_oI w2 316 13 rfl).trans h_I_316_13) ((t_oI w2 353 11 rfl).trans h_I_353_11)) ML_X6_153 IM_X3_settleTold SE_X3_settleTold qc_846 rfl (As := []) rfl rfl (Nat.le_of_ble_eq_true rfl) (Nat.le_of_ble_eq_true rfl) (Nat.le_of_ble_eq_true rfl) (Nat.le_of_ble_eq_true rfl) (fun v s4 hp => ?_)
  obtain ⟨rfl, hq⟩ := hp
  rw [hq]
  clear hq s4
  refine mj_aload_n dX6_finishReading_40 0 rfl ?_
  refine t_getR 1 dX6_finishReading_41 F_X6_28 qr_845_0 ?_
  refine mj_aload_n dX6_finishReading_44 0 rfl ?_
  refine t_getR 846 dX6_finishReading_45 F_X6_18 qr_845_5 ?_
  refine t_getI dX6_finishReading_48 F_X6_156 qf_846_7 ?_
  rw [((t_oI w2 846 7 rfl).trans h_I_846_7)]
  refine t_putI dX6_finishReading_51 F_X6_82 qf_1_11 (by decide) ?_
  obtain ⟨s5, w6⟩ : ∃ z, z = t_setI s1 1 11 0 := ⟨_, rfl⟩
  rw [← w6]
  refine mj_aload_n dX6_finishReading_54 0 rfl ?_
  refine t_getR 1 dX6_finishReading_55 F_X6_28 qr_845_0 ?_
  refine mj_aload_n dX6_finishReading_58 0 rfl ?_
  refine t_getR 846 dX6_finishReading_59 F_X6_18 qr_845_5 ?_
  refine t_getI dX6_finishReading_62 F_X6_157 qf_846_8 ?_
  rw [((t_oI w6 846 8 rfl).trans ((t_oI w2 846 8 rfl).trans h_I_846_8))]
  refine t_putI dX6_finishReading_65 F_X6_160 qf_1_12 (by decide) ?_
  obtain ⟨s7, w8⟩ : ∃ z, z = t_setI s5 1 12 0 := ⟨_, rfl⟩
  rw [← w8]
  exact t_vret dX6_finishReading_68 rfl (hpost _ _ ⟨rfl, ((t_oI w8 1 1 rfl).trans ((t_oI w6 1 1 rfl).trans (t_wI w2))), ((t_oI w8 1 11 rfl).trans (t_wI w6)), (t_wI w8), ((t_oI w8 1 13 rfl).trans ((t_oI w6 1 13 rfl).trans ((t_oI w2 1 13 rfl).trans rfl))), ((t_oI w8 1 2 rfl).trans ((t_oI w6 1 2 rfl).trans ((t_oI w2 1 2 rfl).trans rfl))), ((t_oI w8 1 6 rfl).trans ((t_oI w6 1 6 rfl).trans ((t_oI w2 1 6 rfl).trans rfl))), ((t_oI w8 1 7 rfl).trans ((t_oI w6 1 7 rfl).trans ((t_oI w2 1 7 rfl).trans rfl))), ((t_oI w8 1 8 rfl).trans ((t_oI w6 1 8 rfl).trans ((t_oI w2 1 8 rfl).trans rfl))), ((t_oI w8 1 9 rfl).trans ((t_oI w6 1 9 rfl).trans ((t_oI w2 1 9 rfl).trans rfl))), ((t_cIJ w8 1 10).trans ((t_cIJ w6 1 10).trans ((t_cIJ w2 1 10).trans rfl))), (((t_keep_I w2 (by decide)).trans (t_keep_I w6 (by decide))).trans (t_keep_I w8 (by decide)))⟩) (Nat.le_of_ble_eq_true rfl) (Nat.le_of_ble_eq_true rfl)

theorem dX6_readModule_0 : decode cX6_readModule 0 = .ok (.aload_n 0, 1) := by decide +kernel
theorem dX6_readModule_1 : decode cX6_readModule 1 = .ok (.getfield 28, 3) := by decide +kernel
theorem dX6_readModule_10 : decode cX6_readModule 10 = .ok (.getfield 33, 3) := by decide +kernel
theorem dX6_readModule_13 : decode cX6_readModule 13 = .ok (.invokevirtual 53, 3) := by decide +kernel
theorem dX6_readModule_16 : decode cX6_readModule 16 = .ok (.aload_n 0, 1) := by decide +kernel
theorem dX6_readModule_17 : decode cX6_readModule 17 = .ok (.getfield 38, 3) := by decide +kernel
theorem dX6_readModule_191 : decode cX6_readModule 191 = .ok (.aload_n 0, 1) := by decide +kernel
theorem dX6_readModule_192 : decode cX6_readModule 192 = .ok (.invokevirtual 103, 3) := by decide +kernel
theorem dX6_readModule_195 : decode cX6_readModule 195 = .ok (.aload_n 0, 1) := by decide +kernel
theorem dX6_readModule_196 : decode cX6_readModule 196 = .ok (.aload_n 0, 1) := by decide +kernel
theorem dX6_readModule_197 : decode cX6_readModule 197 = .ok (.getfield 106, 3) := by decide +kernel
theorem dX6_readModule_20 : decode cX6_readModule 20 = .ok (.invokevirtual 58, 3) := by decide +kernel
theorem dX6_readModule_200 : decode cX6_readModule 200 = .ok (.putfield 109, 3) := by decide +kernel
theorem dX6_readModule_203 : decode cX6_readModule 203 = .ok (.return_, 1) := by decide +kernel
theorem dX6_readModule_23 : decode cX6_readModule 23 = .ok (.aload_n 0, 1) := by decide +kernel
theorem dX6_readModule_24 : decode cX6_readModule 24 = .ok (.getfield 48, 3) := by decide +kernel
theorem dX6_readModule_27 : decode cX6_readModule 27 = .ok (.invokevirtual 61, 3) := by decide +kernel
theorem dX6_readModule_30 : decode cX6_readModule 30 = .ok (.aload_n 0, 1) := by decide +kernel
theorem dX6_readModule_31 : decode cX6_readModule 31 = .ok (.getfield 43, 3) := by decide +kernel
theorem dX6_readModule_34 : decode cX6_readModule 34 = .ok (.iconst 0, 1) := by decide +kernel
theorem dX6_readModule_35 : decode cX6_readModule 35 = .ok (.putfield 64, 3) := by decide +kernel
theorem dX6_readModule_38 : decode cX6_readModule 38 = .ok (.aload_n 0, 1) := by decide +kernel
theorem dX6_readModule_39 : decode cX6_readModule 39 = .ok (.getfield 43, 3) := by decide +kernel
theorem dX6_readModule_4 : decode cX6_readModule 4 = .ok (.bipush 66, 2) := by decide +kernel
theorem dX6_readModule_42 : decode cX6_readModule 42 = .ok (.iconst 0, 1) := by decide +kernel
theorem dX6_readModule_43 : decode cX6_readModule 43 = .ok (.putfield 70, 3) := by decide +kernel
theorem dX6_readModule_46 : decode cX6_readModule 46 = .ok (.aload_n 0, 1) := by decide +kernel
theorem dX6_readModule_47 : decode cX6_readModule 47 = .ok (.ldc 75, 2) := by decide +kernel
theorem dX6_readModule_49 : decode cX6_readModule 49 = .ok (.putfield 76, 3) := by decide +kernel
theorem dX6_readModule_52 : decode cX6_readModule 52 = .ok (.aload_n 0, 1) := by decide +kernel
theorem dX6_readModule_53 : decode cX6_readModule 53 = .ok (.invokevirtual 79, 3) := by decide +kernel
theorem dX6_readModule_56 : decode cX6_readModule 56 = .ok (.iconst 0, 1) := by decide +kernel
theorem dX6_readModule_57 : decode cX6_readModule 57 = .ok (.istore_n 1, 1) := by decide +kernel
theorem dX6_readModule_58 : decode cX6_readModule 58 = .ok (.iload_n 1, 1) := by decide +kernel
theorem dX6_readModule_59 : decode cX6_readModule 59 = .ok (.sipush 12002, 3) := by decide +kernel
theorem dX6_readModule_6 : decode cX6_readModule 6 = .ok (.invokevirtual 49, 3) := by decide +kernel
theorem dX6_readModule_62 : decode cX6_readModule 62 = .ok (.if_icmp .ge 129, 3) := by decide +kernel
theorem dX6_readModule_65 : decode cX6_readModule 65 = .ok (.aload_n 0, 1) := by decide +kernel
theorem dX6_readModule_66 : decode cX6_readModule 66 = .ok (.getfield 28, 3) := by decide +kernel
theorem dX6_readModule_69 : decode cX6_readModule 69 = .ok (.getfield 82, 3) := by decide +kernel
theorem dX6_readModule_72 : decode cX6_readModule 72 = .ok (.ifCond .ne 119, 3) := by decide +kernel
theorem dX6_readModule_75 : decode cX6_readModule 75 = .ok (.aload_n 0, 1) := by decide +kernel
theorem dX6_readModule_76 : decode cX6_readModule 76 = .ok (.getfield 28, 3) := by decide +kernel
theorem dX6_readModule_79 : decode cX6_readModule 79 = .ok (.getfield 85, 3) := by decide +kernel
theorem dX6_readModule_82 : decode cX6_readModule 82 = .ok (.iconst 4, 1) := by decide +kernel
theorem dX6_readModule_83 : decode cX6_readModule 83 = .ok (.if_icmp .eq 108, 3) := by decide +kernel
theorem dX6_readModule_9 : decode cX6_readModule 9 = .ok (.aload_n 0, 1) := by decide +kernel
set_option maxRecDepth 4000 in
set_option maxHeartbeats 400000 in
theorem N_X6_readModule (s : t_S) (wd : Int32) (hwd : wd.toInt ≤ 66) (h_I_1_1 : s.1 1 1 = 0) (h_I_1_13 : s.1 1 13 = wd) : t_C yX6_readModule cX6_readModule 2 none 3 [.ref 845] s (fun v s' => v = none ∧ (s'.1 1 1 = 0) ∧ (s'.1 1 11 = 0) ∧ (s'.1 1 12 = 0) ∧ (s'.1 1 13 = s.1 1 13) ∧ (s'.1 1 2 = 0) ∧ (s'.1 1 6 = 1) ∧ (s'.1 1 7 = 0) ∧ (s'.1 1 8 = 4) ∧ (s'.1 1 9 = 0) ∧ (s'.1 3 0 = 4) ∧ (s'.1 316 10 = 0) ∧ (s'.1 316 13 = 0) ∧ (s'.1 316 15 = s.1 316 15) ∧ (s'.1 316 8 = 0) ∧ (s'.1 334 11 = s.1 334 11) ∧ (s'.1 334 12 = s.1 334 12) ∧ (s'.1 334 13 = s.1 334 13) ∧ (s'.1 334 14 = s.1 334 14) ∧ (s'.1 334 16 = s.1 334 16) ∧ (s'.1 334 18 = s.1 334 18) ∧ (s'.1 334 2 = 0) ∧ (s'.1 334 4 = 0) ∧ (s'.1 334 7 = s.1 334 7) ∧ (s'.1 353 11 = 0) ∧ (s'.1 353 13 = s.1 353 13) ∧ (s'.1 353 15 = s.1 353 15) ∧ (s'.1 353 17 = s.1 353 17) ∧ (s'.1 353 20 = s.1 353 20) ∧ (s'.1 353 9 = 0) ∧ (s'.1 4 0 = 0) ∧ (s'.1 428 0 = 0) ∧ (s'.1 428 18 = 0) ∧ (s'.1 428 9 = 0) ∧ (s'.1 845 10 = 0) ∧ (s'.1 845 11 = 0) ∧ (s'.1 845 12 = (-1)) ∧ (s'.1 845 13 = (-1)) ∧ (s'.1 845 14 = (-1)) ∧ (s'.1 845 15 = 0) ∧ (s'.1 845 16 = 2147483647) ∧ (s'.1 845 7 = 0) ∧ (s'.1 845 9 = 0) ∧ (s'.1 846 6 = 0) ∧ (s'.1 846 7 = 0) ∧ (s'.1 846 8 = 0) ∧ (s'.2.1 1 10 = 0) ∧ (s'.2.1 334 17 = s.2.1 334 17) ∧ (s'.2.1 5 0 = 0) ∧ t_keep [1, 3, 4, 5, 316, 334, 353, 428, 845, 846] s s') := by
  refine t_C.of (by decide +kernel) (Nat.le_of_ble_eq_true rfl) ?_
  intro D cy ad bs X
  suffices main : ∀ post : Option Value → t_S → Prop, (∀ v s', (v = none ∧ (s'.1 1 1 = 0) ∧ (s'.1 1 11 = 0) ∧ (s'.1 1 12 = 0) ∧ (s'.1 1 13 = s.1 1 13) ∧ (s'.1 1 2 = 0) ∧ (s'.1 1 6 = 1) ∧ (s'.1 1 7 = 0) ∧ (s'.1 1 8 = 4) ∧ (s'.1 1 9 = 0) ∧ (s'.1 3 0 = 4) ∧ (s'.1 316 10 = 0) ∧ (s'.1 316 13 = 0) ∧ (s'.1 316 15 = s.1 316 15) ∧ (s'.1 316 8 = 0) ∧ (s'.1 334 11 = s.1 334 11) ∧ (s'.1 334 12 = s.1 334 12) ∧ (s'.1 334 13 = s.1 334 13) ∧ (s'.1 334 14 = s.1 334 14) ∧ (s'.1 334 16 = s.1 334 16) ∧ (s'.1 334 18 = s.1 334 18) ∧ (s'.1 334 2 = 0) ∧ (s'.1 334 4 = 0) ∧ (s'.1 334 7 = s.1 334 7) ∧ (s'.1 353 11 = 0) ∧ (s'.1 353 13 = s.1 353 13) ∧ (s'.1 353 15 = s.1 353 15) ∧ (s'.1 353 17 = s.1 353 17) ∧ (s'.1 353 20 = s.1 353 20) ∧ (s'.1 353 9 = 0) ∧ (s'.1 4 0 = 0) ∧ (s'.1 428 0 = 0) ∧ (s'.1 428 18 = 0) ∧ (s'.1 428 9 = 0) ∧ (s'.1 845 10 = 0) ∧ (s'.1 845 11 = 0) ∧ (s'.1 845 12 = (-1)) ∧ (s'.1 845 13 = (-1)) ∧ (s'.1 845 14 = (-1)) ∧ (s'.1 845 15 = 0) ∧ (s'.1 845 16 = 2147483647) ∧ (s'.1 845 7 = 0) ∧ (s'.1 845 9 = 0) ∧ (s'.1 846 6 = 0) ∧ (s'.1 846 7 = 0) ∧ (s'.1 846 8 = 0) ∧ (s'.2.1 1 10 = 0) ∧ (s'.2.1 334 17 = s.2.1 334 17) ∧ (s'.2.1 5 0 = 0) ∧ t_keep [1, 3, 4, 5, 316, 334, 353, 428, 845, 846] s s') → post v s') → mj_G D cy ad bs X cX6_readModule 2 yX6_readModule.cls none yX6_readModule.name 3 0 0 1065 (t_P post) 0 [(0, .ref 845)] [] (t_m s) 1065 0 0 from main _ (fun _ _ h => h)
  intro post hpost
  refine mj_aload_n dX6_readModule_0 0 rfl ?_
  refine t_getR 1 dX6_readModule_1 F_X6_28 qr_845_0 ?_
  refine mj_bipush (v := 66) dX6_readModule_4 (by decide) ?_
  refine t_callV dX6_readModule_6 M_X2_forget (N_X2_forget s wd hwd h_I_1_13) ML_X6_49 IM_X2_forget SE_X2_forget qc_1 rfl (As := [.int 66]) rfl rfl (Nat.le_of_ble_eq_true rfl) (Nat.le_of_ble_eq_true rfl) (Nat.le_of_ble_eq_true rfl) (Nat.le_of_ble_eq_true rfl) (fun v s1 hp => ?_)
  obtain ⟨rfl, hq⟩ := hp
  rw [hq]
  clear hq s1
  refine mj_aload_n dX6_readModule_9 0 rfl ?_
  refine t_getR 316 dX6_readModule_10 F_X6_33 qr_845_1 ?_
  refine t_callV dX6_readModule_13 M_X11_clear (N_X11_clear s) ML_X6_53 IM_X11_clear SE_X11_clear qc_316 rfl (As := []) rfl rfl (Nat.le_of_ble_eq_true rfl) (Nat.le_of_ble_eq_true rfl) (Nat.le_of_ble_eq_true rfl) (Nat.le_of_ble_eq_true rfl) (fun v s2 hp => ?_)
  obtain ⟨rfl, e3, e4, e5, e6, k7⟩ := hp
  refine mj_aload_n dX6_readModule_16 0 rfl ?_
  refine t_getR 353 dX6_readModule_17 F_X6_38 qr_845_2 ?_
  refine t_callV dX6_readModule_20 M_X10_clear (N_X10_clear s2) ML_X6_58 IM_X10_clear SE_X10_clear qc_353 rfl (As := []) rfl rfl (Nat.le_of_ble_eq_true rfl) (Nat.le_of_ble_eq_true rfl) (Nat.le_of_ble_eq_true rfl) (Nat.le_of_ble_eq_true rfl) (fun v s8 hp => ?_)
  obtain ⟨rfl, e9, e10, e11, e12, e13, e14, k15⟩ := hp
  refine mj_aload_n dX6_readModule_23 0 rfl ?_
  refine t_getR 428 dX6_readModule_24 F_X6_48 qr_845_4 ?_
  refine t_callV dX6_readModule_27 M_X5_clear (N_X5_clear s8) ML_X6_61 IM_X5_clear SE_X5_clear qc_428 rfl (As := []) rfl rfl (Nat.le_of_ble_eq_true rfl) (Nat.le_of_ble_eq_true rfl) (Nat.le_of_ble_eq_true rfl) (Nat.le_of_ble_eq_true rfl) (fun v s16 hp => ?_)
  obtain ⟨rfl, e17, e18, e19, k20⟩ := hp
  refine mj_aload_n dX6_readModule_30 0 rfl ?_
  refine t_getR 334 dX6_readModule_31 F_X6_43 qr_845_3 ?_
  refine mj_iconst (v := 0) dX6_readModule_34 (by decide) ?_
  refine t_putI dX6_readModule_35 F_X6_64 qf_334_2 (by decide) ?_
  obtain ⟨s21, w22⟩ : ∃ z, z = t_setI s16 334 2 0 := ⟨_, rfl⟩
  rw [← w22]
  refine mj_aload_n dX6_readModule_38 0 rfl ?_
  refine t_getR 334 dX6_readModule_39 F_X6_43 qr_845_3 ?_
  refine mj_iconst (v := 0) dX6_readModule_42 (by decide) ?_
  refine t_putI dX6_readModule_43 F_X6_70 qf_334_4 (by decide) ?_
  obtain ⟨s23, w24⟩ : ∃ z, z = t_setI s21 334 4 0 := ⟨_, rfl⟩
  rw [← w24]
  refine mj_aload_n dX6_readModule_46 0 rfl ?_
  refine mj_ldc dX6_readModule_47 K_X6_75 ?_
  refine t_putI dX6_readModule_49 F_X6_76 qf_845_16 (by decide) ?_
  obtain ⟨s25, w26⟩ : ∃ z, z = t_setI s23 845 16 2147483647 := ⟨_, rfl⟩
  rw [← w26]
  refine mj_aload_n dX6_readModule_52 0 rfl ?_
  refine t_callV dX6_readModule_53 M_X6_startReading (N_X6_startReading s25 ((t_oI w26 1 1 rfl).trans ((t_oI w24 1 1 rfl).trans ((t_oI w22 1 1 rfl).trans ((congrFun (k20 1 (by decide)).1 1).trans ((congrFun (k15 1 (by decide)).1 1).trans ((congrFun (k7 1 (by decide)).1 1).trans h_I_1_1))))))) ML_X6_79 IM_X6_startReading SE_X6_startReading qc_845 rfl (As := []) rfl rfl (Nat.le_of_ble_eq_true rfl) (Nat.le_of_ble_eq_true rfl) (Nat.le_of_ble_eq_true rfl) (Nat.le_of_ble_eq_true rfl) (fun v s27 hp => ?_)
  obtain ⟨rfl, e28, e29, e30, e31, e32, e33, e34, e35, e36, e37, e38, e39, e40, e41, e42, e43, e44, e45, e46, e47, e48, e49, e50, e51, e52, k53⟩ := hp
  refine mj_iconst (v := 0) dX6_readModule_56 (by decide) ?_
  refine mj_istore_n 1 (lv2 := [(1, .int 0), (0, .ref 845)]) dX6_readModule_57 rfl (by decide) rfl ?_
  refine mj_iload_n dX6_readModule_58 0 rfl ?_
  refine mj_sipush (v := 12002) dX6_readModule_59 (by decide) ?_
  refine mj_icmp_ge 191 dX6_readModule_62 (by decide) (fun z => absurd z (by decide)) (fun _ => ?_)
  refine mj_aload_n dX6_readModule_65 1 rfl ?_
  refine t_getR 1 dX6_readModule_66 F_X6_28 qr_845_0 ?_
  refine t_getI dX6_readModule_69 F_X6_82 qf_1_11 ?_
  rw [e29]
  refine mj_if_ne 191 dX6_readModule_72 (by decide) (fun z => absurd (by decide) z) (fun _ => ?_)
  refine mj_aload_n dX6_readModule_75 1 rfl ?_
  refine t_getR 1 dX6_readModule_76 F_X6_28 qr_845_0 ?_
  refine t_getI dX6_readModule_79 F_X6_85 qf_1_8 ?_
  rw [e35]
  refine mj_iconst (v := 4) dX6_readModule_82 (by decide) ?_
  refine mj_icmp_eq 191 dX6_readModule_83 (by decide) (fun _ => ?_) (fun z => absurd (by decide) z)
  refine mj_aload_n dX6_readModule_191 1 rfl ?_
  refine t_callV dX6_readModule_192 M_X6_finishReading (N_X6_finishReading s27 e29 ((congrFun (k53 316 (by decide)).1 13).trans ((t_oI w26 316 13 rfl).trans ((t_oI w24 316 13 rfl).trans ((t_oI w22 316 13 rfl).trans ((congrFun (k20 316 (by decide)).1 13).trans ((congrFun (k15 316 (by decide)).1 13).trans e4)))))) ((congrFun (k53 353 (by decide)).1 11).trans ((t_oI w26 353 11 rfl).trans ((t_oI w24 353 11 rfl).trans ((t_oI w22 353 11 rfl).trans ((congrFun (k20 353 (by decide)).1 11).trans e9))))) e44 e48 e49 e50) ML_X6_103 IM_X6_finishReading SE_X6_finishReading qc_845 rfl (As := []) rfl rfl (Nat.le_of_ble_eq_true rfl) (Nat.le_of_ble_eq_true rfl) (Nat.le_of_ble_eq_true rfl) (Nat.le_of_ble_eq_true rfl) (fun v s54 hp => ?_)
  obtain ⟨rfl, e55, e56, e57, e58, e59, e60, e61, e62, e63, e64, k65⟩ := hp
  refine mj_aload_n dX6_readModule_195 1 rfl ?_
  refine mj_aload_n dX6_readModule_196 1 rfl ?_
  refine t_getI dX6_readModule_197 F_X6_106 qf_845_10 ?_
  rw [((congrFun (k65 845 (by decide)).1 10).trans e39)]
  refine t_putI dX6_readModule_200 F_X6_109 qf_845_11 (by decide) ?_
  obtain ⟨s66, w67⟩ : ∃ z, z = t_setI s54 845 11 0 := ⟨_, rfl⟩
  rw [← w67]
  exact t_vret dX6_readModule_203 rfl (hpost _ _ ⟨rfl, ((t_oI w67 1 1 rfl).trans e55), ((t_oI w67 1 11 rfl).trans e56), ((t_oI w67 1 12 rfl).trans e57), ((t_oI w67 1 13 rfl).trans (e58.trans (e31.trans ((t_oI w26 1 13 rfl).trans ((t_oI w24 1 13 rfl).trans ((t_oI w22 1 13 rfl).trans ((congrFun (k20 1 (by decide)).1 13).trans ((congrFun (k15 1 (by decide)).1 13).trans ((congrFun (k7 1 (by decide)).1 13).trans rfl))))))))), ((t_oI w67 1 2 rfl).trans (e59.trans e32)), ((t_oI w67 1 6 rfl).trans (e60.trans e33)), ((t_oI w67 1 7 rfl).trans (e61.trans e34)), ((t_oI w67 1 8 rfl).trans (e62.trans e35)), ((t_oI w67 1 9 rfl).trans (e63.trans e36)), ((t_oI w67 3 0 rfl).trans ((congrFun (k65 3 (by decide)).1 0).trans e37)), ((t_oI w67 316 10 rfl).trans ((congrFun (k65 316 (by decide)).1 10).trans ((congrFun (k53 316 (by decide)).1 10).trans ((t_oI w26 316 10 rfl).trans ((t_oI w24 316 10 rfl).trans ((t_oI w22 316 10 rfl).trans ((congrFun (k20 316 (by decide)).1 10).trans ((congrFun (k15 316 (by decide)).1 10).trans e3)))))))), ((t_oI w67 316 13 rfl).trans ((congrFun (k65 316 (by decide)).1 13).trans ((congrFun (k53 316 (by decide)).1 13).trans ((t_oI w26 316 13 rfl).trans ((t_oI w24 316 13 rfl).trans ((t_oI w22 316 13 rfl).trans ((congrFun (k20 316 (by decide)).1 13).trans ((congrFun (k15 316 (by decide)).1 13).trans e4)))))))), ((t_oI w67 316 15 rfl).trans ((congrFun (k65 316 (by decide)).1 15).trans ((congrFun (k53 316 (by decide)).1 15).trans ((t_oI w26 316 15 rfl).trans ((t_oI w24 316 15 rfl).trans ((t_oI w22 316 15 rfl).trans ((congrFun (k20 316 (by decide)).1 15).trans ((congrFun (k15 316 (by decide)).1 15).trans (e5.trans rfl))))))))), ((t_oI w67 316 8 rfl).trans ((congrFun (k65 316 (by decide)).1 8).trans ((congrFun (k53 316 (by decide)).1 8).trans ((t_oI w26 316 8 rfl).trans ((t_oI w24 316 8 rfl).trans ((t_oI w22 316 8 rfl).trans ((congrFun (k20 316 (by decide)).1 8).trans ((congrFun (k15 316 (by decide)).1 8).trans e6)))))))), ((t_oI w67 334 11 rfl).trans ((congrFun (k65 334 (by decide)).1 11).trans ((congrFun (k53 334 (by decide)).1 11).trans ((t_oI w26 334 11 rfl).trans ((t_oI w24 334 11 rfl).trans ((t_oI w22 334 11 rfl).trans ((congrFun (k20 334 (by decide)).1 11).trans ((congrFun (k15 334 (by decide)).1 11).trans ((congrFun (k7 334 (by decide)).1 11).trans rfl))))))))), ((t_oI w67 334 12 rfl).trans ((congrFun (k65 334 (by decide)).1 12).trans ((congrFun (k53 334 (by decide)).1 12).trans ((t_oI w26 334 12 rfl).trans ((t_oI w24 334 12 rfl).trans ((t_oI w22 334 12 rfl).trans ((congrFun (k20 334 (by decide)).1 12).trans ((congrFun (k15 334 (by decide)).1 12).trans ((congrFun (k7 334 (by decide)).1 12).trans rfl))))))))), ((t_oI w67 334 13 rfl).trans ((congrFun (k65 334 (by decide)).1 13).trans ((congrFun (k53 334 (by decide)).1 13).trans ((t_oI w26 334 13 rfl).trans ((t_oI w24 334 13 rfl).trans ((t_oI w22 334 13 rfl).trans ((congrFun (k20 334 (by decide)).1 13).trans ((congrFun (k15 334 (by decide)).1 13).trans ((congrFun (k7 334 (by decide)).1 13).trans rfl))))))))), ((t_oI w67 334 14 rfl).trans ((congrFun (k65 334 (by decide)).1 14).trans ((congrFun (k53 334 (by decide)).1 14).trans ((t_oI w26 334 14 rfl).trans ((t_oI w24 334 14 rfl).trans ((t_oI w22 334 14 rfl).trans ((congrFun (k20 334 (by decide)).1 14).trans ((congrFun (k15 334 (by decide)).1 14).trans ((congrFun (k7 334 (by decide)).1 14).trans rfl))))))))), ((t_oI w67 334 16 rfl).trans ((congrFun (k65 334 (by decide)).1 16).trans ((congrFun (k53 334 (by decide)).1 16).trans ((t_oI w26 334 16 rfl).trans ((t_oI w24 334 16 rfl).trans ((t_oI w22 334 16 rfl).trans ((congrFun (k20 334 (by decide)).1 16).trans ((congrFun (k15 334 (by decide)).1 16).trans ((congrFun (k7 334 (by decide)).1 16).trans rfl))))))))), ((t_oI w67 334 18 rfl).trans ((congrFun (k65 334 (by decide)).1 18).trans ((congrFun (k53 334 (by decide)).1 18).trans ((t_oI w26 334 18 rfl).trans ((t_oI w24 334 18 rfl).trans ((t_oI w22 334 18 rfl).trans ((congrFun (k20 334 (by decide)).1 18).trans ((congrFun (k15 334 (by decide)).1 18).trans ((congrFun (k7 334 (by decide)).1 18).trans rfl))))))))), ((t_oI w67 334 2 rfl).trans ((congrFun (k65 334 (by decide)).1 2).trans ((congrFun (k53 334 (by decide)).1 2).trans ((t_oI w26 334 2 rfl).trans ((t_oI w24 334 2 rfl).trans (t_wI w22)))))), ((t_oI w67 334 4 rfl).trans ((congrFun (k65 334 (by decide)).1 4).trans ((congrFun (k53 334 (by decide)).1 4).trans ((t_oI w26 334 4 rfl).trans (t_wI w24))))), ((t_oI w67 334 7 rfl).trans ((congrFun (k65 334 (by decide)).1 7).trans ((congrFun (k53 334 (by decide)).1 7).trans ((t_oI w26 334 7 rfl).trans ((t_oI w24 334 7 rfl).trans ((t_oI w22 334 7 rfl).trans ((congrFun (k20 334 (by decide)).1 7).trans ((congrFun (k15 334 (by decide)).1 7).trans ((congrFun (k7 334 (by decide)).1 7).trans rfl))))))))), ((t_oI w67 353 11 rfl).trans ((congrFun (k65 353 (by decide)).1 11).trans ((congrFun (k53 353 (by decide)).1 11).trans ((t_oI w26 353 11 rfl).trans ((t_oI w24 353 11 rfl).trans ((t_oI w22 353 11 rfl).trans ((congrFun (k20 353 (by decide)).1 11).trans e9))))))), ((t_oI w67 353 13 rfl).trans ((congrFun (k65 353 (by decide)).1 13).trans ((congrFun (k53 353 (by decide)).1 13).trans ((t_oI w26 353 13 rfl).trans ((t_oI w24 353 13 rfl).trans ((t_oI w22 353 13 rfl).trans ((congrFun (k20 353 (by decide)).1 13).trans (e10.trans ((congrFun (k7 353 (by decide)).1 13).trans rfl))))))))), ((t_oI w67 353 15 rfl).trans ((congrFun (k65 353 (by decide)).1 15).trans ((congrFun (k53 353 (by decide)).1 15).trans ((t_oI w26 353 15 rfl).trans ((t_oI w24 353 15 rfl).trans ((t_oI w22 353 15 rfl).trans ((congrFun (k20 353 (by decide)).1 15).trans (e11.trans ((congrFun (k7 353 (by decide)).1 15).trans rfl))))))))), ((t_oI w67 353 17 rfl).trans ((congrFun (k65 353 (by decide)).1 17).trans ((congrFun (k53 353 (by decide)).1 17).trans ((t_oI w26 353 17 rfl).trans ((t_oI w24 353 17 rfl).trans ((t_oI w22 353 17 rfl).trans ((congrFun (k20 353 (by decide)).1 17).trans (e12.trans ((congrFun (k7 353 (by decide)).1 17).trans rfl))))))))), ((t_oI w67 353 20 rfl).trans ((congrFun (k65 353 (by decide)).1 20).trans ((congrFun (k53 353 (by decide)).1 20).trans ((t_oI w26 353 20 rfl).trans ((t_oI w24 353 20 rfl).trans ((t_oI w22 353 20 rfl).trans ((congrFun (k20 353 (by decide)).1 20).trans (e13.trans ((congrFun (k7 353 (by decide)).1 20).trans rfl))))))))), ((t_oI w67 353 9 rfl).trans ((congrFun (k65 353 (by decide)).1 9).trans ((congrFun (k53 353 (by decide)).1 9).trans ((t_oI w26 353 9 rfl).trans ((t_oI w24 353 9 rfl).trans ((t_oI w22 353 9 rfl).trans ((congrFun (k20 353 (by decide)).1 9).trans e14))))))), ((t_oI w67 4 0 rfl).trans ((congrFun (k65 4 (by decide)).1 0).trans e38)), ((t_oI w67 428 0 rfl).trans ((congrFun (k65 428 (by decide)).1 0).trans ((congrFun (k53 428 (by decide)).1 0).trans ((t_oI w26 428 0 rfl).trans ((t_oI w24 428 0 rfl).trans ((t_oI w22 428 0 rfl).trans e17)))))), ((t_oI w67 428 18 rfl).trans ((congrFun (k65 428 (by decide)).1 18).trans ((congrFun (k53 428 (by decide)).1 18).trans ((t_oI w26 428 18 rfl).trans ((t_oI w24 428 18 rfl).trans ((t_oI w22 428 18 rfl).trans e18)))))), ((t_oI w67 428 9 rfl).trans ((congrFun (k65 428 (by decide)).1 9).trans ((congrFun (k53 428 (by decide)).1 9).trans ((t_oI w26 428 9 rfl).trans ((t_oI w24 428 9 rfl).trans ((t_oI w22 428 9 rfl).trans e19)))))), ((t_oI w67 845 10 rfl).trans ((congrFun (k65 845 (by decide)).1 10).trans e39)), (t_wI w67), ((t_oI w67 845 12 rfl).trans ((congrFun (k65 845 (by decide)).1 12).trans e41)), ((t_oI w67 845 13 rfl).trans ((congrFun (k65 845 (by decide)).1 13).trans e42)), ((t_oI w67 845 14 rfl).trans ((congrFun (k65 845 (by decide)).1 14).trans e43)), ((t_oI w67 845 15 rfl).trans ((congrFun (k65 845 (by decide)).1 15).trans e44)), ((t_oI w67 845 16 rfl).trans ((congrFun (k65 845 (by decide)).1 16).trans (e45.trans (t_wI w26)))), ((t_oI w67 845 7 rfl).trans ((congrFun (k65 845 (by decide)).1 7).trans e46)), ((t_oI w67 845 9 rfl).trans ((congrFun (k65 845 (by decide)).1 9).trans e47)), ((t_oI w67 846 6 rfl).trans ((congrFun (k65 846 (by decide)).1 6).trans e48)), ((t_oI w67 846 7 rfl).trans ((congrFun (k65 846 (by decide)).1 7).trans e49)), ((t_oI w67 846 8 rfl).trans ((congrFun (k65 846 (by decide)).1 8).trans e50)), ((t_cIJ w67 1 10).trans (e64.trans e51)), ((t_cIJ w67 334 17).trans ((congrFun (k65 334 (by decide)).2.1 17).trans ((congrFun (k53 334 (by decide)).2.1 17).trans ((t_cIJ w26 334 17).trans ((t_cIJ w24 334 17).trans ((t_cIJ w22 334 17).trans ((congrFun (k20 334 (by decide)).2.1 17).trans ((congrFun (k15 334 (by decide)).2.1 17).trans ((congrFun (k7 334 (by decide)).2.1 17).trans rfl))))))))), ((t_cIJ w67 5 0).trans ((congrFun (k65 5 (by decide)).2.1 0).trans e52)), (((((((((k7.mono (by decide)).trans (k15.mono (by decide))).trans (k20.mono (by decide))).trans (t_keep_I w22 (by decide))).trans (t_keep_I w24 (by decide))).trans (t_keep_I w26 (by decide))).trans (k53.mono (by decide))).trans (k65.mono (by decide))).trans (t_keep_I w67 (by decide)))⟩) (Nat.le_of_ble_eq_true rfl) (Nat.le_of_ble_eq_true rfl)

theorem dX11_settle_0 : decode cX11_settle 0 = .ok (.aload_n 0, 1) := by decide +kernel
theorem dX11_settle_1 : decode cX11_settle 1 = .ok (.iconst 0, 1) := by decide +kernel
theorem dX11_settle_11 : decode cX11_settle 11 = .ok (.invokestatic 83, 3) := by decide +kernel
theorem dX11_settle_14 : decode cX11_settle 14 = .ok (.iconst 1, 1) := by decide +kernel
theorem dX11_settle_15 : decode cX11_settle 15 = .ok (.istore_n 1, 1) := by decide +kernel
theorem dX11_settle_16 : decode cX11_settle 16 = .ok (.iconst 0, 1) := by decide +kernel
theorem dX11_settle_17 : decode cX11_settle 17 = .ok (.istore_n 2, 1) := by decide +kernel
theorem dX11_settle_18 : decode cX11_settle 18 = .ok (.iload_n 1, 1) := by decide +kernel
theorem dX11_settle_19 : decode cX11_settle 19 = .ok (.ifCond .eq 63, 3) := by decide +kernel
theorem dX11_settle_2 : decode cX11_settle 2 = .ok (.putfield 79, 3) := by decide +kernel
theorem dX11_settle_22 : decode cX11_settle 22 = .ok (.iload_n 2, 1) := by decide +kernel
theorem dX11_settle_23 : decode cX11_settle 23 = .ok (.sipush 3001, 3) := by decide +kernel
theorem dX11_settle_26 : decode cX11_settle 26 = .ok (.if_icmp .gt 56, 3) := by decide +kernel
theorem dX11_settle_29 : decode cX11_settle 29 = .ok (.iconst 0, 1) := by decide +kernel
theorem dX11_settle_30 : decode cX11_settle 30 = .ok (.istore_n 1, 1) := by decide +kernel
theorem dX11_settle_31 : decode cX11_settle 31 = .ok (.aload_n 0, 1) := by decide +kernel
theorem dX11_settle_32 : decode cX11_settle 32 = .ok (.getfield 65, 3) := by decide +kernel
theorem dX11_settle_35 : decode cX11_settle 35 = .ok (.iconst 1, 1) := by decide +kernel
theorem dX11_settle_36 : decode cX11_settle 36 = .ok (.isub, 1) := by decide +kernel
theorem dX11_settle_37 : decode cX11_settle 37 = .ok (.istore_n 3, 1) := by decide +kernel
theorem dX11_settle_38 : decode cX11_settle 38 = .ok (.iload_n 3, 1) := by decide +kernel
theorem dX11_settle_39 : decode cX11_settle 39 = .ok (.ifCond .lt 37, 3) := by decide +kernel
theorem dX11_settle_5 : decode cX11_settle 5 = .ok (.aload_n 0, 1) := by decide +kernel
theorem dX11_settle_6 : decode cX11_settle 6 = .ok (.getfield 32, 3) := by decide +kernel
theorem dX11_settle_76 : decode cX11_settle 76 = .ok (.iinc 2 1, 3) := by decide +kernel
theorem dX11_settle_79 : decode cX11_settle 79 = .ok (.goto (-61), 3) := by decide +kernel
theorem dX11_settle_82 : decode cX11_settle 82 = .ok (.return_, 1) := by decide +kernel
theorem dX11_settle_9 : decode cX11_settle 9 = .ok (.ldc 82, 2) := by decide +kernel
set_option maxRecDepth 4000 in
set_option maxHeartbeats 400000 in
theorem N_X11_settle (s : t_S) (h_I_316_8 : s.1 316 8 = 0) : t_C yX11_settle cX11_settle 5 none 1 [.ref 316] s (fun v s' => v = none ∧ (s'.1 316 10 = s.1 316 10) ∧ (s'.1 316 13 = s.1 316 13) ∧ (s'.1 316 15 = 0) ∧ (s'.1 316 8 = s.1 316 8) ∧ t_keep [316, 324] s s') := by
  refine t_C.of (by decide +kernel) (Nat.le_of_ble_eq_true rfl) ?_
  intro D cy ad bs X
  suffices main : ∀ post : Option Value → t_S → Prop, (∀ v s', (v = none ∧ (s'.1 316 10 = s.1 316 10) ∧ (s'.1 316 13 = s.1 316 13) ∧ (s'.1 316 15 = 0) ∧ (s'.1 316 8 = s.1 316 8) ∧ t_keep [316, 324] s s') → post v s') → mj_G D cy ad bs X cX11_settle 5 yX11_settle.cls none yX11_settle.name 1 0 0 1065 (t_P post) 0 [(0, .ref 316)] [] (t_m s) 1065 0 0 from main _ (fun _ _ h => h)
  intro post hpost
  refine mj_aload_n dX11_settle_0 0 rfl ?_
  refine mj_iconst (v := 0) dX11_settle_1 (by decide) ?_
  refine t_putI dX11_settle_2 F_X11_79 qf_316_15 (by decide) ?_
  obtain ⟨s1, w2⟩ : ∃ z, z = t_setI s 316 15 0 := ⟨_, rfl⟩
  rw [← w2]
  refine mj_aload_n dX11_settle_5 0 rfl ?_
  refine t_getR 324 dX11_settle_6 F_X11_32 qr_316_7 ?_
  refine mj_ldc dX11_settle_9 K_X11_82 ?_
  refine t_callS dX11_settle_11 M_J7_fill_53178 (N_fillK s1 324 3001 2000000 qa_324 (by decide)) ML_X11_83 SM_J7_fill_53178 (As := [.ref 324, .int 2000000]) rfl rfl (Nat.le_of_ble_eq_true rfl) (Nat.le_of_ble_eq_true rfl) (Nat.le_of_ble_eq_true rfl) (Nat.le_of_ble_eq_true rfl) (fun v s3 hp => ?_)
  obtain ⟨rfl, k4⟩ := hp
  refine mj_iconst (v := 1) dX11_settle_14 (by decide) ?_
  refine mj_istore_n 1 (lv2 := [(1, .int 1), (0, .ref 316)]) dX11_settle_15 rfl (by decide) rfl ?_
  refine mj_iconst (v := 0) dX11_settle_16 (by decide) ?_
  refine mj_istore_n 2 (lv2 := [(2, .int 0), (1, .int 1), (0, .ref 316)]) dX11_settle_17 rfl (by decide) rfl ?_
  refine mj_iload_n dX11_settle_18 1 rfl ?_
  refine mj_if_eq 82 dX11_settle_19 (by decide) (fun z => absurd z (by decide)) (fun _ => ?_)
  refine mj_iload_n dX11_settle_22 0 rfl ?_
  refine mj_sipush (v := 3001) dX11_settle_23 (by decide) ?_
  refine mj_icmp_gt 82 dX11_settle_26 (by decide) (fun z => absurd z (by decide)) (fun _ => ?_)
  refine mj_iconst (v := 0) dX11_settle_29 (by decide) ?_
  refine mj_istore_n 1 (lv2 := [(1, .int 0), (2, .int 0), (0, .ref 316)]) dX11_settle_30 rfl (by decide) rfl ?_
  refine mj_aload_n dX11_settle_31 2 rfl ?_
  refine t_getI dX11_settle_32 F_X11_65 qf_316_8 ?_
  rw [((congrFun (k4 316 (by decide)).1 8).trans ((t_oI w2 316 8 rfl).trans h_I_316_8))]
  refine mj_iconst (v := 1) dX11_settle_35 (by decide) ?_
  refine mj_isub dX11_settle_36 ?_
  rw [show (0 : Int32) - 1 = (-1) by decide]
  refine mj_istore_n 3 (lv2 := [(3, .int (-1)), (1, .int 0), (2, .int 0), (0, .ref 316)]) dX11_settle_37 rfl (by decide) rfl ?_
  refine mj_iload_n dX11_settle_38 0 rfl ?_
  refine mj_if_lt 76 dX11_settle_39 (by decide) (fun _ => ?_) (fun z => absurd (by decide) z)
  refine mj_iinc (k := 2) (v := 1) (lv2 := [(2, .int 1), (3, .int (-1)), (1, .int 0), (0, .ref 316)]) dX11_settle_76 rfl (by decide) (by decide) rfl ?_
  refine mj_goto 18 dX11_settle_79 (by decide) ?_
  refine mj_iload_n dX11_settle_18 2 rfl ?_
  refine mj_if_eq 82 dX11_settle_19 (by decide) (fun _ => ?_) (fun z => absurd (by decide) z)
  exact t_vret dX11_settle_82 rfl (hpost _ _ ⟨rfl, ((congrFun (k4 316 (by decide)).1 10).trans ((t_oI w2 316 10 rfl).trans rfl)), ((congrFun (k4 316 (by decide)).1 13).trans ((t_oI w2 316 13 rfl).trans rfl)), ((congrFun (k4 316 (by decide)).1 15).trans (t_wI w2)), ((congrFun (k4 316 (by decide)).1 8).trans ((t_oI w2 316 8 rfl).trans rfl)), ((t_keep_I w2 (by decide)).trans (k4.mono (by decide)))⟩) (Nat.le_of_ble_eq_true rfl) (Nat.le_of_ble_eq_true rfl)

theorem dX10_settle_0 : decode cX10_settle 0 = .ok (.aload_n 0, 1) := by decide +kernel
theorem dX10_settle_1 : decode cX10_settle 1 = .ok (.getfield 58, 3) := by decide +kernel
theorem dX10_settle_10 : decode cX10_settle 10 = .ok (.iload_n 1, 1) := by decide +kernel
theorem dX10_settle_11 : decode cX10_settle 11 = .ok (.aload_n 0, 1) := by decide +kernel
theorem dX10_settle_12 : decode cX10_settle 12 = .ok (.getfield 74, 3) := by decide +kernel
theorem dX10_settle_140 : decode cX10_settle 140 = .ok (.iinc 2 1, 3) := by decide +kernel
theorem dX10_settle_143 : decode cX10_settle 143 = .ok (.goto (-70), 3) := by decide +kernel
theorem dX10_settle_146 : decode cX10_settle 146 = .ok (.return_, 1) := by decide +kernel
theorem dX10_settle_15 : decode cX10_settle 15 = .ok (.if_icmp .ge 21, 3) := by decide +kernel
theorem dX10_settle_36 : decode cX10_settle 36 = .ok (.aload_n 0, 1) := by decide +kernel
theorem dX10_settle_37 : decode cX10_settle 37 = .ok (.getfield 58, 3) := by decide +kernel
theorem dX10_settle_4 : decode cX10_settle 4 = .ok (.iconst 1, 1) := by decide +kernel
theorem dX10_settle_40 : decode cX10_settle 40 = .ok (.iconst 0, 1) := by decide +kernel
theorem dX10_settle_41 : decode cX10_settle 41 = .ok (.putfield 90, 3) := by decide +kernel
theorem dX10_settle_44 : decode cX10_settle 44 = .ok (.iconst 0, 1) := by decide +kernel
theorem dX10_settle_45 : decode cX10_settle 45 = .ok (.istore_n 1, 1) := by decide +kernel
theorem dX10_settle_46 : decode cX10_settle 46 = .ok (.iload_n 1, 1) := by decide +kernel
theorem dX10_settle_47 : decode cX10_settle 47 = .ok (.aload_n 0, 1) := by decide +kernel
theorem dX10_settle_48 : decode cX10_settle 48 = .ok (.getfield 74, 3) := by decide +kernel
theorem dX10_settle_5 : decode cX10_settle 5 = .ok (.putfield 90, 3) := by decide +kernel
theorem dX10_settle_51 : decode cX10_settle 51 = .ok (.if_icmp .ge 18, 3) := by decide +kernel
theorem dX10_settle_69 : decode cX10_settle 69 = .ok (.iconst 1, 1) := by decide +kernel
theorem dX10_settle_70 : decode cX10_settle 70 = .ok (.istore_n 1, 1) := by decide +kernel
theorem dX10_settle_71 : decode cX10_settle 71 = .ok (.iconst 0, 1) := by decide +kernel
theorem dX10_settle_72 : decode cX10_settle 72 = .ok (.istore_n 2, 1) := by decide +kernel
theorem dX10_settle_73 : decode cX10_settle 73 = .ok (.iload_n 1, 1) := by decide +kernel
theorem dX10_settle_74 : decode cX10_settle 74 = .ok (.ifCond .eq 72, 3) := by decide +kernel
theorem dX10_settle_77 : decode cX10_settle 77 = .ok (.iload_n 2, 1) := by decide +kernel
theorem dX10_settle_78 : decode cX10_settle 78 = .ok (.bipush 61, 2) := by decide +kernel
theorem dX10_settle_8 : decode cX10_settle 8 = .ok (.iconst 0, 1) := by decide +kernel
theorem dX10_settle_80 : decode cX10_settle 80 = .ok (.if_icmp .gt 66, 3) := by decide +kernel
theorem dX10_settle_83 : decode cX10_settle 83 = .ok (.iconst 0, 1) := by decide +kernel
theorem dX10_settle_84 : decode cX10_settle 84 = .ok (.istore_n 1, 1) := by decide +kernel
theorem dX10_settle_85 : decode cX10_settle 85 = .ok (.iconst 0, 1) := by decide +kernel
theorem dX10_settle_86 : decode cX10_settle 86 = .ok (.istore_n 3, 1) := by decide +kernel
theorem dX10_settle_87 : decode cX10_settle 87 = .ok (.iload_n 3, 1) := by decide +kernel
theorem dX10_settle_88 : decode cX10_settle 88 = .ok (.aload_n 0, 1) := by decide +kernel
theorem dX10_settle_89 : decode cX10_settle 89 = .ok (.getfield 74, 3) := by decide +kernel
theorem dX10_settle_9 : decode cX10_settle 9 = .ok (.istore_n 1, 1) := by decide +kernel
theorem dX10_settle_92 : decode cX10_settle 92 = .ok (.if_icmp .ge 48, 3) := by decide +kernel
set_option maxRecDepth 4000 in
set_option maxHeartbeats 400000 in
theorem N_X10_settle (s : t_S) (h_I_353_11 : s.1 353 11 = 0) : t_C yX10_settle cX10_settle 5 none 0 [.ref 353] s (fun v s' => v = none ∧ (s'.1 334 11 = s.1 334 11) ∧ (s'.1 334 12 = s.1 334 12) ∧ (s'.1 334 13 = s.1 334 13) ∧ (s'.1 334 14 = 0) ∧ (s'.1 334 16 = s.1 334 16) ∧ (s'.1 334 18 = s.1 334 18) ∧ (s'.1 334 2 = s.1 334 2) ∧ (s'.1 334 4 = s.1 334 4) ∧ (s'.1 334 7 = s.1 334 7) ∧ (s'.2.1 334 17 = s.2.1 334 17) ∧ t_keep [334] s s') := by
  refine t_C.of (by decide +kernel) (Nat.le_of_ble_eq_true rfl) ?_
  intro D cy ad bs X
  suffices main : ∀ post : Option Value → t_S → Prop, (∀ v s', (v = none ∧ (s'.1 334 11 = s.1 334 11) ∧ (s'.1 334 12 = s.1 334 12) ∧ (s'.1 334 13 = s.1 334 13) ∧ (s'.1 334 14 = 0) ∧ (s'.1 334 16 = s.1 334 16) ∧ (s'.1 334 18 = s.1 334 18) ∧ (s'.1 334 2 = s.1 334 2) ∧ (s'.1 334 4 = s.1 334 4) ∧ (s'.1 334 7 = s.1 334 7) ∧ (s'.2.1 334 17 = s.2.1 334 17) ∧ t_keep [334] s s') → post v s') → mj_G D cy ad bs X cX10_settle 5 yX10_settle.cls none yX10_settle.name 0 0 0 1065 (t_P post) 0 [(0, .ref 353)] [] (t_m s) 1065 0 0 from main _ (fun _ _ h => h)
  intro post hpost
  refine mj_aload_n dX10_settle_0 0 rfl ?_
  refine t_getR 334 dX10_settle_1 F_X10_58 qr_353_21 ?_
  refine mj_iconst (v := 1) dX10_settle_4 (by decide) ?_
  refine t_putI dX10_settle_5 F_X10_90 qf_334_14 (by decide) ?_
  obtain ⟨s1, w2⟩ : ∃ z, z = t_setI s 334 14 1 := ⟨_, rfl⟩
  rw [← w2]
  refine mj_iconst (v := 0) dX10_settle_8 (by decide) ?_
  refine mj_istore_n 1 (lv2 := [(1, .int 0), (0, .ref 353)]) dX10_settle_9 rfl (by decide) rfl ?_
  refine mj_iload_n dX10_settle_10 0 rfl ?_
  refine mj_aload_n dX10_settle_11 1 rfl ?_
  refine t_getI dX10_settle_12 F_X10_74 qf_353_11 ?_
  rw [((t_oI w2 353 11 rfl).trans h_I_353_11)]
  refine mj_icmp_ge 36 dX10_settle_15 (by decide) (fun _ => ?_) (fun z => absurd (by decide) z)
  refine mj_aload_n dX10_settle_36 1 rfl ?_
  refine t_getR 334 dX10_settle_37 F_X10_58 qr_353_21 ?_
  refine mj_iconst (v := 0) dX10_settle_40 (by decide) ?_
  refine t_putI dX10_settle_41 F_X10_90 qf_334_14 (by decide) ?_
  obtain ⟨s3, w4⟩ : ∃ z, z = t_setI s1 334 14 0 := ⟨_, rfl⟩
  rw [← w4]
  refine mj_iconst (v := 0) dX10_settle_44 (by decide) ?_
  refine mj_istore_n 1 (lv2 := [(1, .int 0), (0, .ref 353)]) dX10_settle_45 rfl (by decide) rfl ?_
  refine mj_iload_n dX10_settle_46 0 rfl ?_
  refine mj_aload_n dX10_settle_47 1 rfl ?_
  refine t_getI dX10_settle_48 F_X10_74 qf_353_11 ?_
  rw [((t_oI w4 353 11 rfl).trans ((t_oI w2 353 11 rfl).trans h_I_353_11))]
  refine mj_icmp_ge 69 dX10_settle_51 (by decide) (fun _ => ?_) (fun z => absurd (by decide) z)
  refine mj_iconst (v := 1) dX10_settle_69 (by decide) ?_
  refine mj_istore_n 1 (lv2 := [(1, .int 1), (0, .ref 353)]) dX10_settle_70 rfl (by decide) rfl ?_
  refine mj_iconst (v := 0) dX10_settle_71 (by decide) ?_
  refine mj_istore_n 2 (lv2 := [(2, .int 0), (1, .int 1), (0, .ref 353)]) dX10_settle_72 rfl (by decide) rfl ?_
  refine mj_iload_n dX10_settle_73 1 rfl ?_
  refine mj_if_eq 146 dX10_settle_74 (by decide) (fun z => absurd z (by decide)) (fun _ => ?_)
  refine mj_iload_n dX10_settle_77 0 rfl ?_
  refine mj_bipush (v := 61) dX10_settle_78 (by decide) ?_
  refine mj_icmp_gt 146 dX10_settle_80 (by decide) (fun z => absurd z (by decide)) (fun _ => ?_)
  refine mj_iconst (v := 0) dX10_settle_83 (by decide) ?_
  refine mj_istore_n 1 (lv2 := [(1, .int 0), (2, .int 0), (0, .ref 353)]) dX10_settle_84 rfl (by decide) rfl ?_
  refine mj_iconst (v := 0) dX10_settle_85 (by decide) ?_
  refine mj_istore_n 3 (lv2 := [(3, .int 0), (1, .int 0), (2, .int 0), (0, .ref 353)]) dX10_settle_86 rfl (by decide) rfl ?_
  refine mj_iload_n dX10_settle_87 0 rfl ?_
  refine mj_aload_n dX10_settle_88 3 rfl ?_
  refine t_getI dX10_settle_89 F_X10_74 qf_353_11 ?_
  rw [((t_oI w4 353 11 rfl).trans ((t_oI w2 353 11 rfl).trans h_I_353_11))]
  refine mj_icmp_ge 140 dX10_settle_92 (by decide) (fun _ => ?_) (fun z => absurd (by decide) z)
  refine mj_iinc (k := 2) (v := 1) (lv2 := [(2, .int 1), (3, .int 0), (1, .int 0), (0, .ref 353)]) dX10_settle_140 rfl (by decide) (by decide) rfl ?_
  refine mj_goto 73 dX10_settle_143 (by decide) ?_
  refine mj_iload_n dX10_settle_73 2 rfl ?_
  refine mj_if_eq 146 dX10_settle_74 (by decide) (fun _ => ?_) (fun z => absurd (by decide) z)
  exact t_vret dX10_settle_146 rfl (hpost _ _ ⟨rfl, ((t_oI w4 334 11 rfl).trans ((t_oI w2 334 11 rfl).trans rfl)), ((t_oI w4 334 12 rfl).trans ((t_oI w2 334 12 rfl).trans rfl)), ((t_oI w4 334 13 rfl).trans ((t_oI w2 334 13 rfl).trans rfl)), (t_wI w4), ((t_oI w4 334 16 rfl).trans ((t_oI w2 334 16 rfl).trans rfl)), ((t_oI w4 334 18 rfl).trans ((t_oI w2 334 18 rfl).trans rfl)), ((t_oI w4 334 2 rfl).trans ((t_oI w2 334 2 rfl).trans rfl)), ((t_oI w4 334 4 rfl).trans ((t_oI w2 334 4 rfl).trans rfl)), ((t_oI w4 334 7 rfl).trans ((t_oI w2 334 7 rfl).trans rfl)), ((t_cIJ w4 334 17).trans ((t_cIJ w2 334 17).trans rfl)), ((t_keep_I w2 (by decide)).trans (t_keep_I w4 (by decide)))⟩) (Nat.le_of_ble_eq_true rfl) (Nat.le_of_ble_eq_true rfl)

theorem dX12_module_0 : decode cX12_module 0 = .ok (.aload_n 0, 1) := by decide +kernel
theorem dX12_module_1 : decode cX12_module 1 = .ok (.getfield 19, 3) := by decide +kernel
theorem dX12_module_12 : decode cX12_module 12 = .ok (.invokevirtual 110, 3) := by decide +kernel
theorem dX12_module_15 : decode cX12_module 15 = .ok (.aload_n 0, 1) := by decide +kernel
theorem dX12_module_16 : decode cX12_module 16 = .ok (.getfield 66, 3) := by decide +kernel
theorem dX12_module_19 : decode cX12_module 19 = .ok (.invokevirtual 113, 3) := by decide +kernel
theorem dX12_module_22 : decode cX12_module 22 = .ok (.aload_n 0, 1) := by decide +kernel
theorem dX12_module_23 : decode cX12_module 23 = .ok (.aload_n 0, 1) := by decide +kernel
theorem dX12_module_24 : decode cX12_module 24 = .ok (.getfield 10, 3) := by decide +kernel
theorem dX12_module_27 : decode cX12_module 27 = .ok (.getfield 116, 3) := by decide +kernel
theorem dX12_module_30 : decode cX12_module 30 = .ok (.putfield 119, 3) := by decide +kernel
theorem dX12_module_33 : decode cX12_module 33 = .ok (.aload_n 0, 1) := by decide +kernel
theorem dX12_module_34 : decode cX12_module 34 = .ok (.aload_n 0, 1) := by decide +kernel
theorem dX12_module_35 : decode cX12_module 35 = .ok (.getfield 119, 3) := by decide +kernel
theorem dX12_module_38 : decode cX12_module 38 = .ok (.ifCond .ne 7, 3) := by decide +kernel
theorem dX12_module_4 : decode cX12_module 4 = .ok (.iconst 0, 1) := by decide +kernel
theorem dX12_module_41 : decode cX12_module 41 = .ok (.iconst (-1), 1) := by decide +kernel
theorem dX12_module_42 : decode cX12_module 42 = .ok (.goto 10, 3) := by decide +kernel
theorem dX12_module_5 : decode cX12_module 5 = .ok (.putfield 107, 3) := by decide +kernel
theorem dX12_module_52 : decode cX12_module 52 = .ok (.putfield 95, 3) := by decide +kernel
theorem dX12_module_55 : decode cX12_module 55 = .ok (.aload_n 0, 1) := by decide +kernel
theorem dX12_module_56 : decode cX12_module 56 = .ok (.aload_n 0, 1) := by decide +kernel
theorem dX12_module_57 : decode cX12_module 57 = .ok (.getfield 119, 3) := by decide +kernel
theorem dX12_module_60 : decode cX12_module 60 = .ok (.ifCond .ne 7, 3) := by decide +kernel
theorem dX12_module_63 : decode cX12_module 63 = .ok (.iconst 1, 1) := by decide +kernel
theorem dX12_module_64 : decode cX12_module 64 = .ok (.goto 4, 3) := by decide +kernel
theorem dX12_module_68 : decode cX12_module 68 = .ok (.putfield 121, 3) := by decide +kernel
theorem dX12_module_71 : decode cX12_module 71 = .ok (.aload_n 0, 1) := by decide +kernel
theorem dX12_module_72 : decode cX12_module 72 = .ok (.getfield 121, 3) := by decide +kernel
theorem dX12_module_75 : decode cX12_module 75 = .ok (.ifCond .eq 17, 3) := by decide +kernel
theorem dX12_module_78 : decode cX12_module 78 = .ok (.aload_n 0, 1) := by decide +kernel
theorem dX12_module_79 : decode cX12_module 79 = .ok (.getfield 26, 3) := by decide +kernel
theorem dX12_module_8 : decode cX12_module 8 = .ok (.aload_n 0, 1) := by decide +kernel
theorem dX12_module_82 : decode cX12_module 82 = .ok (.invokevirtual 125, 3) := by decide +kernel
theorem dX12_module_85 : decode cX12_module 85 = .ok (.aload_n 0, 1) := by decide +kernel
theorem dX12_module_86 : decode cX12_module 86 = .ok (.getfield 44, 3) := by decide +kernel
theorem dX12_module_89 : decode cX12_module 89 = .ok (.invokevirtual 128, 3) := by decide +kernel
theorem dX12_module_9 : decode cX12_module 9 = .ok (.getfield 84, 3) := by decide +kernel
theorem dX12_module_92 : decode cX12_module 92 = .ok (.aload_n 0, 1) := by decide +kernel
theorem dX12_module_93 : decode cX12_module 93 = .ok (.getfield 119, 3) := by decide +kernel
theorem dX12_module_96 : decode cX12_module 96 = .ok (.ireturn, 1) := by decide +kernel
set_option maxRecDepth 4000 in
set_option maxHeartbeats 400000 in
theorem N_X12_module (s : t_S) (wd : Int32) (hwd : wd.toInt ≤ 66) (h_I_1_1 : s.1 1 1 = 0) (h_I_1_13 : s.1 1 13 = wd) : t_C yX12_module cX12_module 1 (some .int) 4 [.ref 0] s (fun v s' => v = some (.int 0) ∧ (s'.1 0 10 = 0) ∧ (s'.1 0 11 = (-1)) ∧ (s'.1 0 12 = 1) ∧ (s'.1 1 1 = 0) ∧ (s'.1 1 11 = 0) ∧ (s'.1 1 12 = 0) ∧ (s'.1 1 13 = s.1 1 13) ∧ (s'.1 1 2 = 0) ∧ (s'.1 1 6 = 1) ∧ (s'.1 1 7 = 0) ∧ (s'.1 1 8 = 4) ∧ (s'.1 1 9 = 0) ∧ (s'.1 12 2 = 0) ∧ (s'.1 12 4 = 0) ∧ (s'.1 12 5 = 0) ∧ (s'.1 3 0 = 4) ∧ (s'.1 316 10 = 0) ∧ (s'.1 316 13 = 0) ∧ (s'.1 316 15 = 0) ∧ (s'.1 316 8 = 0) ∧ (s'.1 334 11 = s.1 334 11) ∧ (s'.1 334 12 = s.1 334 12) ∧ (s'.1 334 13 = s.1 334 13) ∧ (s'.1 334 14 = 0) ∧ (s'.1 334 16 = s.1 334 16) ∧ (s'.1 334 18 = s.1 334 18) ∧ (s'.1 334 2 = 0) ∧ (s'.1 334 4 = 0) ∧ (s'.1 334 7 = s.1 334 7) ∧ (s'.1 353 11 = 0) ∧ (s'.1 353 13 = s.1 353 13) ∧ (s'.1 353 15 = s.1 353 15) ∧ (s'.1 353 17 = s.1 353 17) ∧ (s'.1 353 20 = s.1 353 20) ∧ (s'.1 353 9 = 0) ∧ (s'.1 4 0 = 0) ∧ (s'.1 428 0 = 0) ∧ (s'.1 428 18 = 0) ∧ (s'.1 428 9 = 0) ∧ (s'.1 845 10 = 0) ∧ (s'.1 845 11 = 0) ∧ (s'.1 845 12 = (-1)) ∧ (s'.1 845 13 = (-1)) ∧ (s'.1 845 14 = (-1)) ∧ (s'.1 845 15 = 0) ∧ (s'.1 845 16 = 2147483647) ∧ (s'.1 845 7 = 0) ∧ (s'.1 845 9 = 0) ∧ (s'.1 846 6 = 0) ∧ (s'.1 846 7 = 0) ∧ (s'.1 846 8 = 0) ∧ (s'.1 864 10 = s.1 864 10) ∧ (s'.1 864 11 = s.1 864 11) ∧ (s'.1 864 6 = 0) ∧ (s'.1 864 8 = 0) ∧ (s'.1 864 9 = s.1 864 9) ∧ (s'.2.1 1 10 = 0) ∧ (s'.2.1 334 17 = s.2.1 334 17) ∧ (s'.2.1 5 0 = 0) ∧ (s'.2.1 864 7 = 0) ∧ t_keep [0, 1, 3, 4, 5, 12, 316, 324, 334, 353, 428, 845, 846, 864] s s') := by
  refine t_C.of (by decide +kernel) (Nat.le_of_ble_eq_true rfl) ?_
  intro D cy ad bs X
  suffices main : ∀ post : Option Value → t_S → Prop, (∀ v s', (v = some (.int 0) ∧ (s'.1 0 10 = 0) ∧ (s'.1 0 11 = (-1)) ∧ (s'.1 0 12 = 1) ∧ (s'.1 1 1 = 0) ∧ (s'.1 1 11 = 0) ∧ (s'.1 1 12 = 0) ∧ (s'.1 1 13 = s.1 1 13) ∧ (s'.1 1 2 = 0) ∧ (s'.1 1 6 = 1) ∧ (s'.1 1 7 = 0) ∧ (s'.1 1 8 = 4) ∧ (s'.1 1 9 = 0) ∧ (s'.1 12 2 = 0) ∧ (s'.1 12 4 = 0) ∧ (s'.1 12 5 = 0) ∧ (s'.1 3 0 = 4) ∧ (s'.1 316 10 = 0) ∧ (s'.1 316 13 = 0) ∧ (s'.1 316 15 = 0) ∧ (s'.1 316 8 = 0) ∧ (s'.1 334 11 = s.1 334 11) ∧ (s'.1 334 12 = s.1 334 12) ∧ (s'.1 334 13 = s.1 334 13) ∧ (s'.1 334 14 = 0) ∧ (s'.1 334 16 = s.1 334 16) ∧ (s'.1 334 18 = s.1 334 18) ∧ (s'.1 334 2 = 0) ∧ (s'.1 334 4 = 0) ∧ (s'.1 334 7 = s.1 334 7) ∧ (s'.1 353 11 = 0) ∧ (s'.1 353 13 = s.1 353 13) ∧ (s'.1 353 15 = s.1 353 15) ∧ (s'.1 353 17 = s.1 353 17) ∧ (s'.1 353 20 = s.1 353 20) ∧ (s'.1 353 9 = 0) ∧ (s'.1 4 0 = 0) ∧ (s'.1 428 0 = 0) ∧ (s'.1 428 18 = 0) ∧ (s'.1 428 9 = 0) ∧ (s'.1 845 10 = 0) ∧ (s'.1 845 11 = 0) ∧ (s'.1 845 12 = (-1)) ∧ (s'.1 845 13 = (-1)) ∧ (s'.1 845 14 = (-1)) ∧ (s'.1 845 15 = 0) ∧ (s'.1 845 16 = 2147483647) ∧ (s'.1 845 7 = 0) ∧ (s'.1 845 9 = 0) ∧ (s'.1 846 6 = 0) ∧ (s'.1 846 7 = 0) ∧ (s'.1 846 8 = 0) ∧ (s'.1 864 10 = s.1 864 10) ∧ (s'.1 864 11 = s.1 864 11) ∧ (s'.1 864 6 = 0) ∧ (s'.1 864 8 = 0) ∧ (s'.1 864 9 = s.1 864 9) ∧ (s'.2.1 1 10 = 0) ∧ (s'.2.1 334 17 = s.2.1 334 17) ∧ (s'.2.1 5 0 = 0) ∧ (s'.2.1 864 7 = 0) ∧ t_keep [0, 1, 3, 4, 5, 12, 316, 324, 334, 353, 428, 845, 846, 864] s s') → post v s') → mj_G D cy ad bs X cX12_module 1 yX12_module.cls (some .int) yX12_module.name 4 0 0 1065 (t_P post) 0 [(0, .ref 0)] [] (t_m s) 1065 0 0 from main _ (fun _ _ h => h)
  intro post hpost
  refine mj_aload_n dX12_module_0 0 rfl ?_
  refine t_getR 12 dX12_module_1 F_X12_19 qr_0_1 ?_
  refine mj_iconst (v := 0) dX12_module_4 (by decide) ?_
  refine t_putI dX12_module_5 F_X12_107 qf_12_2 (by decide) ?_
  obtain ⟨s1, w2⟩ : ∃ z, z = t_setI s 12 2 0 := ⟨_, rfl⟩
  rw [← w2]
  refine mj_aload_n dX12_module_8 0 rfl ?_
  refine t_getR 864 dX12_module_9 F_X12_84 qr_0_8 ?_
  refine t_callV dX12_module_12 M_X7_close (N_X7_close s1) ML_X12_110 IM_X7_close SE_X7_close qc_864 rfl (As := []) rfl rfl (Nat.le_of_ble_eq_true rfl) (Nat.le_of_ble_eq_true rfl) (Nat.le_of_ble_eq_true rfl) (Nat.le_of_ble_eq_true rfl) (fun v s3 hp => ?_)
  obtain ⟨rfl, e4, e5, e6, e7, e8, e9, e10, e11, e12, k13⟩ := hp
  refine mj_aload_n dX12_module_15 0 rfl ?_
  refine t_getR 845 dX12_module_16 F_X12_66 qr_0_6 ?_
  refine t_callV dX12_module_19 M_X6_readModule (N_X6_readModule s3 wd hwd ((congrFun (k13 1 (by decide)).1 1).trans ((t_oI w2 1 1 rfl).trans h_I_1_1)) ((congrFun (k13 1 (by decide)).1 13).trans ((t_oI w2 1 13 rfl).trans h_I_1_13))) ML_X12_113 IM_X6_readModule SE_X6_readModule qc_845 rfl (As := []) rfl rfl (Nat.le_of_ble_eq_true rfl) (Nat.le_of_ble_eq_true rfl) (Nat.le_of_ble_eq_true rfl) (Nat.le_of_ble_eq_true rfl) (fun v s14 hp => ?_)
  obtain ⟨rfl, e15, e16, e17, e18, e19, e20, e21, e22, e23, e24, e25, e26, e27, e28, e29, e30, e31, e32, e33, e34, e35, e36, e37, e38, e39, e40, e41, e42, e43, e44, e45, e46, e47, e48, e49, e50, e51, e52, e53, e54, e55, e56, e57, e58, e59, e60, e61, e62, k63⟩ := hp
  refine mj_aload_n dX12_module_22 0 rfl ?_
  refine mj_aload_n dX12_module_23 0 rfl ?_
  refine t_getR 1 dX12_module_24 F_X12_10 qr_0_0 ?_
  refine t_getI dX12_module_27 F_X12_116 qf_1_11 ?_
  rw [e16]
  refine t_putI dX12_module_30 F_X12_119 qf_0_10 (by decide) ?_
  obtain ⟨s64, w65⟩ : ∃ z, z = t_setI s14 0 10 0 := ⟨_, rfl⟩
  rw [← w65]
  refine mj_aload_n dX12_module_33 0 rfl ?_
  refine mj_aload_n dX12_module_34 0 rfl ?_
  refine t_getI dX12_module_35 F_X12_119 qf_0_10 ?_
  rw [(t_wI w65)]
  refine mj_if_ne 45 dX12_module_38 (by decide) (fun z => absurd (by decide) z) (fun _ => ?_)
  refine mj_iconst (v := (-1)) dX12_module_41 (by decide) ?_
  refine mj_goto 52 dX12_module_42 (by decide) ?_
  refine t_putI dX12_module_52 F_X12_95 qf_0_11 (by decide) ?_
  obtain ⟨s66, w67⟩ : ∃ z, z = t_setI s64 0 11 (-1) := ⟨_, rfl⟩
  rw [← w67]
  refine mj_aload_n dX12_module_55 0 rfl ?_
  refine mj_aload_n dX12_module_56 0 rfl ?_
  refine t_getI dX12_module_57 F_X12_119 qf_0_10 ?_
  rw [((t_oI w67 0 10 rfl).trans (t_wI w65))]
  refine mj_if_ne 67 dX12_module_60 (by decide) (fun z => absurd (by decide) z) (fun _ => ?_)
  refine mj_iconst (v := 1) dX12_module_63 (by decide) ?_
  refine mj_goto 68 dX12_module_64 (by decide) ?_
  refine t_putI dX12_module_68 F_X12_121 qf_0_12 (by decide) ?_
  obtain ⟨s68, w69⟩ : ∃ z, z = t_setI s66 0 12 1 := ⟨_, rfl⟩
  rw [← w69]
  refine mj_aload_n dX12_module_71 0 rfl ?_
  refine t_getI dX12_module_72 F_X12_121 qf_0_12 ?_
  rw [(t_wI w69)]
  refine mj_if_eq 92 dX12_module_75 (by decide) (fun z => absurd z (by decide)) (fun _ => ?_)
  refine mj_aload_n dX12_module_78 0 rfl ?_
  refine t_getR 316 dX12_module_79 F_X12_26 qr_0_2 ?_
  refine t_callV dX12_module_82 M_X11_settle (N_X11_settle s68 ((t_oI w69 316 8 rfl).trans ((t_oI w67 316 8 rfl).trans ((t_oI w65 316 8 rfl).trans e28)))) ML_X12_125 IM_X11_settle SE_X11_settle qc_316 rfl (As := []) rfl rfl (Nat.le_of_ble_eq_true rfl) (Nat.le_of_ble_eq_true rfl) (Nat.le_of_ble_eq_true rfl) (Nat.le_of_ble_eq_true rfl) (fun v s70 hp => ?_)
  obtain ⟨rfl, e71, e72, e73, e74, k75⟩ := hp
  refine mj_aload_n dX12_module_85 0 rfl ?_
  refine t_getR 353 dX12_module_86 F_X12_44 qr_0_4 ?_
  refine t_callV dX12_module_89 M_X10_settle (N_X10_settle s70 ((congrFun (k75 353 (by decide)).1 11).trans ((t_oI w69 353 11 rfl).trans ((t_oI w67 353 11 rfl).trans ((t_oI w65 353 11 rfl).trans e38))))) ML_X12_128 IM_X10_settle SE_X10_settle qc_353 rfl (As := []) rfl rfl (Nat.le_of_ble_eq_true rfl) (Nat.le_of_ble_eq_true rfl) (Nat.le_of_ble_eq_true rfl) (Nat.le_of_ble_eq_true rfl) (fun v s76 hp => ?_)
  obtain ⟨rfl, e77, e78, e79, e80, e81, e82, e83, e84, e85, e86, k87⟩ := hp
  refine mj_aload_n dX12_module_92 0 rfl ?_
  refine t_getI dX12_module_93 F_X12_119 qf_0_10 ?_
  rw [((congrFun (k87 0 (by decide)).1 10).trans ((congrFun (k75 0 (by decide)).1 10).trans ((t_oI w69 0 10 rfl).trans ((t_oI w67 0 10 rfl).trans (t_wI w65)))))]
  exact t_iret dX12_module_96 rfl (by decide) (hpost _ _ ⟨rfl, ((congrFun (k87 0 (by decide)).1 10).trans ((congrFun (k75 0 (by decide)).1 10).trans ((t_oI w69 0 10 rfl).trans ((t_oI w67 0 10 rfl).trans (t_wI w65))))), ((congrFun (k87 0 (by decide)).1 11).trans ((congrFun (k75 0 (by decide)).1 11).trans ((t_oI w69 0 11 rfl).trans (t_wI w67)))), ((congrFun (k87 0 (by decide)).1 12).trans ((congrFun (k75 0 (by decide)).1 12).trans (t_wI w69))), ((congrFun (k87 1 (by decide)).1 1).trans ((congrFun (k75 1 (by decide)).1 1).trans ((t_oI w69 1 1 rfl).trans ((t_oI w67 1 1 rfl).trans ((t_oI w65 1 1 rfl).trans e15))))), ((congrFun (k87 1 (by decide)).1 11).trans ((congrFun (k75 1 (by decide)).1 11).trans ((t_oI w69 1 11 rfl).trans ((t_oI w67 1 11 rfl).trans ((t_oI w65 1 11 rfl).trans e16))))), ((congrFun (k87 1 (by decide)).1 12).trans ((congrFun (k75 1 (by decide)).1 12).trans ((t_oI w69 1 12 rfl).trans ((t_oI w67 1 12 rfl).trans ((t_oI w65 1 12 rfl).trans e17))))), ((congrFun (k87 1 (by decide)).1 13).trans ((congrFun (k75 1 (by decide)).1 13).trans ((t_oI w69 1 13 rfl).trans ((t_oI w67 1 13 rfl).trans ((t_oI w65 1 13 rfl).trans (e18.trans ((congrFun (k13 1 (by decide)).1 13).trans ((t_oI w2 1 13 rfl).trans rfl)))))))), ((congrFun (k87 1 (by decide)).1 2).trans ((congrFun (k75 1 (by decide)).1 2).trans ((t_oI w69 1 2 rfl).trans ((t_oI w67 1 2 rfl).trans ((t_oI w65 1 2 rfl).trans e19))))), ((congrFun (k87 1 (by decide)).1 6).trans ((congrFun (k75 1 (by decide)).1 6).trans ((t_oI w69 1 6 rfl).trans ((t_oI w67 1 6 rfl).trans ((t_oI w65 1 6 rfl).trans e20))))), ((congrFun (k87 1 (by decide)).1 7).trans ((congrFun (k75 1 (by decide)).1 7).trans ((t_oI w69 1 7 rfl).trans ((t_oI w67 1 7 rfl).trans ((t_oI w65 1 7 rfl).trans e21))))), ((congrFun (k87 1 (by decide)).1 8).trans ((congrFun (k75 1 (by decide)).1 8).trans ((t_oI w69 1 8 rfl).trans ((t_oI w67 1 8 rfl).trans ((t_oI w65 1 8 rfl).trans e22))))), ((congrFun (k87 1 (by decide)).1 9).trans ((congrFun (k75 1 (by decide)).1 9).trans ((t_oI w69 1 9 rfl).trans ((t_oI w67 1 9 rfl).trans ((t_oI w65 1 9 rfl).trans e23))))), ((congrFun (k87 12 (by decide)).1 2).trans ((congrFun (k75 12 (by decide)).1 2).trans ((t_oI w69 12 2 rfl).trans ((t_oI w67 12 2 rfl).trans ((t_oI w65 12 2 rfl).trans ((congrFun (k63 12 (by decide)).1 2).trans (e4.trans (t_wI w2)))))))), ((congrFun (k87 12 (by decide)).1 4).trans ((congrFun (k75 12 (by decide)).1 4).trans ((t_oI w69 12 4 rfl).trans ((t_oI w67 12 4 rfl).trans ((t_oI w65 12 4 rfl).trans ((congrFun (k63 12 (by decide)).1 4).trans e5)))))), ((congrFun (k87 12 (by decide)).1 5).trans ((congrFun (k75 12 (by decide)).1 5).trans ((t_oI w69 12 5 rfl).trans ((t_oI w67 12 5 rfl).trans ((t_oI w65 12 5 rfl).trans ((congrFun (k63 12 (by decide)).1 5).trans e6)))))), ((congrFun (k87 3 (by decide)).1 0).trans ((congrFun (k75 3 (by decide)).1 0).trans ((t_oI w69 3 0 rfl).trans ((t_oI w67 3 0 rfl).trans ((t_oI w65 3 0 rfl).trans e24))))), ((congrFun (k87 316 (by decide)).1 10).trans (e71.trans ((t_oI w69 316 10 rfl).trans ((t_oI w67 316 10 rfl).trans ((t_oI w65 316 10 rfl).trans e25))))), ((congrFun (k87 316 (by decide)).1 13).trans (e72.trans ((t_oI w69 316 13 rfl).trans ((t_oI w67 316 13 rfl).trans ((t_oI w65 316 13 rfl).trans e26))))), ((congrFun (k87 316 (by decide)).1 15).trans e73), ((congrFun (k87 316 (by decide)).1 8).trans (e74.trans ((t_oI w69 316 8 rfl).trans ((t_oI w67 316 8 rfl).trans ((t_oI w65 316 8 rfl).trans e28))))), (e77.trans ((congrFun (k75 334 (by decide)).1 11).trans ((t_oI w69 334 11 rfl).trans ((t_oI w67 334 11 rfl).trans ((t_oI w65 334 11 rfl).trans (e29.trans ((congrFun (k13 334 (by decide)).1 11).trans ((t_oI w2 334 11 rfl).trans rfl)))))))), (e78.trans ((congrFun (k75 334 (by decide)).1 12).trans ((t_oI w69 334 12 rfl).trans ((t_oI w67 334 12 rfl).trans ((t_oI w65 334 12 rfl).trans (e30.trans ((congrFun (k13 334 (by decide)).1 12).trans ((t_oI w2 334 12 rfl).trans rfl)))))))), (e79.trans ((congrFun (k75 334 (by decide)).1 13).trans ((t_oI w69 334 13 rfl).trans ((t_oI w67 334 13 rfl).trans ((t_oI w65 334 13 rfl).trans (e31.trans ((congrFun (k13 334 (by decide)).1 13).trans ((t_oI w2 334 13 rfl).trans rfl)))))))), e80, (e81.trans ((congrFun (k75 334 (by decide)).1 16).trans ((t_oI w69 334 16 rfl).trans ((t_oI w67 334 16 rfl).trans ((t_oI w65 334 16 rfl).trans (e33.trans ((congrFun (k13 334 (by decide)).1 16).trans ((t_oI w2 334 16 rfl).trans rfl)))))))), (e82.trans ((congrFun (k75 334 (by decide)).1 18).trans ((t_oI w69 334 18 rfl).trans ((t_oI w67 334 18 rfl).trans ((t_oI w65 334 18 rfl).trans (e34.trans ((congrFun (k13 334 (by decide)).1 18).trans ((t_oI w2 334 18 rfl).trans rfl)))))))), (e83.trans ((congrFun (k75 334 (by decide)).1 2).trans ((t_oI w69 334 2 rfl).trans ((t_oI w67 334 2 rfl).trans ((t_oI w65 334 2 rfl).trans e35))))), (e84.trans ((congrFun (k75 334 (by decide)).1 4).trans ((t_oI w69 334 4 rfl).trans ((t_oI w67 334 4 rfl).trans ((t_oI w65 334 4 rfl).trans e36))))), (e85.trans ((congrFun (k75 334 (by decide)).1 7).trans ((t_oI w69 334 7 rfl).trans ((t_oI w67 334 7 rfl).trans ((t_oI w65 334 7 rfl).trans (e37.trans ((congrFun (k13 334 (by decide)).1 7).trans ((t_oI w2 334 7 rfl).trans rfl)))))))), ((congrFun (k87 353 (by decide)).1 11).trans ((congrFun (k75 353 (by decide)).1 11).trans ((t_oI w69 353 11 rfl).trans ((t_oI w67 353 11 rfl).trans ((t_oI w65 353 11 rfl).trans e38))))), ((congrFun (k87 353 (by decide)).1 13).trans ((congrFun (k75 353 (by decide)).1 13).trans ((t_oI w69 353 13 rfl).trans ((t_oI w67 353 13 rfl).trans ((t_oI w65 353 13 rfl).trans (e39.trans ((congrFun (k13 353 (by decide)).1 13).trans ((t_oI w2 353 13 rfl).trans rfl)))))))), ((congrFun (k87 353 (by decide)).1 15).trans ((congrFun (k75 353 (by decide)).1 15).trans ((t_oI w69 353 15 rfl).trans ((t_oI w67 353 15 rfl).trans ((t_oI w65 353 15 rfl).trans (e40.trans ((congrFun (k13 353 (by decide)).1 15).trans ((t_oI w2 353 15 rfl).trans rfl)))))))), ((congrFun (k87 353 (by decide)).1 17).trans ((congrFun (k75 353 (by decide)).1 17).trans ((t_oI w69 353 17 rfl).trans ((t_oI w67 353 17 rfl).trans ((t_oI w65 353 17 rfl).trans (e41.trans ((congrFun (k13 353 (by decide)).1 17).trans ((t_oI w2 353 17 rfl).trans rfl)))))))), ((congrFun (k87 353 (by decide)).1 20).trans ((congrFun (k75 353 (by decide)).1 20).trans ((t_oI w69 353 20 rfl).trans ((t_oI w67 353 20 rfl).trans ((t_oI w65 353 20 rfl).trans (e42.trans ((congrFun (k13 353 (by decide)).1 20).trans ((t_oI w2 353 20 rfl).trans rfl)))))))), ((congrFun (k87 353 (by decide)).1 9).trans ((congrFun (k75 353 (by decide)).1 9).trans ((t_oI w69 353 9 rfl).trans ((t_oI w67 353 9 rfl).trans ((t_oI w65 353 9 rfl).trans e43))))), ((congrFun (k87 4 (by decide)).1 0).trans ((congrFun (k75 4 (by decide)).1 0).trans ((t_oI w69 4 0 rfl).trans ((t_oI w67 4 0 rfl).trans ((t_oI w65 4 0 rfl).trans e44))))), ((congrFun (k87 428 (by decide)).1 0).trans ((congrFun (k75 428 (by decide)).1 0).trans ((t_oI w69 428 0 rfl).trans ((t_oI w67 428 0 rfl).trans ((t_oI w65 428 0 rfl).trans e45))))), ((congrFun (k87 428 (by decide)).1 18).trans ((congrFun (k75 428 (by decide)).1 18).trans ((t_oI w69 428 18 rfl).trans ((t_oI w67 428 18 rfl).trans ((t_oI w65 428 18 rfl).trans e46))))), ((congrFun (k87 428 (by decide)).1 9).trans ((congrFun (k75 428 (by decide)).1 9).trans ((t_oI w69 428 9 rfl).trans ((t_oI w67 428 9 rfl).trans ((t_oI w65 428 9 rfl).trans e47))))), ((congrFun (k87 845 (by decide)).1 10).trans ((congrFun (k75 845 (by decide)).1 10).trans ((t_oI w69 845 10 rfl).trans ((t_oI w67 845 10 rfl).trans ((t_oI w65 845 10 rfl).trans e48))))), ((congrFun (k87 845 (by decide)).1 11).trans ((congrFun (k75 845 (by decide)).1 11).trans ((t_oI w69 845 11 rfl).trans ((t_oI w67 845 11 rfl).trans ((t_oI w65 845 11 rfl).trans e49))))), ((congrFun (k87 845 (by decide)).1 12).trans ((congrFun (k75 845 (by decide)).1 12).trans ((t_oI w69 845 12 rfl).trans ((t_oI w67 845 12 rfl).trans ((t_oI w65 845 12 rfl).trans e50))))), ((congrFun (k87 845 (by decide)).1 13).trans ((congrFun (k75 845 (by decide)).1 13).trans ((t_oI w69 845 13 rfl).trans ((t_oI w67 845 13 rfl).trans ((t_oI w65 845 13 rfl).trans e51))))), ((congrFun (k87 845 (by decide)).1 14).trans ((congrFun (k75 845 (by decide)).1 14).trans ((t_oI w69 845 14 rfl).trans ((t_oI w67 845 14 rfl).trans ((t_oI w65 845 14 rfl).trans e52))))), ((congrFun (k87 845 (by decide)).1 15).trans ((congrFun (k75 845 (by decide)).1 15).trans ((t_oI w69 845 15 rfl).trans ((t_oI w67 845 15 rfl).trans ((t_oI w65 845 15 rfl).trans e53))))), ((congrFun (k87 845 (by decide)).1 16).trans ((congrFun (k75 845 (by decide)).1 16).trans ((t_oI w69 845 16 rfl).trans ((t_oI w67 845 16 rfl).trans ((t_oI w65 845 16 rfl).trans e54))))), ((congrFun (k87 845 (by decide)).1 7).trans ((congrFun (k75 845 (by decide)).1 7).trans ((t_oI w69 845 7 rfl).trans ((t_oI w67 845 7 rfl).trans ((t_oI w65 845 7 rfl).trans e55))))), ((congrFun (k87 845 (by decide)).1 9).trans ((congrFun (k75 845 (by decide)).1 9).trans ((t_oI w69 845 9 rfl).trans ((t_oI w67 845 9 rfl).trans ((t_oI w65 845 9 rfl).trans e56))))), ((congrFun (k87 846 (by decide)).1 6).trans ((congrFun (k75 846 (by decide)).1 6).trans ((t_oI w69 846 6 rfl).trans ((t_oI w67 846 6 rfl).trans ((t_oI w65 846 6 rfl).trans e57))))), ((congrFun (k87 846 (by decide)).1 7).trans ((congrFun (k75 846 (by decide)).1 7).trans ((t_oI w69 846 7 rfl).trans ((t_oI w67 846 7 rfl).trans ((t_oI w65 846 7 rfl).trans e58))))), ((congrFun (k87 846 (by decide)).1 8).trans ((congrFun (k75 846 (by decide)).1 8).trans ((t_oI w69 846 8 rfl).trans ((t_oI w67 846 8 rfl).trans ((t_oI w65 846 8 rfl).trans e59))))), ((congrFun (k87 864 (by decide)).1 10).trans ((congrFun (k75 864 (by decide)).1 10).trans ((t_oI w69 864 10 rfl).trans ((t_oI w67 864 10 rfl).trans ((t_oI w65 864 10 rfl).trans ((congrFun (k63 864 (by decide)).1 10).trans (e7.trans ((t_oI w2 864 10 rfl).trans rfl)))))))), ((congrFun (k87 864 (by decide)).1 11).trans ((congrFun (k75 864 (by decide)).1 11).trans ((t_oI w69 864 11 rfl).trans ((t_oI w67 864 11 rfl).trans ((t_oI w65 864 11 rfl).trans ((congrFun (k63 864 (by decide)).1 11).trans (e8.trans ((t_oI w2 864 11 rfl).trans rfl)))))))), ((congrFun (k87 864 (by decide)).1 6).trans ((congrFun (k75 864 (by decide)).1 6).trans ((t_oI w69 864 6 rfl).trans ((t_oI w67 864 6 rfl).trans ((t_oI w65 864 6 rfl).trans ((congrFun (k63 864 (by decide)).1 6).trans e9)))))), ((congrFun (k87 864 (by decide)).1 8).trans ((congrFun (k75 864 (by decide)).1 8).trans ((t_oI w69 864 8 rfl).trans ((t_oI w67 864 8 rfl).trans ((t_oI w65 864 8 rfl).trans ((congrFun (k63 864 (by decide)).1 8).trans e10)))))), ((congrFun (k87 864 (by decide)).1 9).trans ((congrFun (k75 864 (by decide)).1 9).trans ((t_oI w69 864 9 rfl).trans ((t_oI w67 864 9 rfl).trans ((t_oI w65 864 9 rfl).trans ((congrFun (k63 864 (by decide)).1 9).trans (e11.trans ((t_oI w2 864 9 rfl).trans rfl)))))))), ((congrFun (k87 1 (by decide)).2.1 10).trans ((congrFun (k75 1 (by decide)).2.1 10).trans ((t_cIJ w69 1 10).trans ((t_cIJ w67 1 10).trans ((t_cIJ w65 1 10).trans e60))))), (e86.trans ((congrFun (k75 334 (by decide)).2.1 17).trans ((t_cIJ w69 334 17).trans ((t_cIJ w67 334 17).trans ((t_cIJ w65 334 17).trans (e61.trans ((congrFun (k13 334 (by decide)).2.1 17).trans ((t_cIJ w2 334 17).trans rfl)))))))), ((congrFun (k87 5 (by decide)).2.1 0).trans ((congrFun (k75 5 (by decide)).2.1 0).trans ((t_cIJ w69 5 0).trans ((t_cIJ w67 5 0).trans ((t_cIJ w65 5 0).trans e62))))), ((congrFun (k87 864 (by decide)).2.1 7).trans ((congrFun (k75 864 (by decide)).2.1 7).trans ((t_cIJ w69 864 7).trans ((t_cIJ w67 864 7).trans ((t_cIJ w65 864 7).trans ((congrFun (k63 864 (by decide)).2.1 7).trans e12)))))), ((((((((t_keep_I w2 (by decide)).trans (k13.mono (by decide))).trans (k63.mono (by decide))).trans (t_keep_I w65 (by decide))).trans (t_keep_I w67 (by decide))).trans (t_keep_I w69 (by decide))).trans (k75.mono (by decide))).trans (k87.mono (by decide)))⟩) (Nat.le_of_ble_eq_true rfl) (Nat.le_of_ble_eq_true rfl)

