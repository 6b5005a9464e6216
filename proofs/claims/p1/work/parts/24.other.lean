theorem qc_950 : t_okc 950 13 = true := by decide +kernel
theorem qf_950_1 : t_okf 950 13 1 0 = true := by decide +kernel
theorem qf_950_106 : t_okf 950 13 106 0 = true := by decide +kernel
theorem qf_950_121 : t_okf 950 13 121 0 = true := by decide +kernel
theorem qf_950_146 : t_okf 950 13 146 0 = true := by decide +kernel
theorem qf_950_147 : t_okf 950 13 147 0 = true := by decide +kernel
theorem qf_950_183 : t_okf 950 13 183 0 = true := by decide +kernel
theorem qf_950_2 : t_okf 950 13 2 0 = true := by decide +kernel
theorem qf_950_65 : t_okf 950 13 65 0 = true := by decide +kernel
theorem qf_950_96 : t_okf 950 13 96 0 = true := by decide +kernel
theorem dX13_in_0 : decode cX13_in 0 = .ok (.lload_n 0, 1) := by decide +kernel
theorem dX13_in_1 : decode cX13_in 1 = .ok (.lload_n 2, 1) := by decide +kernel
theorem dX13_in_10 : decode cX13_in 10 = .ok (.ifCond .gt 7, 3) := by decide +kernel
theorem dX13_in_13 : decode cX13_in 13 = .ok (.iconst 1, 1) := by decide +kernel
theorem dX13_in_14 : decode cX13_in 14 = .ok (.goto 4, 3) := by decide +kernel
theorem dX13_in_17 : decode cX13_in 17 = .ok (.iconst 0, 1) := by decide +kernel
theorem dX13_in_18 : decode cX13_in 18 = .ok (.ireturn, 1) := by decide +kernel
theorem dX13_in_2 : decode cX13_in 2 = .ok (.lcmp, 1) := by decide +kernel
theorem dX13_in_3 : decode cX13_in 3 = .ok (.ifCond .lt 14, 3) := by decide +kernel
theorem dX13_in_6 : decode cX13_in 6 = .ok (.lload_n 0, 1) := by decide +kernel
theorem dX13_in_7 : decode cX13_in 7 = .ok (.lload 4, 2) := by decide +kernel
theorem dX13_in_9 : decode cX13_in 9 = .ok (.lcmp, 1) := by decide +kernel
theorem N_in1 (s : t_S) (a b c : Int64) (h : b.toInt ≤ a.toInt ∧ a.toInt ≤ c.toInt) : t_C yX13_in cX13_in 6 (some .boolean) 0 [.long a, .long b, .long c] s (fun v s' => v = some (.int 1) ∧ s' = s) := by
  refine t_C.of (by decide +kernel) (Nat.le_of_ble_eq_true rfl) ?_
  intro D cy ad bs X
  show mj_G D cy ad bs X cX13_in 6 yX13_in.cls (some .boolean) yX13_in.name 0 0 0 1065 (t_P _) 0 [(0, .long a), (2, .long b), (4, .long c)] [] (t_m s) 1065 0 0
  refine mj_lload_n dX13_in_0 0 rfl ?_
  refine mj_lload_n dX13_in_1 1 rfl ?_
  refine mj_lcmp dX13_in_2 ?_
  refine mj_if_lt 17 dX13_in_3 (by decide) (fun z => absurd (t_cmp_lt.mp z) (by omega)) (fun _ => ?_)
  refine mj_lload_n dX13_in_6 0 rfl ?_
  refine mj_lload dX13_in_7 2 rfl ?_
  refine mj_lcmp dX13_in_9 ?_
  refine mj_if_gt 17 dX13_in_10 (by decide) (fun z => absurd (t_cmp_gt.mp z) (by omega)) (fun _ => ?_)
  refine mj_iconst (v := 1) dX13_in_13 (by decide) ?_
  refine mj_goto 18 dX13_in_14 (by decide) ?_
  exact t_iret dX13_in_18 rfl (by decide) ⟨rfl, rfl⟩ (Nat.le_of_ble_eq_true rfl) (Nat.le_of_ble_eq_true rfl)
theorem N_in0 (s : t_S) (a b c : Int64) (h : ¬ (b.toInt ≤ a.toInt ∧ a.toInt ≤ c.toInt)) : t_C yX13_in cX13_in 6 (some .boolean) 0 [.long a, .long b, .long c] s (fun v s' => v = some (.int 0) ∧ s' = s) := by
  refine t_C.of (by decide +kernel) (Nat.le_of_ble_eq_true rfl) ?_
  intro D cy ad bs X
  show mj_G D cy ad bs X cX13_in 6 yX13_in.cls (some .boolean) yX13_in.name 0 0 0 1065 (t_P _) 0 [(0, .long a), (2, .long b), (4, .long c)] [] (t_m s) 1065 0 0
  have hend : ∀ lv : List (Nat × Value), mj_G D cy ad bs X cX13_in 6 yX13_in.cls (some .boolean) yX13_in.name 0 0 0 1065 (t_P (fun v s' => v = some (.int 0) ∧ s' = s)) 17 lv [] (t_m s) 1065 0 0 := by
    intro lv
    refine mj_iconst (v := 0) dX13_in_17 (by decide) ?_
    exact t_iret dX13_in_18 rfl (by decide) ⟨rfl, rfl⟩ (Nat.le_of_ble_eq_true rfl) (Nat.le_of_ble_eq_true rfl)
  refine mj_lload_n dX13_in_0 0 rfl ?_
  refine mj_lload_n dX13_in_1 1 rfl ?_
  refine mj_lcmp dX13_in_2 ?_
  refine mj_if_lt 17 dX13_in_3 (by decide) (fun _ => hend _) (fun z => ?_)
  have z' : ¬ a.toInt < b.toInt := fun q => z (t_cmp_lt.mpr q)
  refine mj_lload_n dX13_in_6 0 rfl ?_
  refine mj_lload dX13_in_7 2 rfl ?_
  refine mj_lcmp dX13_in_9 ?_
  exact mj_if_gt 17 dX13_in_10 (by decide) (fun _ => hend _) (fun q => absurd (t_cmp_gt.mpr (by omega)) q)
theorem t_in {x : Int32} {b c : Int64} {B C : Int} (hb : b.toInt = B) (hc : c.toInt = C) : (b.toInt ≤ x.toInt64.toInt ∧ x.toInt64.toInt ≤ c.toInt) ↔ (B ≤ x.toInt ∧ x.toInt ≤ C) := by
  rw [hb, hc, Int32.toInt_toInt64]

theorem dX13_noValue_0 : decode cX13_noValue 0 = .ok (.iload_n 1, 1) := by decide +kernel
theorem dX13_noValue_1 : decode cX13_noValue 1 = .ok (.ifCond .lt 11, 3) := by decide +kernel
theorem dX13_noValue_12 : decode cX13_noValue 12 = .ok (.iconst 1, 1) := by decide +kernel
theorem dX13_noValue_13 : decode cX13_noValue 13 = .ok (.goto 4, 3) := by decide +kernel
theorem dX13_noValue_17 : decode cX13_noValue 17 = .ok (.ireturn, 1) := by decide +kernel
theorem dX13_noValue_4 : decode cX13_noValue 4 = .ok (.iload_n 1, 1) := by decide +kernel
theorem dX13_noValue_5 : decode cX13_noValue 5 = .ok (.aload_n 0, 1) := by decide +kernel
theorem dX13_noValue_6 : decode cX13_noValue 6 = .ok (.getfield 654, 3) := by decide +kernel
theorem dX13_noValue_9 : decode cX13_noValue 9 = .ok (.if_icmp .lt 7, 3) := by decide +kernel
set_option maxRecDepth 4000 in
set_option maxHeartbeats 400000 in
theorem N_X13_noValue (s : t_S) (x1 : Int32) (h_I_950_96 : s.1 950 96 = 0) : t_C yX13_noValue cX13_noValue 2 (some .boolean) 0 [.ref 950, .int x1] s (fun v s' => v = some (.int 1) ∧ s' = s) := by
  refine t_C.of (by decide +kernel) (Nat.le_of_ble_eq_true rfl) ?_
  intro D cy ad bs X
  suffices main : ∀ post : Option Value → t_S → Prop, (∀ v s', (v = some (.int 1) ∧ s' = s) → post v s') → mj_G D cy ad bs X cX13_noValue 2 yX13_noValue.cls (some .boolean) yX13_noValue.name 0 0 0 1065 (t_P post) 0 [(0, .ref 950), (1, .int x1)] [] (t_m s) 1065 0 0 from main _ (fun _ _ h => h)
  intro post hpost
  refine mj_iload_n dX13_noValue_0 1 rfl ?_
  refine mj_if_lt 12 dX13_noValue_1 (by decide) (fun z1 => ?_) (fun z1 => ?_)
  · have z1i : x1.toInt < 0 := (t_lt (0) rfl).mp z1
    refine mj_iconst (v := 1) dX13_noValue_12 (by decide) ?_
    refine mj_goto 17 dX13_noValue_13 (by decide) ?_
    exact t_iret dX13_noValue_17 rfl (by decide) (hpost _ _ ⟨rfl, rfl⟩) (Nat.le_of_ble_eq_true rfl) (Nat.le_of_ble_eq_true rfl)
  · have z1i : ¬ x1.toInt < 0 := fun q => z1 ((t_lt (0) rfl).mpr q)
    refine mj_iload_n dX13_noValue_4 1 rfl ?_
    refine mj_aload_n dX13_noValue_5 0 rfl ?_
    refine t_getI dX13_noValue_6 F_X13_654 qf_950_96 ?_
    rw [h_I_950_96]
    refine mj_icmp_lt 16 dX13_noValue_9 (by decide) (fun z2 => ?_) (fun z2 => ?_)
    · have z2i : x1.toInt < 0 := (t_lt (0) rfl).mp z2
      exfalso; omega
    · have z2i : ¬ x1.toInt < 0 := fun q => z2 ((t_lt (0) rfl).mpr q)
      refine mj_iconst (v := 1) dX13_noValue_12 (by decide) ?_
      refine mj_goto 17 dX13_noValue_13 (by decide) ?_
      exact t_iret dX13_noValue_17 rfl (by decide) (hpost _ _ ⟨rfl, rfl⟩) (Nat.le_of_ble_eq_true rfl) (Nat.le_of_ble_eq_true rfl)

theorem dX13_noType_0 : decode cX13_noType 0 = .ok (.aload_n 0, 1) := by decide +kernel
theorem dX13_noType_1 : decode cX13_noType 1 = .ok (.getfield 642, 3) := by decide +kernel
theorem dX13_noType_19 : decode cX13_noType 19 = .ok (.iconst 1, 1) := by decide +kernel
theorem dX13_noType_20 : decode cX13_noType 20 = .ok (.goto 4, 3) := by decide +kernel
theorem dX13_noType_24 : decode cX13_noType 24 = .ok (.ireturn, 1) := by decide +kernel
theorem dX13_noType_4 : decode cX13_noType 4 = .ok (.ifCond .eq 15, 3) := by decide +kernel
set_option maxRecDepth 4000 in
set_option maxHeartbeats 400000 in
theorem N_X13_noType (s : t_S) (x1 : Int32) (h_I_950_65 : s.1 950 65 = 0) : t_C yX13_noType cX13_noType 2 (some .boolean) 0 [.ref 950, .int x1] s (fun v s' => v = some (.int 1) ∧ s' = s) := by
  refine t_C.of (by decide +kernel) (Nat.le_of_ble_eq_true rfl) ?_
  intro D cy ad bs X
  suffices main : ∀ post : Option Value → t_S → Prop, (∀ v s', (v = some (.int 1) ∧ s' = s) → post v s') → mj_G D cy ad bs X cX13_noType 2 yX13_noType.cls (some .boolean) yX13_noType.name 0 0 0 1065 (t_P post) 0 [(0, .ref 950), (1, .int x1)] [] (t_m s) 1065 0 0 from main _ (fun _ _ h => h)
  intro post hpost
  refine mj_aload_n dX13_noType_0 0 rfl ?_
  refine t_getI dX13_noType_1 F_X13_642 qf_950_65 ?_
  rw [h_I_950_65]
  refine mj_if_eq 19 dX13_noType_4 (by decide) (fun _ => ?_) (fun z => absurd (by decide) z)
  refine mj_iconst (v := 1) dX13_noType_19 (by decide) ?_
  refine mj_goto 24 dX13_noType_20 (by decide) ?_
  exact t_iret dX13_noType_24 rfl (by decide) (hpost _ _ ⟨rfl, rfl⟩) (Nat.le_of_ble_eq_true rfl) (Nat.le_of_ble_eq_true rfl)

theorem dX13_noComponent_0 : decode cX13_noComponent 0 = .ok (.aload_n 0, 1) := by decide +kernel
theorem dX13_noComponent_1 : decode cX13_noComponent 1 = .ok (.getfield 645, 3) := by decide +kernel
theorem dX13_noComponent_19 : decode cX13_noComponent 19 = .ok (.iconst 1, 1) := by decide +kernel
theorem dX13_noComponent_20 : decode cX13_noComponent 20 = .ok (.goto 4, 3) := by decide +kernel
theorem dX13_noComponent_24 : decode cX13_noComponent 24 = .ok (.ireturn, 1) := by decide +kernel
theorem dX13_noComponent_4 : decode cX13_noComponent 4 = .ok (.ifCond .eq 15, 3) := by decide +kernel
set_option maxRecDepth 4000 in
set_option maxHeartbeats 400000 in
theorem N_X13_noComponent (s : t_S) (x1 : Int32) (h_I_950_147 : s.1 950 147 = 0) : t_C yX13_noComponent cX13_noComponent 2 (some .boolean) 0 [.ref 950, .int x1] s (fun v s' => v = some (.int 1) ∧ s' = s) := by
  refine t_C.of (by decide +kernel) (Nat.le_of_ble_eq_true rfl) ?_
  intro D cy ad bs X
  suffices main : ∀ post : Option Value → t_S → Prop, (∀ v s', (v = some (.int 1) ∧ s' = s) → post v s') → mj_G D cy ad bs X cX13_noComponent 2 yX13_noComponent.cls (some .boolean) yX13_noComponent.name 0 0 0 1065 (t_P post) 0 [(0, .ref 950), (1, .int x1)] [] (t_m s) 1065 0 0 from main _ (fun _ _ h => h)
  intro post hpost
  refine mj_aload_n dX13_noComponent_0 0 rfl ?_
  refine t_getI dX13_noComponent_1 F_X13_645 qf_950_147 ?_
  rw [h_I_950_147]
  refine mj_if_eq 19 dX13_noComponent_4 (by decide) (fun _ => ?_) (fun z => absurd (by decide) z)
  refine mj_iconst (v := 1) dX13_noComponent_19 (by decide) ?_
  refine mj_goto 24 dX13_noComponent_20 (by decide) ?_
  exact t_iret dX13_noComponent_24 rfl (by decide) (hpost _ _ ⟨rfl, rfl⟩) (Nat.le_of_ble_eq_true rfl) (Nat.le_of_ble_eq_true rfl)

theorem dX13_noPort_0 : decode cX13_noPort 0 = .ok (.aload_n 0, 1) := by decide +kernel
theorem dX13_noPort_1 : decode cX13_noPort 1 = .ok (.iload_n 1, 1) := by decide +kernel
theorem dX13_noPort_2 : decode cX13_noPort 2 = .ok (.invokevirtual 1352, 3) := by decide +kernel
theorem dX13_noPort_27 : decode cX13_noPort 27 = .ok (.iconst 1, 1) := by decide +kernel
theorem dX13_noPort_28 : decode cX13_noPort 28 = .ok (.goto 4, 3) := by decide +kernel
theorem dX13_noPort_32 : decode cX13_noPort 32 = .ok (.ireturn, 1) := by decide +kernel
theorem dX13_noPort_5 : decode cX13_noPort 5 = .ok (.ifCond .ne 22, 3) := by decide +kernel
set_option maxRecDepth 4000 in
set_option maxHeartbeats 400000 in
theorem N_X13_noPort (s : t_S) (x1 : Int32) (x2 : Int32) (h_I_950_147 : s.1 950 147 = 0) : t_C yX13_noPort cX13_noPort 3 (some .boolean) 1 [.ref 950, .int x1, .int x2] s (fun v s' => v = some (.int 1) ∧ s' = s) := by
  refine t_C.of (by decide +kernel) (Nat.le_of_ble_eq_true rfl) ?_
  intro D cy ad bs X
  suffices main : ∀ post : Option Value → t_S → Prop, (∀ v s', (v = some (.int 1) ∧ s' = s) → post v s') → mj_G D cy ad bs X cX13_noPort 3 yX13_noPort.cls (some .boolean) yX13_noPort.name 1 0 0 1065 (t_P post) 0 [(0, .ref 950), (1, .int x1), (2, .int x2)] [] (t_m s) 1065 0 0 from main _ (fun _ _ h => h)
  intro post hpost
  refine mj_aload_n dX13_noPort_0 0 rfl ?_
  refine mj_iload_n dX13_noPort_1 1 rfl ?_
  refine t_callV dX13_noPort_2 M_X13_noComponent (N_X13_noComponent s x1 h_I_950_147) ML_X13_1352 IM_X13_noComponent SE_X13_noComponent qc_950 rfl (As := [.int x1]) rfl rfl (Nat.le_of_ble_eq_true rfl) (Nat.le_of_ble_eq_true rfl) (Nat.le_of_ble_eq_true rfl) (Nat.le_of_ble_eq_true rfl) (fun v s1 hp => ?_)
  obtain ⟨rfl, hq⟩ := hp
  rw [hq]
  clear hq s1
  refine mj_if_ne 27 dX13_noPort_5 (by decide) (fun _ => ?_) (fun z => absurd z (by decide))
  refine mj_iconst (v := 1) dX13_noPort_27 (by decide) ?_
  refine mj_goto 32 dX13_noPort_28 (by decide) ?_
  exact t_iret dX13_noPort_32 rfl (by decide) (hpost _ _ ⟨rfl, rfl⟩) (Nat.le_of_ble_eq_true rfl) (Nat.le_of_ble_eq_true rfl)

theorem dX13_end_0 : decode cX13_end 0 = .ok (.iload_n 1, 1) := by decide +kernel
theorem dX13_end_1 : decode cX13_end 1 = .ok (.i2l, 1) := by decide +kernel
theorem dX13_end_12 : decode cX13_end 12 = .ok (.aload_n 0, 1) := by decide +kernel
theorem dX13_end_13 : decode cX13_end 13 = .ok (.getfield 366, 3) := by decide +kernel
theorem dX13_end_16 : decode cX13_end 16 = .ok (.bipush 20, 2) := by decide +kernel
theorem dX13_end_18 : decode cX13_end 18 = .ok (.if_icmp .ge 5, 3) := by decide +kernel
theorem dX13_end_2 : decode cX13_end 2 = .ok (.lconst 0, 1) := by decide +kernel
theorem dX13_end_21 : decode cX13_end 21 = .ok (.iconst (-1), 1) := by decide +kernel
theorem dX13_end_22 : decode cX13_end 22 = .ok (.ireturn, 1) := by decide +kernel
theorem dX13_end_3 : decode cX13_end 3 = .ok (.ldc2_w 369, 3) := by decide +kernel
theorem dX13_end_6 : decode cX13_end 6 = .ok (.invokestatic 371, 3) := by decide +kernel
theorem dX13_end_9 : decode cX13_end 9 = .ok (.ifCond .eq 12, 3) := by decide +kernel
set_option maxRecDepth 4000 in
set_option maxHeartbeats 400000 in
theorem N_X13_end (s : t_S) (x1 : Int32) (h_I_950_1 : s.1 950 1 = 0) : t_C yX13_end cX13_end 2 (some .int) 1 [.ref 950, .int x1] s (fun v s' => v = some (.int (-1)) ∧ s' = s) := by
  refine t_C.of (by decide +kernel) (Nat.le_of_ble_eq_true rfl) ?_
  intro D cy ad bs X
  suffices main : ∀ post : Option Value → t_S → Prop, (∀ v s', (v = some (.int (-1)) ∧ s' = s) → post v s') → mj_G D cy ad bs X cX13_end 2 yX13_end.cls (some .int) yX13_end.name 1 0 0 1065 (t_P post) 0 [(0, .ref 950), (1, .int x1)] [] (t_m s) 1065 0 0 from main _ (fun _ _ h => h)
  intro post hpost
  refine mj_iload_n dX13_end_0 1 rfl ?_
  refine mj_i2l (v := x1.toInt64) dX13_end_1 rfl ?_
  refine mj_lconst (v := 0) dX13_end_2 (by decide) ?_
  refine mj_ldc2 dX13_end_3 K_X13_369 ?_
  by_cases q1 : (0 : Int) ≤ x1.toInt ∧ x1.toInt ≤ 20
  · refine t_callS dX13_end_6 M_X13_in (N_in1 s x1.toInt64 0 20 ((t_in (B := 0) (C := 20) rfl rfl).mpr q1)) ML_X13_371 SM_X13_in (As := [.long x1.toInt64, .long 0, .long 20]) rfl rfl (Nat.le_of_ble_eq_true rfl) (Nat.le_of_ble_eq_true rfl) (Nat.le_of_ble_eq_true rfl) (Nat.le_of_ble_eq_true rfl) (fun v s2 hp => ?_)
    obtain ⟨rfl, hq⟩ := hp
    rw [hq]
    clear hq s2
    refine mj_if_eq 21 dX13_end_9 (by decide) (fun z => absurd z (by decide)) (fun _ => ?_)
    refine mj_aload_n dX13_end_12 0 rfl ?_
    refine t_getI dX13_end_13 F_X13_366 qf_950_1 ?_
    rw [h_I_950_1]
    refine mj_bipush (v := 20) dX13_end_16 (by decide) ?_
    refine mj_icmp_ge 23 dX13_end_18 (by decide) (fun z => absurd z (by decide)) (fun _ => ?_)
    refine mj_iconst (v := (-1)) dX13_end_21 (by decide) ?_
    exact t_iret dX13_end_22 rfl (by decide) (hpost _ _ ⟨rfl, rfl⟩) (Nat.le_of_ble_eq_true rfl) (Nat.le_of_ble_eq_true rfl)
  · refine t_callS dX13_end_6 M_X13_in (N_in0 s x1.toInt64 0 20 (fun q => q1 ((t_in (B := 0) (C := 20) rfl rfl).mp q))) ML_X13_371 SM_X13_in (As := [.long x1.toInt64, .long 0, .long 20]) rfl rfl (Nat.le_of_ble_eq_true rfl) (Nat.le_of_ble_eq_true rfl) (Nat.le_of_ble_eq_true rfl) (Nat.le_of_ble_eq_true rfl) (fun v s3 hp => ?_)
    obtain ⟨rfl, hq⟩ := hp
    rw [hq]
    clear hq s3
    refine mj_if_eq 21 dX13_end_9 (by decide) (fun _ => ?_) (fun z => absurd (by decide) z)
    refine mj_iconst (v := (-1)) dX13_end_21 (by decide) ?_
    exact t_iret dX13_end_22 rfl (by decide) (hpost _ _ ⟨rfl, rfl⟩) (Nat.le_of_ble_eq_true rfl) (Nat.le_of_ble_eq_true rfl)

theorem dX13_value_0 : decode cX13_value 0 = .ok (.aload_n 0, 1) := by decide +kernel
theorem dX13_value_1 : decode cX13_value 1 = .ok (.getfield 642, 3) := by decide +kernel
theorem dX13_value_4 : decode cX13_value 4 = .ok (.ifCond .ne 5, 3) := by decide +kernel
theorem dX13_value_7 : decode cX13_value 7 = .ok (.iconst (-1), 1) := by decide +kernel
theorem dX13_value_8 : decode cX13_value 8 = .ok (.ireturn, 1) := by decide +kernel
set_option maxRecDepth 4000 in
set_option maxHeartbeats 400000 in
theorem N_X13_value (s : t_S) (h_I_950_65 : s.1 950 65 = 0) : t_C yX13_value cX13_value 5 (some .int) 0 [.ref 950] s (fun v s' => v = some (.int (-1)) ∧ s' = s) := by
  refine t_C.of (by decide +kernel) (Nat.le_of_ble_eq_true rfl) ?_
  intro D cy ad bs X
  suffices main : ∀ post : Option Value → t_S → Prop, (∀ v s', (v = some (.int (-1)) ∧ s' = s) → post v s') → mj_G D cy ad bs X cX13_value 5 yX13_value.cls (some .int) yX13_value.name 0 0 0 1065 (t_P post) 0 [(0, .ref 950)] [] (t_m s) 1065 0 0 from main _ (fun _ _ h => h)
  intro post hpost
  refine mj_aload_n dX13_value_0 0 rfl ?_
  refine t_getI dX13_value_1 F_X13_642 qf_950_65 ?_
  rw [h_I_950_65]
  refine mj_if_ne 9 dX13_value_4 (by decide) (fun z => absurd (by decide) z) (fun _ => ?_)
  refine mj_iconst (v := (-1)) dX13_value_7 (by decide) ?_
  exact t_iret dX13_value_8 rfl (by decide) (hpost _ _ ⟨rfl, rfl⟩) (Nat.le_of_ble_eq_true rfl) (Nat.le_of_ble_eq_true rfl)

theorem dX13_named_0 : decode cX13_named 0 = .ok (.aload_n 0, 1) := by decide +kernel
theorem dX13_named_1 : decode cX13_named 1 = .ok (.getfield 642, 3) := by decide +kernel
theorem dX13_named_4 : decode cX13_named 4 = .ok (.ifCond .ne 5, 3) := by decide +kernel
theorem dX13_named_7 : decode cX13_named 7 = .ok (.iconst (-1), 1) := by decide +kernel
theorem dX13_named_8 : decode cX13_named 8 = .ok (.ireturn, 1) := by decide +kernel
set_option maxRecDepth 4000 in
set_option maxHeartbeats 400000 in
theorem N_X13_named (s : t_S) (h_I_950_65 : s.1 950 65 = 0) : t_C yX13_named cX13_named 4 (some .int) 0 [.ref 950] s (fun v s' => v = some (.int (-1)) ∧ s' = s) := by
  refine t_C.of (by decide +kernel) (Nat.le_of_ble_eq_true rfl) ?_
  intro D cy ad bs X
  suffices main : ∀ post : Option Value → t_S → Prop, (∀ v s', (v = some (.int (-1)) ∧ s' = s) → post v s') → mj_G D cy ad bs X cX13_named 4 yX13_named.cls (some .int) yX13_named.name 0 0 0 1065 (t_P post) 0 [(0, .ref 950)] [] (t_m s) 1065 0 0 from main _ (fun _ _ h => h)
  intro post hpost
  refine mj_aload_n dX13_named_0 0 rfl ?_
  refine t_getI dX13_named_1 F_X13_642 qf_950_65 ?_
  rw [h_I_950_65]
  refine mj_if_ne 9 dX13_named_4 (by decide) (fun z => absurd (by decide) z) (fun _ => ?_)
  refine mj_iconst (v := (-1)) dX13_named_7 (by decide) ?_
  exact t_iret dX13_named_8 rfl (by decide) (hpost _ _ ⟨rfl, rfl⟩) (Nat.le_of_ble_eq_true rfl) (Nat.le_of_ble_eq_true rfl)

theorem dX13_drop_0 : decode cX13_drop 0 = .ok (.aload_n 0, 1) := by decide +kernel
theorem dX13_drop_1 : decode cX13_drop 1 = .ok (.getfield 654, 3) := by decide +kernel
theorem dX13_drop_4 : decode cX13_drop 4 = .ok (.ifCond .ne 5, 3) := by decide +kernel
theorem dX13_drop_7 : decode cX13_drop 7 = .ok (.iconst (-1), 1) := by decide +kernel
theorem dX13_drop_8 : decode cX13_drop 8 = .ok (.ireturn, 1) := by decide +kernel
set_option maxRecDepth 4000 in
set_option maxHeartbeats 400000 in
theorem N_X13_drop (s : t_S) (h_I_950_96 : s.1 950 96 = 0) : t_C yX13_drop cX13_drop 1 (some .int) 0 [.ref 950] s (fun v s' => v = some (.int (-1)) ∧ s' = s) := by
  refine t_C.of (by decide +kernel) (Nat.le_of_ble_eq_true rfl) ?_
  intro D cy ad bs X
  suffices main : ∀ post : Option Value → t_S → Prop, (∀ v s', (v = some (.int (-1)) ∧ s' = s) → post v s') → mj_G D cy ad bs X cX13_drop 1 yX13_drop.cls (some .int) yX13_drop.name 0 0 0 1065 (t_P post) 0 [(0, .ref 950)] [] (t_m s) 1065 0 0 from main _ (fun _ _ h => h)
  intro post hpost
  refine mj_aload_n dX13_drop_0 0 rfl ?_
  refine t_getI dX13_drop_1 F_X13_654 qf_950_96 ?_
  rw [h_I_950_96]
  refine mj_if_ne 9 dX13_drop_4 (by decide) (fun z => absurd (by decide) z) (fun _ => ?_)
  refine mj_iconst (v := (-1)) dX13_drop_7 (by decide) ?_
  exact t_iret dX13_drop_8 rfl (by decide) (hpost _ _ ⟨rfl, rfl⟩) (Nat.le_of_ble_eq_true rfl) (Nat.le_of_ble_eq_true rfl)

theorem dX13_about_0 : decode cX13_about 0 = .ok (.aload_n 0, 1) := by decide +kernel
theorem dX13_about_1 : decode cX13_about 1 = .ok (.iload_n 1, 1) := by decide +kernel
theorem dX13_about_2 : decode cX13_about 2 = .ok (.invokevirtual 1002, 3) := by decide +kernel
theorem dX13_about_5 : decode cX13_about 5 = .ok (.ifCond .eq 5, 3) := by decide +kernel
theorem dX13_about_8 : decode cX13_about 8 = .ok (.iconst (-1), 1) := by decide +kernel
theorem dX13_about_9 : decode cX13_about 9 = .ok (.ireturn, 1) := by decide +kernel
set_option maxRecDepth 4000 in
set_option maxHeartbeats 400000 in
theorem N_X13_about (s : t_S) (x1 : Int32) (x2 : Int32) (h_I_950_96 : s.1 950 96 = 0) : t_C yX13_about cX13_about 6 (some .int) 1 [.ref 950, .int x1, .int x2] s (fun v s' => v = some (.int (-1)) ∧ s' = s) := by
  refine t_C.of (by decide +kernel) (Nat.le_of_ble_eq_true rfl) ?_
  intro D cy ad bs X
  suffices main : ∀ post : Option Value → t_S → Prop, (∀ v s', (v = some (.int (-1)) ∧ s' = s) → post v s') → mj_G D cy ad bs X cX13_about 6 yX13_about.cls (some .int) yX13_about.name 1 0 0 1065 (t_P post) 0 [(0, .ref 950), (1, .int x1), (2, .int x2)] [] (t_m s) 1065 0 0 from main _ (fun _ _ h => h)
  intro post hpost
  refine mj_aload_n dX13_about_0 0 rfl ?_
  refine mj_iload_n dX13_about_1 1 rfl ?_
  refine t_callV dX13_about_2 M_X13_noValue (N_X13_noValue s x1 h_I_950_96) ML_X13_1002 IM_X13_noValue SE_X13_noValue qc_950 rfl (As := [.int x1]) rfl rfl (Nat.le_of_ble_eq_true rfl) (Nat.le_of_ble_eq_true rfl) (Nat.le_of_ble_eq_true rfl) (Nat.le_of_ble_eq_true rfl) (fun v s1 hp => ?_)
  obtain ⟨rfl, hq⟩ := hp
  rw [hq]
  clear hq s1
  refine mj_if_eq 10 dX13_about_5 (by decide) (fun z => absurd z (by decide)) (fun _ => ?_)
  refine mj_iconst (v := (-1)) dX13_about_8 (by decide) ?_
  exact t_iret dX13_about_9 rfl (by decide) (hpost _ _ ⟨rfl, rfl⟩) (Nat.le_of_ble_eq_true rfl) (Nat.le_of_ble_eq_true rfl)

theorem dX13_alike_0 : decode cX13_alike 0 = .ok (.aload_n 0, 1) := by decide +kernel
theorem dX13_alike_1 : decode cX13_alike 1 = .ok (.iload_n 1, 1) := by decide +kernel
theorem dX13_alike_16 : decode cX13_alike 16 = .ok (.iconst (-1), 1) := by decide +kernel
theorem dX13_alike_17 : decode cX13_alike 17 = .ok (.goto 29, 3) := by decide +kernel
theorem dX13_alike_2 : decode cX13_alike 2 = .ok (.invokevirtual 1002, 3) := by decide +kernel
theorem dX13_alike_46 : decode cX13_alike 46 = .ok (.ireturn, 1) := by decide +kernel
theorem dX13_alike_5 : decode cX13_alike 5 = .ok (.ifCond .ne 11, 3) := by decide +kernel
set_option maxRecDepth 4000 in
set_option maxHeartbeats 400000 in
theorem N_X13_alike (s : t_S) (x1 : Int32) (x2 : Int32) (h_I_950_96 : s.1 950 96 = 0) : t_C yX13_alike cX13_alike 3 (some .int) 1 [.ref 950, .int x1, .int x2] s (fun v s' => v = some (.int (-1)) ∧ s' = s) := by
  refine t_C.of (by decide +kernel) (Nat.le_of_ble_eq_true rfl) ?_
  intro D cy ad bs X
  suffices main : ∀ post : Option Value → t_S → Prop, (∀ v s', (v = some (.int (-1)) ∧ s' = s) → post v s') → mj_G D cy ad bs X cX13_alike 3 yX13_alike.cls (some .int) yX13_alike.name 1 0 0 1065 (t_P post) 0 [(0, .ref 950), (1, .int x1), (2, .int x2)] [] (t_m s) 1065 0 0 from main _ (fun _ _ h => h)
  intro post hpost
  refine mj_aload_n dX13_alike_0 0 rfl ?_
  refine mj_iload_n dX13_alike_1 1 rfl ?_
  refine t_callV dX13_alike_2 M_X13_noValue (N_X13_noValue s x1 h_I_950_96) ML_X13_1002 IM_X13_noValue SE_X13_noValue qc_950 rfl (As := [.int x1]) rfl rfl (Nat.le_of_ble_eq_true rfl) (Nat.le_of_ble_eq_true rfl) (Nat.le_of_ble_eq_true rfl) (Nat.le_of_ble_eq_true rfl) (fun v s1 hp => ?_)
  obtain ⟨rfl, hq⟩ := hp
  rw [hq]
  clear hq s1
  refine mj_if_ne 16 dX13_alike_5 (by decide) (fun _ => ?_) (fun z => absurd z (by decide))
  refine mj_iconst (v := (-1)) dX13_alike_16 (by decide) ?_
  refine mj_goto 46 dX13_alike_17 (by decide) ?_
  exact t_iret dX13_alike_46 rfl (by decide) (hpost _ _ ⟨rfl, rfl⟩) (Nat.le_of_ble_eq_true rfl) (Nat.le_of_ble_eq_true rfl)

theorem dX13_fits_0 : decode cX13_fits 0 = .ok (.aload_n 0, 1) := by decide +kernel
theorem dX13_fits_1 : decode cX13_fits 1 = .ok (.iload_n 2, 1) := by decide +kernel
theorem dX13_fits_16 : decode cX13_fits 16 = .ok (.iconst (-1), 1) := by decide +kernel
theorem dX13_fits_17 : decode cX13_fits 17 = .ok (.goto 28, 3) := by decide +kernel
theorem dX13_fits_2 : decode cX13_fits 2 = .ok (.invokevirtual 1051, 3) := by decide +kernel
theorem dX13_fits_45 : decode cX13_fits 45 = .ok (.ireturn, 1) := by decide +kernel
theorem dX13_fits_5 : decode cX13_fits 5 = .ok (.ifCond .ne 11, 3) := by decide +kernel
set_option maxRecDepth 4000 in
set_option maxHeartbeats 400000 in
theorem N_X13_fits (s : t_S) (x1 : Int32) (x2 : Int32) (h_I_950_65 : s.1 950 65 = 0) : t_C yX13_fits cX13_fits 3 (some .int) 1 [.ref 950, .int x1, .int x2] s (fun v s' => v = some (.int (-1)) ∧ s' = s) := by
  refine t_C.of (by decide +kernel) (Nat.le_of_ble_eq_true rfl) ?_
  intro D cy ad bs X
  suffices main : ∀ post : Option Value → t_S → Prop, (∀ v s', (v = some (.int (-1)) ∧ s' = s) → post v s') → mj_G D cy ad bs X cX13_fits 3 yX13_fits.cls (some .int) yX13_fits.name 1 0 0 1065 (t_P post) 0 [(0, .ref 950), (1, .int x1), (2, .int x2)] [] (t_m s) 1065 0 0 from main _ (fun _ _ h => h)
  intro post hpost
  refine mj_aload_n dX13_fits_0 0 rfl ?_
  refine mj_iload_n dX13_fits_1 2 rfl ?_
  refine t_callV dX13_fits_2 M_X13_noType (N_X13_noType s x2 h_I_950_65) ML_X13_1051 IM_X13_noType SE_X13_noType qc_950 rfl (As := [.int x2]) rfl rfl (Nat.le_of_ble_eq_true rfl) (Nat.le_of_ble_eq_true rfl) (Nat.le_of_ble_eq_true rfl) (Nat.le_of_ble_eq_true rfl) (fun v s1 hp => ?_)
  obtain ⟨rfl, hq⟩ := hp
  rw [hq]
  clear hq s1
  refine mj_if_ne 16 dX13_fits_5 (by decide) (fun _ => ?_) (fun z => absurd z (by decide))
  refine mj_iconst (v := (-1)) dX13_fits_16 (by decide) ?_
  refine mj_goto 45 dX13_fits_17 (by decide) ?_
  exact t_iret dX13_fits_45 rfl (by decide) (hpost _ _ ⟨rfl, rfl⟩) (Nat.le_of_ble_eq_true rfl) (Nat.le_of_ble_eq_true rfl)

theorem dX13_within_0 : decode cX13_within 0 = .ok (.aload_n 0, 1) := by decide +kernel
theorem dX13_within_1 : decode cX13_within 1 = .ok (.iload_n 1, 1) := by decide +kernel
theorem dX13_within_16 : decode cX13_within 16 = .ok (.iconst (-1), 1) := by decide +kernel
theorem dX13_within_17 : decode cX13_within 17 = .ok (.ireturn, 1) := by decide +kernel
theorem dX13_within_2 : decode cX13_within 2 = .ok (.invokevirtual 1051, 3) := by decide +kernel
theorem dX13_within_5 : decode cX13_within 5 = .ok (.ifCond .ne 11, 3) := by decide +kernel
set_option maxRecDepth 4000 in
set_option maxHeartbeats 400000 in
theorem N_X13_within (s : t_S) (x1 : Int32) (x2 : Int32) (h_I_950_65 : s.1 950 65 = 0) : t_C yX13_within cX13_within 7 (some .int) 1 [.ref 950, .int x1, .int x2] s (fun v s' => v = some (.int (-1)) ∧ s' = s) := by
  refine t_C.of (by decide +kernel) (Nat.le_of_ble_eq_true rfl) ?_
  intro D cy ad bs X
  suffices main : ∀ post : Option Value → t_S → Prop, (∀ v s', (v = some (.int (-1)) ∧ s' = s) → post v s') → mj_G D cy ad bs X cX13_within 7 yX13_within.cls (some .int) yX13_within.name 1 0 0 1065 (t_P post) 0 [(0, .ref 950), (1, .int x1), (2, .int x2)] [] (t_m s) 1065 0 0 from main _ (fun _ _ h => h)
  intro post hpost
  refine mj_aload_n dX13_within_0 0 rfl ?_
  refine mj_iload_n dX13_within_1 1 rfl ?_
  refine t_callV dX13_within_2 M_X13_noType (N_X13_noType s x1 h_I_950_65) ML_X13_1051 IM_X13_noType SE_X13_noType qc_950 rfl (As := [.int x1]) rfl rfl (Nat.le_of_ble_eq_true rfl) (Nat.le_of_ble_eq_true rfl) (Nat.le_of_ble_eq_true rfl) (Nat.le_of_ble_eq_true rfl) (fun v s1 hp => ?_)
  obtain ⟨rfl, hq⟩ := hp
  rw [hq]
  clear hq s1
  refine mj_if_ne 16 dX13_within_5 (by decide) (fun _ => ?_) (fun z => absurd z (by decide))
  refine mj_iconst (v := (-1)) dX13_within_16 (by decide) ?_
  exact t_iret dX13_within_17 rfl (by decide) (hpost _ _ ⟨rfl, rfl⟩) (Nat.le_of_ble_eq_true rfl) (Nat.le_of_ble_eq_true rfl)

theorem dX13_many_0 : decode cX13_many 0 = .ok (.aload_n 0, 1) := by decide +kernel
theorem dX13_many_1 : decode cX13_many 1 = .ok (.iload_n 1, 1) := by decide +kernel
theorem dX13_many_2 : decode cX13_many 2 = .ok (.invokevirtual 1051, 3) := by decide +kernel
theorem dX13_many_20 : decode cX13_many 20 = .ok (.ldc2_w 1087, 3) := by decide +kernel
theorem dX13_many_23 : decode cX13_many 23 = .ok (.lreturn, 1) := by decide +kernel
theorem dX13_many_5 : decode cX13_many 5 = .ok (.ifCond .ne 15, 3) := by decide +kernel
set_option maxRecDepth 4000 in
set_option maxHeartbeats 400000 in
theorem N_X13_many (s : t_S) (x1 : Int32) (x2 : Int32) (h_I_950_65 : s.1 950 65 = 0) : t_C yX13_many cX13_many 4 (some .long) 1 [.ref 950, .int x1, .int x2] s (fun v s' => v = some (.long (-1)) ∧ s' = s) := by
  refine t_C.of (by decide +kernel) (Nat.le_of_ble_eq_true rfl) ?_
  intro D cy ad bs X
  suffices main : ∀ post : Option Value → t_S → Prop, (∀ v s', (v = some (.long (-1)) ∧ s' = s) → post v s') → mj_G D cy ad bs X cX13_many 4 yX13_many.cls (some .long) yX13_many.name 1 0 0 1065 (t_P post) 0 [(0, .ref 950), (1, .int x1), (2, .int x2)] [] (t_m s) 1065 0 0 from main _ (fun _ _ h => h)
  intro post hpost
  refine mj_aload_n dX13_many_0 0 rfl ?_
  refine mj_iload_n dX13_many_1 1 rfl ?_
  refine t_callV dX13_many_2 M_X13_noType (N_X13_noType s x1 h_I_950_65) ML_X13_1051 IM_X13_noType SE_X13_noType qc_950 rfl (As := [.int x1]) rfl rfl (Nat.le_of_ble_eq_true rfl) (Nat.le_of_ble_eq_true rfl) (Nat.le_of_ble_eq_true rfl) (Nat.le_of_ble_eq_true rfl) (fun v s1 hp => ?_)
  obtain ⟨rfl, hq⟩ := hp
  rw [hq]
  clear hq s1
  refine mj_if_ne 20 dX13_many_5 (by decide) (fun _ => ?_) (fun z => absurd z (by decide))
  refine mj_ldc2 dX13_many_20 K_X13_1087 ?_
  exact t_lret dX13_many_23 rfl (hpost _ _ ⟨rfl, rfl⟩) (Nat.le_of_ble_eq_true rfl) (Nat.le_of_ble_eq_true rfl)

theorem dX13_lightest_0 : decode cX13_lightest 0 = .ok (.aload_n 0, 1) := by decide +kernel
theorem dX13_lightest_1 : decode cX13_lightest 1 = .ok (.iload_n 1, 1) := by decide +kernel
theorem dX13_lightest_2 : decode cX13_lightest 2 = .ok (.invokevirtual 1051, 3) := by decide +kernel
theorem dX13_lightest_5 : decode cX13_lightest 5 = .ok (.ifCond .eq 5, 3) := by decide +kernel
theorem dX13_lightest_8 : decode cX13_lightest 8 = .ok (.iconst (-1), 1) := by decide +kernel
theorem dX13_lightest_9 : decode cX13_lightest 9 = .ok (.ireturn, 1) := by decide +kernel
set_option maxRecDepth 4000 in
set_option maxHeartbeats 400000 in
theorem N_X13_lightest (s : t_S) (x1 : Int32) (h_I_950_65 : s.1 950 65 = 0) : t_C yX13_lightest cX13_lightest 4 (some .int) 1 [.ref 950, .int x1] s (fun v s' => v = some (.int (-1)) ∧ s' = s) := by
  refine t_C.of (by decide +kernel) (Nat.le_of_ble_eq_true rfl) ?_
  intro D cy ad bs X
  suffices main : ∀ post : Option Value → t_S → Prop, (∀ v s', (v = some (.int (-1)) ∧ s' = s) → post v s') → mj_G D cy ad bs X cX13_lightest 4 yX13_lightest.cls (some .int) yX13_lightest.name 1 0 0 1065 (t_P post) 0 [(0, .ref 950), (1, .int x1)] [] (t_m s) 1065 0 0 from main _ (fun _ _ h => h)
  intro post hpost
  refine mj_aload_n dX13_lightest_0 0 rfl ?_
  refine mj_iload_n dX13_lightest_1 1 rfl ?_
  refine t_callV dX13_lightest_2 M_X13_noType (N_X13_noType s x1 h_I_950_65) ML_X13_1051 IM_X13_noType SE_X13_noType qc_950 rfl (As := [.int x1]) rfl rfl (Nat.le_of_ble_eq_true rfl) (Nat.le_of_ble_eq_true rfl) (Nat.le_of_ble_eq_true rfl) (Nat.le_of_ble_eq_true rfl) (fun v s1 hp => ?_)
  obtain ⟨rfl, hq⟩ := hp
  rw [hq]
  clear hq s1
  refine mj_if_eq 10 dX13_lightest_5 (by decide) (fun z => absurd z (by decide)) (fun _ => ?_)
  refine mj_iconst (v := (-1)) dX13_lightest_8 (by decide) ?_
  exact t_iret dX13_lightest_9 rfl (by decide) (hpost _ _ ⟨rfl, rfl⟩) (Nat.le_of_ble_eq_true rfl) (Nat.le_of_ble_eq_true rfl)

theorem dX13_tell_0 : decode cX13_tell 0 = .ok (.aload_n 0, 1) := by decide +kernel
theorem dX13_tell_1 : decode cX13_tell 1 = .ok (.iload_n 1, 1) := by decide +kernel
theorem dX13_tell_2 : decode cX13_tell 2 = .ok (.invokevirtual 1002, 3) := by decide +kernel
theorem dX13_tell_5 : decode cX13_tell 5 = .ok (.ifCond .eq 5, 3) := by decide +kernel
theorem dX13_tell_8 : decode cX13_tell 8 = .ok (.iconst (-1), 1) := by decide +kernel
theorem dX13_tell_9 : decode cX13_tell 9 = .ok (.ireturn, 1) := by decide +kernel
set_option maxRecDepth 4000 in
set_option maxHeartbeats 400000 in
theorem N_X13_tell (s : t_S) (x1 : Int32) (h_I_950_96 : s.1 950 96 = 0) : t_C yX13_tell cX13_tell 2 (some .int) 1 [.ref 950, .int x1] s (fun v s' => v = some (.int (-1)) ∧ s' = s) := by
  refine t_C.of (by decide +kernel) (Nat.le_of_ble_eq_true rfl) ?_
  intro D cy ad bs X
  suffices main : ∀ post : Option Value → t_S → Prop, (∀ v s', (v = some (.int (-1)) ∧ s' = s) → post v s') → mj_G D cy ad bs X cX13_tell 2 yX13_tell.cls (some .int) yX13_tell.name 1 0 0 1065 (t_P post) 0 [(0, .ref 950), (1, .int x1)] [] (t_m s) 1065 0 0 from main _ (fun _ _ h => h)
  intro post hpost
  refine mj_aload_n dX13_tell_0 0 rfl ?_
  refine mj_iload_n dX13_tell_1 1 rfl ?_
  refine t_callV dX13_tell_2 M_X13_noValue (N_X13_noValue s x1 h_I_950_96) ML_X13_1002 IM_X13_noValue SE_X13_noValue qc_950 rfl (As := [.int x1]) rfl rfl (Nat.le_of_ble_eq_true rfl) (Nat.le_of_ble_eq_true rfl) (Nat.le_of_ble_eq_true rfl) (Nat.le_of_ble_eq_true rfl) (fun v s1 hp => ?_)
  obtain ⟨rfl, hq⟩ := hp
  rw [hq]
  clear hq s1
  refine mj_if_eq 10 dX13_tell_5 (by decide) (fun z => absurd z (by decide)) (fun _ => ?_)
  refine mj_iconst (v := (-1)) dX13_tell_8 (by decide) ?_
  exact t_iret dX13_tell_9 rfl (by decide) (hpost _ _ ⟨rfl, rfl⟩) (Nat.le_of_ble_eq_true rfl) (Nat.le_of_ble_eq_true rfl)

theorem dX13_letter_0 : decode cX13_letter 0 = .ok (.iload_n 1, 1) := by decide +kernel
theorem dX13_letter_1 : decode cX13_letter 1 = .ok (.i2l, 1) := by decide +kernel
theorem dX13_letter_10 : decode cX13_letter 10 = .ok (.invokestatic 371, 3) := by decide +kernel
theorem dX13_letter_13 : decode cX13_letter 13 = .ok (.ifCond .eq 12, 3) := by decide +kernel
theorem dX13_letter_2 : decode cX13_letter 2 = .ok (.lconst 0, 1) := by decide +kernel
theorem dX13_letter_25 : decode cX13_letter 25 = .ok (.bipush (-2), 2) := by decide +kernel
theorem dX13_letter_27 : decode cX13_letter 27 = .ok (.ireturn, 1) := by decide +kernel
theorem dX13_letter_3 : decode cX13_letter 3 = .ok (.aload_n 0, 1) := by decide +kernel
theorem dX13_letter_4 : decode cX13_letter 4 = .ok (.getfield 1009, 3) := by decide +kernel
theorem dX13_letter_7 : decode cX13_letter 7 = .ok (.iconst 1, 1) := by decide +kernel
theorem dX13_letter_8 : decode cX13_letter 8 = .ok (.isub, 1) := by decide +kernel
theorem dX13_letter_9 : decode cX13_letter 9 = .ok (.i2l, 1) := by decide +kernel
set_option maxRecDepth 4000 in
set_option maxHeartbeats 400000 in
theorem N_X13_letter (s : t_S) (x1 : Int32) (h_I_950_106 : s.1 950 106 = 0) : t_C yX13_letter cX13_letter 2 (some .int) 1 [.ref 950, .int x1] s (fun v s' => v = some (.int (-2)) ∧ s' = s) := by
  refine t_C.of (by decide +kernel) (Nat.le_of_ble_eq_true rfl) ?_
  intro D cy ad bs X
  suffices main : ∀ post : Option Value → t_S → Prop, (∀ v s', (v = some (.int (-2)) ∧ s' = s) → post v s') → mj_G D cy ad bs X cX13_letter 2 yX13_letter.cls (some .int) yX13_letter.name 1 0 0 1065 (t_P post) 0 [(0, .ref 950), (1, .int x1)] [] (t_m s) 1065 0 0 from main _ (fun _ _ h => h)
  intro post hpost
  refine mj_iload_n dX13_letter_0 1 rfl ?_
  refine mj_i2l (v := x1.toInt64) dX13_letter_1 rfl ?_
  refine mj_lconst (v := 0) dX13_letter_2 (by decide) ?_
  refine mj_aload_n dX13_letter_3 0 rfl ?_
  refine t_getI dX13_letter_4 F_X13_1009 qf_950_106 ?_
  rw [h_I_950_106]
  refine mj_iconst (v := 1) dX13_letter_7 (by decide) ?_
  refine mj_isub dX13_letter_8 ?_
  rw [show (0 : Int32) - 1 = (-1) by decide]
  refine mj_i2l (v := (-1)) dX13_letter_9 (by decide) ?_
  refine t_callS dX13_letter_10 M_X13_in (N_in0 s x1.toInt64 0 (-1) (fun q => absurd ((t_in (B := 0) (C := -1) rfl rfl).mp q) (by omega))) ML_X13_371 SM_X13_in (As := [.long x1.toInt64, .long 0, .long (-1)]) rfl rfl (Nat.le_of_ble_eq_true rfl) (Nat.le_of_ble_eq_true rfl) (Nat.le_of_ble_eq_true rfl) (Nat.le_of_ble_eq_true rfl) (fun v s1 hp => ?_)
  obtain ⟨rfl, hq⟩ := hp
  rw [hq]
  clear hq s1
  refine mj_if_eq 25 dX13_letter_13 (by decide) (fun _ => ?_) (fun z => absurd (by decide) z)
  refine mj_bipush (v := (-2)) dX13_letter_25 (by decide) ?_
  exact t_iret dX13_letter_27 rfl (by decide) (hpost _ _ ⟨rfl, rfl⟩) (Nat.le_of_ble_eq_true rfl) (Nat.le_of_ble_eq_true rfl)

theorem dX13_why_0 : decode cX13_why 0 = .ok (.iload_n 1, 1) := by decide +kernel
theorem dX13_why_1 : decode cX13_why 1 = .ok (.i2l, 1) := by decide +kernel
theorem dX13_why_10 : decode cX13_why 10 = .ok (.invokestatic 371, 3) := by decide +kernel
theorem dX13_why_13 : decode cX13_why 13 = .ok (.ifCond .eq 12, 3) := by decide +kernel
theorem dX13_why_2 : decode cX13_why 2 = .ok (.lconst 0, 1) := by decide +kernel
theorem dX13_why_25 : decode cX13_why 25 = .ok (.bipush (-2), 2) := by decide +kernel
theorem dX13_why_27 : decode cX13_why 27 = .ok (.ireturn, 1) := by decide +kernel
theorem dX13_why_3 : decode cX13_why 3 = .ok (.aload_n 0, 1) := by decide +kernel
theorem dX13_why_4 : decode cX13_why 4 = .ok (.getfield 1282, 3) := by decide +kernel
theorem dX13_why_7 : decode cX13_why 7 = .ok (.iconst 1, 1) := by decide +kernel
theorem dX13_why_8 : decode cX13_why 8 = .ok (.isub, 1) := by decide +kernel
theorem dX13_why_9 : decode cX13_why 9 = .ok (.i2l, 1) := by decide +kernel
set_option maxRecDepth 4000 in
set_option maxHeartbeats 400000 in
theorem N_X13_why (s : t_S) (x1 : Int32) (h_I_950_146 : s.1 950 146 = 0) : t_C yX13_why cX13_why 2 (some .int) 1 [.ref 950, .int x1] s (fun v s' => v = some (.int (-2)) ∧ s' = s) := by
  refine t_C.of (by decide +kernel) (Nat.le_of_ble_eq_true rfl) ?_
  intro D cy ad bs X
  suffices main : ∀ post : Option Value → t_S → Prop, (∀ v s', (v = some (.int (-2)) ∧ s' = s) → post v s') → mj_G D cy ad bs X cX13_why 2 yX13_why.cls (some .int) yX13_why.name 1 0 0 1065 (t_P post) 0 [(0, .ref 950), (1, .int x1)] [] (t_m s) 1065 0 0 from main _ (fun _ _ h => h)
  intro post hpost
  refine mj_iload_n dX13_why_0 1 rfl ?_
  refine mj_i2l (v := x1.toInt64) dX13_why_1 rfl ?_
  refine mj_lconst (v := 0) dX13_why_2 (by decide) ?_
  refine mj_aload_n dX13_why_3 0 rfl ?_
  refine t_getI dX13_why_4 F_X13_1282 qf_950_146 ?_
  rw [h_I_950_146]
  refine mj_iconst (v := 1) dX13_why_7 (by decide) ?_
  refine mj_isub dX13_why_8 ?_
  rw [show (0 : Int32) - 1 = (-1) by decide]
  refine mj_i2l (v := (-1)) dX13_why_9 (by decide) ?_
  refine t_callS dX13_why_10 M_X13_in (N_in0 s x1.toInt64 0 (-1) (fun q => absurd ((t_in (B := 0) (C := -1) rfl rfl).mp q) (by omega))) ML_X13_371 SM_X13_in (As := [.long x1.toInt64, .long 0, .long (-1)]) rfl rfl (Nat.le_of_ble_eq_true rfl) (Nat.le_of_ble_eq_true rfl) (Nat.le_of_ble_eq_true rfl) (Nat.le_of_ble_eq_true rfl) (fun v s1 hp => ?_)
  obtain ⟨rfl, hq⟩ := hp
  rw [hq]
  clear hq s1
  refine mj_if_eq 25 dX13_why_13 (by decide) (fun _ => ?_) (fun z => absurd (by decide) z)
  refine mj_bipush (v := (-2)) dX13_why_25 (by decide) ?_
  exact t_iret dX13_why_27 rfl (by decide) (hpost _ _ ⟨rfl, rfl⟩) (Nat.le_of_ble_eq_true rfl) (Nat.le_of_ble_eq_true rfl)

theorem dX13_encode_0 : decode cX13_encode 0 = .ok (.aload_n 0, 1) := by decide +kernel
theorem dX13_encode_1 : decode cX13_encode 1 = .ok (.iload_n 2, 1) := by decide +kernel
theorem dX13_encode_16 : decode cX13_encode 16 = .ok (.iconst (-1), 1) := by decide +kernel
theorem dX13_encode_17 : decode cX13_encode 17 = .ok (.ireturn, 1) := by decide +kernel
theorem dX13_encode_2 : decode cX13_encode 2 = .ok (.invokevirtual 1051, 3) := by decide +kernel
theorem dX13_encode_5 : decode cX13_encode 5 = .ok (.ifCond .ne 11, 3) := by decide +kernel
set_option maxRecDepth 4000 in
set_option maxHeartbeats 400000 in
theorem N_X13_encode (s : t_S) (x1 : Int32) (x2 : Int32) (h_I_950_65 : s.1 950 65 = 0) : t_C yX13_encode cX13_encode 3 (some .int) 1 [.ref 950, .int x1, .int x2] s (fun v s' => v = some (.int (-1)) ∧ s' = s) := by
  refine t_C.of (by decide +kernel) (Nat.le_of_ble_eq_true rfl) ?_
  intro D cy ad bs X
  suffices main : ∀ post : Option Value → t_S → Prop, (∀ v s', (v = some (.int (-1)) ∧ s' = s) → post v s') → mj_G D cy ad bs X cX13_encode 3 yX13_encode.cls (some .int) yX13_encode.name 1 0 0 1065 (t_P post) 0 [(0, .ref 950), (1, .int x1), (2, .int x2)] [] (t_m s) 1065 0 0 from main _ (fun _ _ h => h)
  intro post hpost
  refine mj_aload_n dX13_encode_0 0 rfl ?_
  refine mj_iload_n dX13_encode_1 2 rfl ?_
  refine t_callV dX13_encode_2 M_X13_noType (N_X13_noType s x2 h_I_950_65) ML_X13_1051 IM_X13_noType SE_X13_noType qc_950 rfl (As := [.int x2]) rfl rfl (Nat.le_of_ble_eq_true rfl) (Nat.le_of_ble_eq_true rfl) (Nat.le_of_ble_eq_true rfl) (Nat.le_of_ble_eq_true rfl) (fun v s1 hp => ?_)
  obtain ⟨rfl, hq⟩ := hp
  rw [hq]
  clear hq s1
  refine mj_if_ne 16 dX13_encode_5 (by decide) (fun _ => ?_) (fun z => absurd z (by decide))
  refine mj_iconst (v := (-1)) dX13_encode_16 (by decide) ?_
  exact t_iret dX13_encode_17 rfl (by decide) (hpost _ _ ⟨rfl, rfl⟩) (Nat.le_of_ble_eq_true rfl) (Nat.le_of_ble_eq_true rfl)

theorem dX13_bit_0 : decode cX13_bit 0 = .ok (.iload_n 1, 1) := by decide +kernel
theorem dX13_bit_1 : decode cX13_bit 1 = .ok (.i2l, 1) := by decide +kernel
theorem dX13_bit_10 : decode cX13_bit 10 = .ok (.invokestatic 371, 3) := by decide +kernel
theorem dX13_bit_13 : decode cX13_bit 13 = .ok (.ifCond .eq 20, 3) := by decide +kernel
theorem dX13_bit_2 : decode cX13_bit 2 = .ok (.lconst 0, 1) := by decide +kernel
theorem dX13_bit_3 : decode cX13_bit 3 = .ok (.aload_n 0, 1) := by decide +kernel
theorem dX13_bit_33 : decode cX13_bit 33 = .ok (.bipush (-2), 2) := by decide +kernel
theorem dX13_bit_35 : decode cX13_bit 35 = .ok (.ireturn, 1) := by decide +kernel
theorem dX13_bit_4 : decode cX13_bit 4 = .ok (.getfield 833, 3) := by decide +kernel
theorem dX13_bit_7 : decode cX13_bit 7 = .ok (.iconst 1, 1) := by decide +kernel
theorem dX13_bit_8 : decode cX13_bit 8 = .ok (.isub, 1) := by decide +kernel
theorem dX13_bit_9 : decode cX13_bit 9 = .ok (.i2l, 1) := by decide +kernel
set_option maxRecDepth 4000 in
set_option maxHeartbeats 400000 in
theorem N_X13_bit (s : t_S) (x1 : Int32) (h_I_950_121 : s.1 950 121 = 0) : t_C yX13_bit cX13_bit 2 (some .int) 1 [.ref 950, .int x1] s (fun v s' => v = some (.int (-2)) ∧ s' = s) := by
  refine t_C.of (by decide +kernel) (Nat.le_of_ble_eq_true rfl) ?_
  intro D cy ad bs X
  suffices main : ∀ post : Option Value → t_S → Prop, (∀ v s', (v = some (.int (-2)) ∧ s' = s) → post v s') → mj_G D cy ad bs X cX13_bit 2 yX13_bit.cls (some .int) yX13_bit.name 1 0 0 1065 (t_P post) 0 [(0, .ref 950), (1, .int x1)] [] (t_m s) 1065 0 0 from main _ (fun _ _ h => h)
  intro post hpost
  refine mj_iload_n dX13_bit_0 1 rfl ?_
  refine mj_i2l (v := x1.toInt64) dX13_bit_1 rfl ?_
  refine mj_lconst (v := 0) dX13_bit_2 (by decide) ?_
  refine mj_aload_n dX13_bit_3 0 rfl ?_
  refine t_getI dX13_bit_4 F_X13_833 qf_950_121 ?_
  rw [h_I_950_121]
  refine mj_iconst (v := 1) dX13_bit_7 (by decide) ?_
  refine mj_isub dX13_bit_8 ?_
  rw [show (0 : Int32) - 1 = (-1) by decide]
  refine mj_i2l (v := (-1)) dX13_bit_9 (by decide) ?_
  refine t_callS dX13_bit_10 M_X13_in (N_in0 s x1.toInt64 0 (-1) (fun q => absurd ((t_in (B := 0) (C := -1) rfl rfl).mp q) (by omega))) ML_X13_371 SM_X13_in (As := [.long x1.toInt64, .long 0, .long (-1)]) rfl rfl (Nat.le_of_ble_eq_true rfl) (Nat.le_of_ble_eq_true rfl) (Nat.le_of_ble_eq_true rfl) (Nat.le_of_ble_eq_true rfl) (fun v s1 hp => ?_)
  obtain ⟨rfl, hq⟩ := hp
  rw [hq]
  clear hq s1
  refine mj_if_eq 33 dX13_bit_13 (by decide) (fun _ => ?_) (fun z => absurd (by decide) z)
  refine mj_bipush (v := (-2)) dX13_bit_33 (by decide) ?_
  exact t_iret dX13_bit_35 rfl (by decide) (hpost _ _ ⟨rfl, rfl⟩) (Nat.le_of_ble_eq_true rfl) (Nat.le_of_ble_eq_true rfl)

theorem dX13_noBits_0 : decode cX13_noBits 0 = .ok (.aload_n 0, 1) := by decide +kernel
theorem dX13_noBits_1 : decode cX13_noBits 1 = .ok (.getfield 833, 3) := by decide +kernel
theorem dX13_noBits_10 : decode cX13_noBits 10 = .ok (.iload_n 1, 1) := by decide +kernel
theorem dX13_noBits_11 : decode cX13_noBits 11 = .ok (.ireturn, 1) := by decide +kernel
theorem dX13_noBits_4 : decode cX13_noBits 4 = .ok (.istore_n 1, 1) := by decide +kernel
theorem dX13_noBits_5 : decode cX13_noBits 5 = .ok (.aload_n 0, 1) := by decide +kernel
theorem dX13_noBits_6 : decode cX13_noBits 6 = .ok (.iconst 0, 1) := by decide +kernel
theorem dX13_noBits_7 : decode cX13_noBits 7 = .ok (.putfield 833, 3) := by decide +kernel
set_option maxRecDepth 4000 in
set_option maxHeartbeats 400000 in
theorem N_X13_noBits (s : t_S) (h_I_950_121 : s.1 950 121 = 0) : t_C yX13_noBits cX13_noBits 2 (some .int) 0 [.ref 950] s (fun v s' => v = some (.int 0) ∧ t_keep [950] s s') := by
  refine t_C.of (by decide +kernel) (Nat.le_of_ble_eq_true rfl) ?_
  intro D cy ad bs X
  suffices main : ∀ post : Option Value → t_S → Prop, (∀ v s', (v = some (.int 0) ∧ t_keep [950] s s') → post v s') → mj_G D cy ad bs X cX13_noBits 2 yX13_noBits.cls (some .int) yX13_noBits.name 0 0 0 1065 (t_P post) 0 [(0, .ref 950)] [] (t_m s) 1065 0 0 from main _ (fun _ _ h => h)
  intro post hpost
  refine mj_aload_n dX13_noBits_0 0 rfl ?_
  refine t_getI dX13_noBits_1 F_X13_833 qf_950_121 ?_
  rw [h_I_950_121]
  refine mj_istore_n 1 (lv2 := [(1, .int 0), (0, .ref 950)]) dX13_noBits_4 rfl (by decide) rfl ?_
  refine mj_aload_n dX13_noBits_5 1 rfl ?_
  refine mj_iconst (v := 0) dX13_noBits_6 (by decide) ?_
  refine t_putI dX13_noBits_7 F_X13_833 qf_950_121 (by decide) ?_
  obtain ⟨s1, w2⟩ : ∃ z, z = t_setI s 950 121 0 := ⟨_, rfl⟩
  rw [← w2]
  refine mj_iload_n dX13_noBits_10 0 rfl ?_
  exact t_iret dX13_noBits_11 rfl (by decide) (hpost _ _ ⟨rfl, (t_keep_I w2 (by decide))⟩) (Nat.le_of_ble_eq_true rfl) (Nat.le_of_ble_eq_true rfl)

theorem dX13_decode_0 : decode cX13_decode 0 = .ok (.aload_n 0, 1) := by decide +kernel
theorem dX13_decode_1 : decode cX13_decode 1 = .ok (.iload_n 1, 1) := by decide +kernel
theorem dX13_decode_2 : decode cX13_decode 2 = .ok (.invokevirtual 1051, 3) := by decide +kernel
theorem dX13_decode_5 : decode cX13_decode 5 = .ok (.ifCond .eq 5, 3) := by decide +kernel
theorem dX13_decode_8 : decode cX13_decode 8 = .ok (.iconst (-1), 1) := by decide +kernel
theorem dX13_decode_9 : decode cX13_decode 9 = .ok (.ireturn, 1) := by decide +kernel
set_option maxRecDepth 4000 in
set_option maxHeartbeats 400000 in
theorem N_X13_decode (s : t_S) (x1 : Int32) (h_I_950_65 : s.1 950 65 = 0) : t_C yX13_decode cX13_decode 3 (some .int) 1 [.ref 950, .int x1] s (fun v s' => v = some (.int (-1)) ∧ s' = s) := by
  refine t_C.of (by decide +kernel) (Nat.le_of_ble_eq_true rfl) ?_
  intro D cy ad bs X
  suffices main : ∀ post : Option Value → t_S → Prop, (∀ v s', (v = some (.int (-1)) ∧ s' = s) → post v s') → mj_G D cy ad bs X cX13_decode 3 yX13_decode.cls (some .int) yX13_decode.name 1 0 0 1065 (t_P post) 0 [(0, .ref 950), (1, .int x1)] [] (t_m s) 1065 0 0 from main _ (fun _ _ h => h)
  intro post hpost
  refine mj_aload_n dX13_decode_0 0 rfl ?_
  refine mj_iload_n dX13_decode_1 1 rfl ?_
  refine t_callV dX13_decode_2 M_X13_noType (N_X13_noType s x1 h_I_950_65) ML_X13_1051 IM_X13_noType SE_X13_noType qc_950 rfl (As := [.int x1]) rfl rfl (Nat.le_of_ble_eq_true rfl) (Nat.le_of_ble_eq_true rfl) (Nat.le_of_ble_eq_true rfl) (Nat.le_of_ble_eq_true rfl) (fun v s1 hp => ?_)
  obtain ⟨rfl, hq⟩ := hp
  rw [hq]
  clear hq s1
  refine mj_if_eq 10 dX13_decode_5 (by decide) (fun z => absurd z (by decide)) (fun _ => ?_)
  refine mj_iconst (v := (-1)) dX13_decode_8 (by decide) ?_
  exact t_iret dX13_decode_9 rfl (by decide) (hpost _ _ ⟨rfl, rfl⟩) (Nat.le_of_ble_eq_true rfl) (Nat.le_of_ble_eq_true rfl)

theorem dX13_begin_0 : decode cX13_begin 0 = .ok (.aload_n 0, 1) := by decide +kernel
theorem dX13_begin_1 : decode cX13_begin 1 = .ok (.getfield 642, 3) := by decide +kernel
theorem dX13_begin_29 : decode cX13_begin 29 = .ok (.iconst (-1), 1) := by decide +kernel
theorem dX13_begin_30 : decode cX13_begin 30 = .ok (.ireturn, 1) := by decide +kernel
theorem dX13_begin_4 : decode cX13_begin 4 = .ok (.ifCond .eq 25, 3) := by decide +kernel
set_option maxRecDepth 4000 in
set_option maxHeartbeats 400000 in
theorem N_X13_begin (s : t_S) (x1 : Int32) (h_I_950_65 : s.1 950 65 = 0) : t_C yX13_begin cX13_begin 5 (some .int) 0 [.ref 950, .int x1] s (fun v s' => v = some (.int (-1)) ∧ s' = s) := by
  refine t_C.of (by decide +kernel) (Nat.le_of_ble_eq_true rfl) ?_
  intro D cy ad bs X
  suffices main : ∀ post : Option Value → t_S → Prop, (∀ v s', (v = some (.int (-1)) ∧ s' = s) → post v s') → mj_G D cy ad bs X cX13_begin 5 yX13_begin.cls (some .int) yX13_begin.name 0 0 0 1065 (t_P post) 0 [(0, .ref 950), (1, .int x1)] [] (t_m s) 1065 0 0 from main _ (fun _ _ h => h)
  intro post hpost
  refine mj_aload_n dX13_begin_0 0 rfl ?_
  refine t_getI dX13_begin_1 F_X13_642 qf_950_65 ?_
  rw [h_I_950_65]
  refine mj_if_eq 29 dX13_begin_4 (by decide) (fun _ => ?_) (fun z => absurd (by decide) z)
  refine mj_iconst (v := (-1)) dX13_begin_29 (by decide) ?_
  exact t_iret dX13_begin_30 rfl (by decide) (hpost _ _ ⟨rfl, rfl⟩) (Nat.le_of_ble_eq_true rfl) (Nat.le_of_ble_eq_true rfl)

theorem dX13_run_0 : decode cX13_run 0 = .ok (.aload_n 0, 1) := by decide +kernel
theorem dX13_run_1 : decode cX13_run 1 = .ok (.iload_n 1, 1) := by decide +kernel
theorem dX13_run_2 : decode cX13_run 2 = .ok (.invokevirtual 1352, 3) := by decide +kernel
theorem dX13_run_20 : decode cX13_run 20 = .ok (.iconst (-1), 1) := by decide +kernel
theorem dX13_run_21 : decode cX13_run 21 = .ok (.ireturn, 1) := by decide +kernel
theorem dX13_run_5 : decode cX13_run 5 = .ok (.ifCond .ne 15, 3) := by decide +kernel
set_option maxRecDepth 4000 in
set_option maxHeartbeats 400000 in
theorem N_X13_run (s : t_S) (x1 : Int32) (x2 : Int32) (h_I_950_147 : s.1 950 147 = 0) : t_C yX13_run cX13_run 5 (some .int) 1 [.ref 950, .int x1, .int x2] s (fun v s' => v = some (.int (-1)) ∧ s' = s) := by
  refine t_C.of (by decide +kernel) (Nat.le_of_ble_eq_true rfl) ?_
  intro D cy ad bs X
  suffices main : ∀ post : Option Value → t_S → Prop, (∀ v s', (v = some (.int (-1)) ∧ s' = s) → post v s') → mj_G D cy ad bs X cX13_run 5 yX13_run.cls (some .int) yX13_run.name 1 0 0 1065 (t_P post) 0 [(0, .ref 950), (1, .int x1), (2, .int x2)] [] (t_m s) 1065 0 0 from main _ (fun _ _ h => h)
  intro post hpost
  refine mj_aload_n dX13_run_0 0 rfl ?_
  refine mj_iload_n dX13_run_1 1 rfl ?_
  refine t_callV dX13_run_2 M_X13_noComponent (N_X13_noComponent s x1 h_I_950_147) ML_X13_1352 IM_X13_noComponent SE_X13_noComponent qc_950 rfl (As := [.int x1]) rfl rfl (Nat.le_of_ble_eq_true rfl) (Nat.le_of_ble_eq_true rfl) (Nat.le_of_ble_eq_true rfl) (Nat.le_of_ble_eq_true rfl) (fun v s1 hp => ?_)
  obtain ⟨rfl, hq⟩ := hp
  rw [hq]
  clear hq s1
  refine mj_if_ne 20 dX13_run_5 (by decide) (fun _ => ?_) (fun z => absurd z (by decide))
  refine mj_iconst (v := (-1)) dX13_run_20 (by decide) ?_
  exact t_iret dX13_run_21 rfl (by decide) (hpost _ _ ⟨rfl, rfl⟩) (Nat.le_of_ble_eq_true rfl) (Nat.le_of_ble_eq_true rfl)

theorem dX13_clock_0 : decode cX13_clock 0 = .ok (.aload_n 0, 1) := by decide +kernel
theorem dX13_clock_1 : decode cX13_clock 1 = .ok (.getfield 645, 3) := by decide +kernel
theorem dX13_clock_19 : decode cX13_clock 19 = .ok (.iconst (-1), 1) := by decide +kernel
theorem dX13_clock_20 : decode cX13_clock 20 = .ok (.ireturn, 1) := by decide +kernel
theorem dX13_clock_4 : decode cX13_clock 4 = .ok (.ifCond .eq 15, 3) := by decide +kernel
set_option maxRecDepth 4000 in
set_option maxHeartbeats 400000 in
theorem N_X13_clock (s : t_S) (x1 : Int32) (h_I_950_147 : s.1 950 147 = 0) : t_C yX13_clock cX13_clock 2 (some .int) 0 [.ref 950, .int x1] s (fun v s' => v = some (.int (-1)) ∧ s' = s) := by
  refine t_C.of (by decide +kernel) (Nat.le_of_ble_eq_true rfl) ?_
  intro D cy ad bs X
  suffices main : ∀ post : Option Value → t_S → Prop, (∀ v s', (v = some (.int (-1)) ∧ s' = s) → post v s') → mj_G D cy ad bs X cX13_clock 2 yX13_clock.cls (some .int) yX13_clock.name 0 0 0 1065 (t_P post) 0 [(0, .ref 950), (1, .int x1)] [] (t_m s) 1065 0 0 from main _ (fun _ _ h => h)
  intro post hpost
  refine mj_aload_n dX13_clock_0 0 rfl ?_
  refine t_getI dX13_clock_1 F_X13_645 qf_950_147 ?_
  rw [h_I_950_147]
  refine mj_if_eq 19 dX13_clock_4 (by decide) (fun _ => ?_) (fun z => absurd (by decide) z)
  refine mj_iconst (v := (-1)) dX13_clock_19 (by decide) ?_
  exact t_iret dX13_clock_20 rfl (by decide) (hpost _ _ ⟨rfl, rfl⟩) (Nat.le_of_ble_eq_true rfl) (Nat.le_of_ble_eq_true rfl)

theorem dX13_give_0 : decode cX13_give 0 = .ok (.aload_n 0, 1) := by decide +kernel
theorem dX13_give_1 : decode cX13_give 1 = .ok (.iload_n 1, 1) := by decide +kernel
theorem dX13_give_17 : decode cX13_give 17 = .ok (.iconst (-1), 1) := by decide +kernel
theorem dX13_give_18 : decode cX13_give 18 = .ok (.ireturn, 1) := by decide +kernel
theorem dX13_give_2 : decode cX13_give 2 = .ok (.iload_n 2, 1) := by decide +kernel
theorem dX13_give_3 : decode cX13_give 3 = .ok (.invokevirtual 1487, 3) := by decide +kernel
theorem dX13_give_6 : decode cX13_give 6 = .ok (.ifCond .ne 11, 3) := by decide +kernel
set_option maxRecDepth 4000 in
set_option maxHeartbeats 400000 in
theorem N_X13_give (s : t_S) (x1 : Int32) (x2 : Int32) (x3 : Int32) (h_I_950_147 : s.1 950 147 = 0) : t_C yX13_give cX13_give 5 (some .int) 2 [.ref 950, .int x1, .int x2, .int x3] s (fun v s' => v = some (.int (-1)) ∧ s' = s) := by
  refine t_C.of (by decide +kernel) (Nat.le_of_ble_eq_true rfl) ?_
  intro D cy ad bs X
  suffices main : ∀ post : Option Value → t_S → Prop, (∀ v s', (v = some (.int (-1)) ∧ s' = s) → post v s') → mj_G D cy ad bs X cX13_give 5 yX13_give.cls (some .int) yX13_give.name 2 0 0 1065 (t_P post) 0 [(0, .ref 950), (1, .int x1), (2, .int x2), (3, .int x3)] [] (t_m s) 1065 0 0 from main _ (fun _ _ h => h)
  intro post hpost
  refine mj_aload_n dX13_give_0 0 rfl ?_
  refine mj_iload_n dX13_give_1 1 rfl ?_
  refine mj_iload_n dX13_give_2 2 rfl ?_
  refine t_callV dX13_give_3 M_X13_noPort (N_X13_noPort s x1 x2 h_I_950_147) ML_X13_1487 IM_X13_noPort SE_X13_noPort qc_950 rfl (As := [.int x1, .int x2]) rfl rfl (Nat.le_of_ble_eq_true rfl) (Nat.le_of_ble_eq_true rfl) (Nat.le_of_ble_eq_true rfl) (Nat.le_of_ble_eq_true rfl) (fun v s1 hp => ?_)
  obtain ⟨rfl, hq⟩ := hp
  rw [hq]
  clear hq s1
  refine mj_if_ne 17 dX13_give_6 (by decide) (fun _ => ?_) (fun z => absurd z (by decide))
  refine mj_iconst (v := (-1)) dX13_give_17 (by decide) ?_
  exact t_iret dX13_give_18 rfl (by decide) (hpost _ _ ⟨rfl, rfl⟩) (Nat.le_of_ble_eq_true rfl) (Nat.le_of_ble_eq_true rfl)

theorem dX13_state_0 : decode cX13_state 0 = .ok (.aload_n 0, 1) := by decide +kernel
theorem dX13_state_1 : decode cX13_state 1 = .ok (.iload_n 1, 1) := by decide +kernel
theorem dX13_state_2 : decode cX13_state 2 = .ok (.invokevirtual 1352, 3) := by decide +kernel
theorem dX13_state_5 : decode cX13_state 5 = .ok (.ifCond .eq 5, 3) := by decide +kernel
theorem dX13_state_8 : decode cX13_state 8 = .ok (.iconst (-1), 1) := by decide +kernel
theorem dX13_state_9 : decode cX13_state 9 = .ok (.ireturn, 1) := by decide +kernel
set_option maxRecDepth 4000 in
set_option maxHeartbeats 400000 in
theorem N_X13_state (s : t_S) (x1 : Int32) (x2 : Int32) (h_I_950_147 : s.1 950 147 = 0) : t_C yX13_state cX13_state 3 (some .int) 1 [.ref 950, .int x1, .int x2] s (fun v s' => v = some (.int (-1)) ∧ s' = s) := by
  refine t_C.of (by decide +kernel) (Nat.le_of_ble_eq_true rfl) ?_
  intro D cy ad bs X
  suffices main : ∀ post : Option Value → t_S → Prop, (∀ v s', (v = some (.int (-1)) ∧ s' = s) → post v s') → mj_G D cy ad bs X cX13_state 3 yX13_state.cls (some .int) yX13_state.name 1 0 0 1065 (t_P post) 0 [(0, .ref 950), (1, .int x1), (2, .int x2)] [] (t_m s) 1065 0 0 from main _ (fun _ _ h => h)
  intro post hpost
  refine mj_aload_n dX13_state_0 0 rfl ?_
  refine mj_iload_n dX13_state_1 1 rfl ?_
  refine t_callV dX13_state_2 M_X13_noComponent (N_X13_noComponent s x1 h_I_950_147) ML_X13_1352 IM_X13_noComponent SE_X13_noComponent qc_950 rfl (As := [.int x1]) rfl rfl (Nat.le_of_ble_eq_true rfl) (Nat.le_of_ble_eq_true rfl) (Nat.le_of_ble_eq_true rfl) (Nat.le_of_ble_eq_true rfl) (fun v s1 hp => ?_)
  obtain ⟨rfl, hq⟩ := hp
  rw [hq]
  clear hq s1
  refine mj_if_eq 10 dX13_state_5 (by decide) (fun z => absurd z (by decide)) (fun _ => ?_)
  refine mj_iconst (v := (-1)) dX13_state_8 (by decide) ?_
  exact t_iret dX13_state_9 rfl (by decide) (hpost _ _ ⟨rfl, rfl⟩) (Nat.le_of_ble_eq_true rfl) (Nat.le_of_ble_eq_true rfl)

theorem dX13_all_0 : decode cX13_all 0 = .ok (.aload_n 0, 1) := by decide +kernel
theorem dX13_all_1 : decode cX13_all 1 = .ok (.getfield 645, 3) := by decide +kernel
theorem dX13_all_19 : decode cX13_all 19 = .ok (.ldc2_w 1087, 3) := by decide +kernel
theorem dX13_all_22 : decode cX13_all 22 = .ok (.lreturn, 1) := by decide +kernel
theorem dX13_all_4 : decode cX13_all 4 = .ok (.ifCond .eq 15, 3) := by decide +kernel
set_option maxRecDepth 4000 in
set_option maxHeartbeats 400000 in
theorem N_X13_all (s : t_S) (x1 : Int32) (h_I_950_147 : s.1 950 147 = 0) : t_C yX13_all cX13_all 4 (some .long) 0 [.ref 950, .int x1] s (fun v s' => v = some (.long (-1)) ∧ s' = s) := by
  refine t_C.of (by decide +kernel) (Nat.le_of_ble_eq_true rfl) ?_
  intro D cy ad bs X
  suffices main : ∀ post : Option Value → t_S → Prop, (∀ v s', (v = some (.long (-1)) ∧ s' = s) → post v s') → mj_G D cy ad bs X cX13_all 4 yX13_all.cls (some .long) yX13_all.name 0 0 0 1065 (t_P post) 0 [(0, .ref 950), (1, .int x1)] [] (t_m s) 1065 0 0 from main _ (fun _ _ h => h)
  intro post hpost
  refine mj_aload_n dX13_all_0 0 rfl ?_
  refine t_getI dX13_all_1 F_X13_645 qf_950_147 ?_
  rw [h_I_950_147]
  refine mj_if_eq 19 dX13_all_4 (by decide) (fun _ => ?_) (fun z => absurd (by decide) z)
  refine mj_ldc2 dX13_all_19 K_X13_1087 ?_
  exact t_lret dX13_all_22 rfl (hpost _ _ ⟨rfl, rfl⟩) (Nat.le_of_ble_eq_true rfl) (Nat.le_of_ble_eq_true rfl)

theorem dX13_queue_0 : decode cX13_queue 0 = .ok (.aload_n 0, 1) := by decide +kernel
theorem dX13_queue_1 : decode cX13_queue 1 = .ok (.iload_n 1, 1) := by decide +kernel
theorem dX13_queue_10 : decode cX13_queue 10 = .ok (.goto 14, 3) := by decide +kernel
theorem dX13_queue_2 : decode cX13_queue 2 = .ok (.iload_n 2, 1) := by decide +kernel
theorem dX13_queue_24 : decode cX13_queue 24 = .ok (.ireturn, 1) := by decide +kernel
theorem dX13_queue_3 : decode cX13_queue 3 = .ok (.invokevirtual 1487, 3) := by decide +kernel
theorem dX13_queue_6 : decode cX13_queue 6 = .ok (.ifCond .eq 7, 3) := by decide +kernel
theorem dX13_queue_9 : decode cX13_queue 9 = .ok (.iconst (-1), 1) := by decide +kernel
set_option maxRecDepth 4000 in
set_option maxHeartbeats 400000 in
theorem N_X13_queue (s : t_S) (x1 : Int32) (x2 : Int32) (h_I_950_147 : s.1 950 147 = 0) : t_C yX13_queue cX13_queue 3 (some .int) 2 [.ref 950, .int x1, .int x2] s (fun v s' => v = some (.int (-1)) ∧ s' = s) := by
  refine t_C.of (by decide +kernel) (Nat.le_of_ble_eq_true rfl) ?_
  intro D cy ad bs X
  suffices main : ∀ post : Option Value → t_S → Prop, (∀ v s', (v = some (.int (-1)) ∧ s' = s) → post v s') → mj_G D cy ad bs X cX13_queue 3 yX13_queue.cls (some .int) yX13_queue.name 2 0 0 1065 (t_P post) 0 [(0, .ref 950), (1, .int x1), (2, .int x2)] [] (t_m s) 1065 0 0 from main _ (fun _ _ h => h)
  intro post hpost
  refine mj_aload_n dX13_queue_0 0 rfl ?_
  refine mj_iload_n dX13_queue_1 1 rfl ?_
  refine mj_iload_n dX13_queue_2 2 rfl ?_
  refine t_callV dX13_queue_3 M_X13_noPort (N_X13_noPort s x1 x2 h_I_950_147) ML_X13_1487 IM_X13_noPort SE_X13_noPort qc_950 rfl (As := [.int x1, .int x2]) rfl rfl (Nat.le_of_ble_eq_true rfl) (Nat.le_of_ble_eq_true rfl) (Nat.le_of_ble_eq_true rfl) (Nat.le_of_ble_eq_true rfl) (fun v s1 hp => ?_)
  obtain ⟨rfl, hq⟩ := hp
  rw [hq]
  clear hq s1
  refine mj_if_eq 13 dX13_queue_6 (by decide) (fun z => absurd z (by decide)) (fun _ => ?_)
  refine mj_iconst (v := (-1)) dX13_queue_9 (by decide) ?_
  refine mj_goto 24 dX13_queue_10 (by decide) ?_
  exact t_iret dX13_queue_24 rfl (by decide) (hpost _ _ ⟨rfl, rfl⟩) (Nat.le_of_ble_eq_true rfl) (Nat.le_of_ble_eq_true rfl)

theorem dX13_queued_0 : decode cX13_queued 0 = .ok (.aload_n 0, 1) := by decide +kernel
theorem dX13_queued_1 : decode cX13_queued 1 = .ok (.iload_n 1, 1) := by decide +kernel
theorem dX13_queued_10 : decode cX13_queued 10 = .ok (.ireturn, 1) := by decide +kernel
theorem dX13_queued_2 : decode cX13_queued 2 = .ok (.iload_n 2, 1) := by decide +kernel
theorem dX13_queued_3 : decode cX13_queued 3 = .ok (.invokevirtual 1487, 3) := by decide +kernel
theorem dX13_queued_6 : decode cX13_queued 6 = .ok (.ifCond .eq 5, 3) := by decide +kernel
theorem dX13_queued_9 : decode cX13_queued 9 = .ok (.iconst (-1), 1) := by decide +kernel
set_option maxRecDepth 4000 in
set_option maxHeartbeats 400000 in
theorem N_X13_queued (s : t_S) (x1 : Int32) (x2 : Int32) (x3 : Int32) (h_I_950_147 : s.1 950 147 = 0) : t_C yX13_queued cX13_queued 5 (some .int) 2 [.ref 950, .int x1, .int x2, .int x3] s (fun v s' => v = some (.int (-1)) ∧ s' = s) := by
  refine t_C.of (by decide +kernel) (Nat.le_of_ble_eq_true rfl) ?_
  intro D cy ad bs X
  suffices main : ∀ post : Option Value → t_S → Prop, (∀ v s', (v = some (.int (-1)) ∧ s' = s) → post v s') → mj_G D cy ad bs X cX13_queued 5 yX13_queued.cls (some .int) yX13_queued.name 2 0 0 1065 (t_P post) 0 [(0, .ref 950), (1, .int x1), (2, .int x2), (3, .int x3)] [] (t_m s) 1065 0 0 from main _ (fun _ _ h => h)
  intro post hpost
  refine mj_aload_n dX13_queued_0 0 rfl ?_
  refine mj_iload_n dX13_queued_1 1 rfl ?_
  refine mj_iload_n dX13_queued_2 2 rfl ?_
  refine t_callV dX13_queued_3 M_X13_noPort (N_X13_noPort s x1 x2 h_I_950_147) ML_X13_1487 IM_X13_noPort SE_X13_noPort qc_950 rfl (As := [.int x1, .int x2]) rfl rfl (Nat.le_of_ble_eq_true rfl) (Nat.le_of_ble_eq_true rfl) (Nat.le_of_ble_eq_true rfl) (Nat.le_of_ble_eq_true rfl) (fun v s1 hp => ?_)
  obtain ⟨rfl, hq⟩ := hp
  rw [hq]
  clear hq s1
  refine mj_if_eq 11 dX13_queued_6 (by decide) (fun z => absurd z (by decide)) (fun _ => ?_)
  refine mj_iconst (v := (-1)) dX13_queued_9 (by decide) ?_
  exact t_iret dX13_queued_10 rfl (by decide) (hpost _ _ ⟨rfl, rfl⟩) (Nat.le_of_ble_eq_true rfl) (Nat.le_of_ble_eq_true rfl)

theorem dX13_timer_0 : decode cX13_timer 0 = .ok (.aload_n 0, 1) := by decide +kernel
theorem dX13_timer_1 : decode cX13_timer 1 = .ok (.iload_n 1, 1) := by decide +kernel
theorem dX13_timer_2 : decode cX13_timer 2 = .ok (.invokevirtual 1352, 3) := by decide +kernel
theorem dX13_timer_27 : decode cX13_timer 27 = .ok (.iconst (-1), 1) := by decide +kernel
theorem dX13_timer_28 : decode cX13_timer 28 = .ok (.ireturn, 1) := by decide +kernel
theorem dX13_timer_5 : decode cX13_timer 5 = .ok (.ifCond .ne 22, 3) := by decide +kernel
set_option maxRecDepth 4000 in
set_option maxHeartbeats 400000 in
theorem N_X13_timer (s : t_S) (x1 : Int32) (x2 : Int32) (h_I_950_147 : s.1 950 147 = 0) : t_C yX13_timer cX13_timer 5 (some .int) 1 [.ref 950, .int x1, .int x2] s (fun v s' => v = some (.int (-1)) ∧ s' = s) := by
  refine t_C.of (by decide +kernel) (Nat.le_of_ble_eq_true rfl) ?_
  intro D cy ad bs X
  suffices main : ∀ post : Option Value → t_S → Prop, (∀ v s', (v = some (.int (-1)) ∧ s' = s) → post v s') → mj_G D cy ad bs X cX13_timer 5 yX13_timer.cls (some .int) yX13_timer.name 1 0 0 1065 (t_P post) 0 [(0, .ref 950), (1, .int x1), (2, .int x2)] [] (t_m s) 1065 0 0 from main _ (fun _ _ h => h)
  intro post hpost
  refine mj_aload_n dX13_timer_0 0 rfl ?_
  refine mj_iload_n dX13_timer_1 1 rfl ?_
  refine t_callV dX13_timer_2 M_X13_noComponent (N_X13_noComponent s x1 h_I_950_147) ML_X13_1352 IM_X13_noComponent SE_X13_noComponent qc_950 rfl (As := [.int x1]) rfl rfl (Nat.le_of_ble_eq_true rfl) (Nat.le_of_ble_eq_true rfl) (Nat.le_of_ble_eq_true rfl) (Nat.le_of_ble_eq_true rfl) (fun v s1 hp => ?_)
  obtain ⟨rfl, hq⟩ := hp
  rw [hq]
  clear hq s1
  refine mj_if_ne 27 dX13_timer_5 (by decide) (fun _ => ?_) (fun z => absurd z (by decide))
  refine mj_iconst (v := (-1)) dX13_timer_27 (by decide) ?_
  exact t_iret dX13_timer_28 rfl (by decide) (hpost _ _ ⟨rfl, rfl⟩) (Nat.le_of_ble_eq_true rfl) (Nat.le_of_ble_eq_true rfl)

theorem dX13_variable_0 : decode cX13_variable 0 = .ok (.aload_n 0, 1) := by decide +kernel
theorem dX13_variable_1 : decode cX13_variable 1 = .ok (.iload_n 1, 1) := by decide +kernel
theorem dX13_variable_2 : decode cX13_variable 2 = .ok (.invokevirtual 1352, 3) := by decide +kernel
theorem dX13_variable_5 : decode cX13_variable 5 = .ok (.ifCond .eq 5, 3) := by decide +kernel
theorem dX13_variable_8 : decode cX13_variable 8 = .ok (.iconst (-1), 1) := by decide +kernel
theorem dX13_variable_9 : decode cX13_variable 9 = .ok (.ireturn, 1) := by decide +kernel
set_option maxRecDepth 4000 in
set_option maxHeartbeats 400000 in
theorem N_X13_variable (s : t_S) (x1 : Int32) (x2 : Int32) (h_I_950_147 : s.1 950 147 = 0) : t_C yX13_variable cX13_variable 5 (some .int) 1 [.ref 950, .int x1, .int x2] s (fun v s' => v = some (.int (-1)) ∧ s' = s) := by
  refine t_C.of (by decide +kernel) (Nat.le_of_ble_eq_true rfl) ?_
  intro D cy ad bs X
  suffices main : ∀ post : Option Value → t_S → Prop, (∀ v s', (v = some (.int (-1)) ∧ s' = s) → post v s') → mj_G D cy ad bs X cX13_variable 5 yX13_variable.cls (some .int) yX13_variable.name 1 0 0 1065 (t_P post) 0 [(0, .ref 950), (1, .int x1), (2, .int x2)] [] (t_m s) 1065 0 0 from main _ (fun _ _ h => h)
  intro post hpost
  refine mj_aload_n dX13_variable_0 0 rfl ?_
  refine mj_iload_n dX13_variable_1 1 rfl ?_
  refine t_callV dX13_variable_2 M_X13_noComponent (N_X13_noComponent s x1 h_I_950_147) ML_X13_1352 IM_X13_noComponent SE_X13_noComponent qc_950 rfl (As := [.int x1]) rfl rfl (Nat.le_of_ble_eq_true rfl) (Nat.le_of_ble_eq_true rfl) (Nat.le_of_ble_eq_true rfl) (Nat.le_of_ble_eq_true rfl) (fun v s1 hp => ?_)
  obtain ⟨rfl, hq⟩ := hp
  rw [hq]
  clear hq s1
  refine mj_if_eq 10 dX13_variable_5 (by decide) (fun z => absurd z (by decide)) (fun _ => ?_)
  refine mj_iconst (v := (-1)) dX13_variable_8 (by decide) ?_
  exact t_iret dX13_variable_9 rfl (by decide) (hpost _ _ ⟨rfl, rfl⟩) (Nat.le_of_ble_eq_true rfl) (Nat.le_of_ble_eq_true rfl)

theorem dX13_event__0 : decode cX13_event_ 0 = .ok (.aload_n 0, 1) := by decide +kernel
theorem dX13_event__1 : decode cX13_event_ 1 = .ok (.getfield 645, 3) := by decide +kernel
theorem dX13_event__4 : decode cX13_event_ 4 = .ok (.ifCond .eq 36, 3) := by decide +kernel
theorem dX13_event__40 : decode cX13_event_ 40 = .ok (.iconst (-1), 1) := by decide +kernel
theorem dX13_event__41 : decode cX13_event_ 41 = .ok (.ireturn, 1) := by decide +kernel
set_option maxRecDepth 4000 in
set_option maxHeartbeats 400000 in
theorem N_X13_event_ (s : t_S) (x1 : Int32) (x2 : Int32) (h_I_950_147 : s.1 950 147 = 0) : t_C yX13_event_ cX13_event_ 3 (some .int) 0 [.ref 950, .int x1, .int x2] s (fun v s' => v = some (.int (-1)) ∧ s' = s) := by
  refine t_C.of (by decide +kernel) (Nat.le_of_ble_eq_true rfl) ?_
  intro D cy ad bs X
  suffices main : ∀ post : Option Value → t_S → Prop, (∀ v s', (v = some (.int (-1)) ∧ s' = s) → post v s') → mj_G D cy ad bs X cX13_event_ 3 yX13_event_.cls (some .int) yX13_event_.name 0 0 0 1065 (t_P post) 0 [(0, .ref 950), (1, .int x1), (2, .int x2)] [] (t_m s) 1065 0 0 from main _ (fun _ _ h => h)
  intro post hpost
  refine mj_aload_n dX13_event__0 0 rfl ?_
  refine t_getI dX13_event__1 F_X13_645 qf_950_147 ?_
  rw [h_I_950_147]
  refine mj_if_eq 40 dX13_event__4 (by decide) (fun _ => ?_) (fun z => absurd (by decide) z)
  refine mj_iconst (v := (-1)) dX13_event__40 (by decide) ?_
  exact t_iret dX13_event__41 rfl (by decide) (hpost _ _ ⟨rfl, rfl⟩) (Nat.le_of_ble_eq_true rfl) (Nat.le_of_ble_eq_true rfl)

theorem dX13_eventValue_0 : decode cX13_eventValue 0 = .ok (.aload_n 0, 1) := by decide +kernel
theorem dX13_eventValue_1 : decode cX13_eventValue 1 = .ok (.getfield 645, 3) := by decide +kernel
theorem dX13_eventValue_37 : decode cX13_eventValue 37 = .ok (.bipush (-2), 2) := by decide +kernel
theorem dX13_eventValue_39 : decode cX13_eventValue 39 = .ok (.ireturn, 1) := by decide +kernel
theorem dX13_eventValue_4 : decode cX13_eventValue 4 = .ok (.ifCond .eq 33, 3) := by decide +kernel
set_option maxRecDepth 4000 in
set_option maxHeartbeats 400000 in
theorem N_X13_eventValue (s : t_S) (x1 : Int32) (h_I_950_147 : s.1 950 147 = 0) : t_C yX13_eventValue cX13_eventValue 2 (some .int) 0 [.ref 950, .int x1] s (fun v s' => v = some (.int (-2)) ∧ s' = s) := by
  refine t_C.of (by decide +kernel) (Nat.le_of_ble_eq_true rfl) ?_
  intro D cy ad bs X
  suffices main : ∀ post : Option Value → t_S → Prop, (∀ v s', (v = some (.int (-2)) ∧ s' = s) → post v s') → mj_G D cy ad bs X cX13_eventValue 2 yX13_eventValue.cls (some .int) yX13_eventValue.name 0 0 0 1065 (t_P post) 0 [(0, .ref 950), (1, .int x1)] [] (t_m s) 1065 0 0 from main _ (fun _ _ h => h)
  intro post hpost
  refine mj_aload_n dX13_eventValue_0 0 rfl ?_
  refine t_getI dX13_eventValue_1 F_X13_645 qf_950_147 ?_
  rw [h_I_950_147]
  refine mj_if_eq 37 dX13_eventValue_4 (by decide) (fun _ => ?_) (fun z => absurd (by decide) z)
  refine mj_bipush (v := (-2)) dX13_eventValue_37 (by decide) ?_
  exact t_iret dX13_eventValue_39 rfl (by decide) (hpost _ _ ⟨rfl, rfl⟩) (Nat.le_of_ble_eq_true rfl) (Nat.le_of_ble_eq_true rfl)

theorem dX13_count_0 : decode cX13_count 0 = .ok (.iload_n 1, 1) := by decide +kernel
theorem dX13_count_1 : decode cX13_count 1 = .ok (.tableswitch 191 0 10 #[59, 64, 80, 85, 101, 117, 133, 149, 165, 181, 186], 59) := by decide +kernel
theorem dX13_count_100 : decode cX13_count 100 = .ok (.iconst 0, 1) := by decide +kernel
theorem dX13_count_101 : decode cX13_count 101 = .ok (.ireturn, 1) := by decide +kernel
theorem dX13_count_102 : decode cX13_count 102 = .ok (.aload_n 0, 1) := by decide +kernel
theorem dX13_count_103 : decode cX13_count 103 = .ok (.getfield 642, 3) := by decide +kernel
theorem dX13_count_106 : decode cX13_count 106 = .ok (.ifCond .eq 10, 3) := by decide +kernel
theorem dX13_count_116 : decode cX13_count 116 = .ok (.iconst 0, 1) := by decide +kernel
theorem dX13_count_117 : decode cX13_count 117 = .ok (.ireturn, 1) := by decide +kernel
theorem dX13_count_118 : decode cX13_count 118 = .ok (.aload_n 0, 1) := by decide +kernel
theorem dX13_count_119 : decode cX13_count 119 = .ok (.getfield 642, 3) := by decide +kernel
theorem dX13_count_122 : decode cX13_count 122 = .ok (.ifCond .eq 10, 3) := by decide +kernel
theorem dX13_count_132 : decode cX13_count 132 = .ok (.iconst 0, 1) := by decide +kernel
theorem dX13_count_133 : decode cX13_count 133 = .ok (.ireturn, 1) := by decide +kernel
theorem dX13_count_134 : decode cX13_count 134 = .ok (.aload_n 0, 1) := by decide +kernel
theorem dX13_count_135 : decode cX13_count 135 = .ok (.getfield 642, 3) := by decide +kernel
theorem dX13_count_138 : decode cX13_count 138 = .ok (.ifCond .eq 10, 3) := by decide +kernel
theorem dX13_count_148 : decode cX13_count 148 = .ok (.iconst 0, 1) := by decide +kernel
theorem dX13_count_149 : decode cX13_count 149 = .ok (.ireturn, 1) := by decide +kernel
theorem dX13_count_150 : decode cX13_count 150 = .ok (.aload_n 0, 1) := by decide +kernel
theorem dX13_count_151 : decode cX13_count 151 = .ok (.getfield 642, 3) := by decide +kernel
theorem dX13_count_154 : decode cX13_count 154 = .ok (.ifCond .eq 10, 3) := by decide +kernel
theorem dX13_count_164 : decode cX13_count 164 = .ok (.iconst 0, 1) := by decide +kernel
theorem dX13_count_165 : decode cX13_count 165 = .ok (.ireturn, 1) := by decide +kernel
theorem dX13_count_166 : decode cX13_count 166 = .ok (.aload_n 0, 1) := by decide +kernel
theorem dX13_count_167 : decode cX13_count 167 = .ok (.getfield 642, 3) := by decide +kernel
theorem dX13_count_170 : decode cX13_count 170 = .ok (.ifCond .eq 10, 3) := by decide +kernel
theorem dX13_count_180 : decode cX13_count 180 = .ok (.iconst 0, 1) := by decide +kernel
theorem dX13_count_181 : decode cX13_count 181 = .ok (.ireturn, 1) := by decide +kernel
theorem dX13_count_182 : decode cX13_count 182 = .ok (.aload_n 0, 1) := by decide +kernel
theorem dX13_count_183 : decode cX13_count 183 = .ok (.getfield 654, 3) := by decide +kernel
theorem dX13_count_186 : decode cX13_count 186 = .ok (.ireturn, 1) := by decide +kernel
theorem dX13_count_187 : decode cX13_count 187 = .ok (.aload_n 0, 1) := by decide +kernel
theorem dX13_count_188 : decode cX13_count 188 = .ok (.getfield 833, 3) := by decide +kernel
theorem dX13_count_191 : decode cX13_count 191 = .ok (.ireturn, 1) := by decide +kernel
theorem dX13_count_192 : decode cX13_count 192 = .ok (.iconst (-1), 1) := by decide +kernel
theorem dX13_count_193 : decode cX13_count 193 = .ok (.ireturn, 1) := by decide +kernel
theorem dX13_count_60 : decode cX13_count 60 = .ok (.aload_n 0, 1) := by decide +kernel
theorem dX13_count_61 : decode cX13_count 61 = .ok (.getfield 375, 3) := by decide +kernel
theorem dX13_count_64 : decode cX13_count 64 = .ok (.ireturn, 1) := by decide +kernel
theorem dX13_count_65 : decode cX13_count 65 = .ok (.aload_n 0, 1) := by decide +kernel
theorem dX13_count_66 : decode cX13_count 66 = .ok (.getfield 375, 3) := by decide +kernel
theorem dX13_count_69 : decode cX13_count 69 = .ok (.ifCond .ne 7, 3) := by decide +kernel
theorem dX13_count_72 : decode cX13_count 72 = .ok (.iconst (-1), 1) := by decide +kernel
theorem dX13_count_73 : decode cX13_count 73 = .ok (.goto 7, 3) := by decide +kernel
theorem dX13_count_80 : decode cX13_count 80 = .ok (.ireturn, 1) := by decide +kernel
theorem dX13_count_81 : decode cX13_count 81 = .ok (.aload_n 0, 1) := by decide +kernel
theorem dX13_count_82 : decode cX13_count 82 = .ok (.getfield 366, 3) := by decide +kernel
theorem dX13_count_85 : decode cX13_count 85 = .ok (.ireturn, 1) := by decide +kernel
theorem dX13_count_86 : decode cX13_count 86 = .ok (.aload_n 0, 1) := by decide +kernel
theorem dX13_count_87 : decode cX13_count 87 = .ok (.getfield 642, 3) := by decide +kernel
theorem dX13_count_90 : decode cX13_count 90 = .ok (.ifCond .eq 10, 3) := by decide +kernel
set_option maxRecDepth 4000 in
set_option maxHeartbeats 400000 in
theorem N_X13_count (s : t_S) (x1 : Int32) (h_I_950_1 : s.1 950 1 = 0) (h_I_950_2 : s.1 950 2 = 0) (h_I_950_65 : s.1 950 65 = 0) (h_I_950_96 : s.1 950 96 = 0) (h_I_950_121 : s.1 950 121 = 0) : t_C yX13_count cX13_count 2 (some .int) 0 [.ref 950, .int x1] s (fun v s' => v = some (.int (N_count x1)) ∧ s' = s) := by
  refine t_C.of (by decide +kernel) (Nat.le_of_ble_eq_true rfl) ?_
  intro D cy ad bs X
  suffices main : ∀ post : Option Value → t_S → Prop, (∀ v s', (v = some (.int (N_count x1)) ∧ s' = s) → post v s') → mj_G D cy ad bs X cX13_count 2 yX13_count.cls (some .int) yX13_count.name 0 0 0 1065 (t_P post) 0 [(0, .ref 950), (1, .int x1)] [] (t_m s) 1065 0 0 from main _ (fun _ _ h => h)
  intro post hpost
  refine mj_iload_n dX13_count_0 1 rfl ?_
  by_cases hout : x1.toInt < 0 ∨ 10 < x1.toInt
  · refine mj_tableOut 192 dX13_count_1 hout (by decide) ?_
    refine mj_iconst (v := (-1)) dX13_count_192 (by decide) ?_
    exact t_iret dX13_count_193 rfl (by decide) (hpost _ _ ⟨(congrArg (fun z => some (Value.int z)) (by unfold N_count; (repeat' split) <;> first | rfl | omega)), rfl⟩) (Nat.le_of_ble_eq_true rfl) (Nat.le_of_ble_eq_true rfl)
  · have hh1 : ¬ x1.toInt < 0 := fun z => hout (Or.inl z)
    have hh2 : ¬ (10 : Int) < x1.toInt := fun z => hout (Or.inr z)
    have hc : x1.toInt = 0 ∨ x1.toInt = 1 ∨ x1.toInt = 2 ∨ x1.toInt = 3 ∨ x1.toInt = 4 ∨ x1.toInt = 5 ∨ x1.toInt = 6 ∨ x1.toInt = 7 ∨ x1.toInt = 8 ∨ x1.toInt = 9 ∨ x1.toInt = 10 := by omega
    rcases hc with hc | hc | hc | hc | hc | hc | hc | hc | hc | hc | hc
    · refine mj_tableIn 60 dX13_count_1 hh1 hh2 (by rw [hc]; rfl) (by decide) ?_
      refine mj_aload_n dX13_count_60 0 rfl ?_
      refine t_getI dX13_count_61 F_X13_375 qf_950_2 ?_
      rw [h_I_950_2]
      exact t_iret dX13_count_64 rfl (by decide) (hpost _ _ ⟨(congrArg (fun z => some (Value.int z)) (by unfold N_count; (repeat' split) <;> first | rfl | omega)), rfl⟩) (Nat.le_of_ble_eq_true rfl) (Nat.le_of_ble_eq_true rfl)
    · refine mj_tableIn 65 dX13_count_1 hh1 hh2 (by rw [hc]; rfl) (by decide) ?_
      refine mj_aload_n dX13_count_65 0 rfl ?_
      refine t_getI dX13_count_66 F_X13_375 qf_950_2 ?_
      rw [h_I_950_2]
      refine mj_if_ne 76 dX13_count_69 (by decide) (fun z => absurd (by decide) z) (fun _ => ?_)
      refine mj_iconst (v := (-1)) dX13_count_72 (by decide) ?_
      refine mj_goto 80 dX13_count_73 (by decide) ?_
      exact t_iret dX13_count_80 rfl (by decide) (hpost _ _ ⟨(congrArg (fun z => some (Value.int z)) (by unfold N_count; (repeat' split) <;> first | rfl | omega)), rfl⟩) (Nat.le_of_ble_eq_true rfl) (Nat.le_of_ble_eq_true rfl)
    · refine mj_tableIn 81 dX13_count_1 hh1 hh2 (by rw [hc]; rfl) (by decide) ?_
      refine mj_aload_n dX13_count_81 0 rfl ?_
      refine t_getI dX13_count_82 F_X13_366 qf_950_1 ?_
      rw [h_I_950_1]
      exact t_iret dX13_count_85 rfl (by decide) (hpost _ _ ⟨(congrArg (fun z => some (Value.int z)) (by unfold N_count; (repeat' split) <;> first | rfl | omega)), rfl⟩) (Nat.le_of_ble_eq_true rfl) (Nat.le_of_ble_eq_true rfl)
    · refine mj_tableIn 86 dX13_count_1 hh1 hh2 (by rw [hc]; rfl) (by decide) ?_
      refine mj_aload_n dX13_count_86 0 rfl ?_
      refine t_getI dX13_count_87 F_X13_642 qf_950_65 ?_
      rw [h_I_950_65]
      refine mj_if_eq 100 dX13_count_90 (by decide) (fun _ => ?_) (fun z => absurd (by decide) z)
      refine mj_iconst (v := 0) dX13_count_100 (by decide) ?_
      exact t_iret dX13_count_101 rfl (by decide) (hpost _ _ ⟨(congrArg (fun z => some (Value.int z)) (by unfold N_count; (repeat' split) <;> first | rfl | omega)), rfl⟩) (Nat.le_of_ble_eq_true rfl) (Nat.le_of_ble_eq_true rfl)
    · refine mj_tableIn 102 dX13_count_1 hh1 hh2 (by rw [hc]; rfl) (by decide) ?_
      refine mj_aload_n dX13_count_102 0 rfl ?_
      refine t_getI dX13_count_103 F_X13_642 qf_950_65 ?_
      rw [h_I_950_65]
      refine mj_if_eq 116 dX13_count_106 (by decide) (fun _ => ?_) (fun z => absurd (by decide) z)
      refine mj_iconst (v := 0) dX13_count_116 (by decide) ?_
      exact t_iret dX13_count_117 rfl (by decide) (hpost _ _ ⟨(congrArg (fun z => some (Value.int z)) (by unfold N_count; (repeat' split) <;> first | rfl | omega)), rfl⟩) (Nat.le_of_ble_eq_true rfl) (Nat.le_of_ble_eq_true rfl)
    · refine mj_tableIn 118 dX13_count_1 hh1 hh2 (by rw [hc]; rfl) (by decide) ?_
      refine mj_aload_n dX13_count_118 0 rfl ?_
      refine t_getI dX13_count_119 F_X13_642 qf_950_65 ?_
      rw [h_I_950_65]
      refine mj_if_eq 132 dX13_count_122 (by decide) (fun _ => ?_) (fun z => absurd (by decide) z)
      refine mj_iconst (v := 0) dX13_count_132 (by decide) ?_
      exact t_iret dX13_count_133 rfl (by decide) (hpost _ _ ⟨(congrArg (fun z => some (Value.int z)) (by unfold N_count; (repeat' split) <;> first | rfl | omega)), rfl⟩) (Nat.le_of_ble_eq_true rfl) (Nat.le_of_ble_eq_true rfl)
    · refine mj_tableIn 134 dX13_count_1 hh1 hh2 (by rw [hc]; rfl) (by decide) ?_
      refine mj_aload_n dX13_count_134 0 rfl ?_
      refine t_getI dX13_count_135 F_X13_642 qf_950_65 ?_
      rw [h_I_950_65]
      refine mj_if_eq 148 dX13_count_138 (by decide) (fun _ => ?_) (fun z => absurd (by decide) z)
      refine mj_iconst (v := 0) dX13_count_148 (by decide) ?_
      exact t_iret dX13_count_149 rfl (by decide) (hpost _ _ ⟨(congrArg (fun z => some (Value.int z)) (by unfold N_count; (repeat' split) <;> first | rfl | omega)), rfl⟩) (Nat.le_of_ble_eq_true rfl) (Nat.le_of_ble_eq_true rfl)
    · refine mj_tableIn 150 dX13_count_1 hh1 hh2 (by rw [hc]; rfl) (by decide) ?_
      refine mj_aload_n dX13_count_150 0 rfl ?_
      refine t_getI dX13_count_151 F_X13_642 qf_950_65 ?_
      rw [h_I_950_65]
      refine mj_if_eq 164 dX13_count_154 (by decide) (fun _ => ?_) (fun z => absurd (by decide) z)
      refine mj_iconst (v := 0) dX13_count_164 (by decide) ?_
      exact t_iret dX13_count_165 rfl (by decide) (hpost _ _ ⟨(congrArg (fun z => some (Value.int z)) (by unfold N_count; (repeat' split) <;> first | rfl | omega)), rfl⟩) (Nat.le_of_ble_eq_true rfl) (Nat.le_of_ble_eq_true rfl)
    · refine mj_tableIn 166 dX13_count_1 hh1 hh2 (by rw [hc]; rfl) (by decide) ?_
      refine mj_aload_n dX13_count_166 0 rfl ?_
      refine t_getI dX13_count_167 F_X13_642 qf_950_65 ?_
      rw [h_I_950_65]
      refine mj_if_eq 180 dX13_count_170 (by decide) (fun _ => ?_) (fun z => absurd (by decide) z)
      refine mj_iconst (v := 0) dX13_count_180 (by decide) ?_
      exact t_iret dX13_count_181 rfl (by decide) (hpost _ _ ⟨(congrArg (fun z => some (Value.int z)) (by unfold N_count; (repeat' split) <;> first | rfl | omega)), rfl⟩) (Nat.le_of_ble_eq_true rfl) (Nat.le_of_ble_eq_true rfl)
    · refine mj_tableIn 182 dX13_count_1 hh1 hh2 (by rw [hc]; rfl) (by decide) ?_
      refine mj_aload_n dX13_count_182 0 rfl ?_
      refine t_getI dX13_count_183 F_X13_654 qf_950_96 ?_
      rw [h_I_950_96]
      exact t_iret dX13_count_186 rfl (by decide) (hpost _ _ ⟨(congrArg (fun z => some (Value.int z)) (by unfold N_count; (repeat' split) <;> first | rfl | omega)), rfl⟩) (Nat.le_of_ble_eq_true rfl) (Nat.le_of_ble_eq_true rfl)
    · refine mj_tableIn 187 dX13_count_1 hh1 hh2 (by rw [hc]; rfl) (by decide) ?_
      refine mj_aload_n dX13_count_187 0 rfl ?_
      refine t_getI dX13_count_188 F_X13_833 qf_950_121 ?_
      rw [h_I_950_121]
      exact t_iret dX13_count_191 rfl (by decide) (hpost _ _ ⟨(congrArg (fun z => some (Value.int z)) (by unfold N_count; (repeat' split) <;> first | rfl | omega)), rfl⟩) (Nat.le_of_ble_eq_true rfl) (Nat.le_of_ble_eq_true rfl)

theorem dX13_row_0 : decode cX13_row 0 = .ok (.iload_n 1, 1) := by decide +kernel
theorem dX13_row_1 : decode cX13_row 1 = .ok (.iconst (-1), 1) := by decide +kernel
theorem dX13_row_12 : decode cX13_row 12 = .ok (.iload_n 1, 1) := by decide +kernel
theorem dX13_row_13 : decode cX13_row 13 = .ok (.i2l, 1) := by decide +kernel
theorem dX13_row_14 : decode cX13_row 14 = .ok (.lconst 0, 1) := by decide +kernel
theorem dX13_row_15 : decode cX13_row 15 = .ok (.aload_n 0, 1) := by decide +kernel
theorem dX13_row_16 : decode cX13_row 16 = .ok (.getfield 1502, 3) := by decide +kernel
theorem dX13_row_19 : decode cX13_row 19 = .ok (.iconst 1, 1) := by decide +kernel
theorem dX13_row_2 : decode cX13_row 2 = .ok (.if_icmp .ne 10, 3) := by decide +kernel
theorem dX13_row_20 : decode cX13_row 20 = .ok (.isub, 1) := by decide +kernel
theorem dX13_row_21 : decode cX13_row 21 = .ok (.i2l, 1) := by decide +kernel
theorem dX13_row_22 : decode cX13_row 22 = .ok (.invokestatic 371, 3) := by decide +kernel
theorem dX13_row_25 : decode cX13_row 25 = .ok (.ifCond .eq 12, 3) := by decide +kernel
theorem dX13_row_37 : decode cX13_row 37 = .ok (.bipush (-2), 2) := by decide +kernel
theorem dX13_row_39 : decode cX13_row 39 = .ok (.ireturn, 1) := by decide +kernel
theorem dX13_row_5 : decode cX13_row 5 = .ok (.aload_n 0, 1) := by decide +kernel
theorem dX13_row_6 : decode cX13_row 6 = .ok (.getfield 1502, 3) := by decide +kernel
theorem dX13_row_9 : decode cX13_row 9 = .ok (.goto 30, 3) := by decide +kernel
set_option maxRecDepth 4000 in
set_option maxHeartbeats 400000 in
theorem N_X13_row (s : t_S) (x1 : Int32) (h_I_950_183 : s.1 950 183 = 0) : t_C yX13_row cX13_row 2 (some .int) 1 [.ref 950, .int x1] s (fun v s' => v = some (.int (N_row x1)) ∧ s' = s) := by
  refine t_C.of (by decide +kernel) (Nat.le_of_ble_eq_true rfl) ?_
  intro D cy ad bs X
  suffices main : ∀ post : Option Value → t_S → Prop, (∀ v s', (v = some (.int (N_row x1)) ∧ s' = s) → post v s') → mj_G D cy ad bs X cX13_row 2 yX13_row.cls (some .int) yX13_row.name 1 0 0 1065 (t_P post) 0 [(0, .ref 950), (1, .int x1)] [] (t_m s) 1065 0 0 from main _ (fun _ _ h => h)
  intro post hpost
  refine mj_iload_n dX13_row_0 1 rfl ?_
  refine mj_iconst (v := (-1)) dX13_row_1 (by decide) ?_
  refine mj_icmp_ne 12 dX13_row_2 (by decide) (fun z1 => ?_) (fun z1 => ?_)
  · have z1i : ¬ x1.toInt = -1 := fun q => z1 ((t_eq (-1) rfl).mpr q)
    refine mj_iload_n dX13_row_12 1 rfl ?_
    refine mj_i2l (v := x1.toInt64) dX13_row_13 rfl ?_
    refine mj_lconst (v := 0) dX13_row_14 (by decide) ?_
    refine mj_aload_n dX13_row_15 0 rfl ?_
    refine t_getI dX13_row_16 F_X13_1502 qf_950_183 ?_
    rw [h_I_950_183]
    refine mj_iconst (v := 1) dX13_row_19 (by decide) ?_
    refine mj_isub dX13_row_20 ?_
    rw [show (0 : Int32) - 1 = (-1) by decide]
    refine mj_i2l (v := (-1)) dX13_row_21 (by decide) ?_
    refine t_callS dX13_row_22 M_X13_in (N_in0 s x1.toInt64 0 (-1) (fun q => absurd ((t_in (B := 0) (C := -1) rfl rfl).mp q) (by omega))) ML_X13_371 SM_X13_in (As := [.long x1.toInt64, .long 0, .long (-1)]) rfl rfl (Nat.le_of_ble_eq_true rfl) (Nat.le_of_ble_eq_true rfl) (Nat.le_of_ble_eq_true rfl) (Nat.le_of_ble_eq_true rfl) (fun v s2 hp => ?_)
    obtain ⟨rfl, hq⟩ := hp
    rw [hq]
    clear hq s2
    refine mj_if_eq 37 dX13_row_25 (by decide) (fun _ => ?_) (fun z => absurd (by decide) z)
    refine mj_bipush (v := (-2)) dX13_row_37 (by decide) ?_
    exact t_iret dX13_row_39 rfl (by decide) (hpost _ _ ⟨(congrArg (fun z => some (Value.int z)) (by unfold N_row; (repeat' split) <;> first | rfl | omega)), rfl⟩) (Nat.le_of_ble_eq_true rfl) (Nat.le_of_ble_eq_true rfl)
  · have z1i : x1.toInt = -1 := (t_eq (-1) rfl).mp z1
    refine mj_aload_n dX13_row_5 0 rfl ?_
    refine t_getI dX13_row_6 F_X13_1502 qf_950_183 ?_
    rw [h_I_950_183]
    refine mj_goto 39 dX13_row_9 (by decide) ?_
    exact t_iret dX13_row_39 rfl (by decide) (hpost _ _ ⟨(congrArg (fun z => some (Value.int z)) (by unfold N_row; (repeat' split) <;> first | rfl | omega)), rfl⟩) (Nat.le_of_ble_eq_true rfl) (Nat.le_of_ble_eq_true rfl)

theorem dX13_met__0 : decode cX13_met_ 0 = .ok (.aload_n 0, 1) := by decide +kernel
theorem dX13_met__1 : decode cX13_met_ 1 = .ok (.getfield 642, 3) := by decide +kernel
theorem dX13_met__27 : decode cX13_met_ 27 = .ok (.iconst (-1), 1) := by decide +kernel
theorem dX13_met__28 : decode cX13_met_ 28 = .ok (.ireturn, 1) := by decide +kernel
theorem dX13_met__4 : decode cX13_met_ 4 = .ok (.ifCond .eq 23, 3) := by decide +kernel
set_option maxRecDepth 4000 in
set_option maxHeartbeats 400000 in
theorem N_X13_met_ (s : t_S) (x1 : Int32) (x2 : Int32) (h_I_950_65 : s.1 950 65 = 0) : t_C yX13_met_ cX13_met_ 4 (some .int) 0 [.ref 950, .int x1, .int x2] s (fun v s' => v = some (.int (-1)) ∧ s' = s) := by
  refine t_C.of (by decide +kernel) (Nat.le_of_ble_eq_true rfl) ?_
  intro D cy ad bs X
  suffices main : ∀ post : Option Value → t_S → Prop, (∀ v s', (v = some (.int (-1)) ∧ s' = s) → post v s') → mj_G D cy ad bs X cX13_met_ 4 yX13_met_.cls (some .int) yX13_met_.name 0 0 0 1065 (t_P post) 0 [(0, .ref 950), (1, .int x1), (2, .int x2)] [] (t_m s) 1065 0 0 from main _ (fun _ _ h => h)
  intro post hpost
  refine mj_aload_n dX13_met__0 0 rfl ?_
  refine t_getI dX13_met__1 F_X13_642 qf_950_65 ?_
  rw [h_I_950_65]
  refine mj_if_eq 27 dX13_met__4 (by decide) (fun _ => ?_) (fun z => absurd (by decide) z)
  refine mj_iconst (v := (-1)) dX13_met__27 (by decide) ?_
  exact t_iret dX13_met__28 rfl (by decide) (hpost _ _ ⟨rfl, rfl⟩) (Nat.le_of_ble_eq_true rfl) (Nat.le_of_ble_eq_true rfl)

