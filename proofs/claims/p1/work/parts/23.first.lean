theorem qc_0 : t_okc 0 12 = true := by decide +kernel
theorem qc_1 : t_okc 1 2 = true := by decide +kernel
theorem qf_0_10 : t_okf 0 12 10 0 = true := by decide +kernel
theorem qf_0_11 : t_okf 0 12 11 0 = true := by decide +kernel
theorem qf_0_12 : t_okf 0 12 12 0 = true := by decide +kernel
theorem qf_12_2 : t_okf 12 8 2 0 = true := by decide +kernel
theorem qf_1_1 : t_okf 1 2 1 0 = true := by decide +kernel
theorem qf_353_17 : t_okf 353 10 17 0 = true := by decide +kernel
theorem qf_856_3 : t_okf 856 1 3 0 = true := by decide +kernel
theorem qf_856_5 : t_okf 856 1 5 0 = true := by decide +kernel
theorem qf_864_8 : t_okf 864 7 8 0 = true := by decide +kernel
theorem qf_946_3 : t_okf 946 9 3 0 = true := by decide +kernel
theorem qr_0_0 : t_okr 0 12 0 1 = true := by decide +kernel
theorem qr_0_1 : t_okr 0 12 1 12 = true := by decide +kernel
theorem qr_0_4 : t_okr 0 12 4 353 = true := by decide +kernel
theorem qr_0_7 : t_okr 0 12 7 856 = true := by decide +kernel
theorem qr_0_8 : t_okr 0 12 8 864 = true := by decide +kernel
theorem qr_0_9 : t_okr 0 12 9 946 = true := by decide +kernel
theorem dX12_isKept_0 : decode cX12_isKept 0 = .ok (.iload_n 1, 1) := by decide +kernel
theorem dX12_isKept_1 : decode cX12_isKept 1 = .ok (.ifCond .lt 18, 3) := by decide +kernel
theorem dX12_isKept_12 : decode cX12_isKept 12 = .ok (.if_icmp .ge 7, 3) := by decide +kernel
theorem dX12_isKept_19 : decode cX12_isKept 19 = .ok (.iconst 0, 1) := by decide +kernel
theorem dX12_isKept_20 : decode cX12_isKept 20 = .ok (.ireturn, 1) := by decide +kernel
theorem dX12_isKept_4 : decode cX12_isKept 4 = .ok (.iload_n 1, 1) := by decide +kernel
theorem dX12_isKept_5 : decode cX12_isKept 5 = .ok (.aload_n 0, 1) := by decide +kernel
theorem dX12_isKept_6 : decode cX12_isKept 6 = .ok (.getfield 19, 3) := by decide +kernel
theorem dX12_isKept_9 : decode cX12_isKept 9 = .ok (.getfield 107, 3) := by decide +kernel
set_option maxRecDepth 4000 in
set_option maxHeartbeats 400000 in
theorem N_X12_isKept (s : t_S) (x1 : Int32) (h_I_12_2 : s.1 12 2 = 0) : t_C yX12_isKept cX12_isKept 2 (some .boolean) 0 [.ref 0, .int x1] s (fun v s' => v = some (.int 0) ∧ s' = s) := by
  refine t_C.of (by decide +kernel) (Nat.le_of_ble_eq_true rfl) ?_
  intro D cy ad bs X
  suffices main : ∀ post : Option Value → t_S → Prop, (∀ v s', (v = some (.int 0) ∧ s' = s) → post v s') → mj_G D cy ad bs X cX12_isKept 2 yX12_isKept.cls (some .boolean) yX12_isKept.name 0 0 0 1065 (t_P post) 0 [(0, .ref 0), (1, .int x1)] [] (t_m s) 1065 0 0 from main _ (fun _ _ h => h)
  intro post hpost
  refine mj_iload_n dX12_isKept_0 1 rfl ?_
  refine mj_if_lt 19 dX12_isKept_1 (by decide) (fun z1 => ?_) (fun z1 => ?_)
  · have z1i : x1.toInt < 0 := (t_lt (0) rfl).mp z1
    refine mj_iconst (v := 0) dX12_isKept_19 (by decide) ?_
    exact t_iret dX12_isKept_20 rfl (by decide) (hpost _ _ ⟨rfl, rfl⟩) (Nat.le_of_ble_eq_true rfl) (Nat.le_of_ble_eq_true rfl)
  · have z1i : ¬ x1.toInt < 0 := fun q => z1 ((t_lt (0) rfl).mpr q)
    refine mj_iload_n dX12_isKept_4 1 rfl ?_
    refine mj_aload_n dX12_isKept_5 0 rfl ?_
    refine t_getR 12 dX12_isKept_6 F_X12_19 qr_0_1 ?_
    refine t_getI dX12_isKept_9 F_X12_107 qf_12_2 ?_
    rw [h_I_12_2]
    refine mj_icmp_ge 19 dX12_isKept_12 (by decide) (fun z2 => ?_) (fun z2 => ?_)
    · have z2i : 0 ≤ x1.toInt := (t_ge (0) rfl).mp z2
      refine mj_iconst (v := 0) dX12_isKept_19 (by decide) ?_
      exact t_iret dX12_isKept_20 rfl (by decide) (hpost _ _ ⟨rfl, rfl⟩) (Nat.le_of_ble_eq_true rfl) (Nat.le_of_ble_eq_true rfl)
    · have z2i : ¬ 0 ≤ x1.toInt := fun q => z2 ((t_ge (0) rfl).mpr q)
      exfalso; omega

theorem dX12_isType_0 : decode cX12_isType 0 = .ok (.aload_n 0, 1) := by decide +kernel
theorem dX12_isType_1 : decode cX12_isType 1 = .ok (.getfield 121, 3) := by decide +kernel
theorem dX12_isType_26 : decode cX12_isType 26 = .ok (.iconst 0, 1) := by decide +kernel
theorem dX12_isType_27 : decode cX12_isType 27 = .ok (.ireturn, 1) := by decide +kernel
theorem dX12_isType_4 : decode cX12_isType 4 = .ok (.ifCond .eq 22, 3) := by decide +kernel
set_option maxRecDepth 4000 in
set_option maxHeartbeats 400000 in
theorem N_X12_isType (s : t_S) (x1 : Int32) (h_I_0_12 : s.1 0 12 = 0) : t_C yX12_isType cX12_isType 2 (some .boolean) 0 [.ref 0, .int x1] s (fun v s' => v = some (.int 0) ∧ s' = s) := by
  refine t_C.of (by decide +kernel) (Nat.le_of_ble_eq_true rfl) ?_
  intro D cy ad bs X
  suffices main : ∀ post : Option Value → t_S → Prop, (∀ v s', (v = some (.int 0) ∧ s' = s) → post v s') → mj_G D cy ad bs X cX12_isType 2 yX12_isType.cls (some .boolean) yX12_isType.name 0 0 0 1065 (t_P post) 0 [(0, .ref 0), (1, .int x1)] [] (t_m s) 1065 0 0 from main _ (fun _ _ h => h)
  intro post hpost
  refine mj_aload_n dX12_isType_0 0 rfl ?_
  refine t_getI dX12_isType_1 F_X12_121 qf_0_12 ?_
  rw [h_I_0_12]
  refine mj_if_eq 26 dX12_isType_4 (by decide) (fun _ => ?_) (fun z => absurd (by decide) z)
  refine mj_iconst (v := 0) dX12_isType_26 (by decide) ?_
  exact t_iret dX12_isType_27 rfl (by decide) (hpost _ _ ⟨rfl, rfl⟩) (Nat.le_of_ble_eq_true rfl) (Nat.le_of_ble_eq_true rfl)

theorem dX12_isPart_0 : decode cX12_isPart 0 = .ok (.aload_n 0, 1) := by decide +kernel
theorem dX12_isPart_1 : decode cX12_isPart 1 = .ok (.getfield 84, 3) := by decide +kernel
theorem dX12_isPart_29 : decode cX12_isPart 29 = .ok (.iconst 0, 1) := by decide +kernel
theorem dX12_isPart_30 : decode cX12_isPart 30 = .ok (.ireturn, 1) := by decide +kernel
theorem dX12_isPart_4 : decode cX12_isPart 4 = .ok (.getfield 277, 3) := by decide +kernel
theorem dX12_isPart_7 : decode cX12_isPart 7 = .ok (.ifCond .eq 22, 3) := by decide +kernel
set_option maxRecDepth 4000 in
set_option maxHeartbeats 400000 in
theorem N_X12_isPart (s : t_S) (x1 : Int32) (h_I_864_8 : s.1 864 8 = 0) : t_C yX12_isPart cX12_isPart 2 (some .boolean) 0 [.ref 0, .int x1] s (fun v s' => v = some (.int 0) ∧ s' = s) := by
  refine t_C.of (by decide +kernel) (Nat.le_of_ble_eq_true rfl) ?_
  intro D cy ad bs X
  suffices main : ∀ post : Option Value → t_S → Prop, (∀ v s', (v = some (.int 0) ∧ s' = s) → post v s') → mj_G D cy ad bs X cX12_isPart 2 yX12_isPart.cls (some .boolean) yX12_isPart.name 0 0 0 1065 (t_P post) 0 [(0, .ref 0), (1, .int x1)] [] (t_m s) 1065 0 0 from main _ (fun _ _ h => h)
  intro post hpost
  refine mj_aload_n dX12_isPart_0 0 rfl ?_
  refine t_getR 864 dX12_isPart_1 F_X12_84 qr_0_8 ?_
  refine t_getI dX12_isPart_4 F_X12_277 qf_864_8 ?_
  rw [h_I_864_8]
  refine mj_if_eq 29 dX12_isPart_7 (by decide) (fun _ => ?_) (fun z => absurd (by decide) z)
  refine mj_iconst (v := 0) dX12_isPart_29 (by decide) ?_
  exact t_iret dX12_isPart_30 rfl (by decide) (hpost _ _ ⟨rfl, rfl⟩) (Nat.le_of_ble_eq_true rfl) (Nat.le_of_ble_eq_true rfl)

theorem dX12_isPort_0 : decode cX12_isPort 0 = .ok (.aload_n 0, 1) := by decide +kernel
theorem dX12_isPort_1 : decode cX12_isPort 1 = .ok (.iload_n 1, 1) := by decide +kernel
theorem dX12_isPort_2 : decode cX12_isPort 2 = .ok (.invokevirtual 271, 3) := by decide +kernel
theorem dX12_isPort_40 : decode cX12_isPort 40 = .ok (.iconst 0, 1) := by decide +kernel
theorem dX12_isPort_41 : decode cX12_isPort 41 = .ok (.ireturn, 1) := by decide +kernel
theorem dX12_isPort_5 : decode cX12_isPort 5 = .ok (.ifCond .eq 35, 3) := by decide +kernel
set_option maxRecDepth 4000 in
set_option maxHeartbeats 400000 in
theorem N_X12_isPort (s : t_S) (x1 : Int32) (x2 : Int32) (h_I_864_8 : s.1 864 8 = 0) : t_C yX12_isPort cX12_isPort 3 (some .boolean) 1 [.ref 0, .int x1, .int x2] s (fun v s' => v = some (.int 0) ∧ s' = s) := by
  refine t_C.of (by decide +kernel) (Nat.le_of_ble_eq_true rfl) ?_
  intro D cy ad bs X
  suffices main : ∀ post : Option Value → t_S → Prop, (∀ v s', (v = some (.int 0) ∧ s' = s) → post v s') → mj_G D cy ad bs X cX12_isPort 3 yX12_isPort.cls (some .boolean) yX12_isPort.name 1 0 0 1065 (t_P post) 0 [(0, .ref 0), (1, .int x1), (2, .int x2)] [] (t_m s) 1065 0 0 from main _ (fun _ _ h => h)
  intro post hpost
  refine mj_aload_n dX12_isPort_0 0 rfl ?_
  refine mj_iload_n dX12_isPort_1 1 rfl ?_
  refine t_callV dX12_isPort_2 M_X12_isPart (N_X12_isPart s x1 h_I_864_8) ML_X12_271 IM_X12_isPart SE_X12_isPart qc_0 rfl (As := [.int x1]) rfl rfl (Nat.le_of_ble_eq_true rfl) (Nat.le_of_ble_eq_true rfl) (Nat.le_of_ble_eq_true rfl) (Nat.le_of_ble_eq_true rfl) (fun v s1 hp => ?_)
  obtain ⟨rfl, hq⟩ := hp
  rw [hq]
  clear hq s1
  refine mj_if_eq 40 dX12_isPort_5 (by decide) (fun _ => ?_) (fun z => absurd (by decide) z)
  refine mj_iconst (v := 0) dX12_isPort_40 (by decide) ?_
  exact t_iret dX12_isPort_41 rfl (by decide) (hpost _ _ ⟨rfl, rfl⟩) (Nat.le_of_ble_eq_true rfl) (Nat.le_of_ble_eq_true rfl)

theorem dX12_value_0 : decode cX12_value 0 = .ok (.aload_n 0, 1) := by decide +kernel
theorem dX12_value_1 : decode cX12_value 1 = .ok (.getfield 121, 3) := by decide +kernel
theorem dX12_value_4 : decode cX12_value 4 = .ok (.ifCond .ne 5, 3) := by decide +kernel
theorem dX12_value_7 : decode cX12_value 7 = .ok (.iconst (-1), 1) := by decide +kernel
theorem dX12_value_8 : decode cX12_value 8 = .ok (.ireturn, 1) := by decide +kernel
set_option maxRecDepth 4000 in
set_option maxHeartbeats 400000 in
theorem N_X12_value (s : t_S) (h_I_0_12 : s.1 0 12 = 0) : t_C yX12_value cX12_value 2 (some .int) 0 [.ref 0] s (fun v s' => v = some (.int (-1)) ∧ s' = s) := by
  refine t_C.of (by decide +kernel) (Nat.le_of_ble_eq_true rfl) ?_
  intro D cy ad bs X
  suffices main : ∀ post : Option Value → t_S → Prop, (∀ v s', (v = some (.int (-1)) ∧ s' = s) → post v s') → mj_G D cy ad bs X cX12_value 2 yX12_value.cls (some .int) yX12_value.name 0 0 0 1065 (t_P post) 0 [(0, .ref 0)] [] (t_m s) 1065 0 0 from main _ (fun _ _ h => h)
  intro post hpost
  refine mj_aload_n dX12_value_0 0 rfl ?_
  refine t_getI dX12_value_1 F_X12_121 qf_0_12 ?_
  rw [h_I_0_12]
  refine mj_if_ne 9 dX12_value_4 (by decide) (fun z => absurd (by decide) z) (fun _ => ?_)
  refine mj_iconst (v := (-1)) dX12_value_7 (by decide) ?_
  exact t_iret dX12_value_8 rfl (by decide) (hpost _ _ ⟨rfl, rfl⟩) (Nat.le_of_ble_eq_true rfl) (Nat.le_of_ble_eq_true rfl)

theorem dX12_named_0 : decode cX12_named 0 = .ok (.aload_n 0, 1) := by decide +kernel
theorem dX12_named_1 : decode cX12_named 1 = .ok (.getfield 121, 3) := by decide +kernel
theorem dX12_named_17 : decode cX12_named 17 = .ok (.iconst (-1), 1) := by decide +kernel
theorem dX12_named_18 : decode cX12_named 18 = .ok (.ireturn, 1) := by decide +kernel
theorem dX12_named_4 : decode cX12_named 4 = .ok (.ifCond .eq 13, 3) := by decide +kernel
set_option maxRecDepth 4000 in
set_option maxHeartbeats 400000 in
theorem N_X12_named (s : t_S) (h_I_0_12 : s.1 0 12 = 0) : t_C yX12_named cX12_named 1 (some .int) 0 [.ref 0] s (fun v s' => v = some (.int (-1)) ∧ s' = s) := by
  refine t_C.of (by decide +kernel) (Nat.le_of_ble_eq_true rfl) ?_
  intro D cy ad bs X
  suffices main : ∀ post : Option Value → t_S → Prop, (∀ v s', (v = some (.int (-1)) ∧ s' = s) → post v s') → mj_G D cy ad bs X cX12_named 1 yX12_named.cls (some .int) yX12_named.name 0 0 0 1065 (t_P post) 0 [(0, .ref 0)] [] (t_m s) 1065 0 0 from main _ (fun _ _ h => h)
  intro post hpost
  refine mj_aload_n dX12_named_0 0 rfl ?_
  refine t_getI dX12_named_1 F_X12_121 qf_0_12 ?_
  rw [h_I_0_12]
  refine mj_if_eq 17 dX12_named_4 (by decide) (fun _ => ?_) (fun z => absurd (by decide) z)
  refine mj_iconst (v := (-1)) dX12_named_17 (by decide) ?_
  exact t_iret dX12_named_18 rfl (by decide) (hpost _ _ ⟨rfl, rfl⟩) (Nat.le_of_ble_eq_true rfl) (Nat.le_of_ble_eq_true rfl)

theorem dX12_drop_0 : decode cX12_drop 0 = .ok (.aload_n 0, 1) := by decide +kernel
theorem dX12_drop_1 : decode cX12_drop 1 = .ok (.getfield 19, 3) := by decide +kernel
theorem dX12_drop_10 : decode cX12_drop 10 = .ok (.iconst (-1), 1) := by decide +kernel
theorem dX12_drop_11 : decode cX12_drop 11 = .ok (.ireturn, 1) := by decide +kernel
theorem dX12_drop_4 : decode cX12_drop 4 = .ok (.getfield 107, 3) := by decide +kernel
theorem dX12_drop_7 : decode cX12_drop 7 = .ok (.ifCond .gt 5, 3) := by decide +kernel
set_option maxRecDepth 4000 in
set_option maxHeartbeats 400000 in
theorem N_X12_drop (s : t_S) (h_I_12_2 : s.1 12 2 = 0) : t_C yX12_drop cX12_drop 1 (some .int) 0 [.ref 0] s (fun v s' => v = some (.int (-1)) ∧ s' = s) := by
  refine t_C.of (by decide +kernel) (Nat.le_of_ble_eq_true rfl) ?_
  intro D cy ad bs X
  suffices main : ∀ post : Option Value → t_S → Prop, (∀ v s', (v = some (.int (-1)) ∧ s' = s) → post v s') → mj_G D cy ad bs X cX12_drop 1 yX12_drop.cls (some .int) yX12_drop.name 0 0 0 1065 (t_P post) 0 [(0, .ref 0)] [] (t_m s) 1065 0 0 from main _ (fun _ _ h => h)
  intro post hpost
  refine mj_aload_n dX12_drop_0 0 rfl ?_
  refine t_getR 12 dX12_drop_1 F_X12_19 qr_0_1 ?_
  refine t_getI dX12_drop_4 F_X12_107 qf_12_2 ?_
  rw [h_I_12_2]
  refine mj_if_gt 12 dX12_drop_7 (by decide) (fun z => absurd z (by decide)) (fun _ => ?_)
  refine mj_iconst (v := (-1)) dX12_drop_10 (by decide) ?_
  exact t_iret dX12_drop_11 rfl (by decide) (hpost _ _ ⟨rfl, rfl⟩) (Nat.le_of_ble_eq_true rfl) (Nat.le_of_ble_eq_true rfl)

theorem dX12_about_0 : decode cX12_about 0 = .ok (.aload_n 0, 1) := by decide +kernel
theorem dX12_about_1 : decode cX12_about 1 = .ok (.iload_n 1, 1) := by decide +kernel
theorem dX12_about_17 : decode cX12_about 17 = .ok (.iconst (-1), 1) := by decide +kernel
theorem dX12_about_18 : decode cX12_about 18 = .ok (.ireturn, 1) := by decide +kernel
theorem dX12_about_2 : decode cX12_about 2 = .ok (.invokevirtual 169, 3) := by decide +kernel
theorem dX12_about_5 : decode cX12_about 5 = .ok (.ifCond .eq 12, 3) := by decide +kernel
set_option maxRecDepth 4000 in
set_option maxHeartbeats 400000 in
theorem N_X12_about (s : t_S) (x1 : Int32) (x2 : Int32) (h_I_12_2 : s.1 12 2 = 0) : t_C yX12_about cX12_about 5 (some .int) 1 [.ref 0, .int x1, .int x2] s (fun v s' => v = some (.int (-1)) ∧ s' = s) := by
  refine t_C.of (by decide +kernel) (Nat.le_of_ble_eq_true rfl) ?_
  intro D cy ad bs X
  suffices main : ∀ post : Option Value → t_S → Prop, (∀ v s', (v = some (.int (-1)) ∧ s' = s) → post v s') → mj_G D cy ad bs X cX12_about 5 yX12_about.cls (some .int) yX12_about.name 1 0 0 1065 (t_P post) 0 [(0, .ref 0), (1, .int x1), (2, .int x2)] [] (t_m s) 1065 0 0 from main _ (fun _ _ h => h)
  intro post hpost
  refine mj_aload_n dX12_about_0 0 rfl ?_
  refine mj_iload_n dX12_about_1 1 rfl ?_
  refine t_callV dX12_about_2 M_X12_isKept (N_X12_isKept s x1 h_I_12_2) ML_X12_169 IM_X12_isKept SE_X12_isKept qc_0 rfl (As := [.int x1]) rfl rfl (Nat.le_of_ble_eq_true rfl) (Nat.le_of_ble_eq_true rfl) (Nat.le_of_ble_eq_true rfl) (Nat.le_of_ble_eq_true rfl) (fun v s1 hp => ?_)
  obtain ⟨rfl, hq⟩ := hp
  rw [hq]
  clear hq s1
  refine mj_if_eq 17 dX12_about_5 (by decide) (fun _ => ?_) (fun z => absurd (by decide) z)
  refine mj_iconst (v := (-1)) dX12_about_17 (by decide) ?_
  exact t_iret dX12_about_18 rfl (by decide) (hpost _ _ ⟨rfl, rfl⟩) (Nat.le_of_ble_eq_true rfl) (Nat.le_of_ble_eq_true rfl)

theorem dX12_alike_0 : decode cX12_alike 0 = .ok (.aload_n 0, 1) := by decide +kernel
theorem dX12_alike_1 : decode cX12_alike 1 = .ok (.iload_n 1, 1) := by decide +kernel
theorem dX12_alike_16 : decode cX12_alike 16 = .ok (.iconst (-1), 1) := by decide +kernel
theorem dX12_alike_17 : decode cX12_alike 17 = .ok (.ireturn, 1) := by decide +kernel
theorem dX12_alike_2 : decode cX12_alike 2 = .ok (.invokevirtual 169, 3) := by decide +kernel
theorem dX12_alike_5 : decode cX12_alike 5 = .ok (.ifCond .eq 11, 3) := by decide +kernel
set_option maxRecDepth 4000 in
set_option maxHeartbeats 400000 in
theorem N_X12_alike (s : t_S) (x1 : Int32) (x2 : Int32) (h_I_12_2 : s.1 12 2 = 0) : t_C yX12_alike cX12_alike 3 (some .int) 1 [.ref 0, .int x1, .int x2] s (fun v s' => v = some (.int (-1)) ∧ s' = s) := by
  refine t_C.of (by decide +kernel) (Nat.le_of_ble_eq_true rfl) ?_
  intro D cy ad bs X
  suffices main : ∀ post : Option Value → t_S → Prop, (∀ v s', (v = some (.int (-1)) ∧ s' = s) → post v s') → mj_G D cy ad bs X cX12_alike 3 yX12_alike.cls (some .int) yX12_alike.name 1 0 0 1065 (t_P post) 0 [(0, .ref 0), (1, .int x1), (2, .int x2)] [] (t_m s) 1065 0 0 from main _ (fun _ _ h => h)
  intro post hpost
  refine mj_aload_n dX12_alike_0 0 rfl ?_
  refine mj_iload_n dX12_alike_1 1 rfl ?_
  refine t_callV dX12_alike_2 M_X12_isKept (N_X12_isKept s x1 h_I_12_2) ML_X12_169 IM_X12_isKept SE_X12_isKept qc_0 rfl (As := [.int x1]) rfl rfl (Nat.le_of_ble_eq_true rfl) (Nat.le_of_ble_eq_true rfl) (Nat.le_of_ble_eq_true rfl) (Nat.le_of_ble_eq_true rfl) (fun v s1 hp => ?_)
  obtain ⟨rfl, hq⟩ := hp
  rw [hq]
  clear hq s1
  refine mj_if_eq 16 dX12_alike_5 (by decide) (fun _ => ?_) (fun z => absurd (by decide) z)
  refine mj_iconst (v := (-1)) dX12_alike_16 (by decide) ?_
  exact t_iret dX12_alike_17 rfl (by decide) (hpost _ _ ⟨rfl, rfl⟩) (Nat.le_of_ble_eq_true rfl) (Nat.le_of_ble_eq_true rfl)

theorem dX12_fits_0 : decode cX12_fits 0 = .ok (.aload_n 0, 1) := by decide +kernel
theorem dX12_fits_1 : decode cX12_fits 1 = .ok (.iload_n 1, 1) := by decide +kernel
theorem dX12_fits_16 : decode cX12_fits 16 = .ok (.iconst (-1), 1) := by decide +kernel
theorem dX12_fits_17 : decode cX12_fits 17 = .ok (.ireturn, 1) := by decide +kernel
theorem dX12_fits_2 : decode cX12_fits 2 = .ok (.invokevirtual 169, 3) := by decide +kernel
theorem dX12_fits_5 : decode cX12_fits 5 = .ok (.ifCond .eq 11, 3) := by decide +kernel
set_option maxRecDepth 4000 in
set_option maxHeartbeats 400000 in
theorem N_X12_fits (s : t_S) (x1 : Int32) (x2 : Int32) (h_I_12_2 : s.1 12 2 = 0) : t_C yX12_fits cX12_fits 3 (some .int) 1 [.ref 0, .int x1, .int x2] s (fun v s' => v = some (.int (-1)) ∧ s' = s) := by
  refine t_C.of (by decide +kernel) (Nat.le_of_ble_eq_true rfl) ?_
  intro D cy ad bs X
  suffices main : ∀ post : Option Value → t_S → Prop, (∀ v s', (v = some (.int (-1)) ∧ s' = s) → post v s') → mj_G D cy ad bs X cX12_fits 3 yX12_fits.cls (some .int) yX12_fits.name 1 0 0 1065 (t_P post) 0 [(0, .ref 0), (1, .int x1), (2, .int x2)] [] (t_m s) 1065 0 0 from main _ (fun _ _ h => h)
  intro post hpost
  refine mj_aload_n dX12_fits_0 0 rfl ?_
  refine mj_iload_n dX12_fits_1 1 rfl ?_
  refine t_callV dX12_fits_2 M_X12_isKept (N_X12_isKept s x1 h_I_12_2) ML_X12_169 IM_X12_isKept SE_X12_isKept qc_0 rfl (As := [.int x1]) rfl rfl (Nat.le_of_ble_eq_true rfl) (Nat.le_of_ble_eq_true rfl) (Nat.le_of_ble_eq_true rfl) (Nat.le_of_ble_eq_true rfl) (fun v s1 hp => ?_)
  obtain ⟨rfl, hq⟩ := hp
  rw [hq]
  clear hq s1
  refine mj_if_eq 16 dX12_fits_5 (by decide) (fun _ => ?_) (fun z => absurd (by decide) z)
  refine mj_iconst (v := (-1)) dX12_fits_16 (by decide) ?_
  exact t_iret dX12_fits_17 rfl (by decide) (hpost _ _ ⟨rfl, rfl⟩) (Nat.le_of_ble_eq_true rfl) (Nat.le_of_ble_eq_true rfl)

theorem dX12_within_0 : decode cX12_within 0 = .ok (.aload_n 0, 1) := by decide +kernel
theorem dX12_within_1 : decode cX12_within 1 = .ok (.iload_n 1, 1) := by decide +kernel
theorem dX12_within_16 : decode cX12_within 16 = .ok (.iconst (-1), 1) := by decide +kernel
theorem dX12_within_17 : decode cX12_within 17 = .ok (.ireturn, 1) := by decide +kernel
theorem dX12_within_2 : decode cX12_within 2 = .ok (.invokevirtual 196, 3) := by decide +kernel
theorem dX12_within_5 : decode cX12_within 5 = .ok (.ifCond .eq 11, 3) := by decide +kernel
set_option maxRecDepth 4000 in
set_option maxHeartbeats 400000 in
theorem N_X12_within (s : t_S) (x1 : Int32) (x2 : Int32) (h_I_0_12 : s.1 0 12 = 0) : t_C yX12_within cX12_within 3 (some .int) 1 [.ref 0, .int x1, .int x2] s (fun v s' => v = some (.int (-1)) ∧ s' = s) := by
  refine t_C.of (by decide +kernel) (Nat.le_of_ble_eq_true rfl) ?_
  intro D cy ad bs X
  suffices main : ∀ post : Option Value → t_S → Prop, (∀ v s', (v = some (.int (-1)) ∧ s' = s) → post v s') → mj_G D cy ad bs X cX12_within 3 yX12_within.cls (some .int) yX12_within.name 1 0 0 1065 (t_P post) 0 [(0, .ref 0), (1, .int x1), (2, .int x2)] [] (t_m s) 1065 0 0 from main _ (fun _ _ h => h)
  intro post hpost
  refine mj_aload_n dX12_within_0 0 rfl ?_
  refine mj_iload_n dX12_within_1 1 rfl ?_
  refine t_callV dX12_within_2 M_X12_isType (N_X12_isType s x1 h_I_0_12) ML_X12_196 IM_X12_isType SE_X12_isType qc_0 rfl (As := [.int x1]) rfl rfl (Nat.le_of_ble_eq_true rfl) (Nat.le_of_ble_eq_true rfl) (Nat.le_of_ble_eq_true rfl) (Nat.le_of_ble_eq_true rfl) (fun v s1 hp => ?_)
  obtain ⟨rfl, hq⟩ := hp
  rw [hq]
  clear hq s1
  refine mj_if_eq 16 dX12_within_5 (by decide) (fun _ => ?_) (fun z => absurd (by decide) z)
  refine mj_iconst (v := (-1)) dX12_within_16 (by decide) ?_
  exact t_iret dX12_within_17 rfl (by decide) (hpost _ _ ⟨rfl, rfl⟩) (Nat.le_of_ble_eq_true rfl) (Nat.le_of_ble_eq_true rfl)

theorem dX12_many_0 : decode cX12_many 0 = .ok (.aload_n 0, 1) := by decide +kernel
theorem dX12_many_1 : decode cX12_many 1 = .ok (.iload_n 1, 1) := by decide +kernel
theorem dX12_many_19 : decode cX12_many 19 = .ok (.ldc2_w 211, 3) := by decide +kernel
theorem dX12_many_2 : decode cX12_many 2 = .ok (.invokevirtual 196, 3) := by decide +kernel
theorem dX12_many_22 : decode cX12_many 22 = .ok (.lreturn, 1) := by decide +kernel
theorem dX12_many_5 : decode cX12_many 5 = .ok (.ifCond .eq 14, 3) := by decide +kernel
set_option maxRecDepth 4000 in
set_option maxHeartbeats 400000 in
theorem N_X12_many (s : t_S) (x1 : Int32) (x2 : Int32) (h_I_0_12 : s.1 0 12 = 0) : t_C yX12_many cX12_many 3 (some .long) 1 [.ref 0, .int x1, .int x2] s (fun v s' => v = some (.long (-1)) ∧ s' = s) := by
  refine t_C.of (by decide +kernel) (Nat.le_of_ble_eq_true rfl) ?_
  intro D cy ad bs X
  suffices main : ∀ post : Option Value → t_S → Prop, (∀ v s', (v = some (.long (-1)) ∧ s' = s) → post v s') → mj_G D cy ad bs X cX12_many 3 yX12_many.cls (some .long) yX12_many.name 1 0 0 1065 (t_P post) 0 [(0, .ref 0), (1, .int x1), (2, .int x2)] [] (t_m s) 1065 0 0 from main _ (fun _ _ h => h)
  intro post hpost
  refine mj_aload_n dX12_many_0 0 rfl ?_
  refine mj_iload_n dX12_many_1 1 rfl ?_
  refine t_callV dX12_many_2 M_X12_isType (N_X12_isType s x1 h_I_0_12) ML_X12_196 IM_X12_isType SE_X12_isType qc_0 rfl (As := [.int x1]) rfl rfl (Nat.le_of_ble_eq_true rfl) (Nat.le_of_ble_eq_true rfl) (Nat.le_of_ble_eq_true rfl) (Nat.le_of_ble_eq_true rfl) (fun v s1 hp => ?_)
  obtain ⟨rfl, hq⟩ := hp
  rw [hq]
  clear hq s1
  refine mj_if_eq 19 dX12_many_5 (by decide) (fun _ => ?_) (fun z => absurd (by decide) z)
  refine mj_ldc2 dX12_many_19 K_X12_211 ?_
  exact t_lret dX12_many_22 rfl (hpost _ _ ⟨rfl, rfl⟩) (Nat.le_of_ble_eq_true rfl) (Nat.le_of_ble_eq_true rfl)

theorem dX12_lightest_0 : decode cX12_lightest 0 = .ok (.aload_n 0, 1) := by decide +kernel
theorem dX12_lightest_1 : decode cX12_lightest 1 = .ok (.iload_n 1, 1) := by decide +kernel
theorem dX12_lightest_2 : decode cX12_lightest 2 = .ok (.invokevirtual 196, 3) := by decide +kernel
theorem dX12_lightest_5 : decode cX12_lightest 5 = .ok (.ifCond .ne 5, 3) := by decide +kernel
theorem dX12_lightest_8 : decode cX12_lightest 8 = .ok (.iconst (-1), 1) := by decide +kernel
theorem dX12_lightest_9 : decode cX12_lightest 9 = .ok (.ireturn, 1) := by decide +kernel
set_option maxRecDepth 4000 in
set_option maxHeartbeats 400000 in
theorem N_X12_lightest (s : t_S) (x1 : Int32) (h_I_0_12 : s.1 0 12 = 0) : t_C yX12_lightest cX12_lightest 3 (some .int) 1 [.ref 0, .int x1] s (fun v s' => v = some (.int (-1)) ∧ s' = s) := by
  refine t_C.of (by decide +kernel) (Nat.le_of_ble_eq_true rfl) ?_
  intro D cy ad bs X
  suffices main : ∀ post : Option Value → t_S → Prop, (∀ v s', (v = some (.int (-1)) ∧ s' = s) → post v s') → mj_G D cy ad bs X cX12_lightest 3 yX12_lightest.cls (some .int) yX12_lightest.name 1 0 0 1065 (t_P post) 0 [(0, .ref 0), (1, .int x1)] [] (t_m s) 1065 0 0 from main _ (fun _ _ h => h)
  intro post hpost
  refine mj_aload_n dX12_lightest_0 0 rfl ?_
  refine mj_iload_n dX12_lightest_1 1 rfl ?_
  refine t_callV dX12_lightest_2 M_X12_isType (N_X12_isType s x1 h_I_0_12) ML_X12_196 IM_X12_isType SE_X12_isType qc_0 rfl (As := [.int x1]) rfl rfl (Nat.le_of_ble_eq_true rfl) (Nat.le_of_ble_eq_true rfl) (Nat.le_of_ble_eq_true rfl) (Nat.le_of_ble_eq_true rfl) (fun v s1 hp => ?_)
  obtain ⟨rfl, hq⟩ := hp
  rw [hq]
  clear hq s1
  refine mj_if_ne 10 dX12_lightest_5 (by decide) (fun z => absurd (by decide) z) (fun _ => ?_)
  refine mj_iconst (v := (-1)) dX12_lightest_8 (by decide) ?_
  exact t_iret dX12_lightest_9 rfl (by decide) (hpost _ _ ⟨rfl, rfl⟩) (Nat.le_of_ble_eq_true rfl) (Nat.le_of_ble_eq_true rfl)

theorem dX12_tell_0 : decode cX12_tell 0 = .ok (.aload_n 0, 1) := by decide +kernel
theorem dX12_tell_1 : decode cX12_tell 1 = .ok (.iload_n 1, 1) := by decide +kernel
theorem dX12_tell_2 : decode cX12_tell 2 = .ok (.invokevirtual 169, 3) := by decide +kernel
theorem dX12_tell_5 : decode cX12_tell 5 = .ok (.ifCond .ne 5, 3) := by decide +kernel
theorem dX12_tell_8 : decode cX12_tell 8 = .ok (.iconst (-1), 1) := by decide +kernel
theorem dX12_tell_9 : decode cX12_tell 9 = .ok (.ireturn, 1) := by decide +kernel
set_option maxRecDepth 4000 in
set_option maxHeartbeats 400000 in
theorem N_X12_tell (s : t_S) (x1 : Int32) (h_I_12_2 : s.1 12 2 = 0) : t_C yX12_tell cX12_tell 2 (some .int) 1 [.ref 0, .int x1] s (fun v s' => v = some (.int (-1)) ∧ s' = s) := by
  refine t_C.of (by decide +kernel) (Nat.le_of_ble_eq_true rfl) ?_
  intro D cy ad bs X
  suffices main : ∀ post : Option Value → t_S → Prop, (∀ v s', (v = some (.int (-1)) ∧ s' = s) → post v s') → mj_G D cy ad bs X cX12_tell 2 yX12_tell.cls (some .int) yX12_tell.name 1 0 0 1065 (t_P post) 0 [(0, .ref 0), (1, .int x1)] [] (t_m s) 1065 0 0 from main _ (fun _ _ h => h)
  intro post hpost
  refine mj_aload_n dX12_tell_0 0 rfl ?_
  refine mj_iload_n dX12_tell_1 1 rfl ?_
  refine t_callV dX12_tell_2 M_X12_isKept (N_X12_isKept s x1 h_I_12_2) ML_X12_169 IM_X12_isKept SE_X12_isKept qc_0 rfl (As := [.int x1]) rfl rfl (Nat.le_of_ble_eq_true rfl) (Nat.le_of_ble_eq_true rfl) (Nat.le_of_ble_eq_true rfl) (Nat.le_of_ble_eq_true rfl) (fun v s1 hp => ?_)
  obtain ⟨rfl, hq⟩ := hp
  rw [hq]
  clear hq s1
  refine mj_if_ne 10 dX12_tell_5 (by decide) (fun z => absurd (by decide) z) (fun _ => ?_)
  refine mj_iconst (v := (-1)) dX12_tell_8 (by decide) ?_
  exact t_iret dX12_tell_9 rfl (by decide) (hpost _ _ ⟨rfl, rfl⟩) (Nat.le_of_ble_eq_true rfl) (Nat.le_of_ble_eq_true rfl)

theorem dX12_letter_0 : decode cX12_letter 0 = .ok (.iload_n 1, 1) := by decide +kernel
theorem dX12_letter_1 : decode cX12_letter 1 = .ok (.ifCond .lt 14, 3) := by decide +kernel
theorem dX12_letter_12 : decode cX12_letter 12 = .ok (.if_icmp .lt 8, 3) := by decide +kernel
theorem dX12_letter_15 : decode cX12_letter 15 = .ok (.bipush (-2), 2) := by decide +kernel
theorem dX12_letter_17 : decode cX12_letter 17 = .ok (.goto 12, 3) := by decide +kernel
theorem dX12_letter_29 : decode cX12_letter 29 = .ok (.ireturn, 1) := by decide +kernel
theorem dX12_letter_4 : decode cX12_letter 4 = .ok (.iload_n 1, 1) := by decide +kernel
theorem dX12_letter_5 : decode cX12_letter 5 = .ok (.aload_n 0, 1) := by decide +kernel
theorem dX12_letter_6 : decode cX12_letter 6 = .ok (.getfield 75, 3) := by decide +kernel
theorem dX12_letter_9 : decode cX12_letter 9 = .ok (.getfield 223, 3) := by decide +kernel
set_option maxRecDepth 4000 in
set_option maxHeartbeats 400000 in
theorem N_X12_letter (s : t_S) (x1 : Int32) (h_I_856_3 : s.1 856 3 = 0) : t_C yX12_letter cX12_letter 2 (some .int) 0 [.ref 0, .int x1] s (fun v s' => v = some (.int (-2)) ∧ s' = s) := by
  refine t_C.of (by decide +kernel) (Nat.le_of_ble_eq_true rfl) ?_
  intro D cy ad bs X
  suffices main : ∀ post : Option Value → t_S → Prop, (∀ v s', (v = some (.int (-2)) ∧ s' = s) → post v s') → mj_G D cy ad bs X cX12_letter 2 yX12_letter.cls (some .int) yX12_letter.name 0 0 0 1065 (t_P post) 0 [(0, .ref 0), (1, .int x1)] [] (t_m s) 1065 0 0 from main _ (fun _ _ h => h)
  intro post hpost
  refine mj_iload_n dX12_letter_0 1 rfl ?_
  refine mj_if_lt 15 dX12_letter_1 (by decide) (fun z1 => ?_) (fun z1 => ?_)
  · have z1i : x1.toInt < 0 := (t_lt (0) rfl).mp z1
    refine mj_bipush (v := (-2)) dX12_letter_15 (by decide) ?_
    refine mj_goto 29 dX12_letter_17 (by decide) ?_
    exact t_iret dX12_letter_29 rfl (by decide) (hpost _ _ ⟨rfl, rfl⟩) (Nat.le_of_ble_eq_true rfl) (Nat.le_of_ble_eq_true rfl)
  · have z1i : ¬ x1.toInt < 0 := fun q => z1 ((t_lt (0) rfl).mpr q)
    refine mj_iload_n dX12_letter_4 1 rfl ?_
    refine mj_aload_n dX12_letter_5 0 rfl ?_
    refine t_getR 856 dX12_letter_6 F_X12_75 qr_0_7 ?_
    refine t_getI dX12_letter_9 F_X12_223 qf_856_3 ?_
    rw [h_I_856_3]
    refine mj_icmp_lt 20 dX12_letter_12 (by decide) (fun z2 => ?_) (fun z2 => ?_)
    · have z2i : x1.toInt < 0 := (t_lt (0) rfl).mp z2
      exfalso; omega
    · have z2i : ¬ x1.toInt < 0 := fun q => z2 ((t_lt (0) rfl).mpr q)
      refine mj_bipush (v := (-2)) dX12_letter_15 (by decide) ?_
      refine mj_goto 29 dX12_letter_17 (by decide) ?_
      exact t_iret dX12_letter_29 rfl (by decide) (hpost _ _ ⟨rfl, rfl⟩) (Nat.le_of_ble_eq_true rfl) (Nat.le_of_ble_eq_true rfl)

theorem dX12_met_0 : decode cX12_met 0 = .ok (.aload_n 0, 1) := by decide +kernel
theorem dX12_met_1 : decode cX12_met 1 = .ok (.getfield 121, 3) := by decide +kernel
theorem dX12_met_30 : decode cX12_met 30 = .ok (.iconst (-1), 1) := by decide +kernel
theorem dX12_met_31 : decode cX12_met 31 = .ok (.ireturn, 1) := by decide +kernel
theorem dX12_met_4 : decode cX12_met 4 = .ok (.ifCond .eq 26, 3) := by decide +kernel
set_option maxRecDepth 4000 in
set_option maxHeartbeats 400000 in
theorem N_X12_met (s : t_S) (x1 : Int32) (x2 : Int32) (h_I_0_12 : s.1 0 12 = 0) : t_C yX12_met cX12_met 5 (some .int) 0 [.ref 0, .int x1, .int x2] s (fun v s' => v = some (.int (-1)) ∧ s' = s) := by
  refine t_C.of (by decide +kernel) (Nat.le_of_ble_eq_true rfl) ?_
  intro D cy ad bs X
  suffices main : ∀ post : Option Value → t_S → Prop, (∀ v s', (v = some (.int (-1)) ∧ s' = s) → post v s') → mj_G D cy ad bs X cX12_met 5 yX12_met.cls (some .int) yX12_met.name 0 0 0 1065 (t_P post) 0 [(0, .ref 0), (1, .int x1), (2, .int x2)] [] (t_m s) 1065 0 0 from main _ (fun _ _ h => h)
  intro post hpost
  refine mj_aload_n dX12_met_0 0 rfl ?_
  refine t_getI dX12_met_1 F_X12_121 qf_0_12 ?_
  rw [h_I_0_12]
  refine mj_if_eq 30 dX12_met_4 (by decide) (fun _ => ?_) (fun z => absurd (by decide) z)
  refine mj_iconst (v := (-1)) dX12_met_30 (by decide) ?_
  exact t_iret dX12_met_31 rfl (by decide) (hpost _ _ ⟨rfl, rfl⟩) (Nat.le_of_ble_eq_true rfl) (Nat.le_of_ble_eq_true rfl)

theorem dX12_why_0 : decode cX12_why 0 = .ok (.iload_n 1, 1) := by decide +kernel
theorem dX12_why_1 : decode cX12_why 1 = .ok (.ifCond .lt 14, 3) := by decide +kernel
theorem dX12_why_12 : decode cX12_why 12 = .ok (.if_icmp .lt 8, 3) := by decide +kernel
theorem dX12_why_15 : decode cX12_why 15 = .ok (.bipush (-2), 2) := by decide +kernel
theorem dX12_why_17 : decode cX12_why 17 = .ok (.goto 12, 3) := by decide +kernel
theorem dX12_why_29 : decode cX12_why 29 = .ok (.ireturn, 1) := by decide +kernel
theorem dX12_why_4 : decode cX12_why 4 = .ok (.iload_n 1, 1) := by decide +kernel
theorem dX12_why_5 : decode cX12_why 5 = .ok (.aload_n 0, 1) := by decide +kernel
theorem dX12_why_6 : decode cX12_why 6 = .ok (.getfield 44, 3) := by decide +kernel
theorem dX12_why_9 : decode cX12_why 9 = .ok (.getfield 242, 3) := by decide +kernel
set_option maxRecDepth 4000 in
set_option maxHeartbeats 400000 in
theorem N_X12_why (s : t_S) (x1 : Int32) (h_I_353_17 : s.1 353 17 = 0) : t_C yX12_why cX12_why 2 (some .int) 0 [.ref 0, .int x1] s (fun v s' => v = some (.int (-2)) ∧ s' = s) := by
  refine t_C.of (by decide +kernel) (Nat.le_of_ble_eq_true rfl) ?_
  intro D cy ad bs X
  suffices main : ∀ post : Option Value → t_S → Prop, (∀ v s', (v = some (.int (-2)) ∧ s' = s) → post v s') → mj_G D cy ad bs X cX12_why 2 yX12_why.cls (some .int) yX12_why.name 0 0 0 1065 (t_P post) 0 [(0, .ref 0), (1, .int x1)] [] (t_m s) 1065 0 0 from main _ (fun _ _ h => h)
  intro post hpost
  refine mj_iload_n dX12_why_0 1 rfl ?_
  refine mj_if_lt 15 dX12_why_1 (by decide) (fun z1 => ?_) (fun z1 => ?_)
  · have z1i : x1.toInt < 0 := (t_lt (0) rfl).mp z1
    refine mj_bipush (v := (-2)) dX12_why_15 (by decide) ?_
    refine mj_goto 29 dX12_why_17 (by decide) ?_
    exact t_iret dX12_why_29 rfl (by decide) (hpost _ _ ⟨rfl, rfl⟩) (Nat.le_of_ble_eq_true rfl) (Nat.le_of_ble_eq_true rfl)
  · have z1i : ¬ x1.toInt < 0 := fun q => z1 ((t_lt (0) rfl).mpr q)
    refine mj_iload_n dX12_why_4 1 rfl ?_
    refine mj_aload_n dX12_why_5 0 rfl ?_
    refine t_getR 353 dX12_why_6 F_X12_44 qr_0_4 ?_
    refine t_getI dX12_why_9 F_X12_242 qf_353_17 ?_
    rw [h_I_353_17]
    refine mj_icmp_lt 20 dX12_why_12 (by decide) (fun z2 => ?_) (fun z2 => ?_)
    · have z2i : x1.toInt < 0 := (t_lt (0) rfl).mp z2
      exfalso; omega
    · have z2i : ¬ x1.toInt < 0 := fun q => z2 ((t_lt (0) rfl).mpr q)
      refine mj_bipush (v := (-2)) dX12_why_15 (by decide) ?_
      refine mj_goto 29 dX12_why_17 (by decide) ?_
      exact t_iret dX12_why_29 rfl (by decide) (hpost _ _ ⟨rfl, rfl⟩) (Nat.le_of_ble_eq_true rfl) (Nat.le_of_ble_eq_true rfl)

theorem dX12_encode_0 : decode cX12_encode 0 = .ok (.aload_n 0, 1) := by decide +kernel
theorem dX12_encode_1 : decode cX12_encode 1 = .ok (.iload_n 1, 1) := by decide +kernel
theorem dX12_encode_16 : decode cX12_encode 16 = .ok (.iconst (-1), 1) := by decide +kernel
theorem dX12_encode_17 : decode cX12_encode 17 = .ok (.ireturn, 1) := by decide +kernel
theorem dX12_encode_2 : decode cX12_encode 2 = .ok (.invokevirtual 169, 3) := by decide +kernel
theorem dX12_encode_5 : decode cX12_encode 5 = .ok (.ifCond .eq 11, 3) := by decide +kernel
set_option maxRecDepth 4000 in
set_option maxHeartbeats 400000 in
theorem N_X12_encode (s : t_S) (x1 : Int32) (x2 : Int32) (h_I_12_2 : s.1 12 2 = 0) : t_C yX12_encode cX12_encode 4 (some .int) 1 [.ref 0, .int x1, .int x2] s (fun v s' => v = some (.int (-1)) ∧ s' = s) := by
  refine t_C.of (by decide +kernel) (Nat.le_of_ble_eq_true rfl) ?_
  intro D cy ad bs X
  suffices main : ∀ post : Option Value → t_S → Prop, (∀ v s', (v = some (.int (-1)) ∧ s' = s) → post v s') → mj_G D cy ad bs X cX12_encode 4 yX12_encode.cls (some .int) yX12_encode.name 1 0 0 1065 (t_P post) 0 [(0, .ref 0), (1, .int x1), (2, .int x2)] [] (t_m s) 1065 0 0 from main _ (fun _ _ h => h)
  intro post hpost
  refine mj_aload_n dX12_encode_0 0 rfl ?_
  refine mj_iload_n dX12_encode_1 1 rfl ?_
  refine t_callV dX12_encode_2 M_X12_isKept (N_X12_isKept s x1 h_I_12_2) ML_X12_169 IM_X12_isKept SE_X12_isKept qc_0 rfl (As := [.int x1]) rfl rfl (Nat.le_of_ble_eq_true rfl) (Nat.le_of_ble_eq_true rfl) (Nat.le_of_ble_eq_true rfl) (Nat.le_of_ble_eq_true rfl) (fun v s1 hp => ?_)
  obtain ⟨rfl, hq⟩ := hp
  rw [hq]
  clear hq s1
  refine mj_if_eq 16 dX12_encode_5 (by decide) (fun _ => ?_) (fun z => absurd (by decide) z)
  refine mj_iconst (v := (-1)) dX12_encode_16 (by decide) ?_
  exact t_iret dX12_encode_17 rfl (by decide) (hpost _ _ ⟨rfl, rfl⟩) (Nat.le_of_ble_eq_true rfl) (Nat.le_of_ble_eq_true rfl)

theorem dX12_bit_0 : decode cX12_bit 0 = .ok (.iload_n 1, 1) := by decide +kernel
theorem dX12_bit_1 : decode cX12_bit 1 = .ok (.ifCond .lt 14, 3) := by decide +kernel
theorem dX12_bit_12 : decode cX12_bit 12 = .ok (.if_icmp .lt 8, 3) := by decide +kernel
theorem dX12_bit_15 : decode cX12_bit 15 = .ok (.bipush (-2), 2) := by decide +kernel
theorem dX12_bit_17 : decode cX12_bit 17 = .ok (.goto 12, 3) := by decide +kernel
theorem dX12_bit_29 : decode cX12_bit 29 = .ok (.ireturn, 1) := by decide +kernel
theorem dX12_bit_4 : decode cX12_bit 4 = .ok (.iload_n 1, 1) := by decide +kernel
theorem dX12_bit_5 : decode cX12_bit 5 = .ok (.aload_n 0, 1) := by decide +kernel
theorem dX12_bit_6 : decode cX12_bit 6 = .ok (.getfield 75, 3) := by decide +kernel
theorem dX12_bit_9 : decode cX12_bit 9 = .ok (.getfield 148, 3) := by decide +kernel
set_option maxRecDepth 4000 in
set_option maxHeartbeats 400000 in
theorem N_X12_bit (s : t_S) (x1 : Int32) (h_I_856_5 : s.1 856 5 = 0) : t_C yX12_bit cX12_bit 2 (some .int) 0 [.ref 0, .int x1] s (fun v s' => v = some (.int (-2)) ∧ s' = s) := by
  refine t_C.of (by decide +kernel) (Nat.le_of_ble_eq_true rfl) ?_
  intro D cy ad bs X
  suffices main : ∀ post : Option Value → t_S → Prop, (∀ v s', (v = some (.int (-2)) ∧ s' = s) → post v s') → mj_G D cy ad bs X cX12_bit 2 yX12_bit.cls (some .int) yX12_bit.name 0 0 0 1065 (t_P post) 0 [(0, .ref 0), (1, .int x1)] [] (t_m s) 1065 0 0 from main _ (fun _ _ h => h)
  intro post hpost
  refine mj_iload_n dX12_bit_0 1 rfl ?_
  refine mj_if_lt 15 dX12_bit_1 (by decide) (fun z1 => ?_) (fun z1 => ?_)
  · have z1i : x1.toInt < 0 := (t_lt (0) rfl).mp z1
    refine mj_bipush (v := (-2)) dX12_bit_15 (by decide) ?_
    refine mj_goto 29 dX12_bit_17 (by decide) ?_
    exact t_iret dX12_bit_29 rfl (by decide) (hpost _ _ ⟨rfl, rfl⟩) (Nat.le_of_ble_eq_true rfl) (Nat.le_of_ble_eq_true rfl)
  · have z1i : ¬ x1.toInt < 0 := fun q => z1 ((t_lt (0) rfl).mpr q)
    refine mj_iload_n dX12_bit_4 1 rfl ?_
    refine mj_aload_n dX12_bit_5 0 rfl ?_
    refine t_getR 856 dX12_bit_6 F_X12_75 qr_0_7 ?_
    refine t_getI dX12_bit_9 F_X12_148 qf_856_5 ?_
    rw [h_I_856_5]
    refine mj_icmp_lt 20 dX12_bit_12 (by decide) (fun z2 => ?_) (fun z2 => ?_)
    · have z2i : x1.toInt < 0 := (t_lt (0) rfl).mp z2
      exfalso; omega
    · have z2i : ¬ x1.toInt < 0 := fun q => z2 ((t_lt (0) rfl).mpr q)
      refine mj_bipush (v := (-2)) dX12_bit_15 (by decide) ?_
      refine mj_goto 29 dX12_bit_17 (by decide) ?_
      exact t_iret dX12_bit_29 rfl (by decide) (hpost _ _ ⟨rfl, rfl⟩) (Nat.le_of_ble_eq_true rfl) (Nat.le_of_ble_eq_true rfl)

theorem dX12_decode_0 : decode cX12_decode 0 = .ok (.aload_n 0, 1) := by decide +kernel
theorem dX12_decode_1 : decode cX12_decode 1 = .ok (.iload_n 1, 1) := by decide +kernel
theorem dX12_decode_2 : decode cX12_decode 2 = .ok (.invokevirtual 196, 3) := by decide +kernel
theorem dX12_decode_5 : decode cX12_decode 5 = .ok (.ifCond .ne 5, 3) := by decide +kernel
theorem dX12_decode_8 : decode cX12_decode 8 = .ok (.iconst (-1), 1) := by decide +kernel
theorem dX12_decode_9 : decode cX12_decode 9 = .ok (.ireturn, 1) := by decide +kernel
set_option maxRecDepth 4000 in
set_option maxHeartbeats 400000 in
theorem N_X12_decode (s : t_S) (x1 : Int32) (h_I_0_12 : s.1 0 12 = 0) : t_C yX12_decode cX12_decode 3 (some .int) 1 [.ref 0, .int x1] s (fun v s' => v = some (.int (-1)) ∧ s' = s) := by
  refine t_C.of (by decide +kernel) (Nat.le_of_ble_eq_true rfl) ?_
  intro D cy ad bs X
  suffices main : ∀ post : Option Value → t_S → Prop, (∀ v s', (v = some (.int (-1)) ∧ s' = s) → post v s') → mj_G D cy ad bs X cX12_decode 3 yX12_decode.cls (some .int) yX12_decode.name 1 0 0 1065 (t_P post) 0 [(0, .ref 0), (1, .int x1)] [] (t_m s) 1065 0 0 from main _ (fun _ _ h => h)
  intro post hpost
  refine mj_aload_n dX12_decode_0 0 rfl ?_
  refine mj_iload_n dX12_decode_1 1 rfl ?_
  refine t_callV dX12_decode_2 M_X12_isType (N_X12_isType s x1 h_I_0_12) ML_X12_196 IM_X12_isType SE_X12_isType qc_0 rfl (As := [.int x1]) rfl rfl (Nat.le_of_ble_eq_true rfl) (Nat.le_of_ble_eq_true rfl) (Nat.le_of_ble_eq_true rfl) (Nat.le_of_ble_eq_true rfl) (fun v s1 hp => ?_)
  obtain ⟨rfl, hq⟩ := hp
  rw [hq]
  clear hq s1
  refine mj_if_ne 10 dX12_decode_5 (by decide) (fun z => absurd (by decide) z) (fun _ => ?_)
  refine mj_iconst (v := (-1)) dX12_decode_8 (by decide) ?_
  exact t_iret dX12_decode_9 rfl (by decide) (hpost _ _ ⟨rfl, rfl⟩) (Nat.le_of_ble_eq_true rfl) (Nat.le_of_ble_eq_true rfl)

theorem dX12_begin_0 : decode cX12_begin 0 = .ok (.aload_n 0, 1) := by decide +kernel
theorem dX12_begin_1 : decode cX12_begin 1 = .ok (.getfield 121, 3) := by decide +kernel
theorem dX12_begin_35 : decode cX12_begin 35 = .ok (.iconst (-1), 1) := by decide +kernel
theorem dX12_begin_36 : decode cX12_begin 36 = .ok (.ireturn, 1) := by decide +kernel
theorem dX12_begin_4 : decode cX12_begin 4 = .ok (.ifCond .eq 31, 3) := by decide +kernel
set_option maxRecDepth 4000 in
set_option maxHeartbeats 400000 in
theorem N_X12_begin (s : t_S) (x1 : Int32) (h_I_0_12 : s.1 0 12 = 0) : t_C yX12_begin cX12_begin 2 (some .int) 0 [.ref 0, .int x1] s (fun v s' => v = some (.int (-1)) ∧ s' = s) := by
  refine t_C.of (by decide +kernel) (Nat.le_of_ble_eq_true rfl) ?_
  intro D cy ad bs X
  suffices main : ∀ post : Option Value → t_S → Prop, (∀ v s', (v = some (.int (-1)) ∧ s' = s) → post v s') → mj_G D cy ad bs X cX12_begin 2 yX12_begin.cls (some .int) yX12_begin.name 0 0 0 1065 (t_P post) 0 [(0, .ref 0), (1, .int x1)] [] (t_m s) 1065 0 0 from main _ (fun _ _ h => h)
  intro post hpost
  refine mj_aload_n dX12_begin_0 0 rfl ?_
  refine t_getI dX12_begin_1 F_X12_121 qf_0_12 ?_
  rw [h_I_0_12]
  refine mj_if_eq 35 dX12_begin_4 (by decide) (fun _ => ?_) (fun z => absurd (by decide) z)
  refine mj_iconst (v := (-1)) dX12_begin_35 (by decide) ?_
  exact t_iret dX12_begin_36 rfl (by decide) (hpost _ _ ⟨rfl, rfl⟩) (Nat.le_of_ble_eq_true rfl) (Nat.le_of_ble_eq_true rfl)

theorem dX12_run_0 : decode cX12_run 0 = .ok (.aload_n 0, 1) := by decide +kernel
theorem dX12_run_1 : decode cX12_run 1 = .ok (.iload_n 1, 1) := by decide +kernel
theorem dX12_run_19 : decode cX12_run 19 = .ok (.iconst (-1), 1) := by decide +kernel
theorem dX12_run_2 : decode cX12_run 2 = .ok (.invokevirtual 271, 3) := by decide +kernel
theorem dX12_run_20 : decode cX12_run 20 = .ok (.ireturn, 1) := by decide +kernel
theorem dX12_run_5 : decode cX12_run 5 = .ok (.ifCond .eq 14, 3) := by decide +kernel
set_option maxRecDepth 4000 in
set_option maxHeartbeats 400000 in
theorem N_X12_run (s : t_S) (x1 : Int32) (x2 : Int32) (h_I_864_8 : s.1 864 8 = 0) : t_C yX12_run cX12_run 4 (some .int) 1 [.ref 0, .int x1, .int x2] s (fun v s' => v = some (.int (-1)) ∧ s' = s) := by
  refine t_C.of (by decide +kernel) (Nat.le_of_ble_eq_true rfl) ?_
  intro D cy ad bs X
  suffices main : ∀ post : Option Value → t_S → Prop, (∀ v s', (v = some (.int (-1)) ∧ s' = s) → post v s') → mj_G D cy ad bs X cX12_run 4 yX12_run.cls (some .int) yX12_run.name 1 0 0 1065 (t_P post) 0 [(0, .ref 0), (1, .int x1), (2, .int x2)] [] (t_m s) 1065 0 0 from main _ (fun _ _ h => h)
  intro post hpost
  refine mj_aload_n dX12_run_0 0 rfl ?_
  refine mj_iload_n dX12_run_1 1 rfl ?_
  refine t_callV dX12_run_2 M_X12_isPart (N_X12_isPart s x1 h_I_864_8) ML_X12_271 IM_X12_isPart SE_X12_isPart qc_0 rfl (As := [.int x1]) rfl rfl (Nat.le_of_ble_eq_true rfl) (Nat.le_of_ble_eq_true rfl) (Nat.le_of_ble_eq_true rfl) (Nat.le_of_ble_eq_true rfl) (fun v s1 hp => ?_)
  obtain ⟨rfl, hq⟩ := hp
  rw [hq]
  clear hq s1
  refine mj_if_eq 19 dX12_run_5 (by decide) (fun _ => ?_) (fun z => absurd (by decide) z)
  refine mj_iconst (v := (-1)) dX12_run_19 (by decide) ?_
  exact t_iret dX12_run_20 rfl (by decide) (hpost _ _ ⟨rfl, rfl⟩) (Nat.le_of_ble_eq_true rfl) (Nat.le_of_ble_eq_true rfl)

theorem dX12_clock_0 : decode cX12_clock 0 = .ok (.aload_n 0, 1) := by decide +kernel
theorem dX12_clock_1 : decode cX12_clock 1 = .ok (.getfield 84, 3) := by decide +kernel
theorem dX12_clock_21 : decode cX12_clock 21 = .ok (.iconst (-1), 1) := by decide +kernel
theorem dX12_clock_22 : decode cX12_clock 22 = .ok (.ireturn, 1) := by decide +kernel
theorem dX12_clock_4 : decode cX12_clock 4 = .ok (.getfield 277, 3) := by decide +kernel
theorem dX12_clock_7 : decode cX12_clock 7 = .ok (.ifCond .eq 14, 3) := by decide +kernel
set_option maxRecDepth 4000 in
set_option maxHeartbeats 400000 in
theorem N_X12_clock (s : t_S) (x1 : Int32) (h_I_864_8 : s.1 864 8 = 0) : t_C yX12_clock cX12_clock 2 (some .int) 0 [.ref 0, .int x1] s (fun v s' => v = some (.int (-1)) ∧ s' = s) := by
  refine t_C.of (by decide +kernel) (Nat.le_of_ble_eq_true rfl) ?_
  intro D cy ad bs X
  suffices main : ∀ post : Option Value → t_S → Prop, (∀ v s', (v = some (.int (-1)) ∧ s' = s) → post v s') → mj_G D cy ad bs X cX12_clock 2 yX12_clock.cls (some .int) yX12_clock.name 0 0 0 1065 (t_P post) 0 [(0, .ref 0), (1, .int x1)] [] (t_m s) 1065 0 0 from main _ (fun _ _ h => h)
  intro post hpost
  refine mj_aload_n dX12_clock_0 0 rfl ?_
  refine t_getR 864 dX12_clock_1 F_X12_84 qr_0_8 ?_
  refine t_getI dX12_clock_4 F_X12_277 qf_864_8 ?_
  rw [h_I_864_8]
  refine mj_if_eq 21 dX12_clock_7 (by decide) (fun _ => ?_) (fun z => absurd (by decide) z)
  refine mj_iconst (v := (-1)) dX12_clock_21 (by decide) ?_
  exact t_iret dX12_clock_22 rfl (by decide) (hpost _ _ ⟨rfl, rfl⟩) (Nat.le_of_ble_eq_true rfl) (Nat.le_of_ble_eq_true rfl)

theorem dX12_give_0 : decode cX12_give 0 = .ok (.aload_n 0, 1) := by decide +kernel
theorem dX12_give_1 : decode cX12_give 1 = .ok (.iload_n 1, 1) := by decide +kernel
theorem dX12_give_17 : decode cX12_give 17 = .ok (.iconst (-1), 1) := by decide +kernel
theorem dX12_give_18 : decode cX12_give 18 = .ok (.ireturn, 1) := by decide +kernel
theorem dX12_give_2 : decode cX12_give 2 = .ok (.iload_n 2, 1) := by decide +kernel
theorem dX12_give_3 : decode cX12_give 3 = .ok (.invokevirtual 286, 3) := by decide +kernel
theorem dX12_give_6 : decode cX12_give 6 = .ok (.ifCond .eq 11, 3) := by decide +kernel
set_option maxRecDepth 4000 in
set_option maxHeartbeats 400000 in
theorem N_X12_give (s : t_S) (x1 : Int32) (x2 : Int32) (x3 : Int32) (h_I_864_8 : s.1 864 8 = 0) : t_C yX12_give cX12_give 4 (some .int) 2 [.ref 0, .int x1, .int x2, .int x3] s (fun v s' => v = some (.int (-1)) ∧ s' = s) := by
  refine t_C.of (by decide +kernel) (Nat.le_of_ble_eq_true rfl) ?_
  intro D cy ad bs X
  suffices main : ∀ post : Option Value → t_S → Prop, (∀ v s', (v = some (.int (-1)) ∧ s' = s) → post v s') → mj_G D cy ad bs X cX12_give 4 yX12_give.cls (some .int) yX12_give.name 2 0 0 1065 (t_P post) 0 [(0, .ref 0), (1, .int x1), (2, .int x2), (3, .int x3)] [] (t_m s) 1065 0 0 from main _ (fun _ _ h => h)
  intro post hpost
  refine mj_aload_n dX12_give_0 0 rfl ?_
  refine mj_iload_n dX12_give_1 1 rfl ?_
  refine mj_iload_n dX12_give_2 2 rfl ?_
  refine t_callV dX12_give_3 M_X12_isPort (N_X12_isPort s x1 x2 h_I_864_8) ML_X12_286 IM_X12_isPort SE_X12_isPort qc_0 rfl (As := [.int x1, .int x2]) rfl rfl (Nat.le_of_ble_eq_true rfl) (Nat.le_of_ble_eq_true rfl) (Nat.le_of_ble_eq_true rfl) (Nat.le_of_ble_eq_true rfl) (fun v s1 hp => ?_)
  obtain ⟨rfl, hq⟩ := hp
  rw [hq]
  clear hq s1
  refine mj_if_eq 17 dX12_give_6 (by decide) (fun _ => ?_) (fun z => absurd (by decide) z)
  refine mj_iconst (v := (-1)) dX12_give_17 (by decide) ?_
  exact t_iret dX12_give_18 rfl (by decide) (hpost _ _ ⟨rfl, rfl⟩) (Nat.le_of_ble_eq_true rfl) (Nat.le_of_ble_eq_true rfl)

theorem dX12_state_0 : decode cX12_state 0 = .ok (.aload_n 0, 1) := by decide +kernel
theorem dX12_state_1 : decode cX12_state 1 = .ok (.iload_n 1, 1) := by decide +kernel
theorem dX12_state_2 : decode cX12_state 2 = .ok (.invokevirtual 271, 3) := by decide +kernel
theorem dX12_state_5 : decode cX12_state 5 = .ok (.ifCond .ne 5, 3) := by decide +kernel
theorem dX12_state_8 : decode cX12_state 8 = .ok (.iconst (-1), 1) := by decide +kernel
theorem dX12_state_9 : decode cX12_state 9 = .ok (.ireturn, 1) := by decide +kernel
set_option maxRecDepth 4000 in
set_option maxHeartbeats 400000 in
theorem N_X12_state (s : t_S) (x1 : Int32) (x2 : Int32) (h_I_864_8 : s.1 864 8 = 0) : t_C yX12_state cX12_state 4 (some .int) 1 [.ref 0, .int x1, .int x2] s (fun v s' => v = some (.int (-1)) ∧ s' = s) := by
  refine t_C.of (by decide +kernel) (Nat.le_of_ble_eq_true rfl) ?_
  intro D cy ad bs X
  suffices main : ∀ post : Option Value → t_S → Prop, (∀ v s', (v = some (.int (-1)) ∧ s' = s) → post v s') → mj_G D cy ad bs X cX12_state 4 yX12_state.cls (some .int) yX12_state.name 1 0 0 1065 (t_P post) 0 [(0, .ref 0), (1, .int x1), (2, .int x2)] [] (t_m s) 1065 0 0 from main _ (fun _ _ h => h)
  intro post hpost
  refine mj_aload_n dX12_state_0 0 rfl ?_
  refine mj_iload_n dX12_state_1 1 rfl ?_
  refine t_callV dX12_state_2 M_X12_isPart (N_X12_isPart s x1 h_I_864_8) ML_X12_271 IM_X12_isPart SE_X12_isPart qc_0 rfl (As := [.int x1]) rfl rfl (Nat.le_of_ble_eq_true rfl) (Nat.le_of_ble_eq_true rfl) (Nat.le_of_ble_eq_true rfl) (Nat.le_of_ble_eq_true rfl) (fun v s1 hp => ?_)
  obtain ⟨rfl, hq⟩ := hp
  rw [hq]
  clear hq s1
  refine mj_if_ne 10 dX12_state_5 (by decide) (fun z => absurd (by decide) z) (fun _ => ?_)
  refine mj_iconst (v := (-1)) dX12_state_8 (by decide) ?_
  exact t_iret dX12_state_9 rfl (by decide) (hpost _ _ ⟨rfl, rfl⟩) (Nat.le_of_ble_eq_true rfl) (Nat.le_of_ble_eq_true rfl)

theorem dX12_all_0 : decode cX12_all 0 = .ok (.aload_n 0, 1) := by decide +kernel
theorem dX12_all_1 : decode cX12_all 1 = .ok (.getfield 84, 3) := by decide +kernel
theorem dX12_all_10 : decode cX12_all 10 = .ok (.ldc2_w 211, 3) := by decide +kernel
theorem dX12_all_13 : decode cX12_all 13 = .ok (.lreturn, 1) := by decide +kernel
theorem dX12_all_4 : decode cX12_all 4 = .ok (.getfield 277, 3) := by decide +kernel
theorem dX12_all_7 : decode cX12_all 7 = .ok (.ifCond .ne 7, 3) := by decide +kernel
set_option maxRecDepth 4000 in
set_option maxHeartbeats 400000 in
theorem N_X12_all (s : t_S) (x1 : Int32) (h_I_864_8 : s.1 864 8 = 0) : t_C yX12_all cX12_all 2 (some .long) 0 [.ref 0, .int x1] s (fun v s' => v = some (.long (-1)) ∧ s' = s) := by
  refine t_C.of (by decide +kernel) (Nat.le_of_ble_eq_true rfl) ?_
  intro D cy ad bs X
  suffices main : ∀ post : Option Value → t_S → Prop, (∀ v s', (v = some (.long (-1)) ∧ s' = s) → post v s') → mj_G D cy ad bs X cX12_all 2 yX12_all.cls (some .long) yX12_all.name 0 0 0 1065 (t_P post) 0 [(0, .ref 0), (1, .int x1)] [] (t_m s) 1065 0 0 from main _ (fun _ _ h => h)
  intro post hpost
  refine mj_aload_n dX12_all_0 0 rfl ?_
  refine t_getR 864 dX12_all_1 F_X12_84 qr_0_8 ?_
  refine t_getI dX12_all_4 F_X12_277 qf_864_8 ?_
  rw [h_I_864_8]
  refine mj_if_ne 14 dX12_all_7 (by decide) (fun z => absurd (by decide) z) (fun _ => ?_)
  refine mj_ldc2 dX12_all_10 K_X12_211 ?_
  exact t_lret dX12_all_13 rfl (hpost _ _ ⟨rfl, rfl⟩) (Nat.le_of_ble_eq_true rfl) (Nat.le_of_ble_eq_true rfl)

theorem dX12_queue_0 : decode cX12_queue 0 = .ok (.aload_n 0, 1) := by decide +kernel
theorem dX12_queue_1 : decode cX12_queue 1 = .ok (.iload_n 1, 1) := by decide +kernel
theorem dX12_queue_2 : decode cX12_queue 2 = .ok (.iload_n 2, 1) := by decide +kernel
theorem dX12_queue_26 : decode cX12_queue 26 = .ok (.iconst (-1), 1) := by decide +kernel
theorem dX12_queue_27 : decode cX12_queue 27 = .ok (.ireturn, 1) := by decide +kernel
theorem dX12_queue_3 : decode cX12_queue 3 = .ok (.invokevirtual 286, 3) := by decide +kernel
theorem dX12_queue_6 : decode cX12_queue 6 = .ok (.ifCond .eq 20, 3) := by decide +kernel
set_option maxRecDepth 4000 in
set_option maxHeartbeats 400000 in
theorem N_X12_queue (s : t_S) (x1 : Int32) (x2 : Int32) (h_I_864_8 : s.1 864 8 = 0) : t_C yX12_queue cX12_queue 3 (some .int) 2 [.ref 0, .int x1, .int x2] s (fun v s' => v = some (.int (-1)) ∧ s' = s) := by
  refine t_C.of (by decide +kernel) (Nat.le_of_ble_eq_true rfl) ?_
  intro D cy ad bs X
  suffices main : ∀ post : Option Value → t_S → Prop, (∀ v s', (v = some (.int (-1)) ∧ s' = s) → post v s') → mj_G D cy ad bs X cX12_queue 3 yX12_queue.cls (some .int) yX12_queue.name 2 0 0 1065 (t_P post) 0 [(0, .ref 0), (1, .int x1), (2, .int x2)] [] (t_m s) 1065 0 0 from main _ (fun _ _ h => h)
  intro post hpost
  refine mj_aload_n dX12_queue_0 0 rfl ?_
  refine mj_iload_n dX12_queue_1 1 rfl ?_
  refine mj_iload_n dX12_queue_2 2 rfl ?_
  refine t_callV dX12_queue_3 M_X12_isPort (N_X12_isPort s x1 x2 h_I_864_8) ML_X12_286 IM_X12_isPort SE_X12_isPort qc_0 rfl (As := [.int x1, .int x2]) rfl rfl (Nat.le_of_ble_eq_true rfl) (Nat.le_of_ble_eq_true rfl) (Nat.le_of_ble_eq_true rfl) (Nat.le_of_ble_eq_true rfl) (fun v s1 hp => ?_)
  obtain ⟨rfl, hq⟩ := hp
  rw [hq]
  clear hq s1
  refine mj_if_eq 26 dX12_queue_6 (by decide) (fun _ => ?_) (fun z => absurd (by decide) z)
  refine mj_iconst (v := (-1)) dX12_queue_26 (by decide) ?_
  exact t_iret dX12_queue_27 rfl (by decide) (hpost _ _ ⟨rfl, rfl⟩) (Nat.le_of_ble_eq_true rfl) (Nat.le_of_ble_eq_true rfl)

theorem dX12_queued_0 : decode cX12_queued 0 = .ok (.aload_n 0, 1) := by decide +kernel
theorem dX12_queued_1 : decode cX12_queued 1 = .ok (.iload_n 1, 1) := by decide +kernel
theorem dX12_queued_10 : decode cX12_queued 10 = .ok (.ireturn, 1) := by decide +kernel
theorem dX12_queued_2 : decode cX12_queued 2 = .ok (.iload_n 2, 1) := by decide +kernel
theorem dX12_queued_3 : decode cX12_queued 3 = .ok (.invokevirtual 286, 3) := by decide +kernel
theorem dX12_queued_6 : decode cX12_queued 6 = .ok (.ifCond .ne 5, 3) := by decide +kernel
theorem dX12_queued_9 : decode cX12_queued 9 = .ok (.iconst (-1), 1) := by decide +kernel
set_option maxRecDepth 4000 in
set_option maxHeartbeats 400000 in
theorem N_X12_queued (s : t_S) (x1 : Int32) (x2 : Int32) (x3 : Int32) (h_I_864_8 : s.1 864 8 = 0) : t_C yX12_queued cX12_queued 5 (some .int) 2 [.ref 0, .int x1, .int x2, .int x3] s (fun v s' => v = some (.int (-1)) ∧ s' = s) := by
  refine t_C.of (by decide +kernel) (Nat.le_of_ble_eq_true rfl) ?_
  intro D cy ad bs X
  suffices main : ∀ post : Option Value → t_S → Prop, (∀ v s', (v = some (.int (-1)) ∧ s' = s) → post v s') → mj_G D cy ad bs X cX12_queued 5 yX12_queued.cls (some .int) yX12_queued.name 2 0 0 1065 (t_P post) 0 [(0, .ref 0), (1, .int x1), (2, .int x2), (3, .int x3)] [] (t_m s) 1065 0 0 from main _ (fun _ _ h => h)
  intro post hpost
  refine mj_aload_n dX12_queued_0 0 rfl ?_
  refine mj_iload_n dX12_queued_1 1 rfl ?_
  refine mj_iload_n dX12_queued_2 2 rfl ?_
  refine t_callV dX12_queued_3 M_X12_isPort (N_X12_isPort s x1 x2 h_I_864_8) ML_X12_286 IM_X12_isPort SE_X12_isPort qc_0 rfl (As := [.int x1, .int x2]) rfl rfl (Nat.le_of_ble_eq_true rfl) (Nat.le_of_ble_eq_true rfl) (Nat.le_of_ble_eq_true rfl) (Nat.le_of_ble_eq_true rfl) (fun v s1 hp => ?_)
  obtain ⟨rfl, hq⟩ := hp
  rw [hq]
  clear hq s1
  refine mj_if_ne 11 dX12_queued_6 (by decide) (fun z => absurd (by decide) z) (fun _ => ?_)
  refine mj_iconst (v := (-1)) dX12_queued_9 (by decide) ?_
  exact t_iret dX12_queued_10 rfl (by decide) (hpost _ _ ⟨rfl, rfl⟩) (Nat.le_of_ble_eq_true rfl) (Nat.le_of_ble_eq_true rfl)

theorem dX12_timer_0 : decode cX12_timer 0 = .ok (.aload_n 0, 1) := by decide +kernel
theorem dX12_timer_1 : decode cX12_timer 1 = .ok (.iload_n 1, 1) := by decide +kernel
theorem dX12_timer_2 : decode cX12_timer 2 = .ok (.invokevirtual 271, 3) := by decide +kernel
theorem dX12_timer_5 : decode cX12_timer 5 = .ok (.ifCond .ne 5, 3) := by decide +kernel
theorem dX12_timer_8 : decode cX12_timer 8 = .ok (.iconst (-1), 1) := by decide +kernel
theorem dX12_timer_9 : decode cX12_timer 9 = .ok (.ireturn, 1) := by decide +kernel
set_option maxRecDepth 4000 in
set_option maxHeartbeats 400000 in
theorem N_X12_timer (s : t_S) (x1 : Int32) (x2 : Int32) (h_I_864_8 : s.1 864 8 = 0) : t_C yX12_timer cX12_timer 4 (some .int) 1 [.ref 0, .int x1, .int x2] s (fun v s' => v = some (.int (-1)) ∧ s' = s) := by
  refine t_C.of (by decide +kernel) (Nat.le_of_ble_eq_true rfl) ?_
  intro D cy ad bs X
  suffices main : ∀ post : Option Value → t_S → Prop, (∀ v s', (v = some (.int (-1)) ∧ s' = s) → post v s') → mj_G D cy ad bs X cX12_timer 4 yX12_timer.cls (some .int) yX12_timer.name 1 0 0 1065 (t_P post) 0 [(0, .ref 0), (1, .int x1), (2, .int x2)] [] (t_m s) 1065 0 0 from main _ (fun _ _ h => h)
  intro post hpost
  refine mj_aload_n dX12_timer_0 0 rfl ?_
  refine mj_iload_n dX12_timer_1 1 rfl ?_
  refine t_callV dX12_timer_2 M_X12_isPart (N_X12_isPart s x1 h_I_864_8) ML_X12_271 IM_X12_isPart SE_X12_isPart qc_0 rfl (As := [.int x1]) rfl rfl (Nat.le_of_ble_eq_true rfl) (Nat.le_of_ble_eq_true rfl) (Nat.le_of_ble_eq_true rfl) (Nat.le_of_ble_eq_true rfl) (fun v s1 hp => ?_)
  obtain ⟨rfl, hq⟩ := hp
  rw [hq]
  clear hq s1
  refine mj_if_ne 10 dX12_timer_5 (by decide) (fun z => absurd (by decide) z) (fun _ => ?_)
  refine mj_iconst (v := (-1)) dX12_timer_8 (by decide) ?_
  exact t_iret dX12_timer_9 rfl (by decide) (hpost _ _ ⟨rfl, rfl⟩) (Nat.le_of_ble_eq_true rfl) (Nat.le_of_ble_eq_true rfl)

theorem dX12_variable_0 : decode cX12_variable 0 = .ok (.aload_n 0, 1) := by decide +kernel
theorem dX12_variable_1 : decode cX12_variable 1 = .ok (.iload_n 1, 1) := by decide +kernel
theorem dX12_variable_2 : decode cX12_variable 2 = .ok (.invokevirtual 271, 3) := by decide +kernel
theorem dX12_variable_5 : decode cX12_variable 5 = .ok (.ifCond .ne 5, 3) := by decide +kernel
theorem dX12_variable_8 : decode cX12_variable 8 = .ok (.iconst (-1), 1) := by decide +kernel
theorem dX12_variable_9 : decode cX12_variable 9 = .ok (.ireturn, 1) := by decide +kernel
set_option maxRecDepth 4000 in
set_option maxHeartbeats 400000 in
theorem N_X12_variable (s : t_S) (x1 : Int32) (x2 : Int32) (h_I_864_8 : s.1 864 8 = 0) : t_C yX12_variable cX12_variable 4 (some .int) 1 [.ref 0, .int x1, .int x2] s (fun v s' => v = some (.int (-1)) ∧ s' = s) := by
  refine t_C.of (by decide +kernel) (Nat.le_of_ble_eq_true rfl) ?_
  intro D cy ad bs X
  suffices main : ∀ post : Option Value → t_S → Prop, (∀ v s', (v = some (.int (-1)) ∧ s' = s) → post v s') → mj_G D cy ad bs X cX12_variable 4 yX12_variable.cls (some .int) yX12_variable.name 1 0 0 1065 (t_P post) 0 [(0, .ref 0), (1, .int x1), (2, .int x2)] [] (t_m s) 1065 0 0 from main _ (fun _ _ h => h)
  intro post hpost
  refine mj_aload_n dX12_variable_0 0 rfl ?_
  refine mj_iload_n dX12_variable_1 1 rfl ?_
  refine t_callV dX12_variable_2 M_X12_isPart (N_X12_isPart s x1 h_I_864_8) ML_X12_271 IM_X12_isPart SE_X12_isPart qc_0 rfl (As := [.int x1]) rfl rfl (Nat.le_of_ble_eq_true rfl) (Nat.le_of_ble_eq_true rfl) (Nat.le_of_ble_eq_true rfl) (Nat.le_of_ble_eq_true rfl) (fun v s1 hp => ?_)
  obtain ⟨rfl, hq⟩ := hp
  rw [hq]
  clear hq s1
  refine mj_if_ne 10 dX12_variable_5 (by decide) (fun z => absurd (by decide) z) (fun _ => ?_)
  refine mj_iconst (v := (-1)) dX12_variable_8 (by decide) ?_
  exact t_iret dX12_variable_9 rfl (by decide) (hpost _ _ ⟨rfl, rfl⟩) (Nat.le_of_ble_eq_true rfl) (Nat.le_of_ble_eq_true rfl)

theorem dX12_event_0 : decode cX12_event 0 = .ok (.aload_n 0, 1) := by decide +kernel
theorem dX12_event_1 : decode cX12_event 1 = .ok (.getfield 84, 3) := by decide +kernel
theorem dX12_event_4 : decode cX12_event 4 = .ok (.getfield 277, 3) := by decide +kernel
theorem dX12_event_40 : decode cX12_event 40 = .ok (.iconst (-1), 1) := by decide +kernel
theorem dX12_event_41 : decode cX12_event 41 = .ok (.ireturn, 1) := by decide +kernel
theorem dX12_event_7 : decode cX12_event 7 = .ok (.ifCond .eq 33, 3) := by decide +kernel
set_option maxRecDepth 4000 in
set_option maxHeartbeats 400000 in
theorem N_X12_event (s : t_S) (x1 : Int32) (x2 : Int32) (h_I_864_8 : s.1 864 8 = 0) : t_C yX12_event cX12_event 3 (some .int) 0 [.ref 0, .int x1, .int x2] s (fun v s' => v = some (.int (-1)) ∧ s' = s) := by
  refine t_C.of (by decide +kernel) (Nat.le_of_ble_eq_true rfl) ?_
  intro D cy ad bs X
  suffices main : ∀ post : Option Value → t_S → Prop, (∀ v s', (v = some (.int (-1)) ∧ s' = s) → post v s') → mj_G D cy ad bs X cX12_event 3 yX12_event.cls (some .int) yX12_event.name 0 0 0 1065 (t_P post) 0 [(0, .ref 0), (1, .int x1), (2, .int x2)] [] (t_m s) 1065 0 0 from main _ (fun _ _ h => h)
  intro post hpost
  refine mj_aload_n dX12_event_0 0 rfl ?_
  refine t_getR 864 dX12_event_1 F_X12_84 qr_0_8 ?_
  refine t_getI dX12_event_4 F_X12_277 qf_864_8 ?_
  rw [h_I_864_8]
  refine mj_if_eq 40 dX12_event_7 (by decide) (fun _ => ?_) (fun z => absurd (by decide) z)
  refine mj_iconst (v := (-1)) dX12_event_40 (by decide) ?_
  exact t_iret dX12_event_41 rfl (by decide) (hpost _ _ ⟨rfl, rfl⟩) (Nat.le_of_ble_eq_true rfl) (Nat.le_of_ble_eq_true rfl)

theorem dX12_eventValue_0 : decode cX12_eventValue 0 = .ok (.aload_n 0, 1) := by decide +kernel
theorem dX12_eventValue_1 : decode cX12_eventValue 1 = .ok (.getfield 84, 3) := by decide +kernel
theorem dX12_eventValue_31 : decode cX12_eventValue 31 = .ok (.bipush (-2), 2) := by decide +kernel
theorem dX12_eventValue_33 : decode cX12_eventValue 33 = .ok (.ireturn, 1) := by decide +kernel
theorem dX12_eventValue_4 : decode cX12_eventValue 4 = .ok (.getfield 277, 3) := by decide +kernel
theorem dX12_eventValue_7 : decode cX12_eventValue 7 = .ok (.ifCond .eq 24, 3) := by decide +kernel
set_option maxRecDepth 4000 in
set_option maxHeartbeats 400000 in
theorem N_X12_eventValue (s : t_S) (x1 : Int32) (h_I_864_8 : s.1 864 8 = 0) : t_C yX12_eventValue cX12_eventValue 3 (some .int) 0 [.ref 0, .int x1] s (fun v s' => v = some (.int (-2)) ∧ s' = s) := by
  refine t_C.of (by decide +kernel) (Nat.le_of_ble_eq_true rfl) ?_
  intro D cy ad bs X
  suffices main : ∀ post : Option Value → t_S → Prop, (∀ v s', (v = some (.int (-2)) ∧ s' = s) → post v s') → mj_G D cy ad bs X cX12_eventValue 3 yX12_eventValue.cls (some .int) yX12_eventValue.name 0 0 0 1065 (t_P post) 0 [(0, .ref 0), (1, .int x1)] [] (t_m s) 1065 0 0 from main _ (fun _ _ h => h)
  intro post hpost
  refine mj_aload_n dX12_eventValue_0 0 rfl ?_
  refine t_getR 864 dX12_eventValue_1 F_X12_84 qr_0_8 ?_
  refine t_getI dX12_eventValue_4 F_X12_277 qf_864_8 ?_
  rw [h_I_864_8]
  refine mj_if_eq 31 dX12_eventValue_7 (by decide) (fun _ => ?_) (fun z => absurd (by decide) z)
  refine mj_bipush (v := (-2)) dX12_eventValue_31 (by decide) ?_
  exact t_iret dX12_eventValue_33 rfl (by decide) (hpost _ _ ⟨rfl, rfl⟩) (Nat.le_of_ble_eq_true rfl) (Nat.le_of_ble_eq_true rfl)

theorem dX2_cut_0 : decode cX2_cut 0 = .ok (.iload_n 1, 1) := by decide +kernel
theorem dX2_cut_1 : decode cX2_cut 1 = .ok (.ifCond .lt 18, 3) := by decide +kernel
theorem dX2_cut_10 : decode cX2_cut 10 = .ok (.aload_n 0, 1) := by decide +kernel
theorem dX2_cut_11 : decode cX2_cut 11 = .ok (.getfield 61, 3) := by decide +kernel
theorem dX2_cut_14 : decode cX2_cut 14 = .ok (.bipush 20, 2) := by decide +kernel
theorem dX2_cut_16 : decode cX2_cut 16 = .ok (.if_icmp .ge 5, 3) := by decide +kernel
theorem dX2_cut_19 : decode cX2_cut 19 = .ok (.iconst (-1), 1) := by decide +kernel
theorem dX2_cut_20 : decode cX2_cut 20 = .ok (.ireturn, 1) := by decide +kernel
theorem dX2_cut_4 : decode cX2_cut 4 = .ok (.iload_n 1, 1) := by decide +kernel
theorem dX2_cut_5 : decode cX2_cut 5 = .ok (.bipush 20, 2) := by decide +kernel
theorem dX2_cut_7 : decode cX2_cut 7 = .ok (.if_icmp .gt 12, 3) := by decide +kernel
set_option maxRecDepth 4000 in
set_option maxHeartbeats 400000 in
theorem N_X2_cut (s : t_S) (x1 : Int32) (h_I_1_1 : s.1 1 1 = 0) : t_C yX2_cut cX2_cut 2 (some .int) 0 [.ref 1, .int x1] s (fun v s' => v = some (.int (-1)) ∧ s' = s) := by
  refine t_C.of (by decide +kernel) (Nat.le_of_ble_eq_true rfl) ?_
  intro D cy ad bs X
  suffices main : ∀ post : Option Value → t_S → Prop, (∀ v s', (v = some (.int (-1)) ∧ s' = s) → post v s') → mj_G D cy ad bs X cX2_cut 2 yX2_cut.cls (some .int) yX2_cut.name 0 0 0 1065 (t_P post) 0 [(0, .ref 1), (1, .int x1)] [] (t_m s) 1065 0 0 from main _ (fun _ _ h => h)
  intro post hpost
  refine mj_iload_n dX2_cut_0 1 rfl ?_
  refine mj_if_lt 19 dX2_cut_1 (by decide) (fun z1 => ?_) (fun z1 => ?_)
  · have z1i : x1.toInt < 0 := (t_lt (0) rfl).mp z1
    refine mj_iconst (v := (-1)) dX2_cut_19 (by decide) ?_
    exact t_iret dX2_cut_20 rfl (by decide) (hpost _ _ ⟨rfl, rfl⟩) (Nat.le_of_ble_eq_true rfl) (Nat.le_of_ble_eq_true rfl)
  · have z1i : ¬ x1.toInt < 0 := fun q => z1 ((t_lt (0) rfl).mpr q)
    refine mj_iload_n dX2_cut_4 1 rfl ?_
    refine mj_bipush (v := 20) dX2_cut_5 (by decide) ?_
    refine mj_icmp_gt 19 dX2_cut_7 (by decide) (fun z2 => ?_) (fun z2 => ?_)
    · have z2i : 20 < x1.toInt := (t_gt (20) rfl).mp z2
      refine mj_iconst (v := (-1)) dX2_cut_19 (by decide) ?_
      exact t_iret dX2_cut_20 rfl (by decide) (hpost _ _ ⟨rfl, rfl⟩) (Nat.le_of_ble_eq_true rfl) (Nat.le_of_ble_eq_true rfl)
    · have z2i : ¬ 20 < x1.toInt := fun q => z2 ((t_gt (20) rfl).mpr q)
      refine mj_aload_n dX2_cut_10 0 rfl ?_
      refine t_getI dX2_cut_11 F_X2_61 qf_1_1 ?_
      rw [h_I_1_1]
      refine mj_bipush (v := 20) dX2_cut_14 (by decide) ?_
      refine mj_icmp_ge 21 dX2_cut_16 (by decide) (fun z => absurd z (by decide)) (fun _ => ?_)
      refine mj_iconst (v := (-1)) dX2_cut_19 (by decide) ?_
      exact t_iret dX2_cut_20 rfl (by decide) (hpost _ _ ⟨rfl, rfl⟩) (Nat.le_of_ble_eq_true rfl) (Nat.le_of_ble_eq_true rfl)

theorem dX12_end_0 : decode cX12_end 0 = .ok (.aload_n 0, 1) := by decide +kernel
theorem dX12_end_1 : decode cX12_end 1 = .ok (.getfield 10, 3) := by decide +kernel
theorem dX12_end_4 : decode cX12_end 4 = .ok (.iload_n 1, 1) := by decide +kernel
theorem dX12_end_5 : decode cX12_end 5 = .ok (.invokevirtual 103, 3) := by decide +kernel
theorem dX12_end_8 : decode cX12_end 8 = .ok (.ireturn, 1) := by decide +kernel
set_option maxRecDepth 4000 in
set_option maxHeartbeats 400000 in
theorem N_X12_end (s : t_S) (x1 : Int32) (h_I_1_1 : s.1 1 1 = 0) : t_C yX12_end cX12_end 2 (some .int) 1 [.ref 0, .int x1] s (fun v s' => v = some (.int (-1)) ∧ s' = s) := by
  refine t_C.of (by decide +kernel) (Nat.le_of_ble_eq_true rfl) ?_
  intro D cy ad bs X
  suffices main : ∀ post : Option Value → t_S → Prop, (∀ v s', (v = some (.int (-1)) ∧ s' = s) → post v s') → mj_G D cy ad bs X cX12_end 2 yX12_end.cls (some .int) yX12_end.name 1 0 0 1065 (t_P post) 0 [(0, .ref 0), (1, .int x1)] [] (t_m s) 1065 0 0 from main _ (fun _ _ h => h)
  intro post hpost
  refine mj_aload_n dX12_end_0 0 rfl ?_
  refine t_getR 1 dX12_end_1 F_X12_10 qr_0_0 ?_
  refine mj_iload_n dX12_end_4 1 rfl ?_
  refine t_callV dX12_end_5 M_X2_cut (N_X2_cut s x1 h_I_1_1) ML_X12_103 IM_X2_cut SE_X2_cut qc_1 rfl (As := [.int x1]) rfl rfl (Nat.le_of_ble_eq_true rfl) (Nat.le_of_ble_eq_true rfl) (Nat.le_of_ble_eq_true rfl) (Nat.le_of_ble_eq_true rfl) (fun v s1 hp => ?_)
  obtain ⟨rfl, hq⟩ := hp
  rw [hq]
  clear hq s1
  exact t_iret dX12_end_8 rfl (by decide) (hpost _ _ ⟨rfl, rfl⟩) (Nat.le_of_ble_eq_true rfl) (Nat.le_of_ble_eq_true rfl)

theorem dX12_noBits_0 : decode cX12_noBits 0 = .ok (.aload_n 0, 1) := by decide +kernel
theorem dX12_noBits_1 : decode cX12_noBits 1 = .ok (.getfield 75, 3) := by decide +kernel
theorem dX12_noBits_12 : decode cX12_noBits 12 = .ok (.iconst 0, 1) := by decide +kernel
theorem dX12_noBits_13 : decode cX12_noBits 13 = .ok (.putfield 148, 3) := by decide +kernel
theorem dX12_noBits_16 : decode cX12_noBits 16 = .ok (.iload_n 1, 1) := by decide +kernel
theorem dX12_noBits_17 : decode cX12_noBits 17 = .ok (.ireturn, 1) := by decide +kernel
theorem dX12_noBits_4 : decode cX12_noBits 4 = .ok (.getfield 148, 3) := by decide +kernel
theorem dX12_noBits_7 : decode cX12_noBits 7 = .ok (.istore_n 1, 1) := by decide +kernel
theorem dX12_noBits_8 : decode cX12_noBits 8 = .ok (.aload_n 0, 1) := by decide +kernel
theorem dX12_noBits_9 : decode cX12_noBits 9 = .ok (.getfield 75, 3) := by decide +kernel
set_option maxRecDepth 4000 in
set_option maxHeartbeats 400000 in
theorem N_X12_noBits (s : t_S) (h_I_856_5 : s.1 856 5 = 0) : t_C yX12_noBits cX12_noBits 2 (some .int) 0 [.ref 0] s (fun v s' => v = some (.int 0) ∧ t_keep [856] s s') := by
  refine t_C.of (by decide +kernel) (Nat.le_of_ble_eq_true rfl) ?_
  intro D cy ad bs X
  suffices main : ∀ post : Option Value → t_S → Prop, (∀ v s', (v = some (.int 0) ∧ t_keep [856] s s') → post v s') → mj_G D cy ad bs X cX12_noBits 2 yX12_noBits.cls (some .int) yX12_noBits.name 0 0 0 1065 (t_P post) 0 [(0, .ref 0)] [] (t_m s) 1065 0 0 from main _ (fun _ _ h => h)
  intro post hpost
  refine mj_aload_n dX12_noBits_0 0 rfl ?_
  refine t_getR 856 dX12_noBits_1 F_X12_75 qr_0_7 ?_
  refine t_getI dX12_noBits_4 F_X12_148 qf_856_5 ?_
  rw [h_I_856_5]
  refine mj_istore_n 1 (lv2 := [(1, .int 0), (0, .ref 0)]) dX12_noBits_7 rfl (by decide) rfl ?_
  refine mj_aload_n dX12_noBits_8 1 rfl ?_
  refine t_getR 856 dX12_noBits_9 F_X12_75 qr_0_7 ?_
  refine mj_iconst (v := 0) dX12_noBits_12 (by decide) ?_
  refine t_putI dX12_noBits_13 F_X12_148 qf_856_5 (by decide) ?_
  obtain ⟨s1, w2⟩ : ∃ z, z = t_setI s 856 5 0 := ⟨_, rfl⟩
  rw [← w2]
  refine mj_iload_n dX12_noBits_16 0 rfl ?_
  exact t_iret dX12_noBits_17 rfl (by decide) (hpost _ _ ⟨rfl, (t_keep_I w2 (by decide))⟩) (Nat.le_of_ble_eq_true rfl) (Nat.le_of_ble_eq_true rfl)

/-- count() of a new object -/
def N_count (x : Int32) : Int32 := if x.toInt = 1 then -1 else if x.toInt < 0 ∨ 10 < x.toInt then -1 else 0
/-- row() of a new object -/
def N_row (x : Int32) : Int32 := if x.toInt = -1 then 0 else -2

theorem dX12_count_0 : decode cX12_count 0 = .ok (.iload_n 1, 1) := by decide +kernel
theorem dX12_count_1 : decode cX12_count 1 = .ok (.tableswitch 207 0 10 #[59, 64, 69, 77, 96, 115, 134, 153, 172, 191, 199], 59) := by decide +kernel
theorem dX12_count_101 : decode cX12_count 101 = .ok (.ifCond .eq 13, 3) := by decide +kernel
theorem dX12_count_114 : decode cX12_count 114 = .ok (.iconst 0, 1) := by decide +kernel
theorem dX12_count_115 : decode cX12_count 115 = .ok (.ireturn, 1) := by decide +kernel
theorem dX12_count_116 : decode cX12_count 116 = .ok (.aload_n 0, 1) := by decide +kernel
theorem dX12_count_117 : decode cX12_count 117 = .ok (.getfield 121, 3) := by decide +kernel
theorem dX12_count_120 : decode cX12_count 120 = .ok (.ifCond .eq 13, 3) := by decide +kernel
theorem dX12_count_133 : decode cX12_count 133 = .ok (.iconst 0, 1) := by decide +kernel
theorem dX12_count_134 : decode cX12_count 134 = .ok (.ireturn, 1) := by decide +kernel
theorem dX12_count_135 : decode cX12_count 135 = .ok (.aload_n 0, 1) := by decide +kernel
theorem dX12_count_136 : decode cX12_count 136 = .ok (.getfield 121, 3) := by decide +kernel
theorem dX12_count_139 : decode cX12_count 139 = .ok (.ifCond .eq 13, 3) := by decide +kernel
theorem dX12_count_152 : decode cX12_count 152 = .ok (.iconst 0, 1) := by decide +kernel
theorem dX12_count_153 : decode cX12_count 153 = .ok (.ireturn, 1) := by decide +kernel
theorem dX12_count_154 : decode cX12_count 154 = .ok (.aload_n 0, 1) := by decide +kernel
theorem dX12_count_155 : decode cX12_count 155 = .ok (.getfield 121, 3) := by decide +kernel
theorem dX12_count_158 : decode cX12_count 158 = .ok (.ifCond .eq 13, 3) := by decide +kernel
theorem dX12_count_171 : decode cX12_count 171 = .ok (.iconst 0, 1) := by decide +kernel
theorem dX12_count_172 : decode cX12_count 172 = .ok (.ireturn, 1) := by decide +kernel
theorem dX12_count_173 : decode cX12_count 173 = .ok (.aload_n 0, 1) := by decide +kernel
theorem dX12_count_174 : decode cX12_count 174 = .ok (.getfield 121, 3) := by decide +kernel
theorem dX12_count_177 : decode cX12_count 177 = .ok (.ifCond .eq 13, 3) := by decide +kernel
theorem dX12_count_190 : decode cX12_count 190 = .ok (.iconst 0, 1) := by decide +kernel
theorem dX12_count_191 : decode cX12_count 191 = .ok (.ireturn, 1) := by decide +kernel
theorem dX12_count_192 : decode cX12_count 192 = .ok (.aload_n 0, 1) := by decide +kernel
theorem dX12_count_193 : decode cX12_count 193 = .ok (.getfield 19, 3) := by decide +kernel
theorem dX12_count_196 : decode cX12_count 196 = .ok (.getfield 107, 3) := by decide +kernel
theorem dX12_count_199 : decode cX12_count 199 = .ok (.ireturn, 1) := by decide +kernel
theorem dX12_count_200 : decode cX12_count 200 = .ok (.aload_n 0, 1) := by decide +kernel
theorem dX12_count_201 : decode cX12_count 201 = .ok (.getfield 75, 3) := by decide +kernel
theorem dX12_count_204 : decode cX12_count 204 = .ok (.getfield 148, 3) := by decide +kernel
theorem dX12_count_207 : decode cX12_count 207 = .ok (.ireturn, 1) := by decide +kernel
theorem dX12_count_208 : decode cX12_count 208 = .ok (.iconst (-1), 1) := by decide +kernel
theorem dX12_count_209 : decode cX12_count 209 = .ok (.ireturn, 1) := by decide +kernel
theorem dX12_count_60 : decode cX12_count 60 = .ok (.aload_n 0, 1) := by decide +kernel
theorem dX12_count_61 : decode cX12_count 61 = .ok (.getfield 119, 3) := by decide +kernel
theorem dX12_count_64 : decode cX12_count 64 = .ok (.ireturn, 1) := by decide +kernel
theorem dX12_count_65 : decode cX12_count 65 = .ok (.aload_n 0, 1) := by decide +kernel
theorem dX12_count_66 : decode cX12_count 66 = .ok (.getfield 95, 3) := by decide +kernel
theorem dX12_count_69 : decode cX12_count 69 = .ok (.ireturn, 1) := by decide +kernel
theorem dX12_count_70 : decode cX12_count 70 = .ok (.aload_n 0, 1) := by decide +kernel
theorem dX12_count_71 : decode cX12_count 71 = .ok (.getfield 10, 3) := by decide +kernel
theorem dX12_count_74 : decode cX12_count 74 = .ok (.getfield 129, 3) := by decide +kernel
theorem dX12_count_77 : decode cX12_count 77 = .ok (.ireturn, 1) := by decide +kernel
theorem dX12_count_78 : decode cX12_count 78 = .ok (.aload_n 0, 1) := by decide +kernel
theorem dX12_count_79 : decode cX12_count 79 = .ok (.getfield 121, 3) := by decide +kernel
theorem dX12_count_82 : decode cX12_count 82 = .ok (.ifCond .eq 13, 3) := by decide +kernel
theorem dX12_count_95 : decode cX12_count 95 = .ok (.iconst 0, 1) := by decide +kernel
theorem dX12_count_96 : decode cX12_count 96 = .ok (.ireturn, 1) := by decide +kernel
theorem dX12_count_97 : decode cX12_count 97 = .ok (.aload_n 0, 1) := by decide +kernel
theorem dX12_count_98 : decode cX12_count 98 = .ok (.getfield 121, 3) := by decide +kernel
set_option maxRecDepth 4000 in
set_option maxHeartbeats 400000 in
theorem N_X12_count (s : t_S) (x1 : Int32) (h_I_0_10 : s.1 0 10 = 0) (h_I_0_11 : s.1 0 11 = (-1)) (h_I_0_12 : s.1 0 12 = 0) (h_I_1_1 : s.1 1 1 = 0) (h_I_12_2 : s.1 12 2 = 0) (h_I_856_5 : s.1 856 5 = 0) : t_C yX12_count cX12_count 2 (some .int) 0 [.ref 0, .int x1] s (fun v s' => v = some (.int (N_count x1)) ∧ s' = s) := by
  refine t_C.of (by decide +kernel) (Nat.le_of_ble_eq_true rfl) ?_
  intro D cy ad bs X
  suffices main : ∀ post : Option Value → t_S → Prop, (∀ v s', (v = some (.int (N_count x1)) ∧ s' = s) → post v s') → mj_G D cy ad bs X cX12_count 2 yX12_count.cls (some .int) yX12_count.name 0 0 0 1065 (t_P post) 0 [(0, .ref 0), (1, .int x1)] [] (t_m s) 1065 0 0 from main _ (fun _ _ h => h)
  intro post hpost
  refine mj_iload_n dX12_count_0 1 rfl ?_
  by_cases hout : x1.toInt < 0 ∨ 10 < x1.toInt
  · refine mj_tableOut 208 dX12_count_1 hout (by decide) ?_
    refine mj_iconst (v := (-1)) dX12_count_208 (by decide) ?_
    exact t_iret dX12_count_209 rfl (by decide) (hpost _ _ ⟨(congrArg (fun z => some (Value.int z)) (by unfold N_count; (repeat' split) <;> first | rfl | omega)), rfl⟩) (Nat.le_of_ble_eq_true rfl) (Nat.le_of_ble_eq_true rfl)
  · have hh1 : ¬ x1.toInt < 0 := fun z => hout (Or.inl z)
    have hh2 : ¬ (10 : Int) < x1.toInt := fun z => hout (Or.inr z)
    have hc : x1.toInt = 0 ∨ x1.toInt = 1 ∨ x1.toInt = 2 ∨ x1.toInt = 3 ∨ x1.toInt = 4 ∨ x1.toInt = 5 ∨ x1.toInt = 6 ∨ x1.toInt = 7 ∨ x1.toInt = 8 ∨ x1.toInt = 9 ∨ x1.toInt = 10 := by omega
    rcases hc with hc | hc | hc | hc | hc | hc | hc | hc | hc | hc | hc
    · refine mj_tableIn 60 dX12_count_1 hh1 hh2 (by rw [hc]; rfl) (by decide) ?_
      refine mj_aload_n dX12_count_60 0 rfl ?_
      refine t_getI dX12_count_61 F_X12_119 qf_0_10 ?_
      rw [h_I_0_10]
      exact t_iret dX12_count_64 rfl (by decide) (hpost _ _ ⟨(congrArg (fun z => some (Value.int z)) (by unfold N_count; (repeat' split) <;> first | rfl | omega)), rfl⟩) (Nat.le_of_ble_eq_true rfl) (Nat.le_of_ble_eq_true rfl)
    · refine mj_tableIn 65 dX12_count_1 hh1 hh2 (by rw [hc]; rfl) (by decide) ?_
      refine mj_aload_n dX12_count_65 0 rfl ?_
      refine t_getI dX12_count_66 F_X12_95 qf_0_11 ?_
      rw [h_I_0_11]
      exact t_iret dX12_count_69 rfl (by decide) (hpost _ _ ⟨(congrArg (fun z => some (Value.int z)) (by unfold N_count; (repeat' split) <;> first | rfl | omega)), rfl⟩) (Nat.le_of_ble_eq_true rfl) (Nat.le_of_ble_eq_true rfl)
    · refine mj_tableIn 70 dX12_count_1 hh1 hh2 (by rw [hc]; rfl) (by decide) ?_
      refine mj_aload_n dX12_count_70 0 rfl ?_
      refine t_getR 1 dX12_count_71 F_X12_10 qr_0_0 ?_
      refine t_getI dX12_count_74 F_X12_129 qf_1_1 ?_
      rw [h_I_1_1]
      exact t_iret dX12_count_77 rfl (by decide) (hpost _ _ ⟨(congrArg (fun z => some (Value.int z)) (by unfold N_count; (repeat' split) <;> first | rfl | omega)), rfl⟩) (Nat.le_of_ble_eq_true rfl) (Nat.le_of_ble_eq_true rfl)
    · refine mj_tableIn 78 dX12_count_1 hh1 hh2 (by rw [hc]; rfl) (by decide) ?_
      refine mj_aload_n dX12_count_78 0 rfl ?_
      refine t_getI dX12_count_79 F_X12_121 qf_0_12 ?_
      rw [h_I_0_12]
      refine mj_if_eq 95 dX12_count_82 (by decide) (fun _ => ?_) (fun z => absurd (by decide) z)
      refine mj_iconst (v := 0) dX12_count_95 (by decide) ?_
      exact t_iret dX12_count_96 rfl (by decide) (hpost _ _ ⟨(congrArg (fun z => some (Value.int z)) (by unfold N_count; (repeat' split) <;> first | rfl | omega)), rfl⟩) (Nat.le_of_ble_eq_true rfl) (Nat.le_of_ble_eq_true rfl)
    · refine mj_tableIn 97 dX12_count_1 hh1 hh2 (by rw [hc]; rfl) (by decide) ?_
      refine mj_aload_n dX12_count_97 0 rfl ?_
      refine t_getI dX12_count_98 F_X12_121 qf_0_12 ?_
      rw [h_I_0_12]
      refine mj_if_eq 114 dX12_count_101 (by decide) (fun _ => ?_) (fun z => absurd (by decide) z)
      refine mj_iconst (v := 0) dX12_count_114 (by decide) ?_
      exact t_iret dX12_count_115 rfl (by decide) (hpost _ _ ⟨(congrArg (fun z => some (Value.int z)) (by unfold N_count; (repeat' split) <;> first | rfl | omega)), rfl⟩) (Nat.le_of_ble_eq_true rfl) (Nat.le_of_ble_eq_true rfl)
    · refine mj_tableIn 116 dX12_count_1 hh1 hh2 (by rw [hc]; rfl) (by decide) ?_
      refine mj_aload_n dX12_count_116 0 rfl ?_
      refine t_getI dX12_count_117 F_X12_121 qf_0_12 ?_
      rw [h_I_0_12]
      refine mj_if_eq 133 dX12_count_120 (by decide) (fun _ => ?_) (fun z => absurd (by decide) z)
      refine mj_iconst (v := 0) dX12_count_133 (by decide) ?_
      exact t_iret dX12_count_134 rfl (by decide) (hpost _ _ ⟨(congrArg (fun z => some (Value.int z)) (by unfold N_count; (repeat' split) <;> first | rfl | omega)), rfl⟩) (Nat.le_of_ble_eq_true rfl) (Nat.le_of_ble_eq_true rfl)
    · refine mj_tableIn 135 dX12_count_1 hh1 hh2 (by rw [hc]; rfl) (by decide) ?_
      refine mj_aload_n dX12_count_135 0 rfl ?_
      refine t_getI dX12_count_136 F_X12_121 qf_0_12 ?_
      rw [h_I_0_12]
      refine mj_if_eq 152 dX12_count_139 (by decide) (fun _ => ?_) (fun z => absurd (by decide) z)
      refine mj_iconst (v := 0) dX12_count_152 (by decide) ?_
      exact t_iret dX12_count_153 rfl (by decide) (hpost _ _ ⟨(congrArg (fun z => some (Value.int z)) (by unfold N_count; (repeat' split) <;> first | rfl | omega)), rfl⟩) (Nat.le_of_ble_eq_true rfl) (Nat.le_of_ble_eq_true rfl)
    · refine mj_tableIn 154 dX12_count_1 hh1 hh2 (by rw [hc]; rfl) (by decide) ?_
      refine mj_aload_n dX12_count_154 0 rfl ?_
      refine t_getI dX12_count_155 F_X12_121 qf_0_12 ?_
      rw [h_I_0_12]
      refine mj_if_eq 171 dX12_count_158 (by decide) (fun _ => ?_) (fun z => absurd (by decide) z)
      refine mj_iconst (v := 0) dX12_count_171 (by decide) ?_
      exact t_iret dX12_count_172 rfl (by decide) (hpost _ _ ⟨(congrArg (fun z => some (Value.int z)) (by unfold N_count; (repeat' split) <;> first | rfl | omega)), rfl⟩) (Nat.le_of_ble_eq_true rfl) (Nat.le_of_ble_eq_true rfl)
    · refine mj_tableIn 173 dX12_count_1 hh1 hh2 (by rw [hc]; rfl) (by decide) ?_
      refine mj_aload_n dX12_count_173 0 rfl ?_
      refine t_getI dX12_count_174 F_X12_121 qf_0_12 ?_
      rw [h_I_0_12]
      refine mj_if_eq 190 dX12_count_177 (by decide) (fun _ => ?_) (fun z => absurd (by decide) z)
      refine mj_iconst (v := 0) dX12_count_190 (by decide) ?_
      exact t_iret dX12_count_191 rfl (by decide) (hpost _ _ ⟨(congrArg (fun z => some (Value.int z)) (by unfold N_count; (repeat' split) <;> first | rfl | omega)), rfl⟩) (Nat.le_of_ble_eq_true rfl) (Nat.le_of_ble_eq_true rfl)
    · refine mj_tableIn 192 dX12_count_1 hh1 hh2 (by rw [hc]; rfl) (by decide) ?_
      refine mj_aload_n dX12_count_192 0 rfl ?_
      refine t_getR 12 dX12_count_193 F_X12_19 qr_0_1 ?_
      refine t_getI dX12_count_196 F_X12_107 qf_12_2 ?_
      rw [h_I_12_2]
      exact t_iret dX12_count_199 rfl (by decide) (hpost _ _ ⟨(congrArg (fun z => some (Value.int z)) (by unfold N_count; (repeat' split) <;> first | rfl | omega)), rfl⟩) (Nat.le_of_ble_eq_true rfl) (Nat.le_of_ble_eq_true rfl)
    · refine mj_tableIn 200 dX12_count_1 hh1 hh2 (by rw [hc]; rfl) (by decide) ?_
      refine mj_aload_n dX12_count_200 0 rfl ?_
      refine t_getR 856 dX12_count_201 F_X12_75 qr_0_7 ?_
      refine t_getI dX12_count_204 F_X12_148 qf_856_5 ?_
      rw [h_I_856_5]
      exact t_iret dX12_count_207 rfl (by decide) (hpost _ _ ⟨(congrArg (fun z => some (Value.int z)) (by unfold N_count; (repeat' split) <;> first | rfl | omega)), rfl⟩) (Nat.le_of_ble_eq_true rfl) (Nat.le_of_ble_eq_true rfl)

theorem dX12_row_0 : decode cX12_row 0 = .ok (.iload_n 1, 1) := by decide +kernel
theorem dX12_row_1 : decode cX12_row 1 = .ok (.iconst (-1), 1) := by decide +kernel
theorem dX12_row_12 : decode cX12_row 12 = .ok (.ireturn, 1) := by decide +kernel
theorem dX12_row_13 : decode cX12_row 13 = .ok (.iload_n 1, 1) := by decide +kernel
theorem dX12_row_14 : decode cX12_row 14 = .ok (.ifCond .lt 14, 3) := by decide +kernel
theorem dX12_row_17 : decode cX12_row 17 = .ok (.iload_n 1, 1) := by decide +kernel
theorem dX12_row_18 : decode cX12_row 18 = .ok (.aload_n 0, 1) := by decide +kernel
theorem dX12_row_19 : decode cX12_row 19 = .ok (.getfield 91, 3) := by decide +kernel
theorem dX12_row_2 : decode cX12_row 2 = .ok (.if_icmp .ne 11, 3) := by decide +kernel
theorem dX12_row_22 : decode cX12_row 22 = .ok (.getfield 382, 3) := by decide +kernel
theorem dX12_row_25 : decode cX12_row 25 = .ok (.if_icmp .lt 8, 3) := by decide +kernel
theorem dX12_row_28 : decode cX12_row 28 = .ok (.bipush (-2), 2) := by decide +kernel
theorem dX12_row_30 : decode cX12_row 30 = .ok (.goto 12, 3) := by decide +kernel
theorem dX12_row_42 : decode cX12_row 42 = .ok (.ireturn, 1) := by decide +kernel
theorem dX12_row_5 : decode cX12_row 5 = .ok (.aload_n 0, 1) := by decide +kernel
theorem dX12_row_6 : decode cX12_row 6 = .ok (.getfield 91, 3) := by decide +kernel
theorem dX12_row_9 : decode cX12_row 9 = .ok (.getfield 382, 3) := by decide +kernel
set_option maxRecDepth 4000 in
set_option maxHeartbeats 400000 in
theorem N_X12_row (s : t_S) (x1 : Int32) (h_I_946_3 : s.1 946 3 = 0) : t_C yX12_row cX12_row 2 (some .int) 0 [.ref 0, .int x1] s (fun v s' => v = some (.int (N_row x1)) ∧ s' = s) := by
  refine t_C.of (by decide +kernel) (Nat.le_of_ble_eq_true rfl) ?_
  intro D cy ad bs X
  suffices main : ∀ post : Option Value → t_S → Prop, (∀ v s', (v = some (.int (N_row x1)) ∧ s' = s) → post v s') → mj_G D cy ad bs X cX12_row 2 yX12_row.cls (some .int) yX12_row.name 0 0 0 1065 (t_P post) 0 [(0, .ref 0), (1, .int x1)] [] (t_m s) 1065 0 0 from main _ (fun _ _ h => h)
  intro post hpost
  refine mj_iload_n dX12_row_0 1 rfl ?_
  refine mj_iconst (v := (-1)) dX12_row_1 (by decide) ?_
  refine mj_icmp_ne 13 dX12_row_2 (by decide) (fun z1 => ?_) (fun z1 => ?_)
  · have z1i : ¬ x1.toInt = -1 := fun q => z1 ((t_eq (-1) rfl).mpr q)
    refine mj_iload_n dX12_row_13 1 rfl ?_
    refine mj_if_lt 28 dX12_row_14 (by decide) (fun z2 => ?_) (fun z2 => ?_)
    · have z2i : x1.toInt < 0 := (t_lt (0) rfl).mp z2
      refine mj_bipush (v := (-2)) dX12_row_28 (by decide) ?_
      refine mj_goto 42 dX12_row_30 (by decide) ?_
      exact t_iret dX12_row_42 rfl (by decide) (hpost _ _ ⟨(congrArg (fun z => some (Value.int z)) (by unfold N_row; (repeat' split) <;> first | rfl | omega)), rfl⟩) (Nat.le_of_ble_eq_true rfl) (Nat.le_of_ble_eq_true rfl)
    · have z2i : ¬ x1.toInt < 0 := fun q => z2 ((t_lt (0) rfl).mpr q)
      refine mj_iload_n dX12_row_17 1 rfl ?_
      refine mj_aload_n dX12_row_18 0 rfl ?_
      refine t_getR 946 dX12_row_19 F_X12_91 qr_0_9 ?_
      refine t_getI dX12_row_22 F_X12_382 qf_946_3 ?_
      rw [h_I_946_3]
      refine mj_icmp_lt 33 dX12_row_25 (by decide) (fun z3 => ?_) (fun z3 => ?_)
      · have z3i : x1.toInt < 0 := (t_lt (0) rfl).mp z3
        exfalso; omega
      · have z3i : ¬ x1.toInt < 0 := fun q => z3 ((t_lt (0) rfl).mpr q)
        refine mj_bipush (v := (-2)) dX12_row_28 (by decide) ?_
        refine mj_goto 42 dX12_row_30 (by decide) ?_
        exact t_iret dX12_row_42 rfl (by decide) (hpost _ _ ⟨(congrArg (fun z => some (Value.int z)) (by unfold N_row; (repeat' split) <;> first | rfl | omega)), rfl⟩) (Nat.le_of_ble_eq_true rfl) (Nat.le_of_ble_eq_true rfl)
  · have z1i : x1.toInt = -1 := (t_eq (-1) rfl).mp z1
    refine mj_aload_n dX12_row_5 0 rfl ?_
    refine t_getR 946 dX12_row_6 F_X12_91 qr_0_9 ?_
    refine t_getI dX12_row_9 F_X12_382 qf_946_3 ?_
    rw [h_I_946_3]
    exact t_iret dX12_row_12 rfl (by decide) (hpost _ _ ⟨(congrArg (fun z => some (Value.int z)) (by unfold N_row; (repeat' split) <;> first | rfl | omega)), rfl⟩) (Nat.le_of_ble_eq_true rfl) (Nat.le_of_ble_eq_true rfl)

