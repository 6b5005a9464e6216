theorem qa_1020 : t_oka 1020 3 8600 = true := by decide +kernel
theorem qa_1059 : t_oka 1059 1 256 = true := by decide +kernel
theorem qa_1061 : t_oka 1061 1 65600 = true := by decide +kernel
theorem qa_1063 : t_oka 1063 1 65600 = true := by decide +kernel
theorem qa_1064 : t_oka 1064 3 65536 = true := by decide +kernel
theorem qa_858 : t_oka 858 0 8000 = true := by decide +kernel
theorem qa_947 : t_oka 947 1 256 = true := by decide +kernel
theorem qa_948 : t_oka 948 1 65536 = true := by decide +kernel
theorem qa_949 : t_oka 949 1 65537 = true := by decide +kernel
theorem qc_856 : t_okc 856 1 = true := by decide +kernel
theorem qc_946 : t_okc 946 9 = true := by decide +kernel
theorem qr_856_4 : t_okr 856 1 4 858 = true := by decide +kernel
theorem qr_946_0 : t_okr 946 9 0 947 = true := by decide +kernel
theorem qr_946_1 : t_okr 946 9 1 948 = true := by decide +kernel
theorem qr_946_2 : t_okr 946 9 2 949 = true := by decide +kernel
theorem qr_950_120 : t_okr 950 13 120 1020 = true := by decide +kernel
theorem qr_950_181 : t_okr 950 13 181 1059 = true := by decide +kernel
theorem qr_950_186 : t_okr 950 13 186 1061 = true := by decide +kernel
theorem qr_950_188 : t_okr 950 13 188 1063 = true := by decide +kernel
theorem qr_950_189 : t_okr 950 13 189 1064 = true := by decide +kernel
theorem dX9_is_0 : decode cX9_is 0 = .ok (.iload_n 0, 1) := by decide +kernel
theorem dX9_is_1 : decode cX9_is 1 = .ok (.ifCond .lt 12, 3) := by decide +kernel
theorem dX9_is_10 : decode cX9_is 10 = .ok (.goto 4, 3) := by decide +kernel
theorem dX9_is_14 : decode cX9_is 14 = .ok (.ireturn, 1) := by decide +kernel
theorem dX9_is_4 : decode cX9_is 4 = .ok (.iload_n 0, 1) := by decide +kernel
theorem dX9_is_5 : decode cX9_is 5 = .ok (.iconst 4, 1) := by decide +kernel
theorem dX9_is_6 : decode cX9_is 6 = .ok (.if_icmp .ge 7, 3) := by decide +kernel
theorem dX9_is_9 : decode cX9_is 9 = .ok (.iconst 1, 1) := by decide +kernel
set_option maxRecDepth 4000 in
set_option maxHeartbeats 400000 in
theorem N_is1 (s : t_S) (x1 : Int32) (r_x1 : 0 ≤ x1.toInt ∧ x1.toInt ≤ 3) : t_C yX9_is cX9_is 1 (some .boolean) 0 [.int x1] s (fun v s' => v = some (.int 1) ∧ s' = s) := by
  refine t_C.of (by decide +kernel) (Nat.le_of_ble_eq_true rfl) ?_
  intro D cy ad bs X
  suffices main : ∀ post : Option Value → t_S → Prop, (∀ v s', (v = some (.int 1) ∧ s' = s) → post v s') → mj_G D cy ad bs X cX9_is 1 yX9_is.cls (some .boolean) yX9_is.name 0 0 0 1065 (t_P post) 0 [(0, .int x1)] [] (t_m s) 1065 0 0 from main _ (fun _ _ h => h)
  intro post hpost
  refine mj_iload_n dX9_is_0 0 rfl ?_
  refine mj_if_lt 13 dX9_is_1 (by decide) (fun z1 => ?_) (fun z1 => ?_)
  · have z1i : x1.toInt < 0 := (t_lt (0) rfl).mp z1
    exfalso; omega
  · have z1i : ¬ x1.toInt < 0 := fun q => z1 ((t_lt (0) rfl).mpr q)
    refine mj_iload_n dX9_is_4 0 rfl ?_
    refine mj_iconst (v := 4) dX9_is_5 (by decide) ?_
    refine mj_icmp_ge 13 dX9_is_6 (by decide) (fun z2 => ?_) (fun z2 => ?_)
    · have z2i : 4 ≤ x1.toInt := (t_ge (4) rfl).mp z2
      exfalso; omega
    · have z2i : ¬ 4 ≤ x1.toInt := fun q => z2 ((t_ge (4) rfl).mpr q)
      refine mj_iconst (v := 1) dX9_is_9 (by decide) ?_
      refine mj_goto 14 dX9_is_10 (by decide) ?_
      exact t_iret dX9_is_14 rfl (by decide) (hpost _ _ ⟨rfl, rfl⟩) (Nat.le_of_ble_eq_true rfl) (Nat.le_of_ble_eq_true rfl)

theorem dX9_is_13 : decode cX9_is 13 = .ok (.iconst 0, 1) := by decide +kernel
set_option maxRecDepth 4000 in
set_option maxHeartbeats 400000 in
theorem N_is0 (s : t_S) (x1 : Int32) (hn : ¬ (0 ≤ x1.toInt ∧ x1.toInt ≤ 3)) : t_C yX9_is cX9_is 1 (some .boolean) 0 [.int x1] s (fun v s' => v = some (.int 0) ∧ s' = s) := by
  refine t_C.of (by decide +kernel) (Nat.le_of_ble_eq_true rfl) ?_
  intro D cy ad bs X
  suffices main : ∀ post : Option Value → t_S → Prop, (∀ v s', (v = some (.int 0) ∧ s' = s) → post v s') → mj_G D cy ad bs X cX9_is 1 yX9_is.cls (some .boolean) yX9_is.name 0 0 0 1065 (t_P post) 0 [(0, .int x1)] [] (t_m s) 1065 0 0 from main _ (fun _ _ h => h)
  intro post hpost
  refine mj_iload_n dX9_is_0 0 rfl ?_
  refine mj_if_lt 13 dX9_is_1 (by decide) (fun z1 => ?_) (fun z1 => ?_)
  · have z1i : x1.toInt < 0 := (t_lt (0) rfl).mp z1
    refine mj_iconst (v := 0) dX9_is_13 (by decide) ?_
    exact t_iret dX9_is_14 rfl (by decide) (hpost _ _ ⟨rfl, rfl⟩) (Nat.le_of_ble_eq_true rfl) (Nat.le_of_ble_eq_true rfl)
  · have z1i : ¬ x1.toInt < 0 := fun q => z1 ((t_lt (0) rfl).mpr q)
    refine mj_iload_n dX9_is_4 0 rfl ?_
    refine mj_iconst (v := 4) dX9_is_5 (by decide) ?_
    refine mj_icmp_ge 13 dX9_is_6 (by decide) (fun z2 => ?_) (fun z2 => ?_)
    · have z2i : 4 ≤ x1.toInt := (t_ge (4) rfl).mp z2
      refine mj_iconst (v := 0) dX9_is_13 (by decide) ?_
      exact t_iret dX9_is_14 rfl (by decide) (hpost _ _ ⟨rfl, rfl⟩) (Nat.le_of_ble_eq_true rfl) (Nat.le_of_ble_eq_true rfl)
    · have z2i : ¬ 4 ≤ x1.toInt := fun q => z2 ((t_ge (4) rfl).mpr q)
      refine mj_iconst (v := 1) dX9_is_9 (by decide) ?_
      refine mj_goto 14 dX9_is_10 (by decide) ?_
      exfalso; omega

theorem dX9_quiet_0 : decode cX9_quiet 0 = .ok (.iload_n 1, 1) := by decide +kernel
theorem dX9_quiet_1 : decode cX9_quiet 1 = .ok (.bipush 8, 2) := by decide +kernel
theorem dX9_quiet_10 : decode cX9_quiet 10 = .ok (.aload_n 0, 1) := by decide +kernel
theorem dX9_quiet_11 : decode cX9_quiet 11 = .ok (.getfield 9, 3) := by decide +kernel
theorem dX9_quiet_14 : decode cX9_quiet 14 = .ok (.iload_n 3, 1) := by decide +kernel
theorem dX9_quiet_15 : decode cX9_quiet 15 = .ok (.iconst 4, 1) := by decide +kernel
theorem dX9_quiet_16 : decode cX9_quiet 16 = .ok (.iadd, 1) := by decide +kernel
theorem dX9_quiet_17 : decode cX9_quiet 17 = .ok (.iaload, 1) := by decide +kernel
theorem dX9_quiet_18 : decode cX9_quiet 18 = .ok (.aload_n 0, 1) := by decide +kernel
theorem dX9_quiet_19 : decode cX9_quiet 19 = .ok (.getfield 9, 3) := by decide +kernel
theorem dX9_quiet_22 : decode cX9_quiet 22 = .ok (.iload_n 3, 1) := by decide +kernel
theorem dX9_quiet_23 : decode cX9_quiet 23 = .ok (.iconst 5, 1) := by decide +kernel
theorem dX9_quiet_24 : decode cX9_quiet 24 = .ok (.iadd, 1) := by decide +kernel
theorem dX9_quiet_25 : decode cX9_quiet 25 = .ok (.iaload, 1) := by decide +kernel
theorem dX9_quiet_26 : decode cX9_quiet 26 = .ok (.ior, 1) := by decide +kernel
theorem dX9_quiet_27 : decode cX9_quiet 27 = .ok (.aload_n 0, 1) := by decide +kernel
theorem dX9_quiet_28 : decode cX9_quiet 28 = .ok (.getfield 9, 3) := by decide +kernel
theorem dX9_quiet_3 : decode cX9_quiet 3 = .ok (.imul, 1) := by decide +kernel
theorem dX9_quiet_31 : decode cX9_quiet 31 = .ok (.iload_n 3, 1) := by decide +kernel
theorem dX9_quiet_32 : decode cX9_quiet 32 = .ok (.bipush 6, 2) := by decide +kernel
theorem dX9_quiet_34 : decode cX9_quiet 34 = .ok (.iadd, 1) := by decide +kernel
theorem dX9_quiet_35 : decode cX9_quiet 35 = .ok (.iaload, 1) := by decide +kernel
theorem dX9_quiet_36 : decode cX9_quiet 36 = .ok (.ior, 1) := by decide +kernel
theorem dX9_quiet_37 : decode cX9_quiet 37 = .ok (.aload_n 0, 1) := by decide +kernel
theorem dX9_quiet_38 : decode cX9_quiet 38 = .ok (.getfield 9, 3) := by decide +kernel
theorem dX9_quiet_4 : decode cX9_quiet 4 = .ok (.iload_n 2, 1) := by decide +kernel
theorem dX9_quiet_41 : decode cX9_quiet 41 = .ok (.iload_n 3, 1) := by decide +kernel
theorem dX9_quiet_42 : decode cX9_quiet 42 = .ok (.bipush 7, 2) := by decide +kernel
theorem dX9_quiet_44 : decode cX9_quiet 44 = .ok (.iadd, 1) := by decide +kernel
theorem dX9_quiet_45 : decode cX9_quiet 45 = .ok (.iaload, 1) := by decide +kernel
theorem dX9_quiet_46 : decode cX9_quiet 46 = .ok (.ior, 1) := by decide +kernel
theorem dX9_quiet_47 : decode cX9_quiet 47 = .ok (.ifCond .ne 9, 3) := by decide +kernel
theorem dX9_quiet_5 : decode cX9_quiet 5 = .ok (.iadd, 1) := by decide +kernel
theorem dX9_quiet_50 : decode cX9_quiet 50 = .ok (.iconst 1, 1) := by decide +kernel
theorem dX9_quiet_51 : decode cX9_quiet 51 = .ok (.iload_n 2, 1) := by decide +kernel
theorem dX9_quiet_52 : decode cX9_quiet 52 = .ok (.ishl, 1) := by decide +kernel
theorem dX9_quiet_53 : decode cX9_quiet 53 = .ok (.goto 4, 3) := by decide +kernel
theorem dX9_quiet_57 : decode cX9_quiet 57 = .ok (.ireturn, 1) := by decide +kernel
theorem dX9_quiet_6 : decode cX9_quiet 6 = .ok (.bipush 8, 2) := by decide +kernel
theorem dX9_quiet_8 : decode cX9_quiet 8 = .ok (.imul, 1) := by decide +kernel
theorem dX9_quiet_9 : decode cX9_quiet 9 = .ok (.istore_n 3, 1) := by decide +kernel
set_option maxRecDepth 4000 in
set_option maxHeartbeats 400000 in
theorem N_X9_quiet (s : t_S) (x1 : Int32) (r_x1 : 0 ≤ x1.toInt ∧ x1.toInt ≤ 3) (hz_I_947 : ∀ i, s.1 947 i = 0) : t_C yX9_quiet cX9_quiet 4 (some .int) 0 [.ref 946, .int x1, .int 0] s (fun v s' => v = some (.int 1) ∧ s' = s) := by
  refine t_C.of (by decide +kernel) (Nat.le_of_ble_eq_true rfl) ?_
  intro D cy ad bs X
  suffices main : ∀ post : Option Value → t_S → Prop, (∀ v s', (v = some (.int 1) ∧ s' = s) → post v s') → mj_G D cy ad bs X cX9_quiet 4 yX9_quiet.cls (some .int) yX9_quiet.name 0 0 0 1065 (t_P post) 0 [(0, .ref 946), (1, .int x1), (2, .int 0)] [] (t_m s) 1065 0 0 from main _ (fun _ _ h => h)
  intro post hpost
  refine mj_iload_n dX9_quiet_0 1 rfl ?_
  refine mj_bipush (v := 8) dX9_quiet_1 (by decide) ?_
  refine mj_imul dX9_quiet_3 ?_
  refine mj_iload_n dX9_quiet_4 2 rfl ?_
  refine mj_iadd dX9_quiet_5 ?_
  refine mj_bipush (v := 8) dX9_quiet_6 (by decide) ?_
  refine mj_imul dX9_quiet_8 ?_
  refine mj_istore_n 3 (lv2 := [(3, .int (((x1 * 8) + 0) * 8)), (0, .ref 946), (1, .int x1), (2, .int 0)]) dX9_quiet_9 rfl (by decide) rfl ?_
  refine mj_aload_n dX9_quiet_10 1 rfl ?_
  refine t_getR 947 dX9_quiet_11 F_X9_9 qr_946_0 ?_
  refine mj_iload_n dX9_quiet_14 0 rfl ?_
  refine mj_iconst (v := 4) dX9_quiet_15 (by decide) ?_
  refine mj_iadd dX9_quiet_16 ?_
  refine t_iald dX9_quiet_17 qa_947 (t_cell (by omega) (by decide) (by decide)) ?_
  rw [(hz_I_947 ((((((x1 * 8) + 0) * 8) + 4) : Int32).toNatClampNeg))]
  refine mj_aload_n dX9_quiet_18 1 rfl ?_
  refine t_getR 947 dX9_quiet_19 F_X9_9 qr_946_0 ?_
  refine mj_iload_n dX9_quiet_22 0 rfl ?_
  refine mj_iconst (v := 5) dX9_quiet_23 (by decide) ?_
  refine mj_iadd dX9_quiet_24 ?_
  refine t_iald dX9_quiet_25 qa_947 (t_cell (by omega) (by decide) (by decide)) ?_
  rw [(hz_I_947 ((((((x1 * 8) + 0) * 8) + 5) : Int32).toNatClampNeg))]
  refine mj_ior dX9_quiet_26 ?_
  rw [show (0 : Int32) ||| 0 = 0 by decide]
  refine mj_aload_n dX9_quiet_27 1 rfl ?_
  refine t_getR 947 dX9_quiet_28 F_X9_9 qr_946_0 ?_
  refine mj_iload_n dX9_quiet_31 0 rfl ?_
  refine mj_bipush (v := 6) dX9_quiet_32 (by decide) ?_
  refine mj_iadd dX9_quiet_34 ?_
  refine t_iald dX9_quiet_35 qa_947 (t_cell (by omega) (by decide) (by decide)) ?_
  rw [(hz_I_947 ((((((x1 * 8) + 0) * 8) + 6) : Int32).toNatClampNeg))]
  refine mj_ior dX9_quiet_36 ?_
  rw [show (0 : Int32) ||| 0 = 0 by decide]
  refine mj_aload_n dX9_quiet_37 1 rfl ?_
  refine t_getR 947 dX9_quiet_38 F_X9_9 qr_946_0 ?_
  refine mj_iload_n dX9_quiet_41 0 rfl ?_
  refine mj_bipush (v := 7) dX9_quiet_42 (by decide) ?_
  refine mj_iadd dX9_quiet_44 ?_
  refine t_iald dX9_quiet_45 qa_947 (t_cell (by omega) (by decide) (by decide)) ?_
  rw [(hz_I_947 ((((((x1 * 8) + 0) * 8) + 7) : Int32).toNatClampNeg))]
  refine mj_ior dX9_quiet_46 ?_
  rw [show (0 : Int32) ||| 0 = 0 by decide]
  refine mj_if_ne 56 dX9_quiet_47 (by decide) (fun z => absurd (by decide) z) (fun _ => ?_)
  refine mj_iconst (v := 1) dX9_quiet_50 (by decide) ?_
  refine mj_iload_n dX9_quiet_51 3 rfl ?_
  refine mj_ishl dX9_quiet_52 ?_
  rw [show (1 : Int32) <<< ((0 : Int32) &&& 31) = 1 by decide]
  refine mj_goto 57 dX9_quiet_53 (by decide) ?_
  exact t_iret dX9_quiet_57 rfl (by decide) (hpost _ _ ⟨rfl, rfl⟩) (Nat.le_of_ble_eq_true rfl) (Nat.le_of_ble_eq_true rfl)

theorem dX9_next_0 : decode cX9_next 0 = .ok (.iconst 0, 1) := by decide +kernel
theorem dX9_next_1 : decode cX9_next 1 = .ok (.istore 4, 2) := by decide +kernel
theorem dX9_next_10 : decode cX9_next 10 = .ok (.if_icmp .ge 56, 3) := by decide +kernel
theorem dX9_next_13 : decode cX9_next 13 = .ok (.iload_n 2, 1) := by decide +kernel
theorem dX9_next_14 : decode cX9_next 14 = .ok (.iload 5, 2) := by decide +kernel
theorem dX9_next_16 : decode cX9_next 16 = .ok (.ishr, 1) := by decide +kernel
theorem dX9_next_17 : decode cX9_next 17 = .ok (.iconst 1, 1) := by decide +kernel
theorem dX9_next_18 : decode cX9_next 18 = .ok (.iand, 1) := by decide +kernel
theorem dX9_next_19 : decode cX9_next 19 = .ok (.ifCond .eq 41, 3) := by decide +kernel
theorem dX9_next_22 : decode cX9_next 22 = .ok (.iload 4, 2) := by decide +kernel
theorem dX9_next_24 : decode cX9_next 24 = .ok (.iload_n 3, 1) := by decide +kernel
theorem dX9_next_25 : decode cX9_next 25 = .ok (.bipush 8, 2) := by decide +kernel
theorem dX9_next_27 : decode cX9_next 27 = .ok (.if_icmp .ne 13, 3) := by decide +kernel
theorem dX9_next_3 : decode cX9_next 3 = .ok (.iconst 0, 1) := by decide +kernel
theorem dX9_next_4 : decode cX9_next 4 = .ok (.istore 5, 2) := by decide +kernel
theorem dX9_next_40 : decode cX9_next 40 = .ok (.aload_n 0, 1) := by decide +kernel
theorem dX9_next_41 : decode cX9_next 41 = .ok (.getfield 9, 3) := by decide +kernel
theorem dX9_next_44 : decode cX9_next 44 = .ok (.iload_n 1, 1) := by decide +kernel
theorem dX9_next_45 : decode cX9_next 45 = .ok (.bipush 8, 2) := by decide +kernel
theorem dX9_next_47 : decode cX9_next 47 = .ok (.imul, 1) := by decide +kernel
theorem dX9_next_48 : decode cX9_next 48 = .ok (.iload 5, 2) := by decide +kernel
theorem dX9_next_50 : decode cX9_next 50 = .ok (.iadd, 1) := by decide +kernel
theorem dX9_next_51 : decode cX9_next 51 = .ok (.bipush 8, 2) := by decide +kernel
theorem dX9_next_53 : decode cX9_next 53 = .ok (.imul, 1) := by decide +kernel
theorem dX9_next_54 : decode cX9_next 54 = .ok (.iload_n 3, 1) := by decide +kernel
theorem dX9_next_55 : decode cX9_next 55 = .ok (.iadd, 1) := by decide +kernel
theorem dX9_next_56 : decode cX9_next 56 = .ok (.iaload, 1) := by decide +kernel
theorem dX9_next_57 : decode cX9_next 57 = .ok (.ior, 1) := by decide +kernel
theorem dX9_next_58 : decode cX9_next 58 = .ok (.istore 4, 2) := by decide +kernel
theorem dX9_next_6 : decode cX9_next 6 = .ok (.iload 5, 2) := by decide +kernel
theorem dX9_next_60 : decode cX9_next 60 = .ok (.iinc 5 1, 3) := by decide +kernel
theorem dX9_next_63 : decode cX9_next 63 = .ok (.goto (-57), 3) := by decide +kernel
theorem dX9_next_66 : decode cX9_next 66 = .ok (.iload 4, 2) := by decide +kernel
theorem dX9_next_68 : decode cX9_next 68 = .ok (.ireturn, 1) := by decide +kernel
theorem dX9_next_8 : decode cX9_next 8 = .ok (.bipush 8, 2) := by decide +kernel
set_option maxRecDepth 4000 in
set_option maxHeartbeats 400000 in
theorem N_next_a (s : t_S) (x1 : Int32) (x3 : Int32) (r_x1 : 0 ≤ x1.toInt ∧ x1.toInt ≤ 3) (r_x3 : 0 ≤ x3.toInt ∧ x3.toInt ≤ 7) (hz_I_947 : ∀ i, s.1 947 i = 0) : t_C yX9_next cX9_next 6 (some .int) 0 [.ref 946, .int x1, .int 1, .int x3] s (fun v s' => v = some (.int 0) ∧ s' = s) := by
  refine t_C.of (by decide +kernel) (Nat.le_of_ble_eq_true rfl) ?_
  intro D cy ad bs X
  suffices main : ∀ post : Option Value → t_S → Prop, (∀ v s', (v = some (.int 0) ∧ s' = s) → post v s') → mj_G D cy ad bs X cX9_next 6 yX9_next.cls (some .int) yX9_next.name 0 0 0 1065 (t_P post) 0 [(0, .ref 946), (1, .int x1), (2, .int 1), (3, .int x3)] [] (t_m s) 1065 0 0 from main _ (fun _ _ h => h)
  intro post hpost
  refine mj_iconst (v := 0) dX9_next_0 (by decide) ?_
  refine mj_istore (lv2 := [(4, .int 0), (0, .ref 946), (1, .int x1), (2, .int 1), (3, .int x3)]) dX9_next_1 (by decide) rfl ?_
  refine mj_iconst (v := 0) dX9_next_3 (by decide) ?_
  refine mj_istore (lv2 := [(5, .int 0), (4, .int 0), (0, .ref 946), (1, .int x1), (2, .int 1), (3, .int x3)]) dX9_next_4 (by decide) rfl ?_
  refine mj_iload dX9_next_6 0 rfl ?_
  refine mj_bipush (v := 8) dX9_next_8 (by decide) ?_
  refine mj_icmp_ge 66 dX9_next_10 (by decide) (fun z => absurd z (by decide)) (fun _ => ?_)
  refine mj_iload_n dX9_next_13 4 rfl ?_
  refine mj_iload dX9_next_14 0 rfl ?_
  refine mj_ishr dX9_next_16 ?_
  rw [show (1 : Int32) >>> ((0 : Int32) &&& 31) = 1 by decide]
  refine mj_iconst (v := 1) dX9_next_17 (by decide) ?_
  refine mj_iand dX9_next_18 ?_
  rw [show (1 : Int32) &&& 1 = 1 by decide]
  refine mj_if_eq 60 dX9_next_19 (by decide) (fun z => absurd z (by decide)) (fun _ => ?_)
  refine mj_iload dX9_next_22 1 rfl ?_
  refine mj_iload_n dX9_next_24 5 rfl ?_
  refine mj_bipush (v := 8) dX9_next_25 (by decide) ?_
  refine mj_icmp_ne 40 dX9_next_27 (by decide) (fun z1 => ?_) (fun z1 => ?_)
  · have z1i : ¬ x3.toInt = 8 := fun q => z1 ((t_eq (8) rfl).mpr q)
    refine mj_aload_n dX9_next_40 2 rfl ?_
    refine t_getR 947 dX9_next_41 F_X9_9 qr_946_0 ?_
    refine mj_iload_n dX9_next_44 3 rfl ?_
    refine mj_bipush (v := 8) dX9_next_45 (by decide) ?_
    refine mj_imul dX9_next_47 ?_
    refine mj_iload dX9_next_48 0 rfl ?_
    refine mj_iadd dX9_next_50 ?_
    refine mj_bipush (v := 8) dX9_next_51 (by decide) ?_
    refine mj_imul dX9_next_53 ?_
    refine mj_iload_n dX9_next_54 5 rfl ?_
    refine mj_iadd dX9_next_55 ?_
    refine t_iald dX9_next_56 qa_947 (t_cell (by omega) (by decide) (by omega)) ?_
    rw [(hz_I_947 ((((((x1 * 8) + 0) * 8) + x3) : Int32).toNatClampNeg))]
    refine mj_ior dX9_next_57 ?_
    rw [show (0 : Int32) ||| 0 = 0 by decide]
    refine mj_istore (lv2 := [(4, .int 0), (5, .int 0), (0, .ref 946), (1, .int x1), (2, .int 1), (3, .int x3)]) dX9_next_58 (by decide) rfl ?_
    refine mj_iinc (k := 1) (v := 1) (lv2 := [(5, .int 1), (4, .int 0), (0, .ref 946), (1, .int x1), (2, .int 1), (3, .int x3)]) dX9_next_60 rfl (by decide) (by decide) rfl ?_
    refine mj_goto 6 dX9_next_63 (by decide) ?_
    refine mj_iload dX9_next_6 0 rfl ?_
    refine mj_bipush (v := 8) dX9_next_8 (by decide) ?_
    refine mj_icmp_ge 66 dX9_next_10 (by decide) (fun z => absurd z (by decide)) (fun _ => ?_)
    refine mj_iload_n dX9_next_13 4 rfl ?_
    refine mj_iload dX9_next_14 0 rfl ?_
    refine mj_ishr dX9_next_16 ?_
    rw [show (1 : Int32) >>> ((1 : Int32) &&& 31) = 0 by decide]
    refine mj_iconst (v := 1) dX9_next_17 (by decide) ?_
    refine mj_iand dX9_next_18 ?_
    rw [show (0 : Int32) &&& 1 = 0 by decide]
    refine mj_if_eq 60 dX9_next_19 (by decide) (fun _ => ?_) (fun z => absurd (by decide) z)
    refine mj_iinc (k := 0) (v := 2) (lv2 := [(5, .int 2), (4, .int 0), (0, .ref 946), (1, .int x1), (2, .int 1), (3, .int x3)]) dX9_next_60 rfl (by decide) (by decide) rfl ?_
    refine mj_goto 6 dX9_next_63 (by decide) ?_
    refine mj_iload dX9_next_6 0 rfl ?_
    refine mj_bipush (v := 8) dX9_next_8 (by decide) ?_
    refine mj_icmp_ge 66 dX9_next_10 (by decide) (fun z => absurd z (by decide)) (fun _ => ?_)
    refine mj_iload_n dX9_next_13 4 rfl ?_
    refine mj_iload dX9_next_14 0 rfl ?_
    refine mj_ishr dX9_next_16 ?_
    rw [show (1 : Int32) >>> ((2 : Int32) &&& 31) = 0 by decide]
    refine mj_iconst (v := 1) dX9_next_17 (by decide) ?_
    refine mj_iand dX9_next_18 ?_
    rw [show (0 : Int32) &&& 1 = 0 by decide]
    refine mj_if_eq 60 dX9_next_19 (by decide) (fun _ => ?_) (fun z => absurd (by decide) z)
    refine mj_iinc (k := 0) (v := 3) (lv2 := [(5, .int 3), (4, .int 0), (0, .ref 946), (1, .int x1), (2, .int 1), (3, .int x3)]) dX9_next_60 rfl (by decide) (by decide) rfl ?_
    refine mj_goto 6 dX9_next_63 (by decide) ?_
    refine mj_iload dX9_next_6 0 rfl ?_
    refine mj_bipush (v := 8) dX9_next_8 (by decide) ?_
    refine mj_icmp_ge 66 dX9_next_10 (by decide) (fun z => absurd z (by decide)) (fun _ => ?_)
    refine mj_iload_n dX9_next_13 4 rfl ?_
    refine mj_iload dX9_next_14 0 rfl ?_
    refine mj_ishr dX9_next_16 ?_
    rw [show (1 : Int32) >>> ((3 : Int32) &&& 31) = 0 by decide]
    refine mj_iconst (v := 1) dX9_next_17 (by decide) ?_
    refine mj_iand dX9_next_18 ?_
    rw [show (0 : Int32) &&& 1 = 0 by decide]
    refine mj_if_eq 60 dX9_next_19 (by decide) (fun _ => ?_) (fun z => absurd (by decide) z)
    refine mj_iinc (k := 0) (v := 4) (lv2 := [(5, .int 4), (4, .int 0), (0, .ref 946), (1, .int x1), (2, .int 1), (3, .int x3)]) dX9_next_60 rfl (by decide) (by decide) rfl ?_
    refine mj_goto 6 dX9_next_63 (by decide) ?_
    refine mj_iload dX9_next_6 0 rfl ?_
    refine mj_bipush (v := 8) dX9_next_8 (by decide) ?_
    refine mj_icmp_ge 66 dX9_next_10 (by decide) (fun z => absurd z (by decide)) (fun _ => ?_)
    refine mj_iload_n dX9_next_13 4 rfl ?_
    refine mj_iload dX9_next_14 0 rfl ?_
    refine mj_ishr dX9_next_16 ?_
    rw [show (1 : Int32) >>> ((4 : Int32) &&& 31) = 0 by decide]
    refine mj_iconst (v := 1) dX9_next_17 (by decide) ?_
    refine mj_iand dX9_next_18 ?_
    rw [show (0 : Int32) &&& 1 = 0 by decide]
    refine mj_if_eq 60 dX9_next_19 (by decide) (fun _ => ?_) (fun z => absurd (by decide) z)
    refine mj_iinc (k := 0) (v := 5) (lv2 := [(5, .int 5), (4, .int 0), (0, .ref 946), (1, .int x1), (2, .int 1), (3, .int x3)]) dX9_next_60 rfl (by decide) (by decide) rfl ?_
    refine mj_goto 6 dX9_next_63 (by decide) ?_
    refine mj_iload dX9_next_6 0 rfl ?_
    refine mj_bipush (v := 8) dX9_next_8 (by decide) ?_
    refine mj_icmp_ge 66 dX9_next_10 (by decide) (fun z => absurd z (by decide)) (fun _ => ?_)
    refine mj_iload_n dX9_next_13 4 rfl ?_
    refine mj_iload dX9_next_14 0 rfl ?_
    refine mj_ishr dX9_next_16 ?_
    rw [show (1 : Int32) >>> ((5 : Int32) &&& 31) = 0 by decide]
    refine mj_iconst (v := 1) dX9_next_17 (by decide) ?_
    refine mj_iand dX9_next_18 ?_
    rw [show (0 : Int32) &&& 1 = 0 by decide]
    refine mj_if_eq 60 dX9_next_19 (by decide) (fun _ => ?_) (fun z => absurd (by decide) z)
    refine mj_iinc (k := 0) (v := 6) (lv2 := [(5, .int 6), (4, .int 0), (0, .ref 946), (1, .int x1), (2, .int 1), (3, .int x3)]) dX9_next_60 rfl (by decide) (by decide) rfl ?_
    refine mj_goto 6 dX9_next_63 (by decide) ?_
    refine mj_iload dX9_next_6 0 rfl ?_
    refine mj_bipush (v := 8) dX9_next_8 (by decide) ?_
    refine mj_icmp_ge 66 dX9_next_10 (by decide) (fun z => absurd z (by decide)) (fun _ => ?_)
    refine mj_iload_n dX9_next_13 4 rfl ?_
    refine mj_iload dX9_next_14 0 rfl ?_
    refine mj_ishr dX9_next_16 ?_
    rw [show (1 : Int32) >>> ((6 : Int32) &&& 31) = 0 by decide]
    refine mj_iconst (v := 1) dX9_next_17 (by decide) ?_
    refine mj_iand dX9_next_18 ?_
    rw [show (0 : Int32) &&& 1 = 0 by decide]
    refine mj_if_eq 60 dX9_next_19 (by decide) (fun _ => ?_) (fun z => absurd (by decide) z)
    refine mj_iinc (k := 0) (v := 7) (lv2 := [(5, .int 7), (4, .int 0), (0, .ref 946), (1, .int x1), (2, .int 1), (3, .int x3)]) dX9_next_60 rfl (by decide) (by decide) rfl ?_
    refine mj_goto 6 dX9_next_63 (by decide) ?_
    refine mj_iload dX9_next_6 0 rfl ?_
    refine mj_bipush (v := 8) dX9_next_8 (by decide) ?_
    refine mj_icmp_ge 66 dX9_next_10 (by decide) (fun z => absurd z (by decide)) (fun _ => ?_)
    refine mj_iload_n dX9_next_13 4 rfl ?_
    refine mj_iload dX9_next_14 0 rfl ?_
    refine mj_ishr dX9_next_16 ?_
    rw [show (1 : Int32) >>> ((7 : Int32) &&& 31) = 0 by decide]
    refine mj_iconst (v := 1) dX9_next_17 (by decide) ?_
    refine mj_iand dX9_next_18 ?_
    rw [show (0 : Int32) &&& 1 = 0 by decide]
    refine mj_if_eq 60 dX9_next_19 (by decide) (fun _ => ?_) (fun z => absurd (by decide) z)
    refine mj_iinc (k := 0) (v := 8) (lv2 := [(5, .int 8), (4, .int 0), (0, .ref 946), (1, .int x1), (2, .int 1), (3, .int x3)]) dX9_next_60 rfl (by decide) (by decide) rfl ?_
    refine mj_goto 6 dX9_next_63 (by decide) ?_
    refine mj_iload dX9_next_6 0 rfl ?_
    refine mj_bipush (v := 8) dX9_next_8 (by decide) ?_
    refine mj_icmp_ge 66 dX9_next_10 (by decide) (fun _ => ?_) (fun z => absurd (by decide) z)
    refine mj_iload dX9_next_66 1 rfl ?_
    exact t_iret dX9_next_68 rfl (by decide) (hpost _ _ ⟨rfl, rfl⟩) (Nat.le_of_ble_eq_true rfl) (Nat.le_of_ble_eq_true rfl)
  · have z1i : x3.toInt = 8 := (t_eq (8) rfl).mp z1
    exfalso; omega

theorem dX9_next_30 : decode cX9_next 30 = .ok (.aload_n 0, 1) := by decide +kernel
theorem dX9_next_31 : decode cX9_next 31 = .ok (.iload_n 1, 1) := by decide +kernel
theorem dX9_next_32 : decode cX9_next 32 = .ok (.iload 5, 2) := by decide +kernel
theorem dX9_next_34 : decode cX9_next 34 = .ok (.invokevirtual 21, 3) := by decide +kernel
theorem dX9_next_37 : decode cX9_next 37 = .ok (.goto 20, 3) := by decide +kernel
set_option maxRecDepth 4000 in
set_option maxHeartbeats 400000 in
theorem N_next_b (s : t_S) (x1 : Int32) (x3 : Int32) (r_x1 : 0 ≤ x1.toInt ∧ x1.toInt ≤ 3) (r_x3 : 8 ≤ x3.toInt ∧ x3.toInt ≤ 8) (hz_I_947 : ∀ i, s.1 947 i = 0) : t_C yX9_next cX9_next 6 (some .int) 1 [.ref 946, .int x1, .int 1, .int x3] s (fun v s' => v = some (.int 1) ∧ s' = s) := by
  refine t_C.of (by decide +kernel) (Nat.le_of_ble_eq_true rfl) ?_
  intro D cy ad bs X
  suffices main : ∀ post : Option Value → t_S → Prop, (∀ v s', (v = some (.int 1) ∧ s' = s) → post v s') → mj_G D cy ad bs X cX9_next 6 yX9_next.cls (some .int) yX9_next.name 1 0 0 1065 (t_P post) 0 [(0, .ref 946), (1, .int x1), (2, .int 1), (3, .int x3)] [] (t_m s) 1065 0 0 from main _ (fun _ _ h => h)
  intro post hpost
  refine mj_iconst (v := 0) dX9_next_0 (by decide) ?_
  refine mj_istore (lv2 := [(4, .int 0), (0, .ref 946), (1, .int x1), (2, .int 1), (3, .int x3)]) dX9_next_1 (by decide) rfl ?_
  refine mj_iconst (v := 0) dX9_next_3 (by decide) ?_
  refine mj_istore (lv2 := [(5, .int 0), (4, .int 0), (0, .ref 946), (1, .int x1), (2, .int 1), (3, .int x3)]) dX9_next_4 (by decide) rfl ?_
  refine mj_iload dX9_next_6 0 rfl ?_
  refine mj_bipush (v := 8) dX9_next_8 (by decide) ?_
  refine mj_icmp_ge 66 dX9_next_10 (by decide) (fun z => absurd z (by decide)) (fun _ => ?_)
  refine mj_iload_n dX9_next_13 4 rfl ?_
  refine mj_iload dX9_next_14 0 rfl ?_
  refine mj_ishr dX9_next_16 ?_
  rw [show (1 : Int32) >>> ((0 : Int32) &&& 31) = 1 by decide]
  refine mj_iconst (v := 1) dX9_next_17 (by decide) ?_
  refine mj_iand dX9_next_18 ?_
  rw [show (1 : Int32) &&& 1 = 1 by decide]
  refine mj_if_eq 60 dX9_next_19 (by decide) (fun z => absurd z (by decide)) (fun _ => ?_)
  refine mj_iload dX9_next_22 1 rfl ?_
  refine mj_iload_n dX9_next_24 5 rfl ?_
  refine mj_bipush (v := 8) dX9_next_25 (by decide) ?_
  refine mj_icmp_ne 40 dX9_next_27 (by decide) (fun z1 => ?_) (fun z1 => ?_)
  · have z1i : ¬ x3.toInt = 8 := fun q => z1 ((t_eq (8) rfl).mpr q)
    exfalso; omega
  · have z1i : x3.toInt = 8 := (t_eq (8) rfl).mp z1
    refine mj_aload_n dX9_next_30 2 rfl ?_
    refine mj_iload_n dX9_next_31 3 rfl ?_
    refine mj_iload dX9_next_32 0 rfl ?_
    refine t_callV dX9_next_34 M_X9_quiet (N_X9_quiet s x1 (by omega) hz_I_947) ML_X9_21 IM_X9_quiet SE_X9_quiet qc_946 rfl (As := [.int x1, .int 0]) rfl rfl (Nat.le_of_ble_eq_true rfl) (Nat.le_of_ble_eq_true rfl) (Nat.le_of_ble_eq_true rfl) (Nat.le_of_ble_eq_true rfl) (fun v s2 hp => ?_)
    obtain ⟨rfl, hq⟩ := hp
    rw [hq]
    clear hq s2
    refine mj_goto 57 dX9_next_37 (by decide) ?_
    refine mj_ior dX9_next_57 ?_
    rw [show (0 : Int32) ||| 1 = 1 by decide]
    refine mj_istore (lv2 := [(4, .int 1), (5, .int 0), (0, .ref 946), (1, .int x1), (2, .int 1), (3, .int x3)]) dX9_next_58 (by decide) rfl ?_
    refine mj_iinc (k := 1) (v := 1) (lv2 := [(5, .int 1), (4, .int 1), (0, .ref 946), (1, .int x1), (2, .int 1), (3, .int x3)]) dX9_next_60 rfl (by decide) (by decide) rfl ?_
    refine mj_goto 6 dX9_next_63 (by decide) ?_
    refine mj_iload dX9_next_6 0 rfl ?_
    refine mj_bipush (v := 8) dX9_next_8 (by decide) ?_
    refine mj_icmp_ge 66 dX9_next_10 (by decide) (fun z => absurd z (by decide)) (fun _ => ?_)
    refine mj_iload_n dX9_next_13 4 rfl ?_
    refine mj_iload dX9_next_14 0 rfl ?_
    refine mj_ishr dX9_next_16 ?_
    rw [show (1 : Int32) >>> ((1 : Int32) &&& 31) = 0 by decide]
    refine mj_iconst (v := 1) dX9_next_17 (by decide) ?_
    refine mj_iand dX9_next_18 ?_
    rw [show (0 : Int32) &&& 1 = 0 by decide]
    refine mj_if_eq 60 dX9_next_19 (by decide) (fun _ => ?_) (fun z => absurd (by decide) z)
    refine mj_iinc (k := 0) (v := 2) (lv2 := [(5, .int 2), (4, .int 1), (0, .ref 946), (1, .int x1), (2, .int 1), (3, .int x3)]) dX9_next_60 rfl (by decide) (by decide) rfl ?_
    refine mj_goto 6 dX9_next_63 (by decide) ?_
    refine mj_iload dX9_next_6 0 rfl ?_
    refine mj_bipush (v := 8) dX9_next_8 (by decide) ?_
    refine mj_icmp_ge 66 dX9_next_10 (by decide) (fun z => absurd z (by decide)) (fun _ => ?_)
    refine mj_iload_n dX9_next_13 4 rfl ?_
    refine mj_iload dX9_next_14 0 rfl ?_
    refine mj_ishr dX9_next_16 ?_
    rw [show (1 : Int32) >>> ((2 : Int32) &&& 31) = 0 by decide]
    refine mj_iconst (v := 1) dX9_next_17 (by decide) ?_
    refine mj_iand dX9_next_18 ?_
    rw [show (0 : Int32) &&& 1 = 0 by decide]
    refine mj_if_eq 60 dX9_next_19 (by decide) (fun _ => ?_) (fun z => absurd (by decide) z)
    refine mj_iinc (k := 0) (v := 3) (lv2 := [(5, .int 3), (4, .int 1), (0, .ref 946), (1, .int x1), (2, .int 1), (3, .int x3)]) dX9_next_60 rfl (by decide) (by decide) rfl ?_
    refine mj_goto 6 dX9_next_63 (by decide) ?_
    refine mj_iload dX9_next_6 0 rfl ?_
    refine mj_bipush (v := 8) dX9_next_8 (by decide) ?_
    refine mj_icmp_ge 66 dX9_next_10 (by decide) (fun z => absurd z (by decide)) (fun _ => ?_)
    refine mj_iload_n dX9_next_13 4 rfl ?_
    refine mj_iload dX9_next_14 0 rfl ?_
    refine mj_ishr dX9_next_16 ?_
    rw [show (1 : Int32) >>> ((3 : Int32) &&& 31) = 0 by decide]
    refine mj_iconst (v := 1) dX9_next_17 (by decide) ?_
    refine mj_iand dX9_next_18 ?_
    rw [show (0 : Int32) &&& 1 = 0 by decide]
    refine mj_if_eq 60 dX9_next_19 (by decide) (fun _ => ?_) (fun z => absurd (by decide) z)
    refine mj_iinc (k := 0) (v := 4) (lv2 := [(5, .int 4), (4, .int 1), (0, .ref 946), (1, .int x1), (2, .int 1), (3, .int x3)]) dX9_next_60 rfl (by decide) (by decide) rfl ?_
    refine mj_goto 6 dX9_next_63 (by decide) ?_
    refine mj_iload dX9_next_6 0 rfl ?_
    refine mj_bipush (v := 8) dX9_next_8 (by decide) ?_
    refine mj_icmp_ge 66 dX9_next_10 (by decide) (fun z => absurd z (by decide)) (fun _ => ?_)
    refine mj_iload_n dX9_next_13 4 rfl ?_
    refine mj_iload dX9_next_14 0 rfl ?_
    refine mj_ishr dX9_next_16 ?_
    rw [show (1 : Int32) >>> ((4 : Int32) &&& 31) = 0 by decide]
    refine mj_iconst (v := 1) dX9_next_17 (by decide) ?_
    refine mj_iand dX9_next_18 ?_
    rw [show (0 : Int32) &&& 1 = 0 by decide]
    refine mj_if_eq 60 dX9_next_19 (by decide) (fun _ => ?_) (fun z => absurd (by decide) z)
    refine mj_iinc (k := 0) (v := 5) (lv2 := [(5, .int 5), (4, .int 1), (0, .ref 946), (1, .int x1), (2, .int 1), (3, .int x3)]) dX9_next_60 rfl (by decide) (by decide) rfl ?_
    refine mj_goto 6 dX9_next_63 (by decide) ?_
    refine mj_iload dX9_next_6 0 rfl ?_
    refine mj_bipush (v := 8) dX9_next_8 (by decide) ?_
    refine mj_icmp_ge 66 dX9_next_10 (by decide) (fun z => absurd z (by decide)) (fun _ => ?_)
    refine mj_iload_n dX9_next_13 4 rfl ?_
    refine mj_iload dX9_next_14 0 rfl ?_
    refine mj_ishr dX9_next_16 ?_
    rw [show (1 : Int32) >>> ((5 : Int32) &&& 31) = 0 by decide]
    refine mj_iconst (v := 1) dX9_next_17 (by decide) ?_
    refine mj_iand dX9_next_18 ?_
    rw [show (0 : Int32) &&& 1 = 0 by decide]
    refine mj_if_eq 60 dX9_next_19 (by decide) (fun _ => ?_) (fun z => absurd (by decide) z)
    refine mj_iinc (k := 0) (v := 6) (lv2 := [(5, .int 6), (4, .int 1), (0, .ref 946), (1, .int x1), (2, .int 1), (3, .int x3)]) dX9_next_60 rfl (by decide) (by decide) rfl ?_
    refine mj_goto 6 dX9_next_63 (by decide) ?_
    refine mj_iload dX9_next_6 0 rfl ?_
    refine mj_bipush (v := 8) dX9_next_8 (by decide) ?_
    refine mj_icmp_ge 66 dX9_next_10 (by decide) (fun z => absurd z (by decide)) (fun _ => ?_)
    refine mj_iload_n dX9_next_13 4 rfl ?_
    refine mj_iload dX9_next_14 0 rfl ?_
    refine mj_ishr dX9_next_16 ?_
    rw [show (1 : Int32) >>> ((6 : Int32) &&& 31) = 0 by decide]
    refine mj_iconst (v := 1) dX9_next_17 (by decide) ?_
    refine mj_iand dX9_next_18 ?_
    rw [show (0 : Int32) &&& 1 = 0 by decide]
    refine mj_if_eq 60 dX9_next_19 (by decide) (fun _ => ?_) (fun z => absurd (by decide) z)
    refine mj_iinc (k := 0) (v := 7) (lv2 := [(5, .int 7), (4, .int 1), (0, .ref 946), (1, .int x1), (2, .int 1), (3, .int x3)]) dX9_next_60 rfl (by decide) (by decide) rfl ?_
    refine mj_goto 6 dX9_next_63 (by decide) ?_
    refine mj_iload dX9_next_6 0 rfl ?_
    refine mj_bipush (v := 8) dX9_next_8 (by decide) ?_
    refine mj_icmp_ge 66 dX9_next_10 (by decide) (fun z => absurd z (by decide)) (fun _ => ?_)
    refine mj_iload_n dX9_next_13 4 rfl ?_
    refine mj_iload dX9_next_14 0 rfl ?_
    refine mj_ishr dX9_next_16 ?_
    rw [show (1 : Int32) >>> ((7 : Int32) &&& 31) = 0 by decide]
    refine mj_iconst (v := 1) dX9_next_17 (by decide) ?_
    refine mj_iand dX9_next_18 ?_
    rw [show (0 : Int32) &&& 1 = 0 by decide]
    refine mj_if_eq 60 dX9_next_19 (by decide) (fun _ => ?_) (fun z => absurd (by decide) z)
    refine mj_iinc (k := 0) (v := 8) (lv2 := [(5, .int 8), (4, .int 1), (0, .ref 946), (1, .int x1), (2, .int 1), (3, .int x3)]) dX9_next_60 rfl (by decide) (by decide) rfl ?_
    refine mj_goto 6 dX9_next_63 (by decide) ?_
    refine mj_iload dX9_next_6 0 rfl ?_
    refine mj_bipush (v := 8) dX9_next_8 (by decide) ?_
    refine mj_icmp_ge 66 dX9_next_10 (by decide) (fun _ => ?_) (fun z => absurd (by decide) z)
    refine mj_iload dX9_next_66 1 rfl ?_
    exact t_iret dX9_next_68 rfl (by decide) (hpost _ _ ⟨rfl, rfl⟩) (Nat.le_of_ble_eq_true rfl) (Nat.le_of_ble_eq_true rfl)

theorem dX9_canGo_0 : decode cX9_canGo 0 = .ok (.aload_n 0, 1) := by decide +kernel
theorem dX9_canGo_1 : decode cX9_canGo 1 = .ok (.iload_n 1, 1) := by decide +kernel
theorem dX9_canGo_14 : decode cX9_canGo 14 = .ok (.iconst 0, 1) := by decide +kernel
theorem dX9_canGo_15 : decode cX9_canGo 15 = .ok (.ireturn, 1) := by decide +kernel
theorem dX9_canGo_2 : decode cX9_canGo 2 = .ok (.iload_n 2, 1) := by decide +kernel
theorem dX9_canGo_3 : decode cX9_canGo 3 = .ok (.iload_n 3, 1) := by decide +kernel
theorem dX9_canGo_4 : decode cX9_canGo 4 = .ok (.invokevirtual 25, 3) := by decide +kernel
theorem dX9_canGo_7 : decode cX9_canGo 7 = .ok (.ifCond .eq 7, 3) := by decide +kernel
set_option maxRecDepth 4000 in
set_option maxHeartbeats 400000 in
theorem N_canGo_a (s : t_S) (x1 : Int32) (x3 : Int32) (r_x1 : 0 ≤ x1.toInt ∧ x1.toInt ≤ 3) (r_x3 : 0 ≤ x3.toInt ∧ x3.toInt ≤ 7) (hz_I_947 : ∀ i, s.1 947 i = 0) : t_C yX9_canGo cX9_canGo 4 (some .boolean) 1 [.ref 946, .int x1, .int 1, .int x3] s (fun v s' => v = some (.int 0) ∧ s' = s) := by
  refine t_C.of (by decide +kernel) (Nat.le_of_ble_eq_true rfl) ?_
  intro D cy ad bs X
  suffices main : ∀ post : Option Value → t_S → Prop, (∀ v s', (v = some (.int 0) ∧ s' = s) → post v s') → mj_G D cy ad bs X cX9_canGo 4 yX9_canGo.cls (some .boolean) yX9_canGo.name 1 0 0 1065 (t_P post) 0 [(0, .ref 946), (1, .int x1), (2, .int 1), (3, .int x3)] [] (t_m s) 1065 0 0 from main _ (fun _ _ h => h)
  intro post hpost
  refine mj_aload_n dX9_canGo_0 0 rfl ?_
  refine mj_iload_n dX9_canGo_1 1 rfl ?_
  refine mj_iload_n dX9_canGo_2 2 rfl ?_
  refine mj_iload_n dX9_canGo_3 3 rfl ?_
  refine t_callV dX9_canGo_4 M_X9_next (N_next_a s x1 x3 (by omega) (by omega) hz_I_947) ML_X9_25 IM_X9_next SE_X9_next qc_946 rfl (As := [.int x1, .int 1, .int x3]) rfl rfl (Nat.le_of_ble_eq_true rfl) (Nat.le_of_ble_eq_true rfl) (Nat.le_of_ble_eq_true rfl) (Nat.le_of_ble_eq_true rfl) (fun v s1 hp => ?_)
  obtain ⟨rfl, hq⟩ := hp
  rw [hq]
  clear hq s1
  refine mj_if_eq 14 dX9_canGo_7 (by decide) (fun _ => ?_) (fun z => absurd (by decide) z)
  refine mj_iconst (v := 0) dX9_canGo_14 (by decide) ?_
  exact t_iret dX9_canGo_15 rfl (by decide) (hpost _ _ ⟨rfl, rfl⟩) (Nat.le_of_ble_eq_true rfl) (Nat.le_of_ble_eq_true rfl)

theorem dX9_canGo_10 : decode cX9_canGo 10 = .ok (.iconst 1, 1) := by decide +kernel
theorem dX9_canGo_11 : decode cX9_canGo 11 = .ok (.goto 4, 3) := by decide +kernel
set_option maxRecDepth 4000 in
set_option maxHeartbeats 400000 in
theorem N_canGo_b (s : t_S) (x1 : Int32) (x3 : Int32) (r_x1 : 0 ≤ x1.toInt ∧ x1.toInt ≤ 3) (r_x3 : 8 ≤ x3.toInt ∧ x3.toInt ≤ 8) (hz_I_947 : ∀ i, s.1 947 i = 0) : t_C yX9_canGo cX9_canGo 4 (some .boolean) 2 [.ref 946, .int x1, .int 1, .int x3] s (fun v s' => v = some (.int 1) ∧ s' = s) := by
  refine t_C.of (by decide +kernel) (Nat.le_of_ble_eq_true rfl) ?_
  intro D cy ad bs X
  suffices main : ∀ post : Option Value → t_S → Prop, (∀ v s', (v = some (.int 1) ∧ s' = s) → post v s') → mj_G D cy ad bs X cX9_canGo 4 yX9_canGo.cls (some .boolean) yX9_canGo.name 2 0 0 1065 (t_P post) 0 [(0, .ref 946), (1, .int x1), (2, .int 1), (3, .int x3)] [] (t_m s) 1065 0 0 from main _ (fun _ _ h => h)
  intro post hpost
  refine mj_aload_n dX9_canGo_0 0 rfl ?_
  refine mj_iload_n dX9_canGo_1 1 rfl ?_
  refine mj_iload_n dX9_canGo_2 2 rfl ?_
  refine mj_iload_n dX9_canGo_3 3 rfl ?_
  refine t_callV dX9_canGo_4 M_X9_next (N_next_b s x1 x3 (by omega) (by omega) hz_I_947) ML_X9_25 IM_X9_next SE_X9_next qc_946 rfl (As := [.int x1, .int 1, .int x3]) rfl rfl (Nat.le_of_ble_eq_true rfl) (Nat.le_of_ble_eq_true rfl) (Nat.le_of_ble_eq_true rfl) (Nat.le_of_ble_eq_true rfl) (fun v s1 hp => ?_)
  obtain ⟨rfl, hq⟩ := hp
  rw [hq]
  clear hq s1
  refine mj_if_eq 14 dX9_canGo_7 (by decide) (fun z => absurd z (by decide)) (fun _ => ?_)
  refine mj_iconst (v := 1) dX9_canGo_10 (by decide) ?_
  refine mj_goto 15 dX9_canGo_11 (by decide) ?_
  exact t_iret dX9_canGo_15 rfl (by decide) (hpost _ _ ⟨rfl, rfl⟩) (Nat.le_of_ble_eq_true rfl) (Nat.le_of_ble_eq_true rfl)

theorem dX9_breaking_0 : decode cX9_breaking 0 = .ok (.iconst 4, 1) := by decide +kernel
theorem dX9_breaking_1 : decode cX9_breaking 1 = .ok (.istore 4, 2) := by decide +kernel
theorem dX9_breaking_10 : decode cX9_breaking 10 = .ok (.aload_n 0, 1) := by decide +kernel
theorem dX9_breaking_11 : decode cX9_breaking 11 = .ok (.iload_n 1, 1) := by decide +kernel
theorem dX9_breaking_12 : decode cX9_breaking 12 = .ok (.iload_n 3, 1) := by decide +kernel
theorem dX9_breaking_13 : decode cX9_breaking 13 = .ok (.bipush 8, 2) := by decide +kernel
theorem dX9_breaking_15 : decode cX9_breaking 15 = .ok (.ishr, 1) := by decide +kernel
theorem dX9_breaking_16 : decode cX9_breaking 16 = .ok (.iload 4, 2) := by decide +kernel
theorem dX9_breaking_18 : decode cX9_breaking 18 = .ok (.invokevirtual 50, 3) := by decide +kernel
theorem dX9_breaking_21 : decode cX9_breaking 21 = .ok (.ifCond .eq 21, 3) := by decide +kernel
theorem dX9_breaking_24 : decode cX9_breaking 24 = .ok (.aload_n 0, 1) := by decide +kernel
theorem dX9_breaking_25 : decode cX9_breaking 25 = .ok (.iload_n 2, 1) := by decide +kernel
theorem dX9_breaking_26 : decode cX9_breaking 26 = .ok (.iload_n 3, 1) := by decide +kernel
theorem dX9_breaking_27 : decode cX9_breaking 27 = .ok (.sipush 255, 3) := by decide +kernel
theorem dX9_breaking_3 : decode cX9_breaking 3 = .ok (.iload 4, 2) := by decide +kernel
theorem dX9_breaking_30 : decode cX9_breaking 30 = .ok (.iand, 1) := by decide +kernel
theorem dX9_breaking_31 : decode cX9_breaking 31 = .ok (.iload 4, 2) := by decide +kernel
theorem dX9_breaking_33 : decode cX9_breaking 33 = .ok (.invokevirtual 50, 3) := by decide +kernel
theorem dX9_breaking_36 : decode cX9_breaking 36 = .ok (.ifCond .ne 6, 3) := by decide +kernel
theorem dX9_breaking_42 : decode cX9_breaking 42 = .ok (.iinc 4 1, 3) := by decide +kernel
theorem dX9_breaking_45 : decode cX9_breaking 45 = .ok (.goto (-42), 3) := by decide +kernel
theorem dX9_breaking_48 : decode cX9_breaking 48 = .ok (.iconst (-1), 1) := by decide +kernel
theorem dX9_breaking_49 : decode cX9_breaking 49 = .ok (.ireturn, 1) := by decide +kernel
theorem dX9_breaking_5 : decode cX9_breaking 5 = .ok (.bipush 8, 2) := by decide +kernel
theorem dX9_breaking_7 : decode cX9_breaking 7 = .ok (.if_icmp .gt 41, 3) := by decide +kernel
set_option maxRecDepth 4000 in
set_option maxHeartbeats 400000 in
theorem N_X9_breaking (s : t_S) (x1 : Int32) (x2 : Int32) (r_x1 : 0 ≤ x1.toInt ∧ x1.toInt ≤ 3) (r_x2 : 0 ≤ x2.toInt ∧ x2.toInt ≤ 3) (hz_I_947 : ∀ i, s.1 947 i = 0) : t_C yX9_breaking cX9_breaking 5 (some .int) 3 [.ref 946, .int x1, .int x2, .int 257] s (fun v s' => v = some (.int (-1)) ∧ s' = s) := by
  refine t_C.of (by decide +kernel) (Nat.le_of_ble_eq_true rfl) ?_
  intro D cy ad bs X
  suffices main : ∀ post : Option Value → t_S → Prop, (∀ v s', (v = some (.int (-1)) ∧ s' = s) → post v s') → mj_G D cy ad bs X cX9_breaking 5 yX9_breaking.cls (some .int) yX9_breaking.name 3 0 0 1065 (t_P post) 0 [(0, .ref 946), (1, .int x1), (2, .int x2), (3, .int 257)] [] (t_m s) 1065 0 0 from main _ (fun _ _ h => h)
  intro post hpost
  refine mj_iconst (v := 4) dX9_breaking_0 (by decide) ?_
  refine mj_istore (lv2 := [(4, .int 4), (0, .ref 946), (1, .int x1), (2, .int x2), (3, .int 257)]) dX9_breaking_1 (by decide) rfl ?_
  refine mj_iload dX9_breaking_3 0 rfl ?_
  refine mj_bipush (v := 8) dX9_breaking_5 (by decide) ?_
  refine mj_icmp_gt 48 dX9_breaking_7 (by decide) (fun z => absurd z (by decide)) (fun _ => ?_)
  refine mj_aload_n dX9_breaking_10 1 rfl ?_
  refine mj_iload_n dX9_breaking_11 2 rfl ?_
  refine mj_iload_n dX9_breaking_12 4 rfl ?_
  refine mj_bipush (v := 8) dX9_breaking_13 (by decide) ?_
  refine mj_ishr dX9_breaking_15 ?_
  rw [show (257 : Int32) >>> ((8 : Int32) &&& 31) = 1 by decide]
  refine mj_iload dX9_breaking_16 0 rfl ?_
  refine t_callV dX9_breaking_18 M_X9_canGo (N_canGo_a s x1 4 (by omega) (by decide) hz_I_947) ML_X9_50 IM_X9_canGo SE_X9_canGo qc_946 rfl (As := [.int x1, .int 1, .int 4]) rfl rfl (Nat.le_of_ble_eq_true rfl) (Nat.le_of_ble_eq_true rfl) (Nat.le_of_ble_eq_true rfl) (Nat.le_of_ble_eq_true rfl) (fun v s1 hp => ?_)
  obtain ⟨rfl, hq⟩ := hp
  rw [hq]
  clear hq s1
  refine mj_if_eq 42 dX9_breaking_21 (by decide) (fun _ => ?_) (fun z => absurd (by decide) z)
  refine mj_iinc (k := 0) (v := 5) (lv2 := [(4, .int 5), (0, .ref 946), (1, .int x1), (2, .int x2), (3, .int 257)]) dX9_breaking_42 rfl (by decide) (by decide) rfl ?_
  refine mj_goto 3 dX9_breaking_45 (by decide) ?_
  refine mj_iload dX9_breaking_3 0 rfl ?_
  refine mj_bipush (v := 8) dX9_breaking_5 (by decide) ?_
  refine mj_icmp_gt 48 dX9_breaking_7 (by decide) (fun z => absurd z (by decide)) (fun _ => ?_)
  refine mj_aload_n dX9_breaking_10 1 rfl ?_
  refine mj_iload_n dX9_breaking_11 2 rfl ?_
  refine mj_iload_n dX9_breaking_12 4 rfl ?_
  refine mj_bipush (v := 8) dX9_breaking_13 (by decide) ?_
  refine mj_ishr dX9_breaking_15 ?_
  rw [show (257 : Int32) >>> ((8 : Int32) &&& 31) = 1 by decide]
  refine mj_iload dX9_breaking_16 0 rfl ?_
  refine t_callV dX9_breaking_18 M_X9_canGo (N_canGo_a s x1 5 (by omega) (by decide) hz_I_947) ML_X9_50 IM_X9_canGo SE_X9_canGo qc_946 rfl (As := [.int x1, .int 1, .int 5]) rfl rfl (Nat.le_of_ble_eq_true rfl) (Nat.le_of_ble_eq_true rfl) (Nat.le_of_ble_eq_true rfl) (Nat.le_of_ble_eq_true rfl) (fun v s2 hp => ?_)
  obtain ⟨rfl, hq⟩ := hp
  rw [hq]
  clear hq s2
  refine mj_if_eq 42 dX9_breaking_21 (by decide) (fun _ => ?_) (fun z => absurd (by decide) z)
  refine mj_iinc (k := 0) (v := 6) (lv2 := [(4, .int 6), (0, .ref 946), (1, .int x1), (2, .int x2), (3, .int 257)]) dX9_breaking_42 rfl (by decide) (by decide) rfl ?_
  refine mj_goto 3 dX9_breaking_45 (by decide) ?_
  refine mj_iload dX9_breaking_3 0 rfl ?_
  refine mj_bipush (v := 8) dX9_breaking_5 (by decide) ?_
  refine mj_icmp_gt 48 dX9_breaking_7 (by decide) (fun z => absurd z (by decide)) (fun _ => ?_)
  refine mj_aload_n dX9_breaking_10 1 rfl ?_
  refine mj_iload_n dX9_breaking_11 2 rfl ?_
  refine mj_iload_n dX9_breaking_12 4 rfl ?_
  refine mj_bipush (v := 8) dX9_breaking_13 (by decide) ?_
  refine mj_ishr dX9_breaking_15 ?_
  rw [show (257 : Int32) >>> ((8 : Int32) &&& 31) = 1 by decide]
  refine mj_iload dX9_breaking_16 0 rfl ?_
  refine t_callV dX9_breaking_18 M_X9_canGo (N_canGo_a s x1 6 (by omega) (by decide) hz_I_947) ML_X9_50 IM_X9_canGo SE_X9_canGo qc_946 rfl (As := [.int x1, .int 1, .int 6]) rfl rfl (Nat.le_of_ble_eq_true rfl) (Nat.le_of_ble_eq_true rfl) (Nat.le_of_ble_eq_true rfl) (Nat.le_of_ble_eq_true rfl) (fun v s3 hp => ?_)
  obtain ⟨rfl, hq⟩ := hp
  rw [hq]
  clear hq s3
  refine mj_if_eq 42 dX9_breaking_21 (by decide) (fun _ => ?_) (fun z => absurd (by decide) z)
  refine mj_iinc (k := 0) (v := 7) (lv2 := [(4, .int 7), (0, .ref 946), (1, .int x1), (2, .int x2), (3, .int 257)]) dX9_breaking_42 rfl (by decide) (by decide) rfl ?_
  refine mj_goto 3 dX9_breaking_45 (by decide) ?_
  refine mj_iload dX9_breaking_3 0 rfl ?_
  refine mj_bipush (v := 8) dX9_breaking_5 (by decide) ?_
  refine mj_icmp_gt 48 dX9_breaking_7 (by decide) (fun z => absurd z (by decide)) (fun _ => ?_)
  refine mj_aload_n dX9_breaking_10 1 rfl ?_
  refine mj_iload_n dX9_breaking_11 2 rfl ?_
  refine mj_iload_n dX9_breaking_12 4 rfl ?_
  refine mj_bipush (v := 8) dX9_breaking_13 (by decide) ?_
  refine mj_ishr dX9_breaking_15 ?_
  rw [show (257 : Int32) >>> ((8 : Int32) &&& 31) = 1 by decide]
  refine mj_iload dX9_breaking_16 0 rfl ?_
  refine t_callV dX9_breaking_18 M_X9_canGo (N_canGo_a s x1 7 (by omega) (by decide) hz_I_947) ML_X9_50 IM_X9_canGo SE_X9_canGo qc_946 rfl (As := [.int x1, .int 1, .int 7]) rfl rfl (Nat.le_of_ble_eq_true rfl) (Nat.le_of_ble_eq_true rfl) (Nat.le_of_ble_eq_true rfl) (Nat.le_of_ble_eq_true rfl) (fun v s4 hp => ?_)
  obtain ⟨rfl, hq⟩ := hp
  rw [hq]
  clear hq s4
  refine mj_if_eq 42 dX9_breaking_21 (by decide) (fun _ => ?_) (fun z => absurd (by decide) z)
  refine mj_iinc (k := 0) (v := 8) (lv2 := [(4, .int 8), (0, .ref 946), (1, .int x1), (2, .int x2), (3, .int 257)]) dX9_breaking_42 rfl (by decide) (by decide) rfl ?_
  refine mj_goto 3 dX9_breaking_45 (by decide) ?_
  refine mj_iload dX9_breaking_3 0 rfl ?_
  refine mj_bipush (v := 8) dX9_breaking_5 (by decide) ?_
  refine mj_icmp_gt 48 dX9_breaking_7 (by decide) (fun z => absurd z (by decide)) (fun _ => ?_)
  refine mj_aload_n dX9_breaking_10 1 rfl ?_
  refine mj_iload_n dX9_breaking_11 2 rfl ?_
  refine mj_iload_n dX9_breaking_12 4 rfl ?_
  refine mj_bipush (v := 8) dX9_breaking_13 (by decide) ?_
  refine mj_ishr dX9_breaking_15 ?_
  rw [show (257 : Int32) >>> ((8 : Int32) &&& 31) = 1 by decide]
  refine mj_iload dX9_breaking_16 0 rfl ?_
  refine t_callV dX9_breaking_18 M_X9_canGo (N_canGo_b s x1 8 (by omega) (by decide) hz_I_947) ML_X9_50 IM_X9_canGo SE_X9_canGo qc_946 rfl (As := [.int x1, .int 1, .int 8]) rfl rfl (Nat.le_of_ble_eq_true rfl) (Nat.le_of_ble_eq_true rfl) (Nat.le_of_ble_eq_true rfl) (Nat.le_of_ble_eq_true rfl) (fun v s5 hp => ?_)
  obtain ⟨rfl, hq⟩ := hp
  rw [hq]
  clear hq s5
  refine mj_if_eq 42 dX9_breaking_21 (by decide) (fun z => absurd z (by decide)) (fun _ => ?_)
  refine mj_aload_n dX9_breaking_24 1 rfl ?_
  refine mj_iload_n dX9_breaking_25 3 rfl ?_
  refine mj_iload_n dX9_breaking_26 4 rfl ?_
  refine mj_sipush (v := 255) dX9_breaking_27 (by decide) ?_
  refine mj_iand dX9_breaking_30 ?_
  rw [show (257 : Int32) &&& 255 = 1 by decide]
  refine mj_iload dX9_breaking_31 0 rfl ?_
  refine t_callV dX9_breaking_33 M_X9_canGo (N_canGo_b s x2 8 (by omega) (by decide) hz_I_947) ML_X9_50 IM_X9_canGo SE_X9_canGo qc_946 rfl (As := [.int x2, .int 1, .int 8]) rfl rfl (Nat.le_of_ble_eq_true rfl) (Nat.le_of_ble_eq_true rfl) (Nat.le_of_ble_eq_true rfl) (Nat.le_of_ble_eq_true rfl) (fun v s6 hp => ?_)
  obtain ⟨rfl, hq⟩ := hp
  rw [hq]
  clear hq s6
  refine mj_if_ne 42 dX9_breaking_36 (by decide) (fun _ => ?_) (fun z => absurd z (by decide))
  refine mj_iinc (k := 0) (v := 9) (lv2 := [(4, .int 9), (0, .ref 946), (1, .int x1), (2, .int x2), (3, .int 257)]) dX9_breaking_42 rfl (by decide) (by decide) rfl ?_
  refine mj_goto 3 dX9_breaking_45 (by decide) ?_
  refine mj_iload dX9_breaking_3 0 rfl ?_
  refine mj_bipush (v := 8) dX9_breaking_5 (by decide) ?_
  refine mj_icmp_gt 48 dX9_breaking_7 (by decide) (fun _ => ?_) (fun z => absurd (by decide) z)
  refine mj_iconst (v := (-1)) dX9_breaking_48 (by decide) ?_
  exact t_iret dX9_breaking_49 rfl (by decide) (hpost _ _ ⟨rfl, rfl⟩) (Nat.le_of_ble_eq_true rfl) (Nat.le_of_ble_eq_true rfl)

theorem dX9_reach_0 : decode cX9_reach 0 = .ok (.iload 4, 2) := by decide +kernel
theorem dX9_reach_105 : decode cX9_reach 105 = .ok (.iinc 6 1, 3) := by decide +kernel
theorem dX9_reach_108 : decode cX9_reach 108 = .ok (.goto (-101), 3) := by decide +kernel
theorem dX9_reach_11 : decode cX9_reach 11 = .ok (.if_icmp .gt 100, 3) := by decide +kernel
theorem dX9_reach_111 : decode cX9_reach 111 = .ok (.iload 5, 2) := by decide +kernel
theorem dX9_reach_113 : decode cX9_reach 113 = .ok (.ireturn, 1) := by decide +kernel
theorem dX9_reach_14 : decode cX9_reach 14 = .ok (.aload_n 0, 1) := by decide +kernel
theorem dX9_reach_15 : decode cX9_reach 15 = .ok (.iload_n 1, 1) := by decide +kernel
theorem dX9_reach_16 : decode cX9_reach 16 = .ok (.iload_n 3, 1) := by decide +kernel
theorem dX9_reach_17 : decode cX9_reach 17 = .ok (.bipush 8, 2) := by decide +kernel
theorem dX9_reach_19 : decode cX9_reach 19 = .ok (.ishr, 1) := by decide +kernel
theorem dX9_reach_2 : decode cX9_reach 2 = .ok (.istore 5, 2) := by decide +kernel
theorem dX9_reach_20 : decode cX9_reach 20 = .ok (.iload 6, 2) := by decide +kernel
theorem dX9_reach_22 : decode cX9_reach 22 = .ok (.invokevirtual 25, 3) := by decide +kernel
theorem dX9_reach_25 : decode cX9_reach 25 = .ok (.istore 7, 2) := by decide +kernel
theorem dX9_reach_27 : decode cX9_reach 27 = .ok (.aload_n 0, 1) := by decide +kernel
theorem dX9_reach_28 : decode cX9_reach 28 = .ok (.iload_n 2, 1) := by decide +kernel
theorem dX9_reach_29 : decode cX9_reach 29 = .ok (.iload_n 3, 1) := by decide +kernel
theorem dX9_reach_30 : decode cX9_reach 30 = .ok (.sipush 255, 3) := by decide +kernel
theorem dX9_reach_33 : decode cX9_reach 33 = .ok (.iand, 1) := by decide +kernel
theorem dX9_reach_34 : decode cX9_reach 34 = .ok (.iload 6, 2) := by decide +kernel
theorem dX9_reach_36 : decode cX9_reach 36 = .ok (.invokevirtual 25, 3) := by decide +kernel
theorem dX9_reach_39 : decode cX9_reach 39 = .ok (.istore 8, 2) := by decide +kernel
theorem dX9_reach_4 : decode cX9_reach 4 = .ok (.iconst 0, 1) := by decide +kernel
theorem dX9_reach_41 : decode cX9_reach 41 = .ok (.iload 7, 2) := by decide +kernel
theorem dX9_reach_43 : decode cX9_reach 43 = .ok (.bipush 8, 2) := by decide +kernel
theorem dX9_reach_45 : decode cX9_reach 45 = .ok (.ishl, 1) := by decide +kernel
theorem dX9_reach_46 : decode cX9_reach 46 = .ok (.iload 8, 2) := by decide +kernel
theorem dX9_reach_48 : decode cX9_reach 48 = .ok (.ior, 1) := by decide +kernel
theorem dX9_reach_49 : decode cX9_reach 49 = .ok (.istore 9, 2) := by decide +kernel
theorem dX9_reach_5 : decode cX9_reach 5 = .ok (.istore 6, 2) := by decide +kernel
theorem dX9_reach_51 : decode cX9_reach 51 = .ok (.iload 7, 2) := by decide +kernel
theorem dX9_reach_53 : decode cX9_reach 53 = .ok (.ifCond .eq 52, 3) := by decide +kernel
theorem dX9_reach_56 : decode cX9_reach 56 = .ok (.iload 8, 2) := by decide +kernel
theorem dX9_reach_58 : decode cX9_reach 58 = .ok (.ifCond .eq 47, 3) := by decide +kernel
theorem dX9_reach_61 : decode cX9_reach 61 = .ok (.aload_n 0, 1) := by decide +kernel
theorem dX9_reach_62 : decode cX9_reach 62 = .ok (.getfield 14, 3) := by decide +kernel
theorem dX9_reach_65 : decode cX9_reach 65 = .ok (.iload 9, 2) := by decide +kernel
theorem dX9_reach_67 : decode cX9_reach 67 = .ok (.iaload, 1) := by decide +kernel
theorem dX9_reach_68 : decode cX9_reach 68 = .ok (.ifCond .ne 37, 3) := by decide +kernel
theorem dX9_reach_7 : decode cX9_reach 7 = .ok (.iload 6, 2) := by decide +kernel
theorem dX9_reach_9 : decode cX9_reach 9 = .ok (.bipush 8, 2) := by decide +kernel
set_option maxRecDepth 4000 in
set_option maxHeartbeats 400000 in
theorem N_X9_reach (s : t_S) (x1 : Int32) (x2 : Int32) (r_x1 : 0 ≤ x1.toInt ∧ x1.toInt ≤ 3) (r_x2 : 0 ≤ x2.toInt ∧ x2.toInt ≤ 3) (hz_I_947 : ∀ i, s.1 947 i = 0) (h_I_948_257 : s.1 948 257 = (-1)) : t_C yX9_reach cX9_reach 10 (some .int) 2 [.ref 946, .int x1, .int x2, .int 257, .int 1] s (fun v s' => v = some (.int 1) ∧ s' = s) := by
  refine t_C.of (by decide +kernel) (Nat.le_of_ble_eq_true rfl) ?_
  intro D cy ad bs X
  suffices main : ∀ post : Option Value → t_S → Prop, (∀ v s', (v = some (.int 1) ∧ s' = s) → post v s') → mj_G D cy ad bs X cX9_reach 10 yX9_reach.cls (some .int) yX9_reach.name 2 0 0 1065 (t_P post) 0 [(0, .ref 946), (1, .int x1), (2, .int x2), (3, .int 257), (4, .int 1)] [] (t_m s) 1065 0 0 from main _ (fun _ _ h => h)
  intro post hpost
  refine mj_iload dX9_reach_0 4 rfl ?_
  refine mj_istore (lv2 := [(5, .int 1), (0, .ref 946), (1, .int x1), (2, .int x2), (3, .int 257), (4, .int 1)]) dX9_reach_2 (by decide) rfl ?_
  refine mj_iconst (v := 0) dX9_reach_4 (by decide) ?_
  refine mj_istore (lv2 := [(6, .int 0), (5, .int 1), (0, .ref 946), (1, .int x1), (2, .int x2), (3, .int 257), (4, .int 1)]) dX9_reach_5 (by decide) rfl ?_
  refine mj_iload dX9_reach_7 0 rfl ?_
  refine mj_bipush (v := 8) dX9_reach_9 (by decide) ?_
  refine mj_icmp_gt 111 dX9_reach_11 (by decide) (fun z => absurd z (by decide)) (fun _ => ?_)
  refine mj_aload_n dX9_reach_14 2 rfl ?_
  refine mj_iload_n dX9_reach_15 3 rfl ?_
  refine mj_iload_n dX9_reach_16 5 rfl ?_
  refine mj_bipush (v := 8) dX9_reach_17 (by decide) ?_
  refine mj_ishr dX9_reach_19 ?_
  rw [show (257 : Int32) >>> ((8 : Int32) &&& 31) = 1 by decide]
  refine mj_iload dX9_reach_20 0 rfl ?_
  refine t_callV dX9_reach_22 M_X9_next (N_next_a s x1 0 (by omega) (by decide) hz_I_947) ML_X9_25 IM_X9_next SE_X9_next qc_946 rfl (As := [.int x1, .int 1, .int 0]) rfl rfl (Nat.le_of_ble_eq_true rfl) (Nat.le_of_ble_eq_true rfl) (Nat.le_of_ble_eq_true rfl) (Nat.le_of_ble_eq_true rfl) (fun v s1 hp => ?_)
  obtain ⟨rfl, hq⟩ := hp
  rw [hq]
  clear hq s1
  refine mj_istore (lv2 := [(7, .int 0), (6, .int 0), (5, .int 1), (0, .ref 946), (1, .int x1), (2, .int x2), (3, .int 257), (4, .int 1)]) dX9_reach_25 (by decide) rfl ?_
  refine mj_aload_n dX9_reach_27 3 rfl ?_
  refine mj_iload_n dX9_reach_28 5 rfl ?_
  refine mj_iload_n dX9_reach_29 6 rfl ?_
  refine mj_sipush (v := 255) dX9_reach_30 (by decide) ?_
  refine mj_iand dX9_reach_33 ?_
  rw [show (257 : Int32) &&& 255 = 1 by decide]
  refine mj_iload dX9_reach_34 1 rfl ?_
  refine t_callV dX9_reach_36 M_X9_next (N_next_a s x2 0 (by omega) (by decide) hz_I_947) ML_X9_25 IM_X9_next SE_X9_next qc_946 rfl (As := [.int x2, .int 1, .int 0]) rfl rfl (Nat.le_of_ble_eq_true rfl) (Nat.le_of_ble_eq_true rfl) (Nat.le_of_ble_eq_true rfl) (Nat.le_of_ble_eq_true rfl) (fun v s2 hp => ?_)
  obtain ⟨rfl, hq⟩ := hp
  rw [hq]
  clear hq s2
  refine mj_istore (lv2 := [(8, .int 0), (7, .int 0), (6, .int 0), (5, .int 1), (0, .ref 946), (1, .int x1), (2, .int x2), (3, .int 257), (4, .int 1)]) dX9_reach_39 (by decide) rfl ?_
  refine mj_iload dX9_reach_41 1 rfl ?_
  refine mj_bipush (v := 8) dX9_reach_43 (by decide) ?_
  refine mj_ishl dX9_reach_45 ?_
  rw [show (0 : Int32) <<< ((8 : Int32) &&& 31) = 0 by decide]
  refine mj_iload dX9_reach_46 0 rfl ?_
  refine mj_ior dX9_reach_48 ?_
  rw [show (0 : Int32) ||| 0 = 0 by decide]
  refine mj_istore (lv2 := [(9, .int 0), (8, .int 0), (7, .int 0), (6, .int 0), (5, .int 1), (0, .ref 946), (1, .int x1), (2, .int x2), (3, .int 257), (4, .int 1)]) dX9_reach_49 (by decide) rfl ?_
  refine mj_iload dX9_reach_51 2 rfl ?_
  refine mj_if_eq 105 dX9_reach_53 (by decide) (fun _ => ?_) (fun z => absurd (by decide) z)
  refine mj_iinc (k := 3) (v := 1) (lv2 := [(6, .int 1), (9, .int 0), (8, .int 0), (7, .int 0), (5, .int 1), (0, .ref 946), (1, .int x1), (2, .int x2), (3, .int 257), (4, .int 1)]) dX9_reach_105 rfl (by decide) (by decide) rfl ?_
  refine mj_goto 7 dX9_reach_108 (by decide) ?_
  refine mj_iload dX9_reach_7 0 rfl ?_
  refine mj_bipush (v := 8) dX9_reach_9 (by decide) ?_
  refine mj_icmp_gt 111 dX9_reach_11 (by decide) (fun z => absurd z (by decide)) (fun _ => ?_)
  refine mj_aload_n dX9_reach_14 5 rfl ?_
  refine mj_iload_n dX9_reach_15 6 rfl ?_
  refine mj_iload_n dX9_reach_16 8 rfl ?_
  refine mj_bipush (v := 8) dX9_reach_17 (by decide) ?_
  refine mj_ishr dX9_reach_19 ?_
  rw [show (257 : Int32) >>> ((8 : Int32) &&& 31) = 1 by decide]
  refine mj_iload dX9_reach_20 0 rfl ?_
  refine t_callV dX9_reach_22 M_X9_next (N_next_a s x1 1 (by omega) (by decide) hz_I_947) ML_X9_25 IM_X9_next SE_X9_next qc_946 rfl (As := [.int x1, .int 1, .int 1]) rfl rfl (Nat.le_of_ble_eq_true rfl) (Nat.le_of_ble_eq_true rfl) (Nat.le_of_ble_eq_true rfl) (Nat.le_of_ble_eq_true rfl) (fun v s3 hp => ?_)
  obtain ⟨rfl, hq⟩ := hp
  rw [hq]
  clear hq s3
  refine mj_istore (lv2 := [(7, .int 0), (6, .int 1), (9, .int 0), (8, .int 0), (5, .int 1), (0, .ref 946), (1, .int x1), (2, .int x2), (3, .int 257), (4, .int 1)]) dX9_reach_25 (by decide) rfl ?_
  refine mj_aload_n dX9_reach_27 5 rfl ?_
  refine mj_iload_n dX9_reach_28 7 rfl ?_
  refine mj_iload_n dX9_reach_29 8 rfl ?_
  refine mj_sipush (v := 255) dX9_reach_30 (by decide) ?_
  refine mj_iand dX9_reach_33 ?_
  rw [show (257 : Int32) &&& 255 = 1 by decide]
  refine mj_iload dX9_reach_34 1 rfl ?_
  refine t_callV dX9_reach_36 M_X9_next (N_next_a s x2 1 (by omega) (by decide) hz_I_947) ML_X9_25 IM_X9_next SE_X9_next qc_946 rfl (As := [.int x2, .int 1, .int 1]) rfl rfl (Nat.le_of_ble_eq_true rfl) (Nat.le_of_ble_eq_true rfl) (Nat.le_of_ble_eq_true rfl) (Nat.le_of_ble_eq_true rfl) (fun v s4 hp => ?_)
  obtain ⟨rfl, hq⟩ := hp
  rw [hq]
  clear hq s4
  refine mj_istore (lv2 := [(8, .int 0), (7, .int 0), (6, .int 1), (9, .int 0), (5, .int 1), (0, .ref 946), (1, .int x1), (2, .int x2), (3, .int 257), (4, .int 1)]) dX9_reach_39 (by decide) rfl ?_
  refine mj_iload dX9_reach_41 1 rfl ?_
  refine mj_bipush (v := 8) dX9_reach_43 (by decide) ?_
  refine mj_ishl dX9_reach_45 ?_
  rw [show (0 : Int32) <<< ((8 : Int32) &&& 31) = 0 by decide]
  refine mj_iload dX9_reach_46 0 rfl ?_
  refine mj_ior dX9_reach_48 ?_
  rw [show (0 : Int32) ||| 0 = 0 by decide]
  refine mj_istore (lv2 := [(9, .int 0), (8, .int 0), (7, .int 0), (6, .int 1), (5, .int 1), (0, .ref 946), (1, .int x1), (2, .int x2), (3, .int 257), (4, .int 1)]) dX9_reach_49 (by decide) rfl ?_
  refine mj_iload dX9_reach_51 2 rfl ?_
  refine mj_if_eq 105 dX9_reach_53 (by decide) (fun _ => ?_) (fun z => absurd (by decide) z)
  refine mj_iinc (k := 3) (v := 2) (lv2 := [(6, .int 2), (9, .int 0), (8, .int 0), (7, .int 0), (5, .int 1), (0, .ref 946), (1, .int x1), (2, .int x2), (3, .int 257), (4, .int 1)]) dX9_reach_105 rfl (by decide) (by decide) rfl ?_
  refine mj_goto 7 dX9_reach_108 (by decide) ?_
  refine mj_iload dX9_reach_7 0 rfl ?_
  refine mj_bipush (v := 8) dX9_reach_9 (by decide) ?_
  refine mj_icmp_gt 111 dX9_reach_11 (by decide) (fun z => absurd z (by decide)) (fun _ => ?_)
  refine mj_aload_n dX9_reach_14 5 rfl ?_
  refine mj_iload_n dX9_reach_15 6 rfl ?_
  refine mj_iload_n dX9_reach_16 8 rfl ?_
  refine mj_bipush (v := 8) dX9_reach_17 (by decide) ?_
  refine mj_ishr dX9_reach_19 ?_
  rw [show (257 : Int32) >>> ((8 : Int32) &&& 31) = 1 by decide]
  refine mj_iload dX9_reach_20 0 rfl ?_
  refine t_callV dX9_reach_22 M_X9_next (N_next_a s x1 2 (by omega) (by decide) hz_I_947) ML_X9_25 IM_X9_next SE_X9_next qc_946 rfl (As := [.int x1, .int 1, .int 2]) rfl rfl (Nat.le_of_ble_eq_true rfl) (Nat.le_of_ble_eq_true rfl) (Nat.le_of_ble_eq_true rfl) (Nat.le_of_ble_eq_true rfl) (fun v s5 hp => ?_)
  obtain ⟨rfl, hq⟩ := hp
  rw [hq]
  clear hq s5
  refine mj_istore (lv2 := [(7, .int 0), (6, .int 2), (9, .int 0), (8, .int 0), (5, .int 1), (0, .ref 946), (1, .int x1), (2, .int x2), (3, .int 257), (4, .int 1)]) dX9_reach_25 (by decide) rfl ?_
  refine mj_aload_n dX9_reach_27 5 rfl ?_
  refine mj_iload_n dX9_reach_28 7 rfl ?_
  refine mj_iload_n dX9_reach_29 8 rfl ?_
  refine mj_sipush (v := 255) dX9_reach_30 (by decide) ?_
  refine mj_iand dX9_reach_33 ?_
  rw [show (257 : Int32) &&& 255 = 1 by decide]
  refine mj_iload dX9_reach_34 1 rfl ?_
  refine t_callV dX9_reach_36 M_X9_next (N_next_a s x2 2 (by omega) (by decide) hz_I_947) ML_X9_25 IM_X9_next SE_X9_next qc_946 rfl (As := [.int x2, .int 1, .int 2]) rfl rfl (Nat.le_of_ble_eq_true rfl) (Nat.le_of_ble_eq_true rfl) (Nat.le_of_ble_eq_true rfl) (Nat.le_of_ble_eq_true rfl) (fun v s6 hp => ?_)
  obtain ⟨rfl, hq⟩ := hp
  rw [hq]
  clear hq s6
  refine mj_istore (lv2 := [(8, .int 0), (7, .int 0), (6, .int 2), (9, .int 0), (5, .int 1), (0, .ref 946), (1, .int x1), (2, .int x2), (3, .int 257), (4, .int 1)]) dX9_reach_39 (by decide) rfl ?_
  refine mj_iload dX9_reach_41 1 rfl ?_
  refine mj_bipush (v := 8) dX9_reach_43 (by decide) ?_
  refine mj_ishl dX9_reach_45 ?_
  rw [show (0 : Int32) <<< ((8 : Int32) &&& 31) = 0 by decide]
  refine mj_iload dX9_reach_46 0 rfl ?_
  refine mj_ior dX9_reach_48 ?_
  rw [show (0 : Int32) ||| 0 = 0 by decide]
  refine mj_istore (lv2 := [(9, .int 0), (8, .int 0), (7, .int 0), (6, .int 2), (5, .int 1), (0, .ref 946), (1, .int x1), (2, .int x2), (3, .int 257), (4, .int 1)]) dX9_reach_49 (by decide) rfl ?_
  refine mj_iload dX9_reach_51 2 rfl ?_
  refine mj_if_eq 105 dX9_reach_53 (by decide) (fun _ => ?_) (fun z => absurd (by decide) z)
  refine mj_iinc (k := 3) (v := 3) (lv2 := [(6, .int 3), (9, .int 0), (8, .int 0), (7, .int 0), (5, .int 1), (0, .ref 946), (1, .int x1), (2, .int x2), (3, .int 257), (4, .int 1)]) dX9_reach_105 rfl (by decide) (by decide) rfl ?_
  refine mj_goto 7 dX9_reach_108 (by decide) ?_
  refine mj_iload dX9_reach_7 0 rfl ?_
  refine mj_bipush (v := 8) dX9_reach_9 (by decide) ?_
  refine mj_icmp_gt 111 dX9_reach_11 (by decide) (fun z => absurd z (by decide)) (fun _ => ?_)
  refine mj_aload_n dX9_reach_14 5 rfl ?_
  refine mj_iload_n dX9_reach_15 6 rfl ?_
  refine mj_iload_n dX9_reach_16 8 rfl ?_
  refine mj_bipush (v := 8) dX9_reach_17 (by decide) ?_
  refine mj_ishr dX9_reach_19 ?_
  rw [show (257 : Int32) >>> ((8 : Int32) &&& 31) = 1 by decide]
  refine mj_iload dX9_reach_20 0 rfl ?_
  refine t_callV dX9_reach_22 M_X9_next (N_next_a s x1 3 (by omega) (by decide) hz_I_947) ML_X9_25 IM_X9_next SE_X9_next qc_946 rfl (As := [.int x1, .int 1, .int 3]) rfl rfl (Nat.le_of_ble_eq_true rfl) (Nat.le_of_ble_eq_true rfl) (Nat.le_of_ble_eq_true rfl) (Nat.le_of_ble_eq_true rfl) (fun v s7 hp => ?_)
  obtain ⟨rfl, hq⟩ := hp
  rw [hq]
  clear hq s7
  refine mj_istore (lv2 := [(7, .int 0), (6, .int 3), (9, .int 0), (8, .int 0), (5, .int 1), (0, .ref 946), (1, .int x1), (2, .int x2), (3, .int 257), (4, .int 1)]) dX9_reach_25 (by decide) rfl ?_
  refine mj_aload_n dX9_reach_27 5 rfl ?_
  refine mj_iload_n dX9_reach_28 7 rfl ?_
  refine mj_iload_n dX9_reach_29 8 rfl ?_
  refine mj_sipush (v := 255) dX9_reach_30 (by decide) ?_
  refine mj_iand dX9_reach_33 ?_
  rw [show (257 : Int32) &&& 255 = 1 by decide]
  refine mj_iload dX9_reach_34 1 rfl ?_
  refine t_callV dX9_reach_36 M_X9_next (N_next_a s x2 3 (by omega) (by decide) hz_I_947) ML_X9_25 IM_X9_next SE_X9_next qc_946 rfl (As := [.int x2, .int 1, .int 3]) rfl rfl (Nat.le_of_ble_eq_true rfl) (Nat.le_of_ble_eq_true rfl) (Nat.le_of_ble_eq_true rfl) (Nat.le_of_ble_eq_true rfl) (fun v s8 hp => ?_)
  obtain ⟨rfl, hq⟩ := hp
  rw [hq]
  clear hq s8
  refine mj_istore (lv2 := [(8, .int 0), (7, .int 0), (6, .int 3), (9, .int 0), (5, .int 1), (0, .ref 946), (1, .int x1), (2, .int x2), (3, .int 257), (4, .int 1)]) dX9_reach_39 (by decide) rfl ?_
  refine mj_iload dX9_reach_41 1 rfl ?_
  refine mj_bipush (v := 8) dX9_reach_43 (by decide) ?_
  refine mj_ishl dX9_reach_45 ?_
  rw [show (0 : Int32) <<< ((8 : Int32) &&& 31) = 0 by decide]
  refine mj_iload dX9_reach_46 0 rfl ?_
  refine mj_ior dX9_reach_48 ?_
  rw [show (0 : Int32) ||| 0 = 0 by decide]
  refine mj_istore (lv2 := [(9, .int 0), (8, .int 0), (7, .int 0), (6, .int 3), (5, .int 1), (0, .ref 946), (1, .int x1), (2, .int x2), (3, .int 257), (4, .int 1)]) dX9_reach_49 (by decide) rfl ?_
  refine mj_iload dX9_reach_51 2 rfl ?_
  refine mj_if_eq 105 dX9_reach_53 (by decide) (fun _ => ?_) (fun z => absurd (by decide) z)
  refine mj_iinc (k := 3) (v := 4) (lv2 := [(6, .int 4), (9, .int 0), (8, .int 0), (7, .int 0), (5, .int 1), (0, .ref 946), (1, .int x1), (2, .int x2), (3, .int 257), (4, .int 1)]) dX9_reach_105 rfl (by decide) (by decide) rfl ?_
  refine mj_goto 7 dX9_reach_108 (by decide) ?_
  refine mj_iload dX9_reach_7 0 rfl ?_
  refine mj_bipush (v := 8) dX9_reach_9 (by decide) ?_
  refine mj_icmp_gt 111 dX9_reach_11 (by decide) (fun z => absurd z (by decide)) (fun _ => ?_)
  refine mj_aload_n dX9_reach_14 5 rfl ?_
  refine mj_iload_n dX9_reach_15 6 rfl ?_
  refine mj_iload_n dX9_reach_16 8 rfl ?_
  refine mj_bipush (v := 8) dX9_reach_17 (by decide) ?_
  refine mj_ishr dX9_reach_19 ?_
  rw [show (257 : Int32) >>> ((8 : Int32) &&& 31) = 1 by decide]
  refine mj_iload dX9_reach_20 0 rfl ?_
  refine t_callV dX9_reach_22 M_X9_next (N_next_a s x1 4 (by omega) (by decide) hz_I_947) ML_X9_25 IM_X9_next SE_X9_next qc_946 rfl (As := [.int x1, .int 1, .int 4]) rfl rfl (Nat.le_of_ble_eq_true rfl) (Nat.le_of_ble_eq_true rfl) (Nat.le_of_ble_eq_true rfl) (Nat.le_of_ble_eq_true rfl) (fun v s9 hp => ?_)
  obtain ⟨rfl, hq⟩ := hp
  rw [hq]
  clear hq s9
  refine mj_istore (lv2 := [(7, .int 0), (6, .int 4), (9, .int 0), (8, .int 0), (5, .int 1), (0, .ref 946), (1, .int x1), (2, .int x2), (3, .int 257), (4, .int 1)]) dX9_reach_25 (by decide) rfl ?_
  refine mj_aload_n dX9_reach_27 5 rfl ?_
  refine mj_iload_n dX9_reach_28 7 rfl ?_
  refine mj_iload_n dX9_reach_29 8 rfl ?_
  refine mj_sipush (v := 255) dX9_reach_30 (by decide) ?_
  refine mj_iand dX9_reach_33 ?_
  rw [show (257 : Int32) &&& 255 = 1 by decide]
  refine mj_iload dX9_reach_34 1 rfl ?_
  refine t_callV dX9_reach_36 M_X9_next (N_next_a s x2 4 (by omega) (by decide) hz_I_947) ML_X9_25 IM_X9_next SE_X9_next qc_946 rfl (As := [.int x2, .int 1, .int 4]) rfl rfl (Nat.le_of_ble_eq_true rfl) (Nat.le_of_ble_eq_true rfl) (Nat.le_of_ble_eq_true rfl) (Nat.le_of_ble_eq_true rfl) (fun v s10 hp => ?_)
  obtain ⟨rfl, hq⟩ := hp
  rw [hq]
  clear hq s10
  refine mj_istore (lv2 := [(8, .int 0), (7, .int 0), (6, .int 4), (9, .int 0), (5, .int 1), (0, .ref 946), (1, .int x1), (2, .int x2), (3, .int 257), (4, .int 1)]) dX9_reach_39 (by decide) rfl ?_
  refine mj_iload dX9_reach_41 1 rfl ?_
  refine mj_bipush (v := 8) dX9_reach_43 (by decide) ?_
  refine mj_ishl dX9_reach_45 ?_
  rw [show (0 : Int32) <<< ((8 : Int32) &&& 31) = 0 by decide]
  refine mj_iload dX9_reach_46 0 rfl ?_
  refine mj_ior dX9_reach_48 ?_
  rw [show (0 : Int32) ||| 0 = 0 by decide]
  refine mj_istore (lv2 := [(9, .int 0), (8, .int 0), (7, .int 0), (6, .int 4), (5, .int 1), (0, .ref 946), (1, .int x1), (2, .int x2), (3, .int 257), (4, .int 1)]) dX9_reach_49 (by decide) rfl ?_
  refine mj_iload dX9_reach_51 2 rfl ?_
  refine mj_if_eq 105 dX9_reach_53 (by decide) (fun _ => ?_) (fun z => absurd (by decide) z)
  refine mj_iinc (k := 3) (v := 5) (lv2 := [(6, .int 5), (9, .int 0), (8, .int 0), (7, .int 0), (5, .int 1), (0, .ref 946), (1, .int x1), (2, .int x2), (3, .int 257), (4, .int 1)]) dX9_reach_105 rfl (by decide) (by decide) rfl ?_
  refine mj_goto 7 dX9_reach_108 (by decide) ?_
  refine mj_iload dX9_reach_7 0 rfl ?_
  refine mj_bipush (v := 8) dX9_reach_9 (by decide) ?_
  refine mj_icmp_gt 111 dX9_reach_11 (by decide) (fun z => absurd z (by decide)) (fun _ => ?_)
  refine mj_aload_n dX9_reach_14 5 rfl ?_
  refine mj_iload_n dX9_reach_15 6 rfl ?_
  refine mj_iload_n dX9_reach_16 8 rfl ?_
  refine mj_bipush (v := 8) dX9_reach_17 (by decide) ?_
  refine mj_ishr dX9_reach_19 ?_
  rw [show (257 : Int32) >>> ((8 : Int32) &&& 31) = 1 by decide]
  refine mj_iload dX9_reach_20 0 rfl ?_
  refine t_callV dX9_reach_22 M_X9_next (N_next_a s x1 5 (by omega) (by decide) hz_I_947) ML_X9_25 IM_X9_next SE_X9_next qc_946 rfl (As := [.int x1, .int 1, .int 5]) rfl rfl (Nat.le_of_ble_eq_true rfl) (Nat.le_of_ble_eq_true rfl) (Nat.le_of_ble_eq_true rfl) (Nat.le_of_ble_eq_true rfl) (fun v s11 hp => ?_)
  obtain ⟨rfl, hq⟩ := hp
  rw [hq]
  clear hq s11
  refine mj_istore (lv2 := [(7, .int 0), (6, .int 5), (9, .int 0), (8, .int 0), (5, .int 1), (0, .ref 946), (1, .int x1), (2, .int x2), (3, .int 257), (4, .int 1)]) dX9_reach_25 (by decide) rfl ?_
  refine mj_aload_n dX9_reach_27 5 rfl ?_
  refine mj_iload_n dX9_reach_28 7 rfl ?_
  refine mj_iload_n dX9_reach_29 8 rfl ?_
  refine mj_sipush (v := 255) dX9_reach_30 (by decide) ?_
  refine mj_iand dX9_reach_33 ?_
  rw [show (257 : Int32) &&& 255 = 1 by decide]
  refine mj_iload dX9_reach_34 1 rfl ?_
  refine t_callV dX9_reach_36 M_X9_next (N_next_a s x2 5 (by omega) (by decide) hz_I_947) ML_X9_25 IM_X9_next SE_X9_next qc_946 rfl (As := [.int x2, .int 1, .int 5]) rfl rfl (Nat.le_of_ble_eq_true rfl) (Nat.le_of_ble_eq_true rfl) (Nat.le_of_ble_eq_true rfl) (Nat.le_of_ble_eq_true rfl) (fun v s12 hp => ?_)
  obtain ⟨rfl, hq⟩ := hp
  rw [hq]
  clear hq s12
  refine mj_istore (lv2 := [(8, .int 0), (7, .int 0), (6, .int 5), (9, .int 0), (5, .int 1), (0, .ref 946), (1, .int x1), (2, .int x2), (3, .int 257), (4, .int 1)]) dX9_reach_39 (by decide) rfl ?_
  refine mj_iload dX9_reach_41 1 rfl ?_
  refine mj_bipush (v := 8) dX9_reach_43 (by decide) ?_
  refine mj_ishl dX9_reach_45 ?_
  rw [show (0 : Int32) <<< ((8 : Int32) &&& 31) = 0 by decide]
  refine mj_iload dX9_reach_46 0 rfl ?_
  refine mj_ior dX9_reach_48 ?_
  rw [show (0 : Int32) ||| 0 = 0 by decide]
  refine mj_istore (lv2 := [(9, .int 0), (8, .int 0), (7, .int 0), (6, .int 5), (5, .int 1), (0, .ref 946), (1, .int x1), (2, .int x2), (3, .int 257), (4, .int 1)]) dX9_reach_49 (by decide) rfl ?_
  refine mj_iload dX9_reach_51 2 rfl ?_
  refine mj_if_eq 105 dX9_reach_53 (by decide) (fun _ => ?_) (fun z => absurd (by decide) z)
  refine mj_iinc (k := 3) (v := 6) (lv2 := [(6, .int 6), (9, .int 0), (8, .int 0), (7, .int 0), (5, .int 1), (0, .ref 946), (1, .int x1), (2, .int x2), (3, .int 257), (4, .int 1)]) dX9_reach_105 rfl (by decide) (by decide) rfl ?_
  refine mj_goto 7 dX9_reach_108 (by decide) ?_
  refine mj_iload dX9_reach_7 0 rfl ?_
  refine mj_bipush (v := 8) dX9_reach_9 (by decide) ?_
  refine mj_icmp_gt 111 dX9_reach_11 (by decide) (fun z => absurd z (by decide)) (fun _ => ?_)
  refine mj_aload_n dX9_reach_14 5 rfl ?_
  refine mj_iload_n dX9_reach_15 6 rfl ?_
  refine mj_iload_n dX9_reach_16 8 rfl ?_
  refine mj_bipush (v := 8) dX9_reach_17 (by decide) ?_
  refine mj_ishr dX9_reach_19 ?_
  rw [show (257 : Int32) >>> ((8 : Int32) &&& 31) = 1 by decide]
  refine mj_iload dX9_reach_20 0 rfl ?_
  refine t_callV dX9_reach_22 M_X9_next (N_next_a s x1 6 (by omega) (by decide) hz_I_947) ML_X9_25 IM_X9_next SE_X9_next qc_946 rfl (As := [.int x1, .int 1, .int 6]) rfl rfl (Nat.le_of_ble_eq_true rfl) (Nat.le_of_ble_eq_true rfl) (Nat.le_of_ble_eq_true rfl) (Nat.le_of_ble_eq_true rfl) (fun v s13 hp => ?_)
  obtain ⟨rfl, hq⟩ := hp
  rw [hq]
  clear hq s13
  refine mj_istore (lv2 := [(7, .int 0), (6, .int 6), (9, .int 0), (8, .int 0), (5, .int 1), (0, .ref 946), (1, .int x1), (2, .int x2), (3, .int 257), (4, .int 1)]) dX9_reach_25 (by decide) rfl ?_
  refine mj_aload_n dX9_reach_27 5 rfl ?_
  refine mj_iload_n dX9_reach_28 7 rfl ?_
  refine mj_iload_n dX9_reach_29 8 rfl ?_
  refine mj_sipush (v := 255) dX9_reach_30 (by decide) ?_
  refine mj_iand dX9_reach_33 ?_
  rw [show (257 : Int32) &&& 255 = 1 by decide]
  refine mj_iload dX9_reach_34 1 rfl ?_
  refine t_callV dX9_reach_36 M_X9_next (N_next_a s x2 6 (by omega) (by decide) hz_I_947) ML_X9_25 IM_X9_next SE_X9_next qc_946 rfl (As := [.int x2, .int 1, .int 6]) rfl rfl (Nat.le_of_ble_eq_true rfl) (Nat.le_of_ble_eq_true rfl) (Nat.le_of_ble_eq_true rfl) (Nat.le_of_ble_eq_true rfl) (fun v s14 hp => ?_)
  obtain ⟨rfl, hq⟩ := hp
  rw [hq]
  clear hq s14
  refine mj_istore (lv2 := [(8, .int 0), (7, .int 0), (6, .int 6), (9, .int 0), (5, .int 1), (0, .ref 946), (1, .int x1), (2, .int x2), (3, .int 257), (4, .int 1)]) dX9_reach_39 (by decide) rfl ?_
  refine mj_iload dX9_reach_41 1 rfl ?_
  refine mj_bipush (v := 8) dX9_reach_43 (by decide) ?_
  refine mj_ishl dX9_reach_45 ?_
  rw [show (0 : Int32) <<< ((8 : Int32) &&& 31) = 0 by decide]
  refine mj_iload dX9_reach_46 0 rfl ?_
  refine mj_ior dX9_reach_48 ?_
  rw [show (0 : Int32) ||| 0 = 0 by decide]
  refine mj_istore (lv2 := [(9, .int 0), (8, .int 0), (7, .int 0), (6, .int 6), (5, .int 1), (0, .ref 946), (1, .int x1), (2, .int x2), (3, .int 257), (4, .int 1)]) dX9_reach_49 (by decide) rfl ?_
  refine mj_iload dX9_reach_51 2 rfl ?_
  refine mj_if_eq 105 dX9_reach_53 (by decide) (fun _ => ?_) (fun z => absurd (by decide) z)
  refine mj_iinc (k := 3) (v := 7) (lv2 := [(6, .int 7), (9, .int 0), (8, .int 0), (7, .int 0), (5, .int 1), (0, .ref 946), (1, .int x1), (2, .int x2), (3, .int 257), (4, .int 1)]) dX9_reach_105 rfl (by decide) (by decide) rfl ?_
  refine mj_goto 7 dX9_reach_108 (by decide) ?_
  refine mj_iload dX9_reach_7 0 rfl ?_
  refine mj_bipush (v := 8) dX9_reach_9 (by decide) ?_
  refine mj_icmp_gt 111 dX9_reach_11 (by decide) (fun z => absurd z (by decide)) (fun _ => ?_)
  refine mj_aload_n dX9_reach_14 5 rfl ?_
  refine mj_iload_n dX9_reach_15 6 rfl ?_
  refine mj_iload_n dX9_reach_16 8 rfl ?_
  refine mj_bipush (v := 8) dX9_reach_17 (by decide) ?_
  refine mj_ishr dX9_reach_19 ?_
  rw [show (257 : Int32) >>> ((8 : Int32) &&& 31) = 1 by decide]
  refine mj_iload dX9_reach_20 0 rfl ?_
  refine t_callV dX9_reach_22 M_X9_next (N_next_a s x1 7 (by omega) (by decide) hz_I_947) ML_X9_25 IM_X9_next SE_X9_next qc_946 rfl (As := [.int x1, .int 1, .int 7]) rfl rfl (Nat.le_of_ble_eq_true rfl) (Nat.le_of_ble_eq_true rfl) (Nat.le_of_ble_eq_true rfl) (Nat.le_of_ble_eq_true rfl) (fun v s15 hp => ?_)
  obtain ⟨rfl, hq⟩ := hp
  rw [hq]
  clear hq s15
  refine mj_istore (lv2 := [(7, .int 0), (6, .int 7), (9, .int 0), (8, .int 0), (5, .int 1), (0, .ref 946), (1, .int x1), (2, .int x2), (3, .int 257), (4, .int 1)]) dX9_reach_25 (by decide) rfl ?_
  refine mj_aload_n dX9_reach_27 5 rfl ?_
  refine mj_iload_n dX9_reach_28 7 rfl ?_
  refine mj_iload_n dX9_reach_29 8 rfl ?_
  refine mj_sipush (v := 255) dX9_reach_30 (by decide) ?_
  refine mj_iand dX9_reach_33 ?_
  rw [show (257 : Int32) &&& 255 = 1 by decide]
  refine mj_iload dX9_reach_34 1 rfl ?_
  refine t_callV dX9_reach_36 M_X9_next (N_next_a s x2 7 (by omega) (by decide) hz_I_947) ML_X9_25 IM_X9_next SE_X9_next qc_946 rfl (As := [.int x2, .int 1, .int 7]) rfl rfl (Nat.le_of_ble_eq_true rfl) (Nat.le_of_ble_eq_true rfl) (Nat.le_of_ble_eq_true rfl) (Nat.le_of_ble_eq_true rfl) (fun v s16 hp => ?_)
  obtain ⟨rfl, hq⟩ := hp
  rw [hq]
  clear hq s16
  refine mj_istore (lv2 := [(8, .int 0), (7, .int 0), (6, .int 7), (9, .int 0), (5, .int 1), (0, .ref 946), (1, .int x1), (2, .int x2), (3, .int 257), (4, .int 1)]) dX9_reach_39 (by decide) rfl ?_
  refine mj_iload dX9_reach_41 1 rfl ?_
  refine mj_bipush (v := 8) dX9_reach_43 (by decide) ?_
  refine mj_ishl dX9_reach_45 ?_
  rw [show (0 : Int32) <<< ((8 : Int32) &&& 31) = 0 by decide]
  refine mj_iload dX9_reach_46 0 rfl ?_
  refine mj_ior dX9_reach_48 ?_
  rw [show (0 : Int32) ||| 0 = 0 by decide]
  refine mj_istore (lv2 := [(9, .int 0), (8, .int 0), (7, .int 0), (6, .int 7), (5, .int 1), (0, .ref 946), (1, .int x1), (2, .int x2), (3, .int 257), (4, .int 1)]) dX9_reach_49 (by decide) rfl ?_
  refine mj_iload dX9_reach_51 2 rfl ?_
  refine mj_if_eq 105 dX9_reach_53 (by decide) (fun _ => ?_) (fun z => absurd (by decide) z)
  refine mj_iinc (k := 3) (v := 8) (lv2 := [(6, .int 8), (9, .int 0), (8, .int 0), (7, .int 0), (5, .int 1), (0, .ref 946), (1, .int x1), (2, .int x2), (3, .int 257), (4, .int 1)]) dX9_reach_105 rfl (by decide) (by decide) rfl ?_
  refine mj_goto 7 dX9_reach_108 (by decide) ?_
  refine mj_iload dX9_reach_7 0 rfl ?_
  refine mj_bipush (v := 8) dX9_reach_9 (by decide) ?_
  refine mj_icmp_gt 111 dX9_reach_11 (by decide) (fun z => absurd z (by decide)) (fun _ => ?_)
  refine mj_aload_n dX9_reach_14 5 rfl ?_
  refine mj_iload_n dX9_reach_15 6 rfl ?_
  refine mj_iload_n dX9_reach_16 8 rfl ?_
  refine mj_bipush (v := 8) dX9_reach_17 (by decide) ?_
  refine mj_ishr dX9_reach_19 ?_
  rw [show (257 : Int32) >>> ((8 : Int32) &&& 31) = 1 by decide]
  refine mj_iload dX9_reach_20 0 rfl ?_
  refine t_callV dX9_reach_22 M_X9_next (N_next_b s x1 8 (by omega) (by decide) hz_I_947) ML_X9_25 IM_X9_next SE_X9_next qc_946 rfl (As := [.int x1, .int 1, .int 8]) rfl rfl (Nat.le_of_ble_eq_true rfl) (Nat.le_of_ble_eq_true rfl) (Nat.le_of_ble_eq_true rfl) (Nat.le_of_ble_eq_true rfl) (fun v s17 hp => ?_)
  obtain ⟨rfl, hq⟩ := hp
  rw [hq]
  clear hq s17
  refine mj_istore (lv2 := [(7, .int 1), (6, .int 8), (9, .int 0), (8, .int 0), (5, .int 1), (0, .ref 946), (1, .int x1), (2, .int x2), (3, .int 257), (4, .int 1)]) dX9_reach_25 (by decide) rfl ?_
  refine mj_aload_n dX9_reach_27 5 rfl ?_
  refine mj_iload_n dX9_reach_28 7 rfl ?_
  refine mj_iload_n dX9_reach_29 8 rfl ?_
  refine mj_sipush (v := 255) dX9_reach_30 (by decide) ?_
  refine mj_iand dX9_reach_33 ?_
  rw [show (257 : Int32) &&& 255 = 1 by decide]
  refine mj_iload dX9_reach_34 1 rfl ?_
  refine t_callV dX9_reach_36 M_X9_next (N_next_b s x2 8 (by omega) (by decide) hz_I_947) ML_X9_25 IM_X9_next SE_X9_next qc_946 rfl (As := [.int x2, .int 1, .int 8]) rfl rfl (Nat.le_of_ble_eq_true rfl) (Nat.le_of_ble_eq_true rfl) (Nat.le_of_ble_eq_true rfl) (Nat.le_of_ble_eq_true rfl) (fun v s18 hp => ?_)
  obtain ⟨rfl, hq⟩ := hp
  rw [hq]
  clear hq s18
  refine mj_istore (lv2 := [(8, .int 1), (7, .int 1), (6, .int 8), (9, .int 0), (5, .int 1), (0, .ref 946), (1, .int x1), (2, .int x2), (3, .int 257), (4, .int 1)]) dX9_reach_39 (by decide) rfl ?_
  refine mj_iload dX9_reach_41 1 rfl ?_
  refine mj_bipush (v := 8) dX9_reach_43 (by decide) ?_
  refine mj_ishl dX9_reach_45 ?_
  rw [show (1 : Int32) <<< ((8 : Int32) &&& 31) = 256 by decide]
  refine mj_iload dX9_reach_46 0 rfl ?_
  refine mj_ior dX9_reach_48 ?_
  rw [show (256 : Int32) ||| 1 = 257 by decide]
  refine mj_istore (lv2 := [(9, .int 257), (8, .int 1), (7, .int 1), (6, .int 8), (5, .int 1), (0, .ref 946), (1, .int x1), (2, .int x2), (3, .int 257), (4, .int 1)]) dX9_reach_49 (by decide) rfl ?_
  refine mj_iload dX9_reach_51 2 rfl ?_
  refine mj_if_eq 105 dX9_reach_53 (by decide) (fun z => absurd z (by decide)) (fun _ => ?_)
  refine mj_iload dX9_reach_56 1 rfl ?_
  refine mj_if_eq 105 dX9_reach_58 (by decide) (fun z => absurd z (by decide)) (fun _ => ?_)
  refine mj_aload_n dX9_reach_61 5 rfl ?_
  refine t_getR 948 dX9_reach_62 F_X9_14 qr_946_1 ?_
  refine mj_iload dX9_reach_65 0 rfl ?_
  refine t_iald dX9_reach_67 qa_948 (by unfold vp_in; decide) ?_
  rw [show (257 : Int32).toNatClampNeg = 257 by decide]
  rw [h_I_948_257]
  refine mj_if_ne 105 dX9_reach_68 (by decide) (fun _ => ?_) (fun z => absurd z (by decide))
  refine mj_iinc (k := 3) (v := 9) (lv2 := [(6, .int 9), (9, .int 257), (8, .int 1), (7, .int 1), (5, .int 1), (0, .ref 946), (1, .int x1), (2, .int x2), (3, .int 257), (4, .int 1)]) dX9_reach_105 rfl (by decide) (by decide) rfl ?_
  refine mj_goto 7 dX9_reach_108 (by decide) ?_
  refine mj_iload dX9_reach_7 0 rfl ?_
  refine mj_bipush (v := 8) dX9_reach_9 (by decide) ?_
  refine mj_icmp_gt 111 dX9_reach_11 (by decide) (fun _ => ?_) (fun z => absurd (by decide) z)
  refine mj_iload dX9_reach_111 4 rfl ?_
  exact t_iret dX9_reach_113 rfl (by decide) (hpost _ _ ⟨rfl, rfl⟩) (Nat.le_of_ble_eq_true rfl) (Nat.le_of_ble_eq_true rfl)

theorem dX9_follows_0 : decode cX9_follows 0 = .ok (.aload_n 0, 1) := by decide +kernel
theorem dX9_follows_1 : decode cX9_follows 1 = .ok (.getfield 14, 3) := by decide +kernel
theorem dX9_follows_100 : decode cX9_follows 100 = .ok (.goto (-66), 3) := by decide +kernel
theorem dX9_follows_103 : decode cX9_follows 103 = .ok (.aload_n 0, 1) := by decide +kernel
theorem dX9_follows_104 : decode cX9_follows 104 = .ok (.iconst 0, 1) := by decide +kernel
theorem dX9_follows_105 : decode cX9_follows 105 = .ok (.putfield 46, 3) := by decide +kernel
theorem dX9_follows_108 : decode cX9_follows 108 = .ok (.iconst 1, 1) := by decide +kernel
theorem dX9_follows_109 : decode cX9_follows 109 = .ok (.ireturn, 1) := by decide +kernel
theorem dX9_follows_12 : decode cX9_follows 12 = .ok (.iconst 0, 1) := by decide +kernel
theorem dX9_follows_13 : decode cX9_follows 13 = .ok (.sipush 257, 3) := by decide +kernel
theorem dX9_follows_16 : decode cX9_follows 16 = .ok (.iastore, 1) := by decide +kernel
theorem dX9_follows_17 : decode cX9_follows 17 = .ok (.aload_n 0, 1) := by decide +kernel
theorem dX9_follows_18 : decode cX9_follows 18 = .ok (.getfield 14, 3) := by decide +kernel
theorem dX9_follows_21 : decode cX9_follows 21 = .ok (.aload_n 0, 1) := by decide +kernel
theorem dX9_follows_22 : decode cX9_follows 22 = .ok (.getfield 18, 3) := by decide +kernel
theorem dX9_follows_25 : decode cX9_follows 25 = .ok (.iconst 0, 1) := by decide +kernel
theorem dX9_follows_26 : decode cX9_follows 26 = .ok (.iaload, 1) := by decide +kernel
theorem dX9_follows_27 : decode cX9_follows 27 = .ok (.iconst (-1), 1) := by decide +kernel
theorem dX9_follows_28 : decode cX9_follows 28 = .ok (.iastore, 1) := by decide +kernel
theorem dX9_follows_29 : decode cX9_follows 29 = .ok (.iconst 1, 1) := by decide +kernel
theorem dX9_follows_30 : decode cX9_follows 30 = .ok (.istore_n 3, 1) := by decide +kernel
theorem dX9_follows_31 : decode cX9_follows 31 = .ok (.iconst 0, 1) := by decide +kernel
theorem dX9_follows_32 : decode cX9_follows 32 = .ok (.istore 4, 2) := by decide +kernel
theorem dX9_follows_34 : decode cX9_follows 34 = .ok (.iload 4, 2) := by decide +kernel
theorem dX9_follows_36 : decode cX9_follows 36 = .ok (.iload_n 3, 1) := by decide +kernel
theorem dX9_follows_37 : decode cX9_follows 37 = .ok (.if_icmp .ge 66, 3) := by decide +kernel
theorem dX9_follows_4 : decode cX9_follows 4 = .ok (.iconst 0, 1) := by decide +kernel
theorem dX9_follows_40 : decode cX9_follows 40 = .ok (.iload 4, 2) := by decide +kernel
theorem dX9_follows_42 : decode cX9_follows 42 = .ok (.ldc 13, 2) := by decide +kernel
theorem dX9_follows_44 : decode cX9_follows 44 = .ok (.if_icmp .ge 59, 3) := by decide +kernel
theorem dX9_follows_47 : decode cX9_follows 47 = .ok (.aload_n 0, 1) := by decide +kernel
theorem dX9_follows_48 : decode cX9_follows 48 = .ok (.iload_n 1, 1) := by decide +kernel
theorem dX9_follows_49 : decode cX9_follows 49 = .ok (.iload_n 2, 1) := by decide +kernel
theorem dX9_follows_5 : decode cX9_follows 5 = .ok (.invokestatic 29, 3) := by decide +kernel
theorem dX9_follows_50 : decode cX9_follows 50 = .ok (.aload_n 0, 1) := by decide +kernel
theorem dX9_follows_51 : decode cX9_follows 51 = .ok (.getfield 18, 3) := by decide +kernel
theorem dX9_follows_54 : decode cX9_follows 54 = .ok (.iload 4, 2) := by decide +kernel
theorem dX9_follows_56 : decode cX9_follows 56 = .ok (.iaload, 1) := by decide +kernel
theorem dX9_follows_57 : decode cX9_follows 57 = .ok (.invokevirtual 35, 3) := by decide +kernel
theorem dX9_follows_60 : decode cX9_follows 60 = .ok (.istore 5, 2) := by decide +kernel
theorem dX9_follows_62 : decode cX9_follows 62 = .ok (.iload 5, 2) := by decide +kernel
theorem dX9_follows_64 : decode cX9_follows 64 = .ok (.ifCond .lt 18, 3) := by decide +kernel
theorem dX9_follows_8 : decode cX9_follows 8 = .ok (.aload_n 0, 1) := by decide +kernel
theorem dX9_follows_82 : decode cX9_follows 82 = .ok (.aload_n 0, 1) := by decide +kernel
theorem dX9_follows_83 : decode cX9_follows 83 = .ok (.iload_n 1, 1) := by decide +kernel
theorem dX9_follows_84 : decode cX9_follows 84 = .ok (.iload_n 2, 1) := by decide +kernel
theorem dX9_follows_85 : decode cX9_follows 85 = .ok (.aload_n 0, 1) := by decide +kernel
theorem dX9_follows_86 : decode cX9_follows 86 = .ok (.getfield 18, 3) := by decide +kernel
theorem dX9_follows_89 : decode cX9_follows 89 = .ok (.iload 4, 2) := by decide +kernel
theorem dX9_follows_9 : decode cX9_follows 9 = .ok (.getfield 18, 3) := by decide +kernel
theorem dX9_follows_91 : decode cX9_follows 91 = .ok (.iaload, 1) := by decide +kernel
theorem dX9_follows_92 : decode cX9_follows 92 = .ok (.iload_n 3, 1) := by decide +kernel
theorem dX9_follows_93 : decode cX9_follows 93 = .ok (.invokevirtual 42, 3) := by decide +kernel
theorem dX9_follows_96 : decode cX9_follows 96 = .ok (.istore_n 3, 1) := by decide +kernel
theorem dX9_follows_97 : decode cX9_follows 97 = .ok (.iinc 4 1, 3) := by decide +kernel
set_option maxRecDepth 4000 in
set_option maxHeartbeats 400000 in
theorem N_X9_follows (s : t_S) (x1 : Int32) (x2 : Int32) (r_x1 : 0 ≤ x1.toInt ∧ x1.toInt ≤ 3) (r_x2 : 0 ≤ x2.toInt ∧ x2.toInt ≤ 3) (hz_I_947 : ∀ i, s.1 947 i = 0) (hz_I_948 : ∀ i, s.1 948 i = 0) : t_C yX9_follows cX9_follows 6 (some .boolean) 4 [.ref 946, .int x1, .int x2] s (fun v s' => v = some (.int 1) ∧ t_keep [946, 948, 949] s s') := by
  refine t_C.of (by decide +kernel) (Nat.le_of_ble_eq_true rfl) ?_
  intro D cy ad bs X
  suffices main : ∀ post : Option Value → t_S → Prop, (∀ v s', (v = some (.int 1) ∧ t_keep [946, 948, 949] s s') → post v s') → mj_G D cy ad bs X cX9_follows 6 yX9_follows.cls (some .boolean) yX9_follows.name 4 0 0 1065 (t_P post) 0 [(0, .ref 946), (1, .int x1), (2, .int x2)] [] (t_m s) 1065 0 0 from main _ (fun _ _ h => h)
  intro post hpost
  refine mj_aload_n dX9_follows_0 0 rfl ?_
  refine t_getR 948 dX9_follows_1 F_X9_14 qr_946_1 ?_
  refine mj_iconst (v := 0) dX9_follows_4 (by decide) ?_
  refine t_callS dX9_follows_5 M_J7_fill_53178 (N_fill0 s 948 65536 qa_948 (by decide) hz_I_948) ML_X9_29 SM_J7_fill_53178 (As := [.ref 948, .int 0]) rfl rfl (Nat.le_of_ble_eq_true rfl) (Nat.le_of_ble_eq_true rfl) (Nat.le_of_ble_eq_true rfl) (Nat.le_of_ble_eq_true rfl) (fun v s1 hp => ?_)
  obtain ⟨rfl, e2, k3⟩ := hp
  refine mj_aload_n dX9_follows_8 0 rfl ?_
  refine t_getR 949 dX9_follows_9 F_X9_18 qr_946_2 ?_
  refine mj_iconst (v := 0) dX9_follows_12 (by decide) ?_
  refine mj_sipush (v := 257) dX9_follows_13 (by decide) ?_
  refine t_iast dX9_follows_16 qa_949 (by unfold vp_in; decide) ?_
  rw [show (0 : Int32).toNatClampNeg = 0 by decide]
  obtain ⟨s4, w5⟩ : ∃ z, z = t_setI s1 949 0 257 := ⟨_, rfl⟩
  rw [← w5]
  refine mj_aload_n dX9_follows_17 0 rfl ?_
  refine t_getR 948 dX9_follows_18 F_X9_14 qr_946_1 ?_
  refine mj_aload_n dX9_follows_21 0 rfl ?_
  refine t_getR 949 dX9_follows_22 F_X9_18 qr_946_2 ?_
  refine mj_iconst (v := 0) dX9_follows_25 (by decide) ?_
  refine t_iald dX9_follows_26 qa_949 (by unfold vp_in; decide) ?_
  rw [show (0 : Int32).toNatClampNeg = 0 by decide]
  rw [(t_wI w5)]
  refine mj_iconst (v := (-1)) dX9_follows_27 (by decide) ?_
  refine t_iast dX9_follows_28 qa_948 (by unfold vp_in; decide) ?_
  rw [show (257 : Int32).toNatClampNeg = 257 by decide]
  obtain ⟨s6, w7⟩ : ∃ z, z = t_setI s4 948 257 (-1) := ⟨_, rfl⟩
  rw [← w7]
  refine mj_iconst (v := 1) dX9_follows_29 (by decide) ?_
  refine mj_istore_n 3 (lv2 := [(3, .int 1), (0, .ref 946), (1, .int x1), (2, .int x2)]) dX9_follows_30 rfl (by decide) rfl ?_
  refine mj_iconst (v := 0) dX9_follows_31 (by decide) ?_
  refine mj_istore (lv2 := [(4, .int 0), (3, .int 1), (0, .ref 946), (1, .int x1), (2, .int x2)]) dX9_follows_32 (by decide) rfl ?_
  refine mj_iload dX9_follows_34 0 rfl ?_
  refine mj_iload_n dX9_follows_36 1 rfl ?_
  refine mj_icmp_ge 103 dX9_follows_37 (by decide) (fun z => absurd z (by decide)) (fun _ => ?_)
  refine mj_iload dX9_follows_40 0 rfl ?_
  refine mj_ldc dX9_follows_42 K_X9_13 ?_
  refine mj_icmp_ge 103 dX9_follows_44 (by decide) (fun z => absurd z (by decide)) (fun _ => ?_)
  refine mj_aload_n dX9_follows_47 2 rfl ?_
  refine mj_iload_n dX9_follows_48 3 rfl ?_
  refine mj_iload_n dX9_follows_49 4 rfl ?_
  refine mj_aload_n dX9_follows_50 2 rfl ?_
  refine t_getR 949 dX9_follows_51 F_X9_18 qr_946_2 ?_
  refine mj_iload dX9_follows_54 0 rfl ?_
  refine t_iald dX9_follows_56 qa_949 (by unfold vp_in; decide) ?_
  rw [show (0 : Int32).toNatClampNeg = 0 by decide]
  rw [((t_oI w7 949 0 rfl).trans (t_wI w5))]
  refine t_callV dX9_follows_57 M_X9_breaking (N_X9_breaking s6 x1 x2 (by omega) (by omega) (fun i => (t_oI w7 947 i rfl).trans ((fun i => (t_oI w5 947 i rfl).trans ((fun i => (congrFun (k3 947 (by decide)).1 i).trans (hz_I_947 i)) i)) i))) ML_X9_35 IM_X9_breaking SE_X9_breaking qc_946 rfl (As := [.int x1, .int x2, .int 257]) rfl rfl (Nat.le_of_ble_eq_true rfl) (Nat.le_of_ble_eq_true rfl) (Nat.le_of_ble_eq_true rfl) (Nat.le_of_ble_eq_true rfl) (fun v s8 hp => ?_)
  obtain ⟨rfl, hq⟩ := hp
  rw [hq]
  clear hq s8
  refine mj_istore (lv2 := [(5, .int (-1)), (4, .int 0), (3, .int 1), (0, .ref 946), (1, .int x1), (2, .int x2)]) dX9_follows_60 (by decide) rfl ?_
  refine mj_iload dX9_follows_62 0 rfl ?_
  refine mj_if_lt 82 dX9_follows_64 (by decide) (fun _ => ?_) (fun z => absurd (by decide) z)
  refine mj_aload_n dX9_follows_82 3 rfl ?_
  refine mj_iload_n dX9_follows_83 4 rfl ?_
  refine mj_iload_n dX9_follows_84 5 rfl ?_
  refine mj_aload_n dX9_follows_85 3 rfl ?_
  refine t_getR 949 dX9_follows_86 F_X9_18 qr_946_2 ?_
  refine mj_iload dX9_follows_89 1 rfl ?_
  refine t_iald dX9_follows_91 qa_949 (by unfold vp_in; decide) ?_
  rw [show (0 : Int32).toNatClampNeg = 0 by decide]
  rw [((t_oI w7 949 0 rfl).trans (t_wI w5))]
  refine mj_iload_n dX9_follows_92 2 rfl ?_
  refine t_callV dX9_follows_93 M_X9_reach (N_X9_reach s6 x1 x2 (by omega) (by omega) (fun i => (t_oI w7 947 i rfl).trans ((fun i => (t_oI w5 947 i rfl).trans ((fun i => (congrFun (k3 947 (by decide)).1 i).trans (hz_I_947 i)) i)) i)) (t_wI w7)) ML_X9_42 IM_X9_reach SE_X9_reach qc_946 rfl (As := [.int x1, .int x2, .int 257, .int 1]) rfl rfl (Nat.le_of_ble_eq_true rfl) (Nat.le_of_ble_eq_true rfl) (Nat.le_of_ble_eq_true rfl) (Nat.le_of_ble_eq_true rfl) (fun v s9 hp => ?_)
  obtain ⟨rfl, hq⟩ := hp
  rw [hq]
  clear hq s9
  refine mj_istore_n 3 (lv2 := [(3, .int 1), (5, .int (-1)), (4, .int 0), (0, .ref 946), (1, .int x1), (2, .int x2)]) dX9_follows_96 rfl (by decide) rfl ?_
  refine mj_iinc (k := 2) (v := 1) (lv2 := [(4, .int 1), (3, .int 1), (5, .int (-1)), (0, .ref 946), (1, .int x1), (2, .int x2)]) dX9_follows_97 rfl (by decide) (by decide) rfl ?_
  refine mj_goto 34 dX9_follows_100 (by decide) ?_
  refine mj_iload dX9_follows_34 0 rfl ?_
  refine mj_iload_n dX9_follows_36 1 rfl ?_
  refine mj_icmp_ge 103 dX9_follows_37 (by decide) (fun _ => ?_) (fun z => absurd (by decide) z)
  refine mj_aload_n dX9_follows_103 3 rfl ?_
  refine mj_iconst (v := 0) dX9_follows_104 (by decide) ?_
  refine t_putI dX9_follows_105 F_X9_46 qf_946_3 (by decide) ?_
  obtain ⟨s10, w11⟩ : ∃ z, z = t_setI s6 946 3 0 := ⟨_, rfl⟩
  rw [← w11]
  refine mj_iconst (v := 1) dX9_follows_108 (by decide) ?_
  exact t_iret dX9_follows_109 rfl (by decide) (hpost _ _ ⟨rfl, ((((k3.mono (by decide)).trans (t_keep_I w5 (by decide))).trans (t_keep_I w7 (by decide))).trans (t_keep_I w11 (by decide)))⟩) (Nat.le_of_ble_eq_true rfl) (Nat.le_of_ble_eq_true rfl)

/-- conforms() of a new object -/
def N_conf (m n : Int32) : Int32 := if (0 ≤ m.toInt ∧ m.toInt ≤ 3) ∧ (0 ≤ n.toInt ∧ n.toInt ≤ 3) then 1 else -1
/-- can() of a new object -/
def N_can (m k a : Int32) : Int32 := if (0 ≤ m.toInt ∧ m.toInt ≤ 3) ∧ k.toInt = 0 ∧ (0 ≤ a.toInt ∧ a.toInt ≤ 8) then (if a.toInt = 8 then 1 else 0) else -1
/-- move() of a new object -/
def N_move (m a b c : Int32) : Int32 := if (0 ≤ m.toInt ∧ m.toInt ≤ 3) ∧ (0 ≤ a.toInt ∧ a.toInt ≤ 7) ∧ (0 ≤ b.toInt ∧ b.toInt ≤ 7) ∧ (0 ≤ c.toInt ∧ c.toInt ≤ 7) then 0 else -1
/-- bits() of a new object -/
def N_bits (n : Int32) : Int32 := if 0 ≤ n.toInt ∧ n.toInt ≤ 32 then n else -1

theorem dX12_conforms_0 : decode cX12_conforms 0 = .ok (.iload_n 1, 1) := by decide +kernel
theorem dX12_conforms_1 : decode cX12_conforms 1 = .ok (.invokestatic 373, 3) := by decide +kernel
theorem dX12_conforms_11 : decode cX12_conforms 11 = .ok (.ifCond .ne 5, 3) := by decide +kernel
theorem dX12_conforms_14 : decode cX12_conforms 14 = .ok (.iconst (-1), 1) := by decide +kernel
theorem dX12_conforms_15 : decode cX12_conforms 15 = .ok (.ireturn, 1) := by decide +kernel
theorem dX12_conforms_16 : decode cX12_conforms 16 = .ok (.aload_n 0, 1) := by decide +kernel
theorem dX12_conforms_17 : decode cX12_conforms 17 = .ok (.getfield 91, 3) := by decide +kernel
theorem dX12_conforms_20 : decode cX12_conforms 20 = .ok (.iload_n 1, 1) := by decide +kernel
theorem dX12_conforms_21 : decode cX12_conforms 21 = .ok (.iload_n 2, 1) := by decide +kernel
theorem dX12_conforms_22 : decode cX12_conforms 22 = .ok (.invokevirtual 379, 3) := by decide +kernel
theorem dX12_conforms_25 : decode cX12_conforms 25 = .ok (.ifCond .eq 7, 3) := by decide +kernel
theorem dX12_conforms_28 : decode cX12_conforms 28 = .ok (.iconst 1, 1) := by decide +kernel
theorem dX12_conforms_29 : decode cX12_conforms 29 = .ok (.goto 4, 3) := by decide +kernel
theorem dX12_conforms_33 : decode cX12_conforms 33 = .ok (.ireturn, 1) := by decide +kernel
theorem dX12_conforms_4 : decode cX12_conforms 4 = .ok (.ifCond .eq 10, 3) := by decide +kernel
theorem dX12_conforms_7 : decode cX12_conforms 7 = .ok (.iload_n 2, 1) := by decide +kernel
theorem dX12_conforms_8 : decode cX12_conforms 8 = .ok (.invokestatic 373, 3) := by decide +kernel
set_option maxRecDepth 4000 in
set_option maxHeartbeats 400000 in
theorem N_X12_conforms (s : t_S) (x1 : Int32) (x2 : Int32) (hz_I_947 : ∀ i, s.1 947 i = 0) (hz_I_948 : ∀ i, s.1 948 i = 0) : t_C yX12_conforms cX12_conforms 3 (some .int) 5 [.ref 0, .int x1, .int x2] s (fun v s' => v = some (.int (N_conf x1 x2)) ∧ t_keep [946, 948, 949] s s') := by
  refine t_C.of (by decide +kernel) (Nat.le_of_ble_eq_true rfl) ?_
  intro D cy ad bs X
  suffices main : ∀ post : Option Value → t_S → Prop, (∀ v s', (v = some (.int (N_conf x1 x2)) ∧ t_keep [946, 948, 949] s s') → post v s') → mj_G D cy ad bs X cX12_conforms 3 yX12_conforms.cls (some .int) yX12_conforms.name 5 0 0 1065 (t_P post) 0 [(0, .ref 0), (1, .int x1), (2, .int x2)] [] (t_m s) 1065 0 0 from main _ (fun _ _ h => h)
  intro post hpost
  refine mj_iload_n dX12_conforms_0 1 rfl ?_
  by_cases q1 : 0 ≤ x1.toInt ∧ x1.toInt ≤ 3
  · refine t_callS dX12_conforms_1 M_X9_is (N_is1 s x1 (by omega)) ML_X12_373 SM_X9_is (As := [.int x1]) rfl rfl (Nat.le_of_ble_eq_true rfl) (Nat.le_of_ble_eq_true rfl) (Nat.le_of_ble_eq_true rfl) (Nat.le_of_ble_eq_true rfl) (fun v s2 hp => ?_)
    obtain ⟨rfl, hq⟩ := hp
    rw [hq]
    clear hq s2
    refine mj_if_eq 14 dX12_conforms_4 (by decide) (fun z => absurd z (by decide)) (fun _ => ?_)
    refine mj_iload_n dX12_conforms_7 2 rfl ?_
    by_cases q3 : 0 ≤ x2.toInt ∧ x2.toInt ≤ 3
    · refine t_callS dX12_conforms_8 M_X9_is (N_is1 s x2 (by omega)) ML_X12_373 SM_X9_is (As := [.int x2]) rfl rfl (Nat.le_of_ble_eq_true rfl) (Nat.le_of_ble_eq_true rfl) (Nat.le_of_ble_eq_true rfl) (Nat.le_of_ble_eq_true rfl) (fun v s4 hp => ?_)
      obtain ⟨rfl, hq⟩ := hp
      rw [hq]
      clear hq s4
      refine mj_if_ne 16 dX12_conforms_11 (by decide) (fun _ => ?_) (fun z => absurd z (by decide))
      refine mj_aload_n dX12_conforms_16 0 rfl ?_
      refine t_getR 946 dX12_conforms_17 F_X12_91 qr_0_9 ?_
      refine mj_iload_n dX12_conforms_20 1 rfl ?_
      refine mj_iload_n dX12_conforms_21 2 rfl ?_
      refine t_callV dX12_conforms_22 M_X9_follows (N_X9_follows s x1 x2 (by omega) (by omega) hz_I_947 hz_I_948) ML_X12_379 IM_X9_follows SE_X9_follows qc_946 rfl (As := [.int x1, .int x2]) rfl rfl (Nat.le_of_ble_eq_true rfl) (Nat.le_of_ble_eq_true rfl) (Nat.le_of_ble_eq_true rfl) (Nat.le_of_ble_eq_true rfl) (fun v s5 hp => ?_)
      obtain ⟨rfl, k6⟩ := hp
      refine mj_if_eq 32 dX12_conforms_25 (by decide) (fun z => absurd z (by decide)) (fun _ => ?_)
      refine mj_iconst (v := 1) dX12_conforms_28 (by decide) ?_
      refine mj_goto 33 dX12_conforms_29 (by decide) ?_
      exact t_iret dX12_conforms_33 rfl (by decide) (hpost _ _ ⟨(congrArg (fun z => some (Value.int z)) (by unfold N_conf; (repeat' split) <;> first | rfl | omega)), (k6.mono (by decide))⟩) (Nat.le_of_ble_eq_true rfl) (Nat.le_of_ble_eq_true rfl)
    · refine t_callS dX12_conforms_8 M_X9_is (N_is0 s x2 q3) ML_X12_373 SM_X9_is (As := [.int x2]) rfl rfl (Nat.le_of_ble_eq_true rfl) (Nat.le_of_ble_eq_true rfl) (Nat.le_of_ble_eq_true rfl) (Nat.le_of_ble_eq_true rfl) (fun v s7 hp => ?_)
      obtain ⟨rfl, hq⟩ := hp
      rw [hq]
      clear hq s7
      refine mj_if_ne 16 dX12_conforms_11 (by decide) (fun z => absurd (by decide) z) (fun _ => ?_)
      refine mj_iconst (v := (-1)) dX12_conforms_14 (by decide) ?_
      exact t_iret dX12_conforms_15 rfl (by decide) (hpost _ _ ⟨(congrArg (fun z => some (Value.int z)) (by unfold N_conf; (repeat' split) <;> first | rfl | omega)), t_keep.rf⟩) (Nat.le_of_ble_eq_true rfl) (Nat.le_of_ble_eq_true rfl)
  · refine t_callS dX12_conforms_1 M_X9_is (N_is0 s x1 q1) ML_X12_373 SM_X9_is (As := [.int x1]) rfl rfl (Nat.le_of_ble_eq_true rfl) (Nat.le_of_ble_eq_true rfl) (Nat.le_of_ble_eq_true rfl) (Nat.le_of_ble_eq_true rfl) (fun v s8 hp => ?_)
    obtain ⟨rfl, hq⟩ := hp
    rw [hq]
    clear hq s8
    refine mj_if_eq 14 dX12_conforms_4 (by decide) (fun _ => ?_) (fun z => absurd (by decide) z)
    refine mj_iconst (v := (-1)) dX12_conforms_14 (by decide) ?_
    exact t_iret dX12_conforms_15 rfl (by decide) (hpost _ _ ⟨(congrArg (fun z => some (Value.int z)) (by unfold N_conf; (repeat' split) <;> first | rfl | omega)), t_keep.rf⟩) (Nat.le_of_ble_eq_true rfl) (Nat.le_of_ble_eq_true rfl)

theorem dX9_able_0 : decode cX9_able 0 = .ok (.iconst 1, 1) := by decide +kernel
theorem dX9_able_1 : decode cX9_able 1 = .ok (.istore 4, 2) := by decide +kernel
theorem dX9_able_3 : decode cX9_able 3 = .ok (.iconst 0, 1) := by decide +kernel
theorem dX9_able_39 : decode cX9_able 39 = .ok (.aload_n 0, 1) := by decide +kernel
theorem dX9_able_4 : decode cX9_able 4 = .ok (.istore 5, 2) := by decide +kernel
theorem dX9_able_40 : decode cX9_able 40 = .ok (.iload_n 1, 1) := by decide +kernel
theorem dX9_able_41 : decode cX9_able 41 = .ok (.iload 4, 2) := by decide +kernel
theorem dX9_able_43 : decode cX9_able 43 = .ok (.iload_n 3, 1) := by decide +kernel
theorem dX9_able_44 : decode cX9_able 44 = .ok (.invokevirtual 50, 3) := by decide +kernel
theorem dX9_able_47 : decode cX9_able 47 = .ok (.ireturn, 1) := by decide +kernel
theorem dX9_able_6 : decode cX9_able 6 = .ok (.iload 5, 2) := by decide +kernel
theorem dX9_able_8 : decode cX9_able 8 = .ok (.iload_n 2, 1) := by decide +kernel
theorem dX9_able_9 : decode cX9_able 9 = .ok (.if_icmp .ge 30, 3) := by decide +kernel
set_option maxRecDepth 4000 in
set_option maxHeartbeats 400000 in
theorem N_able_a (s : t_S) (x1 : Int32) (x2 : Int32) (x3 : Int32) (r_x1 : 0 ≤ x1.toInt ∧ x1.toInt ≤ 3) (r_x2 : 0 ≤ x2.toInt ∧ x2.toInt ≤ 0) (r_x3 : 0 ≤ x3.toInt ∧ x3.toInt ≤ 7) (hz_I_947 : ∀ i, s.1 947 i = 0) : t_C yX9_able cX9_able 6 (some .boolean) 2 [.ref 946, .int x1, .int x2, .int x3] s (fun v s' => v = some (.int 0) ∧ s' = s) := by
  refine t_C.of (by decide +kernel) (Nat.le_of_ble_eq_true rfl) ?_
  intro D cy ad bs X
  suffices main : ∀ post : Option Value → t_S → Prop, (∀ v s', (v = some (.int 0) ∧ s' = s) → post v s') → mj_G D cy ad bs X cX9_able 6 yX9_able.cls (some .boolean) yX9_able.name 2 0 0 1065 (t_P post) 0 [(0, .ref 946), (1, .int x1), (2, .int x2), (3, .int x3)] [] (t_m s) 1065 0 0 from main _ (fun _ _ h => h)
  intro post hpost
  refine mj_iconst (v := 1) dX9_able_0 (by decide) ?_
  refine mj_istore (lv2 := [(4, .int 1), (0, .ref 946), (1, .int x1), (2, .int x2), (3, .int x3)]) dX9_able_1 (by decide) rfl ?_
  refine mj_iconst (v := 0) dX9_able_3 (by decide) ?_
  refine mj_istore (lv2 := [(5, .int 0), (4, .int 1), (0, .ref 946), (1, .int x1), (2, .int x2), (3, .int x3)]) dX9_able_4 (by decide) rfl ?_
  refine mj_iload dX9_able_6 0 rfl ?_
  refine mj_iload_n dX9_able_8 4 rfl ?_
  refine mj_icmp_ge 39 dX9_able_9 (by decide) (fun z1 => ?_) (fun z1 => ?_)
  · have z1i : x2.toInt ≤ 0 := (t_le (0) rfl).mp z1
    refine mj_aload_n dX9_able_39 2 rfl ?_
    refine mj_iload_n dX9_able_40 3 rfl ?_
    refine mj_iload dX9_able_41 1 rfl ?_
    refine mj_iload_n dX9_able_43 5 rfl ?_
    refine t_callV dX9_able_44 M_X9_canGo (N_canGo_a s x1 x3 (by omega) (by omega) hz_I_947) ML_X9_50 IM_X9_canGo SE_X9_canGo qc_946 rfl (As := [.int x1, .int 1, .int x3]) rfl rfl (Nat.le_of_ble_eq_true rfl) (Nat.le_of_ble_eq_true rfl) (Nat.le_of_ble_eq_true rfl) (Nat.le_of_ble_eq_true rfl) (fun v s2 hp => ?_)
    obtain ⟨rfl, hq⟩ := hp
    rw [hq]
    clear hq s2
    exact t_iret dX9_able_47 rfl (by decide) (hpost _ _ ⟨rfl, rfl⟩) (Nat.le_of_ble_eq_true rfl) (Nat.le_of_ble_eq_true rfl)
  · have z1i : ¬ x2.toInt ≤ 0 := fun q => z1 ((t_le (0) rfl).mpr q)
    exfalso; omega

set_option maxRecDepth 4000 in
set_option maxHeartbeats 400000 in
theorem N_able_b (s : t_S) (x1 : Int32) (x2 : Int32) (x3 : Int32) (r_x1 : 0 ≤ x1.toInt ∧ x1.toInt ≤ 3) (r_x2 : 0 ≤ x2.toInt ∧ x2.toInt ≤ 0) (r_x3 : 8 ≤ x3.toInt ∧ x3.toInt ≤ 8) (hz_I_947 : ∀ i, s.1 947 i = 0) : t_C yX9_able cX9_able 6 (some .boolean) 3 [.ref 946, .int x1, .int x2, .int x3] s (fun v s' => v = some (.int 1) ∧ s' = s) := by
  refine t_C.of (by decide +kernel) (Nat.le_of_ble_eq_true rfl) ?_
  intro D cy ad bs X
  suffices main : ∀ post : Option Value → t_S → Prop, (∀ v s', (v = some (.int 1) ∧ s' = s) → post v s') → mj_G D cy ad bs X cX9_able 6 yX9_able.cls (some .boolean) yX9_able.name 3 0 0 1065 (t_P post) 0 [(0, .ref 946), (1, .int x1), (2, .int x2), (3, .int x3)] [] (t_m s) 1065 0 0 from main _ (fun _ _ h => h)
  intro post hpost
  refine mj_iconst (v := 1) dX9_able_0 (by decide) ?_
  refine mj_istore (lv2 := [(4, .int 1), (0, .ref 946), (1, .int x1), (2, .int x2), (3, .int x3)]) dX9_able_1 (by decide) rfl ?_
  refine mj_iconst (v := 0) dX9_able_3 (by decide) ?_
  refine mj_istore (lv2 := [(5, .int 0), (4, .int 1), (0, .ref 946), (1, .int x1), (2, .int x2), (3, .int x3)]) dX9_able_4 (by decide) rfl ?_
  refine mj_iload dX9_able_6 0 rfl ?_
  refine mj_iload_n dX9_able_8 4 rfl ?_
  refine mj_icmp_ge 39 dX9_able_9 (by decide) (fun z1 => ?_) (fun z1 => ?_)
  · have z1i : x2.toInt ≤ 0 := (t_le (0) rfl).mp z1
    refine mj_aload_n dX9_able_39 2 rfl ?_
    refine mj_iload_n dX9_able_40 3 rfl ?_
    refine mj_iload dX9_able_41 1 rfl ?_
    refine mj_iload_n dX9_able_43 5 rfl ?_
    refine t_callV dX9_able_44 M_X9_canGo (N_canGo_b s x1 x3 (by omega) (by omega) hz_I_947) ML_X9_50 IM_X9_canGo SE_X9_canGo qc_946 rfl (As := [.int x1, .int 1, .int x3]) rfl rfl (Nat.le_of_ble_eq_true rfl) (Nat.le_of_ble_eq_true rfl) (Nat.le_of_ble_eq_true rfl) (Nat.le_of_ble_eq_true rfl) (fun v s2 hp => ?_)
    obtain ⟨rfl, hq⟩ := hp
    rw [hq]
    clear hq s2
    exact t_iret dX9_able_47 rfl (by decide) (hpost _ _ ⟨rfl, rfl⟩) (Nat.le_of_ble_eq_true rfl) (Nat.le_of_ble_eq_true rfl)
  · have z1i : ¬ x2.toInt ≤ 0 := fun q => z1 ((t_le (0) rfl).mpr q)
    exfalso; omega

theorem dX12_can_0 : decode cX12_can 0 = .ok (.iload_n 1, 1) := by decide +kernel
theorem dX12_can_1 : decode cX12_can 1 = .ok (.invokestatic 373, 3) := by decide +kernel
theorem dX12_can_11 : decode cX12_can 11 = .ok (.iload_n 2, 1) := by decide +kernel
theorem dX12_can_12 : decode cX12_can 12 = .ok (.aload_n 0, 1) := by decide +kernel
theorem dX12_can_13 : decode cX12_can 13 = .ok (.getfield 91, 3) := by decide +kernel
theorem dX12_can_16 : decode cX12_can 16 = .ok (.getfield 382, 3) := by decide +kernel
theorem dX12_can_19 : decode cX12_can 19 = .ok (.if_icmp .gt 13, 3) := by decide +kernel
theorem dX12_can_22 : decode cX12_can 22 = .ok (.iload_n 3, 1) := by decide +kernel
theorem dX12_can_23 : decode cX12_can 23 = .ok (.ifCond .lt 9, 3) := by decide +kernel
theorem dX12_can_26 : decode cX12_can 26 = .ok (.iload_n 3, 1) := by decide +kernel
theorem dX12_can_27 : decode cX12_can 27 = .ok (.bipush 8, 2) := by decide +kernel
theorem dX12_can_29 : decode cX12_can 29 = .ok (.if_icmp .le 5, 3) := by decide +kernel
theorem dX12_can_32 : decode cX12_can 32 = .ok (.iconst (-1), 1) := by decide +kernel
theorem dX12_can_33 : decode cX12_can 33 = .ok (.ireturn, 1) := by decide +kernel
theorem dX12_can_34 : decode cX12_can 34 = .ok (.aload_n 0, 1) := by decide +kernel
theorem dX12_can_35 : decode cX12_can 35 = .ok (.getfield 91, 3) := by decide +kernel
theorem dX12_can_38 : decode cX12_can 38 = .ok (.iload_n 1, 1) := by decide +kernel
theorem dX12_can_39 : decode cX12_can 39 = .ok (.iload_n 2, 1) := by decide +kernel
theorem dX12_can_4 : decode cX12_can 4 = .ok (.ifCond .eq 28, 3) := by decide +kernel
theorem dX12_can_40 : decode cX12_can 40 = .ok (.iload_n 3, 1) := by decide +kernel
theorem dX12_can_41 : decode cX12_can 41 = .ok (.invokevirtual 386, 3) := by decide +kernel
theorem dX12_can_44 : decode cX12_can 44 = .ok (.ifCond .eq 7, 3) := by decide +kernel
theorem dX12_can_47 : decode cX12_can 47 = .ok (.iconst 1, 1) := by decide +kernel
theorem dX12_can_48 : decode cX12_can 48 = .ok (.goto 4, 3) := by decide +kernel
theorem dX12_can_51 : decode cX12_can 51 = .ok (.iconst 0, 1) := by decide +kernel
theorem dX12_can_52 : decode cX12_can 52 = .ok (.ireturn, 1) := by decide +kernel
theorem dX12_can_7 : decode cX12_can 7 = .ok (.iload_n 2, 1) := by decide +kernel
theorem dX12_can_8 : decode cX12_can 8 = .ok (.ifCond .lt 24, 3) := by decide +kernel
set_option maxRecDepth 4000 in
set_option maxHeartbeats 400000 in
theorem N_X12_can (s : t_S) (x1 : Int32) (x2 : Int32) (x3 : Int32) (h_I_946_3 : s.1 946 3 = 0) (hz_I_947 : ∀ i, s.1 947 i = 0) : t_C yX12_can cX12_can 4 (some .int) 4 [.ref 0, .int x1, .int x2, .int x3] s (fun v s' => v = some (.int (N_can x1 x2 x3)) ∧ s' = s) := by
  refine t_C.of (by decide +kernel) (Nat.le_of_ble_eq_true rfl) ?_
  intro D cy ad bs X
  suffices main : ∀ post : Option Value → t_S → Prop, (∀ v s', (v = some (.int (N_can x1 x2 x3)) ∧ s' = s) → post v s') → mj_G D cy ad bs X cX12_can 4 yX12_can.cls (some .int) yX12_can.name 4 0 0 1065 (t_P post) 0 [(0, .ref 0), (1, .int x1), (2, .int x2), (3, .int x3)] [] (t_m s) 1065 0 0 from main _ (fun _ _ h => h)
  intro post hpost
  refine mj_iload_n dX12_can_0 1 rfl ?_
  by_cases q1 : 0 ≤ x1.toInt ∧ x1.toInt ≤ 3
  · refine t_callS dX12_can_1 M_X9_is (N_is1 s x1 (by omega)) ML_X12_373 SM_X9_is (As := [.int x1]) rfl rfl (Nat.le_of_ble_eq_true rfl) (Nat.le_of_ble_eq_true rfl) (Nat.le_of_ble_eq_true rfl) (Nat.le_of_ble_eq_true rfl) (fun v s2 hp => ?_)
    obtain ⟨rfl, hq⟩ := hp
    rw [hq]
    clear hq s2
    refine mj_if_eq 32 dX12_can_4 (by decide) (fun z => absurd z (by decide)) (fun _ => ?_)
    refine mj_iload_n dX12_can_7 2 rfl ?_
    refine mj_if_lt 32 dX12_can_8 (by decide) (fun z3 => ?_) (fun z3 => ?_)
    · have z3i : x2.toInt < 0 := (t_lt (0) rfl).mp z3
      refine mj_iconst (v := (-1)) dX12_can_32 (by decide) ?_
      exact t_iret dX12_can_33 rfl (by decide) (hpost _ _ ⟨(congrArg (fun z => some (Value.int z)) (by unfold N_can; (repeat' split) <;> first | rfl | omega)), rfl⟩) (Nat.le_of_ble_eq_true rfl) (Nat.le_of_ble_eq_true rfl)
    · have z3i : ¬ x2.toInt < 0 := fun q => z3 ((t_lt (0) rfl).mpr q)
      refine mj_iload_n dX12_can_11 2 rfl ?_
      refine mj_aload_n dX12_can_12 0 rfl ?_
      refine t_getR 946 dX12_can_13 F_X12_91 qr_0_9 ?_
      refine t_getI dX12_can_16 F_X12_382 qf_946_3 ?_
      rw [h_I_946_3]
      refine mj_icmp_gt 32 dX12_can_19 (by decide) (fun z4 => ?_) (fun z4 => ?_)
      · have z4i : 0 < x2.toInt := (t_gt (0) rfl).mp z4
        refine mj_iconst (v := (-1)) dX12_can_32 (by decide) ?_
        exact t_iret dX12_can_33 rfl (by decide) (hpost _ _ ⟨(congrArg (fun z => some (Value.int z)) (by unfold N_can; (repeat' split) <;> first | rfl | omega)), rfl⟩) (Nat.le_of_ble_eq_true rfl) (Nat.le_of_ble_eq_true rfl)
      · have z4i : ¬ 0 < x2.toInt := fun q => z4 ((t_gt (0) rfl).mpr q)
        refine mj_iload_n dX12_can_22 3 rfl ?_
        refine mj_if_lt 32 dX12_can_23 (by decide) (fun z5 => ?_) (fun z5 => ?_)
        · have z5i : x3.toInt < 0 := (t_lt (0) rfl).mp z5
          refine mj_iconst (v := (-1)) dX12_can_32 (by decide) ?_
          exact t_iret dX12_can_33 rfl (by decide) (hpost _ _ ⟨(congrArg (fun z => some (Value.int z)) (by unfold N_can; (repeat' split) <;> first | rfl | omega)), rfl⟩) (Nat.le_of_ble_eq_true rfl) (Nat.le_of_ble_eq_true rfl)
        · have z5i : ¬ x3.toInt < 0 := fun q => z5 ((t_lt (0) rfl).mpr q)
          refine mj_iload_n dX12_can_26 3 rfl ?_
          refine mj_bipush (v := 8) dX12_can_27 (by decide) ?_
          refine mj_icmp_le 34 dX12_can_29 (by decide) (fun z6 => ?_) (fun z6 => ?_)
          · have z6i : x3.toInt ≤ 8 := (t_le (8) rfl).mp z6
            refine mj_aload_n dX12_can_34 0 rfl ?_
            refine t_getR 946 dX12_can_35 F_X12_91 qr_0_9 ?_
            refine mj_iload_n dX12_can_38 1 rfl ?_
            refine mj_iload_n dX12_can_39 2 rfl ?_
            refine mj_iload_n dX12_can_40 3 rfl ?_
            by_cases q7 : x3.toInt = 8
            · refine t_callV dX12_can_41 M_X9_able (N_able_b s x1 x2 x3 (by omega) (by omega) (by omega) hz_I_947) ML_X12_386 IM_X9_able SE_X9_able qc_946 rfl (As := [.int x1, .int x2, .int x3]) rfl rfl (Nat.le_of_ble_eq_true rfl) (Nat.le_of_ble_eq_true rfl) (Nat.le_of_ble_eq_true rfl) (Nat.le_of_ble_eq_true rfl) (fun v s8 hp => ?_)
              obtain ⟨rfl, hq⟩ := hp
              rw [hq]
              clear hq s8
              refine mj_if_eq 51 dX12_can_44 (by decide) (fun z => absurd z (by decide)) (fun _ => ?_)
              refine mj_iconst (v := 1) dX12_can_47 (by decide) ?_
              refine mj_goto 52 dX12_can_48 (by decide) ?_
              exact t_iret dX12_can_52 rfl (by decide) (hpost _ _ ⟨(congrArg (fun z => some (Value.int z)) (by unfold N_can; (repeat' split) <;> first | rfl | omega)), rfl⟩) (Nat.le_of_ble_eq_true rfl) (Nat.le_of_ble_eq_true rfl)
            · refine t_callV dX12_can_41 M_X9_able (N_able_a s x1 x2 x3 (by omega) (by omega) (by omega) hz_I_947) ML_X12_386 IM_X9_able SE_X9_able qc_946 rfl (As := [.int x1, .int x2, .int x3]) rfl rfl (Nat.le_of_ble_eq_true rfl) (Nat.le_of_ble_eq_true rfl) (Nat.le_of_ble_eq_true rfl) (Nat.le_of_ble_eq_true rfl) (fun v s9 hp => ?_)
              obtain ⟨rfl, hq⟩ := hp
              rw [hq]
              clear hq s9
              refine mj_if_eq 51 dX12_can_44 (by decide) (fun _ => ?_) (fun z => absurd (by decide) z)
              refine mj_iconst (v := 0) dX12_can_51 (by decide) ?_
              exact t_iret dX12_can_52 rfl (by decide) (hpost _ _ ⟨(congrArg (fun z => some (Value.int z)) (by unfold N_can; (repeat' split) <;> first | rfl | omega)), rfl⟩) (Nat.le_of_ble_eq_true rfl) (Nat.le_of_ble_eq_true rfl)
          · have z6i : ¬ x3.toInt ≤ 8 := fun q => z6 ((t_le (8) rfl).mpr q)
            refine mj_iconst (v := (-1)) dX12_can_32 (by decide) ?_
            exact t_iret dX12_can_33 rfl (by decide) (hpost _ _ ⟨(congrArg (fun z => some (Value.int z)) (by unfold N_can; (repeat' split) <;> first | rfl | omega)), rfl⟩) (Nat.le_of_ble_eq_true rfl) (Nat.le_of_ble_eq_true rfl)
  · refine t_callS dX12_can_1 M_X9_is (N_is0 s x1 q1) ML_X12_373 SM_X9_is (As := [.int x1]) rfl rfl (Nat.le_of_ble_eq_true rfl) (Nat.le_of_ble_eq_true rfl) (Nat.le_of_ble_eq_true rfl) (Nat.le_of_ble_eq_true rfl) (fun v s10 hp => ?_)
    obtain ⟨rfl, hq⟩ := hp
    rw [hq]
    clear hq s10
    refine mj_if_eq 32 dX12_can_4 (by decide) (fun _ => ?_) (fun z => absurd (by decide) z)
    refine mj_iconst (v := (-1)) dX12_can_32 (by decide) ?_
    exact t_iret dX12_can_33 rfl (by decide) (hpost _ _ ⟨(congrArg (fun z => some (Value.int z)) (by unfold N_can; (repeat' split) <;> first | rfl | omega)), rfl⟩) (Nat.le_of_ble_eq_true rfl) (Nat.le_of_ble_eq_true rfl)

theorem dX9_put_0 : decode cX9_put 0 = .ok (.iload_n 1, 1) := by decide +kernel
theorem dX9_put_1 : decode cX9_put 1 = .ok (.bipush 8, 2) := by decide +kernel
theorem dX9_put_10 : decode cX9_put 10 = .ok (.iadd, 1) := by decide +kernel
theorem dX9_put_11 : decode cX9_put 11 = .ok (.istore 6, 2) := by decide +kernel
theorem dX9_put_13 : decode cX9_put 13 = .ok (.aload_n 0, 1) := by decide +kernel
theorem dX9_put_14 : decode cX9_put 14 = .ok (.getfield 9, 3) := by decide +kernel
theorem dX9_put_17 : decode cX9_put 17 = .ok (.iload 6, 2) := by decide +kernel
theorem dX9_put_19 : decode cX9_put 19 = .ok (.iaload, 1) := by decide +kernel
theorem dX9_put_20 : decode cX9_put 20 = .ok (.iload 4, 2) := by decide +kernel
theorem dX9_put_22 : decode cX9_put 22 = .ok (.ishr, 1) := by decide +kernel
theorem dX9_put_23 : decode cX9_put 23 = .ok (.iconst 1, 1) := by decide +kernel
theorem dX9_put_24 : decode cX9_put 24 = .ok (.iand, 1) := by decide +kernel
theorem dX9_put_25 : decode cX9_put 25 = .ok (.ifCond .eq 7, 3) := by decide +kernel
theorem dX9_put_3 : decode cX9_put 3 = .ok (.imul, 1) := by decide +kernel
theorem dX9_put_32 : decode cX9_put 32 = .ok (.iconst 0, 1) := by decide +kernel
theorem dX9_put_33 : decode cX9_put 33 = .ok (.istore 7, 2) := by decide +kernel
theorem dX9_put_35 : decode cX9_put 35 = .ok (.iload 5, 2) := by decide +kernel
theorem dX9_put_37 : decode cX9_put 37 = .ok (.ifCond .eq 20, 3) := by decide +kernel
theorem dX9_put_4 : decode cX9_put 4 = .ok (.iload_n 2, 1) := by decide +kernel
theorem dX9_put_40 : decode cX9_put 40 = .ok (.aload_n 0, 1) := by decide +kernel
theorem dX9_put_41 : decode cX9_put 41 = .ok (.getfield 9, 3) := by decide +kernel
theorem dX9_put_44 : decode cX9_put 44 = .ok (.iload 6, 2) := by decide +kernel
theorem dX9_put_46 : decode cX9_put 46 = .ok (.dup2, 1) := by decide +kernel
theorem dX9_put_47 : decode cX9_put 47 = .ok (.iaload, 1) := by decide +kernel
theorem dX9_put_48 : decode cX9_put 48 = .ok (.iconst 1, 1) := by decide +kernel
theorem dX9_put_49 : decode cX9_put 49 = .ok (.iload 4, 2) := by decide +kernel
theorem dX9_put_5 : decode cX9_put 5 = .ok (.iadd, 1) := by decide +kernel
theorem dX9_put_51 : decode cX9_put 51 = .ok (.ishl, 1) := by decide +kernel
theorem dX9_put_52 : decode cX9_put 52 = .ok (.ior, 1) := by decide +kernel
theorem dX9_put_53 : decode cX9_put 53 = .ok (.iastore, 1) := by decide +kernel
theorem dX9_put_54 : decode cX9_put 54 = .ok (.goto 19, 3) := by decide +kernel
theorem dX9_put_57 : decode cX9_put 57 = .ok (.aload_n 0, 1) := by decide +kernel
theorem dX9_put_58 : decode cX9_put 58 = .ok (.getfield 9, 3) := by decide +kernel
theorem dX9_put_6 : decode cX9_put 6 = .ok (.bipush 8, 2) := by decide +kernel
theorem dX9_put_61 : decode cX9_put 61 = .ok (.iload 6, 2) := by decide +kernel
theorem dX9_put_63 : decode cX9_put 63 = .ok (.dup2, 1) := by decide +kernel
theorem dX9_put_64 : decode cX9_put 64 = .ok (.iaload, 1) := by decide +kernel
theorem dX9_put_65 : decode cX9_put 65 = .ok (.iconst 1, 1) := by decide +kernel
theorem dX9_put_66 : decode cX9_put 66 = .ok (.iload 4, 2) := by decide +kernel
theorem dX9_put_68 : decode cX9_put 68 = .ok (.ishl, 1) := by decide +kernel
theorem dX9_put_69 : decode cX9_put 69 = .ok (.iconst (-1), 1) := by decide +kernel
theorem dX9_put_70 : decode cX9_put 70 = .ok (.ixor, 1) := by decide +kernel
theorem dX9_put_71 : decode cX9_put 71 = .ok (.iand, 1) := by decide +kernel
theorem dX9_put_72 : decode cX9_put 72 = .ok (.iastore, 1) := by decide +kernel
theorem dX9_put_73 : decode cX9_put 73 = .ok (.iload 7, 2) := by decide +kernel
theorem dX9_put_75 : decode cX9_put 75 = .ok (.ireturn, 1) := by decide +kernel
theorem dX9_put_8 : decode cX9_put 8 = .ok (.imul, 1) := by decide +kernel
theorem dX9_put_9 : decode cX9_put 9 = .ok (.iload_n 3, 1) := by decide +kernel
set_option maxRecDepth 4000 in
set_option maxHeartbeats 400000 in
theorem N_X9_put (s : t_S) (x1 : Int32) (x2 : Int32) (x3 : Int32) (x4 : Int32) (x5 : Int32) (r_x1 : 0 ≤ x1.toInt ∧ x1.toInt ≤ 3) (r_x2 : 0 ≤ x2.toInt ∧ x2.toInt ≤ 7) (r_x3 : 0 ≤ x3.toInt ∧ x3.toInt ≤ 7) (r_x4 : 0 ≤ x4.toInt ∧ x4.toInt ≤ 7) (hz_I_947 : ∀ i, s.1 947 i = 0) : t_C yX9_put cX9_put 8 (some .boolean) 0 [.ref 946, .int x1, .int x2, .int x3, .int x4, .int x5] s (fun v s' => v = some (.int 0) ∧ t_keep [947] s s') := by
  refine t_C.of (by decide +kernel) (Nat.le_of_ble_eq_true rfl) ?_
  intro D cy ad bs X
  suffices main : ∀ post : Option Value → t_S → Prop, (∀ v s', (v = some (.int 0) ∧ t_keep [947] s s') → post v s') → mj_G D cy ad bs X cX9_put 8 yX9_put.cls (some .boolean) yX9_put.name 0 0 0 1065 (t_P post) 0 [(0, .ref 946), (1, .int x1), (2, .int x2), (3, .int x3), (4, .int x4), (5, .int x5)] [] (t_m s) 1065 0 0 from main _ (fun _ _ h => h)
  intro post hpost
  refine mj_iload_n dX9_put_0 1 rfl ?_
  refine mj_bipush (v := 8) dX9_put_1 (by decide) ?_
  refine mj_imul dX9_put_3 ?_
  refine mj_iload_n dX9_put_4 2 rfl ?_
  refine mj_iadd dX9_put_5 ?_
  refine mj_bipush (v := 8) dX9_put_6 (by decide) ?_
  refine mj_imul dX9_put_8 ?_
  refine mj_iload_n dX9_put_9 3 rfl ?_
  refine mj_iadd dX9_put_10 ?_
  refine mj_istore (lv2 := [(6, .int ((((x1 * 8) + x2) * 8) + x3)), (0, .ref 946), (1, .int x1), (2, .int x2), (3, .int x3), (4, .int x4), (5, .int x5)]) dX9_put_11 (by decide) rfl ?_
  refine mj_aload_n dX9_put_13 1 rfl ?_
  refine t_getR 947 dX9_put_14 F_X9_9 qr_946_0 ?_
  refine mj_iload dX9_put_17 0 rfl ?_
  refine t_iald dX9_put_19 qa_947 (t_cell (by omega) (by omega) (by omega)) ?_
  rw [(hz_I_947 ((((((x1 * 8) + x2) * 8) + x3) : Int32).toNatClampNeg))]
  refine mj_iload dX9_put_20 5 rfl ?_
  refine mj_ishr dX9_put_22 ?_
  rw [t_shr0]
  refine mj_iconst (v := 1) dX9_put_23 (by decide) ?_
  refine mj_iand dX9_put_24 ?_
  rw [show (0 : Int32) &&& 1 = 0 by decide]
  refine mj_if_eq 32 dX9_put_25 (by decide) (fun _ => ?_) (fun z => absurd (by decide) z)
  refine mj_iconst (v := 0) dX9_put_32 (by decide) ?_
  refine mj_istore (lv2 := [(7, .int 0), (6, .int ((((x1 * 8) + x2) * 8) + x3)), (0, .ref 946), (1, .int x1), (2, .int x2), (3, .int x3), (4, .int x4), (5, .int x5)]) dX9_put_33 (by decide) rfl ?_
  refine mj_iload dX9_put_35 7 rfl ?_
  refine mj_if_eq 57 dX9_put_37 (by decide) (fun z1 => ?_) (fun z1 => ?_)
  · have z1i : x5.toInt = 0 := (t_eq (0) rfl).mp z1
    refine mj_aload_n dX9_put_57 2 rfl ?_
    refine t_getR 947 dX9_put_58 F_X9_9 qr_946_0 ?_
    refine mj_iload dX9_put_61 1 rfl ?_
    refine mj_dup2 dX9_put_63 rfl rfl ?_
    refine t_iald dX9_put_64 qa_947 (t_cell (by omega) (by omega) (by omega)) ?_
    rw [(hz_I_947 ((((((x1 * 8) + x2) * 8) + x3) : Int32).toNatClampNeg))]
    refine mj_iconst (v := 1) dX9_put_65 (by decide) ?_
    refine mj_iload dX9_put_66 6 rfl ?_
    refine mj_ishl dX9_put_68 ?_
    refine mj_iconst (v := (-1)) dX9_put_69 (by decide) ?_
    refine mj_ixor dX9_put_70 ?_
    refine mj_iand dX9_put_71 ?_
    refine t_iast dX9_put_72 qa_947 (t_cell (by omega) (by omega) (by omega)) ?_
    obtain ⟨s2, w3⟩ : ∃ z, z = t_setI s 947 ((((((x1 * 8) + x2) * 8) + x3) : Int32).toNatClampNeg) ((0 : Int32) &&& ((1 <<< (x4 &&& 31)) ^^^ (-1))) := ⟨_, rfl⟩
    rw [← w3]
    refine mj_iload dX9_put_73 0 rfl ?_
    exact t_iret dX9_put_75 rfl (by decide) (hpost _ _ ⟨rfl, (t_keep_I w3 (by decide))⟩) (Nat.le_of_ble_eq_true rfl) (Nat.le_of_ble_eq_true rfl)
  · have z1i : ¬ x5.toInt = 0 := fun q => z1 ((t_eq (0) rfl).mpr q)
    refine mj_aload_n dX9_put_40 2 rfl ?_
    refine t_getR 947 dX9_put_41 F_X9_9 qr_946_0 ?_
    refine mj_iload dX9_put_44 1 rfl ?_
    refine mj_dup2 dX9_put_46 rfl rfl ?_
    refine t_iald dX9_put_47 qa_947 (t_cell (by omega) (by omega) (by omega)) ?_
    rw [(hz_I_947 ((((((x1 * 8) + x2) * 8) + x3) : Int32).toNatClampNeg))]
    refine mj_iconst (v := 1) dX9_put_48 (by decide) ?_
    refine mj_iload dX9_put_49 6 rfl ?_
    refine mj_ishl dX9_put_51 ?_
    refine mj_ior dX9_put_52 ?_
    refine t_iast dX9_put_53 qa_947 (t_cell (by omega) (by omega) (by omega)) ?_
    obtain ⟨s4, w5⟩ : ∃ z, z = t_setI s 947 ((((((x1 * 8) + x2) * 8) + x3) : Int32).toNatClampNeg) ((0 : Int32) ||| (1 <<< (x4 &&& 31))) := ⟨_, rfl⟩
    rw [← w5]
    refine mj_goto 73 dX9_put_54 (by decide) ?_
    refine mj_iload dX9_put_73 0 rfl ?_
    exact t_iret dX9_put_75 rfl (by decide) (hpost _ _ ⟨rfl, (t_keep_I w5 (by decide))⟩) (Nat.le_of_ble_eq_true rfl) (Nat.le_of_ble_eq_true rfl)

theorem dX12_move_0 : decode cX12_move 0 = .ok (.iload_n 1, 1) := by decide +kernel
theorem dX12_move_1 : decode cX12_move 1 = .ok (.invokestatic 373, 3) := by decide +kernel
theorem dX12_move_11 : decode cX12_move 11 = .ok (.iload_n 2, 1) := by decide +kernel
theorem dX12_move_12 : decode cX12_move 12 = .ok (.bipush 7, 2) := by decide +kernel
theorem dX12_move_14 : decode cX12_move 14 = .ok (.if_icmp .gt 25, 3) := by decide +kernel
theorem dX12_move_17 : decode cX12_move 17 = .ok (.iload_n 3, 1) := by decide +kernel
theorem dX12_move_18 : decode cX12_move 18 = .ok (.ifCond .lt 21, 3) := by decide +kernel
theorem dX12_move_21 : decode cX12_move 21 = .ok (.iload_n 3, 1) := by decide +kernel
theorem dX12_move_22 : decode cX12_move 22 = .ok (.bipush 7, 2) := by decide +kernel
theorem dX12_move_24 : decode cX12_move 24 = .ok (.if_icmp .gt 15, 3) := by decide +kernel
theorem dX12_move_27 : decode cX12_move 27 = .ok (.iload 4, 2) := by decide +kernel
theorem dX12_move_29 : decode cX12_move 29 = .ok (.ifCond .lt 10, 3) := by decide +kernel
theorem dX12_move_32 : decode cX12_move 32 = .ok (.iload 4, 2) := by decide +kernel
theorem dX12_move_34 : decode cX12_move 34 = .ok (.bipush 7, 2) := by decide +kernel
theorem dX12_move_36 : decode cX12_move 36 = .ok (.if_icmp .le 5, 3) := by decide +kernel
theorem dX12_move_39 : decode cX12_move 39 = .ok (.iconst (-1), 1) := by decide +kernel
theorem dX12_move_4 : decode cX12_move 4 = .ok (.ifCond .eq 35, 3) := by decide +kernel
theorem dX12_move_40 : decode cX12_move 40 = .ok (.ireturn, 1) := by decide +kernel
theorem dX12_move_41 : decode cX12_move 41 = .ok (.aload_n 0, 1) := by decide +kernel
theorem dX12_move_42 : decode cX12_move 42 = .ok (.getfield 91, 3) := by decide +kernel
theorem dX12_move_45 : decode cX12_move 45 = .ok (.iload_n 1, 1) := by decide +kernel
theorem dX12_move_46 : decode cX12_move 46 = .ok (.iload_n 2, 1) := by decide +kernel
theorem dX12_move_47 : decode cX12_move 47 = .ok (.iload_n 3, 1) := by decide +kernel
theorem dX12_move_48 : decode cX12_move 48 = .ok (.iload 4, 2) := by decide +kernel
theorem dX12_move_50 : decode cX12_move 50 = .ok (.iload 5, 2) := by decide +kernel
theorem dX12_move_52 : decode cX12_move 52 = .ok (.invokevirtual 376, 3) := by decide +kernel
theorem dX12_move_55 : decode cX12_move 55 = .ok (.ifCond .eq 7, 3) := by decide +kernel
theorem dX12_move_62 : decode cX12_move 62 = .ok (.iconst 0, 1) := by decide +kernel
theorem dX12_move_63 : decode cX12_move 63 = .ok (.ireturn, 1) := by decide +kernel
theorem dX12_move_7 : decode cX12_move 7 = .ok (.iload_n 2, 1) := by decide +kernel
theorem dX12_move_8 : decode cX12_move 8 = .ok (.ifCond .lt 31, 3) := by decide +kernel
set_option maxRecDepth 4000 in
set_option maxHeartbeats 400000 in
theorem N_X12_move (s : t_S) (x1 : Int32) (x2 : Int32) (x3 : Int32) (x4 : Int32) (x5 : Int32) (hz_I_947 : ∀ i, s.1 947 i = 0) : t_C yX12_move cX12_move 6 (some .int) 1 [.ref 0, .int x1, .int x2, .int x3, .int x4, .int x5] s (fun v s' => v = some (.int (N_move x1 x2 x3 x4)) ∧ t_keep [947] s s') := by
  refine t_C.of (by decide +kernel) (Nat.le_of_ble_eq_true rfl) ?_
  intro D cy ad bs X
  suffices main : ∀ post : Option Value → t_S → Prop, (∀ v s', (v = some (.int (N_move x1 x2 x3 x4)) ∧ t_keep [947] s s') → post v s') → mj_G D cy ad bs X cX12_move 6 yX12_move.cls (some .int) yX12_move.name 1 0 0 1065 (t_P post) 0 [(0, .ref 0), (1, .int x1), (2, .int x2), (3, .int x3), (4, .int x4), (5, .int x5)] [] (t_m s) 1065 0 0 from main _ (fun _ _ h => h)
  intro post hpost
  refine mj_iload_n dX12_move_0 1 rfl ?_
  by_cases q1 : 0 ≤ x1.toInt ∧ x1.toInt ≤ 3
  · refine t_callS dX12_move_1 M_X9_is (N_is1 s x1 (by omega)) ML_X12_373 SM_X9_is (As := [.int x1]) rfl rfl (Nat.le_of_ble_eq_true rfl) (Nat.le_of_ble_eq_true rfl) (Nat.le_of_ble_eq_true rfl) (Nat.le_of_ble_eq_true rfl) (fun v s2 hp => ?_)
    obtain ⟨rfl, hq⟩ := hp
    rw [hq]
    clear hq s2
    refine mj_if_eq 39 dX12_move_4 (by decide) (fun z => absurd z (by decide)) (fun _ => ?_)
    refine mj_iload_n dX12_move_7 2 rfl ?_
    refine mj_if_lt 39 dX12_move_8 (by decide) (fun z3 => ?_) (fun z3 => ?_)
    · have z3i : x2.toInt < 0 := (t_lt (0) rfl).mp z3
      refine mj_iconst (v := (-1)) dX12_move_39 (by decide) ?_
      exact t_iret dX12_move_40 rfl (by decide) (hpost _ _ ⟨(congrArg (fun z => some (Value.int z)) (by unfold N_move; (repeat' split) <;> first | rfl | omega)), t_keep.rf⟩) (Nat.le_of_ble_eq_true rfl) (Nat.le_of_ble_eq_true rfl)
    · have z3i : ¬ x2.toInt < 0 := fun q => z3 ((t_lt (0) rfl).mpr q)
      refine mj_iload_n dX12_move_11 2 rfl ?_
      refine mj_bipush (v := 7) dX12_move_12 (by decide) ?_
      refine mj_icmp_gt 39 dX12_move_14 (by decide) (fun z4 => ?_) (fun z4 => ?_)
      · have z4i : 7 < x2.toInt := (t_gt (7) rfl).mp z4
        refine mj_iconst (v := (-1)) dX12_move_39 (by decide) ?_
        exact t_iret dX12_move_40 rfl (by decide) (hpost _ _ ⟨(congrArg (fun z => some (Value.int z)) (by unfold N_move; (repeat' split) <;> first | rfl | omega)), t_keep.rf⟩) (Nat.le_of_ble_eq_true rfl) (Nat.le_of_ble_eq_true rfl)
      · have z4i : ¬ 7 < x2.toInt := fun q => z4 ((t_gt (7) rfl).mpr q)
        refine mj_iload_n dX12_move_17 3 rfl ?_
        refine mj_if_lt 39 dX12_move_18 (by decide) (fun z5 => ?_) (fun z5 => ?_)
        · have z5i : x3.toInt < 0 := (t_lt (0) rfl).mp z5
          refine mj_iconst (v := (-1)) dX12_move_39 (by decide) ?_
          exact t_iret dX12_move_40 rfl (by decide) (hpost _ _ ⟨(congrArg (fun z => some (Value.int z)) (by unfold N_move; (repeat' split) <;> first | rfl | omega)), t_keep.rf⟩) (Nat.le_of_ble_eq_true rfl) (Nat.le_of_ble_eq_true rfl)
        · have z5i : ¬ x3.toInt < 0 := fun q => z5 ((t_lt (0) rfl).mpr q)
          refine mj_iload_n dX12_move_21 3 rfl ?_
          refine mj_bipush (v := 7) dX12_move_22 (by decide) ?_
          refine mj_icmp_gt 39 dX12_move_24 (by decide) (fun z6 => ?_) (fun z6 => ?_)
          · have z6i : 7 < x3.toInt := (t_gt (7) rfl).mp z6
            refine mj_iconst (v := (-1)) dX12_move_39 (by decide) ?_
            exact t_iret dX12_move_40 rfl (by decide) (hpost _ _ ⟨(congrArg (fun z => some (Value.int z)) (by unfold N_move; (repeat' split) <;> first | rfl | omega)), t_keep.rf⟩) (Nat.le_of_ble_eq_true rfl) (Nat.le_of_ble_eq_true rfl)
          · have z6i : ¬ 7 < x3.toInt := fun q => z6 ((t_gt (7) rfl).mpr q)
            refine mj_iload dX12_move_27 4 rfl ?_
            refine mj_if_lt 39 dX12_move_29 (by decide) (fun z7 => ?_) (fun z7 => ?_)
            · have z7i : x4.toInt < 0 := (t_lt (0) rfl).mp z7
              refine mj_iconst (v := (-1)) dX12_move_39 (by decide) ?_
              exact t_iret dX12_move_40 rfl (by decide) (hpost _ _ ⟨(congrArg (fun z => some (Value.int z)) (by unfold N_move; (repeat' split) <;> first | rfl | omega)), t_keep.rf⟩) (Nat.le_of_ble_eq_true rfl) (Nat.le_of_ble_eq_true rfl)
            · have z7i : ¬ x4.toInt < 0 := fun q => z7 ((t_lt (0) rfl).mpr q)
              refine mj_iload dX12_move_32 4 rfl ?_
              refine mj_bipush (v := 7) dX12_move_34 (by decide) ?_
              refine mj_icmp_le 41 dX12_move_36 (by decide) (fun z8 => ?_) (fun z8 => ?_)
              · have z8i : x4.toInt ≤ 7 := (t_le (7) rfl).mp z8
                refine mj_aload_n dX12_move_41 0 rfl ?_
                refine t_getR 946 dX12_move_42 F_X12_91 qr_0_9 ?_
                refine mj_iload_n dX12_move_45 1 rfl ?_
                refine mj_iload_n dX12_move_46 2 rfl ?_
                refine mj_iload_n dX12_move_47 3 rfl ?_
                refine mj_iload dX12_move_48 4 rfl ?_
                refine mj_iload dX12_move_50 5 rfl ?_
                refine t_callV dX12_move_52 M_X9_put (N_X9_put s x1 x2 x3 x4 x5 (by omega) (by omega) (by omega) (by omega) hz_I_947) ML_X12_376 IM_X9_put SE_X9_put qc_946 rfl (As := [.int x1, .int x2, .int x3, .int x4, .int x5]) rfl rfl (Nat.le_of_ble_eq_true rfl) (Nat.le_of_ble_eq_true rfl) (Nat.le_of_ble_eq_true rfl) (Nat.le_of_ble_eq_true rfl) (fun v s9 hp => ?_)
                obtain ⟨rfl, k10⟩ := hp
                refine mj_if_eq 62 dX12_move_55 (by decide) (fun _ => ?_) (fun z => absurd (by decide) z)
                refine mj_iconst (v := 0) dX12_move_62 (by decide) ?_
                exact t_iret dX12_move_63 rfl (by decide) (hpost _ _ ⟨(congrArg (fun z => some (Value.int z)) (by unfold N_move; (repeat' split) <;> first | rfl | omega)), (k10.mono (by decide))⟩) (Nat.le_of_ble_eq_true rfl) (Nat.le_of_ble_eq_true rfl)
              · have z8i : ¬ x4.toInt ≤ 7 := fun q => z8 ((t_le (7) rfl).mpr q)
                refine mj_iconst (v := (-1)) dX12_move_39 (by decide) ?_
                exact t_iret dX12_move_40 rfl (by decide) (hpost _ _ ⟨(congrArg (fun z => some (Value.int z)) (by unfold N_move; (repeat' split) <;> first | rfl | omega)), t_keep.rf⟩) (Nat.le_of_ble_eq_true rfl) (Nat.le_of_ble_eq_true rfl)
  · refine t_callS dX12_move_1 M_X9_is (N_is0 s x1 q1) ML_X12_373 SM_X9_is (As := [.int x1]) rfl rfl (Nat.le_of_ble_eq_true rfl) (Nat.le_of_ble_eq_true rfl) (Nat.le_of_ble_eq_true rfl) (Nat.le_of_ble_eq_true rfl) (fun v s11 hp => ?_)
    obtain ⟨rfl, hq⟩ := hp
    rw [hq]
    clear hq s11
    refine mj_if_eq 39 dX12_move_4 (by decide) (fun _ => ?_) (fun z => absurd (by decide) z)
    refine mj_iconst (v := (-1)) dX12_move_39 (by decide) ?_
    exact t_iret dX12_move_40 rfl (by decide) (hpost _ _ ⟨(congrArg (fun z => some (Value.int z)) (by unfold N_move; (repeat' split) <;> first | rfl | omega)), t_keep.rf⟩) (Nat.le_of_ble_eq_true rfl) (Nat.le_of_ble_eq_true rfl)

theorem dX13_cellOf_0 : decode cX13_cellOf 0 = .ok (.bipush 64, 2) := by decide +kernel
theorem dX13_cellOf_10 : decode cX13_cellOf 10 = .ok (.iadd, 1) := by decide +kernel
theorem dX13_cellOf_11 : decode cX13_cellOf 11 = .ok (.ireturn, 1) := by decide +kernel
theorem dX13_cellOf_2 : decode cX13_cellOf 2 = .ok (.iload_n 1, 1) := by decide +kernel
theorem dX13_cellOf_3 : decode cX13_cellOf 3 = .ok (.imul, 1) := by decide +kernel
theorem dX13_cellOf_4 : decode cX13_cellOf 4 = .ok (.bipush 8, 2) := by decide +kernel
theorem dX13_cellOf_6 : decode cX13_cellOf 6 = .ok (.iload_n 2, 1) := by decide +kernel
theorem dX13_cellOf_7 : decode cX13_cellOf 7 = .ok (.imul, 1) := by decide +kernel
theorem dX13_cellOf_8 : decode cX13_cellOf 8 = .ok (.iadd, 1) := by decide +kernel
theorem dX13_cellOf_9 : decode cX13_cellOf 9 = .ok (.iload_n 3, 1) := by decide +kernel
set_option maxRecDepth 4000 in
set_option maxHeartbeats 400000 in
theorem N_X13_cellOf (s : t_S) (x1 : Int32) (x2 : Int32) (x3 : Int32) : t_C yX13_cellOf cX13_cellOf 4 (some .int) 0 [.ref 950, .int x1, .int x2, .int x3] s (fun v s' => v = some (.int (64 * x1 + 8 * x2 + x3)) ∧ s' = s) := by
  refine t_C.of (by decide +kernel) (Nat.le_of_ble_eq_true rfl) ?_
  intro D cy ad bs X
  suffices main : ∀ post : Option Value → t_S → Prop, (∀ v s', (v = some (.int (64 * x1 + 8 * x2 + x3)) ∧ s' = s) → post v s') → mj_G D cy ad bs X cX13_cellOf 4 yX13_cellOf.cls (some .int) yX13_cellOf.name 0 0 0 1065 (t_P post) 0 [(0, .ref 950), (1, .int x1), (2, .int x2), (3, .int x3)] [] (t_m s) 1065 0 0 from main _ (fun _ _ h => h)
  intro post hpost
  refine mj_bipush (v := 64) dX13_cellOf_0 (by decide) ?_
  refine mj_iload_n dX13_cellOf_2 1 rfl ?_
  refine mj_imul dX13_cellOf_3 ?_
  refine mj_bipush (v := 8) dX13_cellOf_4 (by decide) ?_
  refine mj_iload_n dX13_cellOf_6 2 rfl ?_
  refine mj_imul dX13_cellOf_7 ?_
  refine mj_iadd dX13_cellOf_8 ?_
  refine mj_iload_n dX13_cellOf_9 3 rfl ?_
  refine mj_iadd dX13_cellOf_10 ?_
  exact t_iret dX13_cellOf_11 rfl rfl (hpost _ _ ⟨rfl, rfl⟩) (Nat.le_of_ble_eq_true rfl) (Nat.le_of_ble_eq_true rfl)

theorem dX13_isQuiet_0 : decode cX13_isQuiet 0 = .ok (.aload_n 0, 1) := by decide +kernel
theorem dX13_isQuiet_1 : decode cX13_isQuiet 1 = .ok (.getfield 345, 3) := by decide +kernel
theorem dX13_isQuiet_11 : decode cX13_isQuiet 11 = .ok (.iaload, 1) := by decide +kernel
theorem dX13_isQuiet_12 : decode cX13_isQuiet 12 = .ok (.ifCond .ne 54, 3) := by decide +kernel
theorem dX13_isQuiet_15 : decode cX13_isQuiet 15 = .ok (.aload_n 0, 1) := by decide +kernel
theorem dX13_isQuiet_16 : decode cX13_isQuiet 16 = .ok (.getfield 345, 3) := by decide +kernel
theorem dX13_isQuiet_19 : decode cX13_isQuiet 19 = .ok (.aload_n 0, 1) := by decide +kernel
theorem dX13_isQuiet_20 : decode cX13_isQuiet 20 = .ok (.iload_n 1, 1) := by decide +kernel
theorem dX13_isQuiet_21 : decode cX13_isQuiet 21 = .ok (.iload_n 2, 1) := by decide +kernel
theorem dX13_isQuiet_22 : decode cX13_isQuiet 22 = .ok (.iconst 5, 1) := by decide +kernel
theorem dX13_isQuiet_23 : decode cX13_isQuiet 23 = .ok (.invokevirtual 1496, 3) := by decide +kernel
theorem dX13_isQuiet_26 : decode cX13_isQuiet 26 = .ok (.iaload, 1) := by decide +kernel
theorem dX13_isQuiet_27 : decode cX13_isQuiet 27 = .ok (.ifCond .ne 39, 3) := by decide +kernel
theorem dX13_isQuiet_30 : decode cX13_isQuiet 30 = .ok (.aload_n 0, 1) := by decide +kernel
theorem dX13_isQuiet_31 : decode cX13_isQuiet 31 = .ok (.getfield 345, 3) := by decide +kernel
theorem dX13_isQuiet_34 : decode cX13_isQuiet 34 = .ok (.aload_n 0, 1) := by decide +kernel
theorem dX13_isQuiet_35 : decode cX13_isQuiet 35 = .ok (.iload_n 1, 1) := by decide +kernel
theorem dX13_isQuiet_36 : decode cX13_isQuiet 36 = .ok (.iload_n 2, 1) := by decide +kernel
theorem dX13_isQuiet_37 : decode cX13_isQuiet 37 = .ok (.bipush 6, 2) := by decide +kernel
theorem dX13_isQuiet_39 : decode cX13_isQuiet 39 = .ok (.invokevirtual 1496, 3) := by decide +kernel
theorem dX13_isQuiet_4 : decode cX13_isQuiet 4 = .ok (.aload_n 0, 1) := by decide +kernel
theorem dX13_isQuiet_42 : decode cX13_isQuiet 42 = .ok (.iaload, 1) := by decide +kernel
theorem dX13_isQuiet_43 : decode cX13_isQuiet 43 = .ok (.ifCond .ne 23, 3) := by decide +kernel
theorem dX13_isQuiet_46 : decode cX13_isQuiet 46 = .ok (.aload_n 0, 1) := by decide +kernel
theorem dX13_isQuiet_47 : decode cX13_isQuiet 47 = .ok (.getfield 345, 3) := by decide +kernel
theorem dX13_isQuiet_5 : decode cX13_isQuiet 5 = .ok (.iload_n 1, 1) := by decide +kernel
theorem dX13_isQuiet_50 : decode cX13_isQuiet 50 = .ok (.aload_n 0, 1) := by decide +kernel
theorem dX13_isQuiet_51 : decode cX13_isQuiet 51 = .ok (.iload_n 1, 1) := by decide +kernel
theorem dX13_isQuiet_52 : decode cX13_isQuiet 52 = .ok (.iload_n 2, 1) := by decide +kernel
theorem dX13_isQuiet_53 : decode cX13_isQuiet 53 = .ok (.bipush 7, 2) := by decide +kernel
theorem dX13_isQuiet_55 : decode cX13_isQuiet 55 = .ok (.invokevirtual 1496, 3) := by decide +kernel
theorem dX13_isQuiet_58 : decode cX13_isQuiet 58 = .ok (.iaload, 1) := by decide +kernel
theorem dX13_isQuiet_59 : decode cX13_isQuiet 59 = .ok (.ifCond .ne 7, 3) := by decide +kernel
theorem dX13_isQuiet_6 : decode cX13_isQuiet 6 = .ok (.iload_n 2, 1) := by decide +kernel
theorem dX13_isQuiet_62 : decode cX13_isQuiet 62 = .ok (.iconst 1, 1) := by decide +kernel
theorem dX13_isQuiet_63 : decode cX13_isQuiet 63 = .ok (.goto 4, 3) := by decide +kernel
theorem dX13_isQuiet_67 : decode cX13_isQuiet 67 = .ok (.ireturn, 1) := by decide +kernel
theorem dX13_isQuiet_7 : decode cX13_isQuiet 7 = .ok (.iconst 4, 1) := by decide +kernel
theorem dX13_isQuiet_8 : decode cX13_isQuiet 8 = .ok (.invokevirtual 1496, 3) := by decide +kernel
set_option maxRecDepth 4000 in
set_option maxHeartbeats 400000 in
theorem N_X13_isQuiet (s : t_S) (x1 : Int32) (r_x1 : 0 ≤ x1.toInt ∧ x1.toInt ≤ 3) (hz_I_1059 : ∀ i, s.1 1059 i = 0) : t_C yX13_isQuiet cX13_isQuiet 3 (some .boolean) 1 [.ref 950, .int x1, .int 0] s (fun v s' => v = some (.int 1) ∧ s' = s) := by
  refine t_C.of (by decide +kernel) (Nat.le_of_ble_eq_true rfl) ?_
  intro D cy ad bs X
  suffices main : ∀ post : Option Value → t_S → Prop, (∀ v s', (v = some (.int 1) ∧ s' = s) → post v s') → mj_G D cy ad bs X cX13_isQuiet 3 yX13_isQuiet.cls (some .boolean) yX13_isQuiet.name 1 0 0 1065 (t_P post) 0 [(0, .ref 950), (1, .int x1), (2, .int 0)] [] (t_m s) 1065 0 0 from main _ (fun _ _ h => h)
  intro post hpost
  refine mj_aload_n dX13_isQuiet_0 0 rfl ?_
  refine t_getR 1059 dX13_isQuiet_1 F_X13_345 qr_950_181 ?_
  refine mj_aload_n dX13_isQuiet_4 0 rfl ?_
  refine mj_iload_n dX13_isQuiet_5 1 rfl ?_
  refine mj_iload_n dX13_isQuiet_6 2 rfl ?_
  refine mj_iconst (v := 4) dX13_isQuiet_7 (by decide) ?_
  refine t_callV dX13_isQuiet_8 M_X13_cellOf (N_X13_cellOf s x1 0 4) ML_X13_1496 IM_X13_cellOf SE_X13_cellOf qc_950 rfl (As := [.int x1, .int 0, .int 4]) rfl rfl (Nat.le_of_ble_eq_true rfl) (Nat.le_of_ble_eq_true rfl) (Nat.le_of_ble_eq_true rfl) (Nat.le_of_ble_eq_true rfl) (fun v s1 hp => ?_)
  obtain ⟨rfl, hq⟩ := hp
  rw [hq]
  clear hq s1
  refine t_iald dX13_isQuiet_11 qa_1059 (t_cell2 (by omega) (by decide) (by decide)) ?_
  rw [(hz_I_1059 (((((64 * x1) + (8 * 0)) + 4) : Int32).toNatClampNeg))]
  refine mj_if_ne 66 dX13_isQuiet_12 (by decide) (fun z => absurd (by decide) z) (fun _ => ?_)
  refine mj_aload_n dX13_isQuiet_15 0 rfl ?_
  refine t_getR 1059 dX13_isQuiet_16 F_X13_345 qr_950_181 ?_
  refine mj_aload_n dX13_isQuiet_19 0 rfl ?_
  refine mj_iload_n dX13_isQuiet_20 1 rfl ?_
  refine mj_iload_n dX13_isQuiet_21 2 rfl ?_
  refine mj_iconst (v := 5) dX13_isQuiet_22 (by decide) ?_
  refine t_callV dX13_isQuiet_23 M_X13_cellOf (N_X13_cellOf s x1 0 5) ML_X13_1496 IM_X13_cellOf SE_X13_cellOf qc_950 rfl (As := [.int x1, .int 0, .int 5]) rfl rfl (Nat.le_of_ble_eq_true rfl) (Nat.le_of_ble_eq_true rfl) (Nat.le_of_ble_eq_true rfl) (Nat.le_of_ble_eq_true rfl) (fun v s2 hp => ?_)
  obtain ⟨rfl, hq⟩ := hp
  rw [hq]
  clear hq s2
  refine t_iald dX13_isQuiet_26 qa_1059 (t_cell2 (by omega) (by decide) (by decide)) ?_
  rw [(hz_I_1059 (((((64 * x1) + (8 * 0)) + 5) : Int32).toNatClampNeg))]
  refine mj_if_ne 66 dX13_isQuiet_27 (by decide) (fun z => absurd (by decide) z) (fun _ => ?_)
  refine mj_aload_n dX13_isQuiet_30 0 rfl ?_
  refine t_getR 1059 dX13_isQuiet_31 F_X13_345 qr_950_181 ?_
  refine mj_aload_n dX13_isQuiet_34 0 rfl ?_
  refine mj_iload_n dX13_isQuiet_35 1 rfl ?_
  refine mj_iload_n dX13_isQuiet_36 2 rfl ?_
  refine mj_bipush (v := 6) dX13_isQuiet_37 (by decide) ?_
  refine t_callV dX13_isQuiet_39 M_X13_cellOf (N_X13_cellOf s x1 0 6) ML_X13_1496 IM_X13_cellOf SE_X13_cellOf qc_950 rfl (As := [.int x1, .int 0, .int 6]) rfl rfl (Nat.le_of_ble_eq_true rfl) (Nat.le_of_ble_eq_true rfl) (Nat.le_of_ble_eq_true rfl) (Nat.le_of_ble_eq_true rfl) (fun v s3 hp => ?_)
  obtain ⟨rfl, hq⟩ := hp
  rw [hq]
  clear hq s3
  refine t_iald dX13_isQuiet_42 qa_1059 (t_cell2 (by omega) (by decide) (by decide)) ?_
  rw [(hz_I_1059 (((((64 * x1) + (8 * 0)) + 6) : Int32).toNatClampNeg))]
  refine mj_if_ne 66 dX13_isQuiet_43 (by decide) (fun z => absurd (by decide) z) (fun _ => ?_)
  refine mj_aload_n dX13_isQuiet_46 0 rfl ?_
  refine t_getR 1059 dX13_isQuiet_47 F_X13_345 qr_950_181 ?_
  refine mj_aload_n dX13_isQuiet_50 0 rfl ?_
  refine mj_iload_n dX13_isQuiet_51 1 rfl ?_
  refine mj_iload_n dX13_isQuiet_52 2 rfl ?_
  refine mj_bipush (v := 7) dX13_isQuiet_53 (by decide) ?_
  refine t_callV dX13_isQuiet_55 M_X13_cellOf (N_X13_cellOf s x1 0 7) ML_X13_1496 IM_X13_cellOf SE_X13_cellOf qc_950 rfl (As := [.int x1, .int 0, .int 7]) rfl rfl (Nat.le_of_ble_eq_true rfl) (Nat.le_of_ble_eq_true rfl) (Nat.le_of_ble_eq_true rfl) (Nat.le_of_ble_eq_true rfl) (fun v s4 hp => ?_)
  obtain ⟨rfl, hq⟩ := hp
  rw [hq]
  clear hq s4
  refine t_iald dX13_isQuiet_58 qa_1059 (t_cell2 (by omega) (by decide) (by decide)) ?_
  rw [(hz_I_1059 (((((64 * x1) + (8 * 0)) + 7) : Int32).toNatClampNeg))]
  refine mj_if_ne 66 dX13_isQuiet_59 (by decide) (fun z => absurd (by decide) z) (fun _ => ?_)
  refine mj_iconst (v := 1) dX13_isQuiet_62 (by decide) ?_
  refine mj_goto 67 dX13_isQuiet_63 (by decide) ?_
  exact t_iret dX13_isQuiet_67 rfl (by decide) (hpost _ _ ⟨rfl, rfl⟩) (Nat.le_of_ble_eq_true rfl) (Nat.le_of_ble_eq_true rfl)

theorem dX13_leads_0 : decode cX13_leads 0 = .ok (.iconst 0, 1) := by decide +kernel
theorem dX13_leads_1 : decode cX13_leads 1 = .ok (.istore 4, 2) := by decide +kernel
theorem dX13_leads_10 : decode cX13_leads 10 = .ok (.if_icmp .ge 64, 3) := by decide +kernel
theorem dX13_leads_13 : decode cX13_leads 13 = .ok (.iload_n 2, 1) := by decide +kernel
theorem dX13_leads_14 : decode cX13_leads 14 = .ok (.iload 5, 2) := by decide +kernel
theorem dX13_leads_16 : decode cX13_leads 16 = .ok (.ishr, 1) := by decide +kernel
theorem dX13_leads_17 : decode cX13_leads 17 = .ok (.iconst 1, 1) := by decide +kernel
theorem dX13_leads_18 : decode cX13_leads 18 = .ok (.iand, 1) := by decide +kernel
theorem dX13_leads_19 : decode cX13_leads 19 = .ok (.iconst 1, 1) := by decide +kernel
theorem dX13_leads_20 : decode cX13_leads 20 = .ok (.if_icmp .ne 48, 3) := by decide +kernel
theorem dX13_leads_23 : decode cX13_leads 23 = .ok (.iload 4, 2) := by decide +kernel
theorem dX13_leads_25 : decode cX13_leads 25 = .ok (.iload_n 3, 1) := by decide +kernel
theorem dX13_leads_26 : decode cX13_leads 26 = .ok (.bipush 8, 2) := by decide +kernel
theorem dX13_leads_28 : decode cX13_leads 28 = .ok (.if_icmp .ne 24, 3) := by decide +kernel
theorem dX13_leads_3 : decode cX13_leads 3 = .ok (.iconst 0, 1) := by decide +kernel
theorem dX13_leads_4 : decode cX13_leads 4 = .ok (.istore 5, 2) := by decide +kernel
theorem dX13_leads_52 : decode cX13_leads 52 = .ok (.aload_n 0, 1) := by decide +kernel
theorem dX13_leads_53 : decode cX13_leads 53 = .ok (.getfield 345, 3) := by decide +kernel
theorem dX13_leads_56 : decode cX13_leads 56 = .ok (.aload_n 0, 1) := by decide +kernel
theorem dX13_leads_57 : decode cX13_leads 57 = .ok (.iload_n 1, 1) := by decide +kernel
theorem dX13_leads_58 : decode cX13_leads 58 = .ok (.iload 5, 2) := by decide +kernel
theorem dX13_leads_6 : decode cX13_leads 6 = .ok (.iload 5, 2) := by decide +kernel
theorem dX13_leads_60 : decode cX13_leads 60 = .ok (.iload_n 3, 1) := by decide +kernel
theorem dX13_leads_61 : decode cX13_leads 61 = .ok (.invokevirtual 1496, 3) := by decide +kernel
theorem dX13_leads_64 : decode cX13_leads 64 = .ok (.iaload, 1) := by decide +kernel
theorem dX13_leads_65 : decode cX13_leads 65 = .ok (.ior, 1) := by decide +kernel
theorem dX13_leads_66 : decode cX13_leads 66 = .ok (.istore 4, 2) := by decide +kernel
theorem dX13_leads_68 : decode cX13_leads 68 = .ok (.iinc 5 1, 3) := by decide +kernel
theorem dX13_leads_71 : decode cX13_leads 71 = .ok (.goto (-65), 3) := by decide +kernel
theorem dX13_leads_74 : decode cX13_leads 74 = .ok (.iload 4, 2) := by decide +kernel
theorem dX13_leads_76 : decode cX13_leads 76 = .ok (.ireturn, 1) := by decide +kernel
theorem dX13_leads_8 : decode cX13_leads 8 = .ok (.bipush 8, 2) := by decide +kernel
set_option maxRecDepth 4000 in
set_option maxHeartbeats 400000 in
theorem N_leads_a (s : t_S) (x1 : Int32) (x3 : Int32) (r_x1 : 0 ≤ x1.toInt ∧ x1.toInt ≤ 3) (r_x3 : 0 ≤ x3.toInt ∧ x3.toInt ≤ 7) (hz_I_1059 : ∀ i, s.1 1059 i = 0) : t_C yX13_leads cX13_leads 6 (some .int) 1 [.ref 950, .int x1, .int 1, .int x3] s (fun v s' => v = some (.int 0) ∧ s' = s) := by
  refine t_C.of (by decide +kernel) (Nat.le_of_ble_eq_true rfl) ?_
  intro D cy ad bs X
  suffices main : ∀ post : Option Value → t_S → Prop, (∀ v s', (v = some (.int 0) ∧ s' = s) → post v s') → mj_G D cy ad bs X cX13_leads 6 yX13_leads.cls (some .int) yX13_leads.name 1 0 0 1065 (t_P post) 0 [(0, .ref 950), (1, .int x1), (2, .int 1), (3, .int x3)] [] (t_m s) 1065 0 0 from main _ (fun _ _ h => h)
  intro post hpost
  refine mj_iconst (v := 0) dX13_leads_0 (by decide) ?_
  refine mj_istore (lv2 := [(4, .int 0), (0, .ref 950), (1, .int x1), (2, .int 1), (3, .int x3)]) dX13_leads_1 (by decide) rfl ?_
  refine mj_iconst (v := 0) dX13_leads_3 (by decide) ?_
  refine mj_istore (lv2 := [(5, .int 0), (4, .int 0), (0, .ref 950), (1, .int x1), (2, .int 1), (3, .int x3)]) dX13_leads_4 (by decide) rfl ?_
  refine mj_iload dX13_leads_6 0 rfl ?_
  refine mj_bipush (v := 8) dX13_leads_8 (by decide) ?_
  refine mj_icmp_ge 74 dX13_leads_10 (by decide) (fun z => absurd z (by decide)) (fun _ => ?_)
  refine mj_iload_n dX13_leads_13 4 rfl ?_
  refine mj_iload dX13_leads_14 0 rfl ?_
  refine mj_ishr dX13_leads_16 ?_
  rw [show (1 : Int32) >>> ((0 : Int32) &&& 31) = 1 by decide]
  refine mj_iconst (v := 1) dX13_leads_17 (by decide) ?_
  refine mj_iand dX13_leads_18 ?_
  rw [show (1 : Int32) &&& 1 = 1 by decide]
  refine mj_iconst (v := 1) dX13_leads_19 (by decide) ?_
  refine mj_icmp_ne 68 dX13_leads_20 (by decide) (fun z => absurd (by decide) z) (fun _ => ?_)
  refine mj_iload dX13_leads_23 1 rfl ?_
  refine mj_iload_n dX13_leads_25 5 rfl ?_
  refine mj_bipush (v := 8) dX13_leads_26 (by decide) ?_
  refine mj_icmp_ne 52 dX13_leads_28 (by decide) (fun z1 => ?_) (fun z1 => ?_)
  · have z1i : ¬ x3.toInt = 8 := fun q => z1 ((t_eq (8) rfl).mpr q)
    refine mj_aload_n dX13_leads_52 2 rfl ?_
    refine t_getR 1059 dX13_leads_53 F_X13_345 qr_950_181 ?_
    refine mj_aload_n dX13_leads_56 2 rfl ?_
    refine mj_iload_n dX13_leads_57 3 rfl ?_
    refine mj_iload dX13_leads_58 0 rfl ?_
    refine mj_iload_n dX13_leads_60 5 rfl ?_
    refine t_callV dX13_leads_61 M_X13_cellOf (N_X13_cellOf s x1 0 x3) ML_X13_1496 IM_X13_cellOf SE_X13_cellOf qc_950 rfl (As := [.int x1, .int 0, .int x3]) rfl rfl (Nat.le_of_ble_eq_true rfl) (Nat.le_of_ble_eq_true rfl) (Nat.le_of_ble_eq_true rfl) (Nat.le_of_ble_eq_true rfl) (fun v s2 hp => ?_)
    obtain ⟨rfl, hq⟩ := hp
    rw [hq]
    clear hq s2
    refine t_iald dX13_leads_64 qa_1059 (t_cell2 (by omega) (by decide) (by omega)) ?_
    rw [(hz_I_1059 (((((64 * x1) + (8 * 0)) + x3) : Int32).toNatClampNeg))]
    refine mj_ior dX13_leads_65 ?_
    rw [show (0 : Int32) ||| 0 = 0 by decide]
    refine mj_istore (lv2 := [(4, .int 0), (5, .int 0), (0, .ref 950), (1, .int x1), (2, .int 1), (3, .int x3)]) dX13_leads_66 (by decide) rfl ?_
    refine mj_iinc (k := 1) (v := 1) (lv2 := [(5, .int 1), (4, .int 0), (0, .ref 950), (1, .int x1), (2, .int 1), (3, .int x3)]) dX13_leads_68 rfl (by decide) (by decide) rfl ?_
    refine mj_goto 6 dX13_leads_71 (by decide) ?_
    refine mj_iload dX13_leads_6 0 rfl ?_
    refine mj_bipush (v := 8) dX13_leads_8 (by decide) ?_
    refine mj_icmp_ge 74 dX13_leads_10 (by decide) (fun z => absurd z (by decide)) (fun _ => ?_)
    refine mj_iload_n dX13_leads_13 4 rfl ?_
    refine mj_iload dX13_leads_14 0 rfl ?_
    refine mj_ishr dX13_leads_16 ?_
    rw [show (1 : Int32) >>> ((1 : Int32) &&& 31) = 0 by decide]
    refine mj_iconst (v := 1) dX13_leads_17 (by decide) ?_
    refine mj_iand dX13_leads_18 ?_
    rw [show (0 : Int32) &&& 1 = 0 by decide]
    refine mj_iconst (v := 1) dX13_leads_19 (by decide) ?_
    refine mj_icmp_ne 68 dX13_leads_20 (by decide) (fun _ => ?_) (fun z => absurd z (by decide))
    refine mj_iinc (k := 0) (v := 2) (lv2 := [(5, .int 2), (4, .int 0), (0, .ref 950), (1, .int x1), (2, .int 1), (3, .int x3)]) dX13_leads_68 rfl (by decide) (by decide) rfl ?_
    refine mj_goto 6 dX13_leads_71 (by decide) ?_
    refine mj_iload dX13_leads_6 0 rfl ?_
    refine mj_bipush (v := 8) dX13_leads_8 (by decide) ?_
    refine mj_icmp_ge 74 dX13_leads_10 (by decide) (fun z => absurd z (by decide)) (fun _ => ?_)
    refine mj_iload_n dX13_leads_13 4 rfl ?_
    refine mj_iload dX13_leads_14 0 rfl ?_
    refine mj_ishr dX13_leads_16 ?_
    rw [show (1 : Int32) >>> ((2 : Int32) &&& 31) = 0 by decide]
    refine mj_iconst (v := 1) dX13_leads_17 (by decide) ?_
    refine mj_iand dX13_leads_18 ?_
    rw [show (0 : Int32) &&& 1 = 0 by decide]
    refine mj_iconst (v := 1) dX13_leads_19 (by decide) ?_
    refine mj_icmp_ne 68 dX13_leads_20 (by decide) (fun _ => ?_) (fun z => absurd z (by decide))
    refine mj_iinc (k := 0) (v := 3) (lv2 := [(5, .int 3), (4, .int 0), (0, .ref 950), (1, .int x1), (2, .int 1), (3, .int x3)]) dX13_leads_68 rfl (by decide) (by decide) rfl ?_
    refine mj_goto 6 dX13_leads_71 (by decide) ?_
    refine mj_iload dX13_leads_6 0 rfl ?_
    refine mj_bipush (v := 8) dX13_leads_8 (by decide) ?_
    refine mj_icmp_ge 74 dX13_leads_10 (by decide) (fun z => absurd z (by decide)) (fun _ => ?_)
    refine mj_iload_n dX13_leads_13 4 rfl ?_
    refine mj_iload dX13_leads_14 0 rfl ?_
    refine mj_ishr dX13_leads_16 ?_
    rw [show (1 : Int32) >>> ((3 : Int32) &&& 31) = 0 by decide]
    refine mj_iconst (v := 1) dX13_leads_17 (by decide) ?_
    refine mj_iand dX13_leads_18 ?_
    rw [show (0 : Int32) &&& 1 = 0 by decide]
    refine mj_iconst (v := 1) dX13_leads_19 (by decide) ?_
    refine mj_icmp_ne 68 dX13_leads_20 (by decide) (fun _ => ?_) (fun z => absurd z (by decide))
    refine mj_iinc (k := 0) (v := 4) (lv2 := [(5, .int 4), (4, .int 0), (0, .ref 950), (1, .int x1), (2, .int 1), (3, .int x3)]) dX13_leads_68 rfl (by decide) (by decide) rfl ?_
    refine mj_goto 6 dX13_leads_71 (by decide) ?_
    refine mj_iload dX13_leads_6 0 rfl ?_
    refine mj_bipush (v := 8) dX13_leads_8 (by decide) ?_
    refine mj_icmp_ge 74 dX13_leads_10 (by decide) (fun z => absurd z (by decide)) (fun _ => ?_)
    refine mj_iload_n dX13_leads_13 4 rfl ?_
    refine mj_iload dX13_leads_14 0 rfl ?_
    refine mj_ishr dX13_leads_16 ?_
    rw [show (1 : Int32) >>> ((4 : Int32) &&& 31) = 0 by decide]
    refine mj_iconst (v := 1) dX13_leads_17 (by decide) ?_
    refine mj_iand dX13_leads_18 ?_
    rw [show (0 : Int32) &&& 1 = 0 by decide]
    refine mj_iconst (v := 1) dX13_leads_19 (by decide) ?_
    refine mj_icmp_ne 68 dX13_leads_20 (by decide) (fun _ => ?_) (fun z => absurd z (by decide))
    refine mj_iinc (k := 0) (v := 5) (lv2 := [(5, .int 5), (4, .int 0), (0, .ref 950), (1, .int x1), (2, .int 1), (3, .int x3)]) dX13_leads_68 rfl (by decide) (by decide) rfl ?_
    refine mj_goto 6 dX13_leads_71 (by decide) ?_
    refine mj_iload dX13_leads_6 0 rfl ?_
    refine mj_bipush (v := 8) dX13_leads_8 (by decide) ?_
    refine mj_icmp_ge 74 dX13_leads_10 (by decide) (fun z => absurd z (by decide)) (fun _ => ?_)
    refine mj_iload_n dX13_leads_13 4 rfl ?_
    refine mj_iload dX13_leads_14 0 rfl ?_
    refine mj_ishr dX13_leads_16 ?_
    rw [show (1 : Int32) >>> ((5 : Int32) &&& 31) = 0 by decide]
    refine mj_iconst (v := 1) dX13_leads_17 (by decide) ?_
    refine mj_iand dX13_leads_18 ?_
    rw [show (0 : Int32) &&& 1 = 0 by decide]
    refine mj_iconst (v := 1) dX13_leads_19 (by decide) ?_
    refine mj_icmp_ne 68 dX13_leads_20 (by decide) (fun _ => ?_) (fun z => absurd z (by decide))
    refine mj_iinc (k := 0) (v := 6) (lv2 := [(5, .int 6), (4, .int 0), (0, .ref 950), (1, .int x1), (2, .int 1), (3, .int x3)]) dX13_leads_68 rfl (by decide) (by decide) rfl ?_
    refine mj_goto 6 dX13_leads_71 (by decide) ?_
    refine mj_iload dX13_leads_6 0 rfl ?_
    refine mj_bipush (v := 8) dX13_leads_8 (by decide) ?_
    refine mj_icmp_ge 74 dX13_leads_10 (by decide) (fun z => absurd z (by decide)) (fun _ => ?_)
    refine mj_iload_n dX13_leads_13 4 rfl ?_
    refine mj_iload dX13_leads_14 0 rfl ?_
    refine mj_ishr dX13_leads_16 ?_
    rw [show (1 : Int32) >>> ((6 : Int32) &&& 31) = 0 by decide]
    refine mj_iconst (v := 1) dX13_leads_17 (by decide) ?_
    refine mj_iand dX13_leads_18 ?_
    rw [show (0 : Int32) &&& 1 = 0 by decide]
    refine mj_iconst (v := 1) dX13_leads_19 (by decide) ?_
    refine mj_icmp_ne 68 dX13_leads_20 (by decide) (fun _ => ?_) (fun z => absurd z (by decide))
    refine mj_iinc (k := 0) (v := 7) (lv2 := [(5, .int 7), (4, .int 0), (0, .ref 950), (1, .int x1), (2, .int 1), (3, .int x3)]) dX13_leads_68 rfl (by decide) (by decide) rfl ?_
    refine mj_goto 6 dX13_leads_71 (by decide) ?_
    refine mj_iload dX13_leads_6 0 rfl ?_
    refine mj_bipush (v := 8) dX13_leads_8 (by decide) ?_
    refine mj_icmp_ge 74 dX13_leads_10 (by decide) (fun z => absurd z (by decide)) (fun _ => ?_)
    refine mj_iload_n dX13_leads_13 4 rfl ?_
    refine mj_iload dX13_leads_14 0 rfl ?_
    refine mj_ishr dX13_leads_16 ?_
    rw [show (1 : Int32) >>> ((7 : Int32) &&& 31) = 0 by decide]
    refine mj_iconst (v := 1) dX13_leads_17 (by decide) ?_
    refine mj_iand dX13_leads_18 ?_
    rw [show (0 : Int32) &&& 1 = 0 by decide]
    refine mj_iconst (v := 1) dX13_leads_19 (by decide) ?_
    refine mj_icmp_ne 68 dX13_leads_20 (by decide) (fun _ => ?_) (fun z => absurd z (by decide))
    refine mj_iinc (k := 0) (v := 8) (lv2 := [(5, .int 8), (4, .int 0), (0, .ref 950), (1, .int x1), (2, .int 1), (3, .int x3)]) dX13_leads_68 rfl (by decide) (by decide) rfl ?_
    refine mj_goto 6 dX13_leads_71 (by decide) ?_
    refine mj_iload dX13_leads_6 0 rfl ?_
    refine mj_bipush (v := 8) dX13_leads_8 (by decide) ?_
    refine mj_icmp_ge 74 dX13_leads_10 (by decide) (fun _ => ?_) (fun z => absurd (by decide) z)
    refine mj_iload dX13_leads_74 1 rfl ?_
    exact t_iret dX13_leads_76 rfl (by decide) (hpost _ _ ⟨rfl, rfl⟩) (Nat.le_of_ble_eq_true rfl) (Nat.le_of_ble_eq_true rfl)
  · have z1i : x3.toInt = 8 := (t_eq (8) rfl).mp z1
    exfalso; omega

theorem dX13_leads_31 : decode cX13_leads 31 = .ok (.aload_n 0, 1) := by decide +kernel
theorem dX13_leads_32 : decode cX13_leads 32 = .ok (.iload_n 1, 1) := by decide +kernel
theorem dX13_leads_33 : decode cX13_leads 33 = .ok (.iload 5, 2) := by decide +kernel
theorem dX13_leads_35 : decode cX13_leads 35 = .ok (.invokevirtual 1499, 3) := by decide +kernel
theorem dX13_leads_38 : decode cX13_leads 38 = .ok (.ifCond .eq 10, 3) := by decide +kernel
theorem dX13_leads_41 : decode cX13_leads 41 = .ok (.iconst 1, 1) := by decide +kernel
theorem dX13_leads_42 : decode cX13_leads 42 = .ok (.iload 5, 2) := by decide +kernel
theorem dX13_leads_44 : decode cX13_leads 44 = .ok (.ishl, 1) := by decide +kernel
theorem dX13_leads_45 : decode cX13_leads 45 = .ok (.goto 20, 3) := by decide +kernel
set_option maxRecDepth 4000 in
set_option maxHeartbeats 400000 in
theorem N_leads_b (s : t_S) (x1 : Int32) (x3 : Int32) (r_x1 : 0 ≤ x1.toInt ∧ x1.toInt ≤ 3) (r_x3 : 8 ≤ x3.toInt ∧ x3.toInt ≤ 8) (hz_I_1059 : ∀ i, s.1 1059 i = 0) : t_C yX13_leads cX13_leads 6 (some .int) 2 [.ref 950, .int x1, .int 1, .int x3] s (fun v s' => v = some (.int 1) ∧ s' = s) := by
  refine t_C.of (by decide +kernel) (Nat.le_of_ble_eq_true rfl) ?_
  intro D cy ad bs X
  suffices main : ∀ post : Option Value → t_S → Prop, (∀ v s', (v = some (.int 1) ∧ s' = s) → post v s') → mj_G D cy ad bs X cX13_leads 6 yX13_leads.cls (some .int) yX13_leads.name 2 0 0 1065 (t_P post) 0 [(0, .ref 950), (1, .int x1), (2, .int 1), (3, .int x3)] [] (t_m s) 1065 0 0 from main _ (fun _ _ h => h)
  intro post hpost
  refine mj_iconst (v := 0) dX13_leads_0 (by decide) ?_
  refine mj_istore (lv2 := [(4, .int 0), (0, .ref 950), (1, .int x1), (2, .int 1), (3, .int x3)]) dX13_leads_1 (by decide) rfl ?_
  refine mj_iconst (v := 0) dX13_leads_3 (by decide) ?_
  refine mj_istore (lv2 := [(5, .int 0), (4, .int 0), (0, .ref 950), (1, .int x1), (2, .int 1), (3, .int x3)]) dX13_leads_4 (by decide) rfl ?_
  refine mj_iload dX13_leads_6 0 rfl ?_
  refine mj_bipush (v := 8) dX13_leads_8 (by decide) ?_
  refine mj_icmp_ge 74 dX13_leads_10 (by decide) (fun z => absurd z (by decide)) (fun _ => ?_)
  refine mj_iload_n dX13_leads_13 4 rfl ?_
  refine mj_iload dX13_leads_14 0 rfl ?_
  refine mj_ishr dX13_leads_16 ?_
  rw [show (1 : Int32) >>> ((0 : Int32) &&& 31) = 1 by decide]
  refine mj_iconst (v := 1) dX13_leads_17 (by decide) ?_
  refine mj_iand dX13_leads_18 ?_
  rw [show (1 : Int32) &&& 1 = 1 by decide]
  refine mj_iconst (v := 1) dX13_leads_19 (by decide) ?_
  refine mj_icmp_ne 68 dX13_leads_20 (by decide) (fun z => absurd (by decide) z) (fun _ => ?_)
  refine mj_iload dX13_leads_23 1 rfl ?_
  refine mj_iload_n dX13_leads_25 5 rfl ?_
  refine mj_bipush (v := 8) dX13_leads_26 (by decide) ?_
  refine mj_icmp_ne 52 dX13_leads_28 (by decide) (fun z1 => ?_) (fun z1 => ?_)
  · have z1i : ¬ x3.toInt = 8 := fun q => z1 ((t_eq (8) rfl).mpr q)
    exfalso; omega
  · have z1i : x3.toInt = 8 := (t_eq (8) rfl).mp z1
    refine mj_aload_n dX13_leads_31 2 rfl ?_
    refine mj_iload_n dX13_leads_32 3 rfl ?_
    refine mj_iload dX13_leads_33 0 rfl ?_
    refine t_callV dX13_leads_35 M_X13_isQuiet (N_X13_isQuiet s x1 (by omega) hz_I_1059) ML_X13_1499 IM_X13_isQuiet SE_X13_isQuiet qc_950 rfl (As := [.int x1, .int 0]) rfl rfl (Nat.le_of_ble_eq_true rfl) (Nat.le_of_ble_eq_true rfl) (Nat.le_of_ble_eq_true rfl) (Nat.le_of_ble_eq_true rfl) (fun v s2 hp => ?_)
    obtain ⟨rfl, hq⟩ := hp
    rw [hq]
    clear hq s2
    refine mj_if_eq 48 dX13_leads_38 (by decide) (fun z => absurd z (by decide)) (fun _ => ?_)
    refine mj_iconst (v := 1) dX13_leads_41 (by decide) ?_
    refine mj_iload dX13_leads_42 0 rfl ?_
    refine mj_ishl dX13_leads_44 ?_
    rw [show (1 : Int32) <<< ((0 : Int32) &&& 31) = 1 by decide]
    refine mj_goto 65 dX13_leads_45 (by decide) ?_
    refine mj_ior dX13_leads_65 ?_
    rw [show (0 : Int32) ||| 1 = 1 by decide]
    refine mj_istore (lv2 := [(4, .int 1), (5, .int 0), (0, .ref 950), (1, .int x1), (2, .int 1), (3, .int x3)]) dX13_leads_66 (by decide) rfl ?_
    refine mj_iinc (k := 1) (v := 1) (lv2 := [(5, .int 1), (4, .int 1), (0, .ref 950), (1, .int x1), (2, .int 1), (3, .int x3)]) dX13_leads_68 rfl (by decide) (by decide) rfl ?_
    refine mj_goto 6 dX13_leads_71 (by decide) ?_
    refine mj_iload dX13_leads_6 0 rfl ?_
    refine mj_bipush (v := 8) dX13_leads_8 (by decide) ?_
    refine mj_icmp_ge 74 dX13_leads_10 (by decide) (fun z => absurd z (by decide)) (fun _ => ?_)
    refine mj_iload_n dX13_leads_13 4 rfl ?_
    refine mj_iload dX13_leads_14 0 rfl ?_
    refine mj_ishr dX13_leads_16 ?_
    rw [show (1 : Int32) >>> ((1 : Int32) &&& 31) = 0 by decide]
    refine mj_iconst (v := 1) dX13_leads_17 (by decide) ?_
    refine mj_iand dX13_leads_18 ?_
    rw [show (0 : Int32) &&& 1 = 0 by decide]
    refine mj_iconst (v := 1) dX13_leads_19 (by decide) ?_
    refine mj_icmp_ne 68 dX13_leads_20 (by decide) (fun _ => ?_) (fun z => absurd z (by decide))
    refine mj_iinc (k := 0) (v := 2) (lv2 := [(5, .int 2), (4, .int 1), (0, .ref 950), (1, .int x1), (2, .int 1), (3, .int x3)]) dX13_leads_68 rfl (by decide) (by decide) rfl ?_
    refine mj_goto 6 dX13_leads_71 (by decide) ?_
    refine mj_iload dX13_leads_6 0 rfl ?_
    refine mj_bipush (v := 8) dX13_leads_8 (by decide) ?_
    refine mj_icmp_ge 74 dX13_leads_10 (by decide) (fun z => absurd z (by decide)) (fun _ => ?_)
    refine mj_iload_n dX13_leads_13 4 rfl ?_
    refine mj_iload dX13_leads_14 0 rfl ?_
    refine mj_ishr dX13_leads_16 ?_
    rw [show (1 : Int32) >>> ((2 : Int32) &&& 31) = 0 by decide]
    refine mj_iconst (v := 1) dX13_leads_17 (by decide) ?_
    refine mj_iand dX13_leads_18 ?_
    rw [show (0 : Int32) &&& 1 = 0 by decide]
    refine mj_iconst (v := 1) dX13_leads_19 (by decide) ?_
    refine mj_icmp_ne 68 dX13_leads_20 (by decide) (fun _ => ?_) (fun z => absurd z (by decide))
    refine mj_iinc (k := 0) (v := 3) (lv2 := [(5, .int 3), (4, .int 1), (0, .ref 950), (1, .int x1), (2, .int 1), (3, .int x3)]) dX13_leads_68 rfl (by decide) (by decide) rfl ?_
    refine mj_goto 6 dX13_leads_71 (by decide) ?_
    refine mj_iload dX13_leads_6 0 rfl ?_
    refine mj_bipush (v := 8) dX13_leads_8 (by decide) ?_
    refine mj_icmp_ge 74 dX13_leads_10 (by decide) (fun z => absurd z (by decide)) (fun _ => ?_)
    refine mj_iload_n dX13_leads_13 4 rfl ?_
    refine mj_iload dX13_leads_14 0 rfl ?_
    refine mj_ishr dX13_leads_16 ?_
    rw [show (1 : Int32) >>> ((3 : Int32) &&& 31) = 0 by decide]
    refine mj_iconst (v := 1) dX13_leads_17 (by decide) ?_
    refine mj_iand dX13_leads_18 ?_
    rw [show (0 : Int32) &&& 1 = 0 by decide]
    refine mj_iconst (v := 1) dX13_leads_19 (by decide) ?_
    refine mj_icmp_ne 68 dX13_leads_20 (by decide) (fun _ => ?_) (fun z => absurd z (by decide))
    refine mj_iinc (k := 0) (v := 4) (lv2 := [(5, .int 4), (4, .int 1), (0, .ref 950), (1, .int x1), (2, .int 1), (3, .int x3)]) dX13_leads_68 rfl (by decide) (by decide) rfl ?_
    refine mj_goto 6 dX13_leads_71 (by decide) ?_
    refine mj_iload dX13_leads_6 0 rfl ?_
    refine mj_bipush (v := 8) dX13_leads_8 (by decide) ?_
    refine mj_icmp_ge 74 dX13_leads_10 (by decide) (fun z => absurd z (by decide)) (fun _ => ?_)
    refine mj_iload_n dX13_leads_13 4 rfl ?_
    refine mj_iload dX13_leads_14 0 rfl ?_
    refine mj_ishr dX13_leads_16 ?_
    rw [show (1 : Int32) >>> ((4 : Int32) &&& 31) = 0 by decide]
    refine mj_iconst (v := 1) dX13_leads_17 (by decide) ?_
    refine mj_iand dX13_leads_18 ?_
    rw [show (0 : Int32) &&& 1 = 0 by decide]
    refine mj_iconst (v := 1) dX13_leads_19 (by decide) ?_
    refine mj_icmp_ne 68 dX13_leads_20 (by decide) (fun _ => ?_) (fun z => absurd z (by decide))
    refine mj_iinc (k := 0) (v := 5) (lv2 := [(5, .int 5), (4, .int 1), (0, .ref 950), (1, .int x1), (2, .int 1), (3, .int x3)]) dX13_leads_68 rfl (by decide) (by decide) rfl ?_
    refine mj_goto 6 dX13_leads_71 (by decide) ?_
    refine mj_iload dX13_leads_6 0 rfl ?_
    refine mj_bipush (v := 8) dX13_leads_8 (by decide) ?_
    refine mj_icmp_ge 74 dX13_leads_10 (by decide) (fun z => absurd z (by decide)) (fun _ => ?_)
    refine mj_iload_n dX13_leads_13 4 rfl ?_
    refine mj_iload dX13_leads_14 0 rfl ?_
    refine mj_ishr dX13_leads_16 ?_
    rw [show (1 : Int32) >>> ((5 : Int32) &&& 31) = 0 by decide]
    refine mj_iconst (v := 1) dX13_leads_17 (by decide) ?_
    refine mj_iand dX13_leads_18 ?_
    rw [show (0 : Int32) &&& 1 = 0 by decide]
    refine mj_iconst (v := 1) dX13_leads_19 (by decide) ?_
    refine mj_icmp_ne 68 dX13_leads_20 (by decide) (fun _ => ?_) (fun z => absurd z (by decide))
    refine mj_iinc (k := 0) (v := 6) (lv2 := [(5, .int 6), (4, .int 1), (0, .ref 950), (1, .int x1), (2, .int 1), (3, .int x3)]) dX13_leads_68 rfl (by decide) (by decide) rfl ?_
    refine mj_goto 6 dX13_leads_71 (by decide) ?_
    refine mj_iload dX13_leads_6 0 rfl ?_
    refine mj_bipush (v := 8) dX13_leads_8 (by decide) ?_
    refine mj_icmp_ge 74 dX13_leads_10 (by decide) (fun z => absurd z (by decide)) (fun _ => ?_)
    refine mj_iload_n dX13_leads_13 4 rfl ?_
    refine mj_iload dX13_leads_14 0 rfl ?_
    refine mj_ishr dX13_leads_16 ?_
    rw [show (1 : Int32) >>> ((6 : Int32) &&& 31) = 0 by decide]
    refine mj_iconst (v := 1) dX13_leads_17 (by decide) ?_
    refine mj_iand dX13_leads_18 ?_
    rw [show (0 : Int32) &&& 1 = 0 by decide]
    refine mj_iconst (v := 1) dX13_leads_19 (by decide) ?_
    refine mj_icmp_ne 68 dX13_leads_20 (by decide) (fun _ => ?_) (fun z => absurd z (by decide))
    refine mj_iinc (k := 0) (v := 7) (lv2 := [(5, .int 7), (4, .int 1), (0, .ref 950), (1, .int x1), (2, .int 1), (3, .int x3)]) dX13_leads_68 rfl (by decide) (by decide) rfl ?_
    refine mj_goto 6 dX13_leads_71 (by decide) ?_
    refine mj_iload dX13_leads_6 0 rfl ?_
    refine mj_bipush (v := 8) dX13_leads_8 (by decide) ?_
    refine mj_icmp_ge 74 dX13_leads_10 (by decide) (fun z => absurd z (by decide)) (fun _ => ?_)
    refine mj_iload_n dX13_leads_13 4 rfl ?_
    refine mj_iload dX13_leads_14 0 rfl ?_
    refine mj_ishr dX13_leads_16 ?_
    rw [show (1 : Int32) >>> ((7 : Int32) &&& 31) = 0 by decide]
    refine mj_iconst (v := 1) dX13_leads_17 (by decide) ?_
    refine mj_iand dX13_leads_18 ?_
    rw [show (0 : Int32) &&& 1 = 0 by decide]
    refine mj_iconst (v := 1) dX13_leads_19 (by decide) ?_
    refine mj_icmp_ne 68 dX13_leads_20 (by decide) (fun _ => ?_) (fun z => absurd z (by decide))
    refine mj_iinc (k := 0) (v := 8) (lv2 := [(5, .int 8), (4, .int 1), (0, .ref 950), (1, .int x1), (2, .int 1), (3, .int x3)]) dX13_leads_68 rfl (by decide) (by decide) rfl ?_
    refine mj_goto 6 dX13_leads_71 (by decide) ?_
    refine mj_iload dX13_leads_6 0 rfl ?_
    refine mj_bipush (v := 8) dX13_leads_8 (by decide) ?_
    refine mj_icmp_ge 74 dX13_leads_10 (by decide) (fun _ => ?_) (fun z => absurd (by decide) z)
    refine mj_iload dX13_leads_74 1 rfl ?_
    exact t_iret dX13_leads_76 rfl (by decide) (hpost _ _ ⟨rfl, rfl⟩) (Nat.le_of_ble_eq_true rfl) (Nat.le_of_ble_eq_true rfl)

theorem dX13_move_0 : decode cX13_move 0 = .ok (.iload_n 1, 1) := by decide +kernel
theorem dX13_move_1 : decode cX13_move 1 = .ok (.i2l, 1) := by decide +kernel
theorem dX13_move_100 : decode cX13_move 100 = .ok (.aload_n 0, 1) := by decide +kernel
theorem dX13_move_101 : decode cX13_move 101 = .ok (.getfield 345, 3) := by decide +kernel
theorem dX13_move_104 : decode cX13_move 104 = .ok (.iload 6, 2) := by decide +kernel
theorem dX13_move_106 : decode cX13_move 106 = .ok (.iaload, 1) := by decide +kernel
theorem dX13_move_107 : decode cX13_move 107 = .ok (.iconst 1, 1) := by decide +kernel
theorem dX13_move_108 : decode cX13_move 108 = .ok (.iload 4, 2) := by decide +kernel
theorem dX13_move_110 : decode cX13_move 110 = .ok (.ishl, 1) := by decide +kernel
theorem dX13_move_111 : decode cX13_move 111 = .ok (.iconst (-1), 1) := by decide +kernel
theorem dX13_move_112 : decode cX13_move 112 = .ok (.ixor, 1) := by decide +kernel
theorem dX13_move_113 : decode cX13_move 113 = .ok (.iand, 1) := by decide +kernel
theorem dX13_move_114 : decode cX13_move 114 = .ok (.iastore, 1) := by decide +kernel
theorem dX13_move_115 : decode cX13_move 115 = .ok (.iload 7, 2) := by decide +kernel
theorem dX13_move_117 : decode cX13_move 117 = .ok (.ireturn, 1) := by decide +kernel
theorem dX13_move_12 : decode cX13_move 12 = .ok (.iload_n 2, 1) := by decide +kernel
theorem dX13_move_13 : decode cX13_move 13 = .ok (.i2l, 1) := by decide +kernel
theorem dX13_move_14 : decode cX13_move 14 = .ok (.lconst 0, 1) := by decide +kernel
theorem dX13_move_15 : decode cX13_move 15 = .ok (.ldc2_w 697, 3) := by decide +kernel
theorem dX13_move_18 : decode cX13_move 18 = .ok (.invokestatic 371, 3) := by decide +kernel
theorem dX13_move_2 : decode cX13_move 2 = .ok (.lconst 0, 1) := by decide +kernel
theorem dX13_move_21 : decode cX13_move 21 = .ok (.ifCond .eq 28, 3) := by decide +kernel
theorem dX13_move_24 : decode cX13_move 24 = .ok (.iload 4, 2) := by decide +kernel
theorem dX13_move_26 : decode cX13_move 26 = .ok (.i2l, 1) := by decide +kernel
theorem dX13_move_27 : decode cX13_move 27 = .ok (.lconst 0, 1) := by decide +kernel
theorem dX13_move_28 : decode cX13_move 28 = .ok (.ldc2_w 697, 3) := by decide +kernel
theorem dX13_move_3 : decode cX13_move 3 = .ok (.ldc2_w 1198, 3) := by decide +kernel
theorem dX13_move_31 : decode cX13_move 31 = .ok (.invokestatic 371, 3) := by decide +kernel
theorem dX13_move_34 : decode cX13_move 34 = .ok (.ifCond .eq 15, 3) := by decide +kernel
theorem dX13_move_37 : decode cX13_move 37 = .ok (.iload_n 3, 1) := by decide +kernel
theorem dX13_move_38 : decode cX13_move 38 = .ok (.i2l, 1) := by decide +kernel
theorem dX13_move_39 : decode cX13_move 39 = .ok (.lconst 0, 1) := by decide +kernel
theorem dX13_move_40 : decode cX13_move 40 = .ok (.ldc2_w 697, 3) := by decide +kernel
theorem dX13_move_43 : decode cX13_move 43 = .ok (.invokestatic 371, 3) := by decide +kernel
theorem dX13_move_46 : decode cX13_move 46 = .ok (.ifCond .ne 5, 3) := by decide +kernel
theorem dX13_move_49 : decode cX13_move 49 = .ok (.iconst (-1), 1) := by decide +kernel
theorem dX13_move_50 : decode cX13_move 50 = .ok (.ireturn, 1) := by decide +kernel
theorem dX13_move_51 : decode cX13_move 51 = .ok (.aload_n 0, 1) := by decide +kernel
theorem dX13_move_52 : decode cX13_move 52 = .ok (.iload_n 1, 1) := by decide +kernel
theorem dX13_move_53 : decode cX13_move 53 = .ok (.iload_n 2, 1) := by decide +kernel
theorem dX13_move_54 : decode cX13_move 54 = .ok (.iload_n 3, 1) := by decide +kernel
theorem dX13_move_55 : decode cX13_move 55 = .ok (.invokevirtual 1496, 3) := by decide +kernel
theorem dX13_move_58 : decode cX13_move 58 = .ok (.istore 6, 2) := by decide +kernel
theorem dX13_move_6 : decode cX13_move 6 = .ok (.invokestatic 371, 3) := by decide +kernel
theorem dX13_move_60 : decode cX13_move 60 = .ok (.aload_n 0, 1) := by decide +kernel
theorem dX13_move_61 : decode cX13_move 61 = .ok (.getfield 345, 3) := by decide +kernel
theorem dX13_move_64 : decode cX13_move 64 = .ok (.iload 6, 2) := by decide +kernel
theorem dX13_move_66 : decode cX13_move 66 = .ok (.iaload, 1) := by decide +kernel
theorem dX13_move_67 : decode cX13_move 67 = .ok (.iload 4, 2) := by decide +kernel
theorem dX13_move_69 : decode cX13_move 69 = .ok (.ishr, 1) := by decide +kernel
theorem dX13_move_70 : decode cX13_move 70 = .ok (.iconst 1, 1) := by decide +kernel
theorem dX13_move_71 : decode cX13_move 71 = .ok (.iand, 1) := by decide +kernel
theorem dX13_move_72 : decode cX13_move 72 = .ok (.istore 7, 2) := by decide +kernel
theorem dX13_move_74 : decode cX13_move 74 = .ok (.aload_n 0, 1) := by decide +kernel
theorem dX13_move_75 : decode cX13_move 75 = .ok (.getfield 345, 3) := by decide +kernel
theorem dX13_move_78 : decode cX13_move 78 = .ok (.iload 6, 2) := by decide +kernel
theorem dX13_move_80 : decode cX13_move 80 = .ok (.iload 5, 2) := by decide +kernel
theorem dX13_move_82 : decode cX13_move 82 = .ok (.ifCond .eq 18, 3) := by decide +kernel
theorem dX13_move_85 : decode cX13_move 85 = .ok (.aload_n 0, 1) := by decide +kernel
theorem dX13_move_86 : decode cX13_move 86 = .ok (.getfield 345, 3) := by decide +kernel
theorem dX13_move_89 : decode cX13_move 89 = .ok (.iload 6, 2) := by decide +kernel
theorem dX13_move_9 : decode cX13_move 9 = .ok (.ifCond .eq 40, 3) := by decide +kernel
theorem dX13_move_91 : decode cX13_move 91 = .ok (.iaload, 1) := by decide +kernel
theorem dX13_move_92 : decode cX13_move 92 = .ok (.iconst 1, 1) := by decide +kernel
theorem dX13_move_93 : decode cX13_move 93 = .ok (.iload 4, 2) := by decide +kernel
theorem dX13_move_95 : decode cX13_move 95 = .ok (.ishl, 1) := by decide +kernel
theorem dX13_move_96 : decode cX13_move 96 = .ok (.ior, 1) := by decide +kernel
theorem dX13_move_97 : decode cX13_move 97 = .ok (.goto 17, 3) := by decide +kernel
set_option maxRecDepth 4000 in
set_option maxHeartbeats 400000 in
theorem N_X13_move (s : t_S) (x1 : Int32) (x2 : Int32) (x3 : Int32) (x4 : Int32) (x5 : Int32) (hz_I_1059 : ∀ i, s.1 1059 i = 0) : t_C yX13_move cX13_move 8 (some .int) 1 [.ref 950, .int x1, .int x2, .int x3, .int x4, .int x5] s (fun v s' => v = some (.int (N_move x1 x2 x3 x4)) ∧ t_keep [1059] s s') := by
  refine t_C.of (by decide +kernel) (Nat.le_of_ble_eq_true rfl) ?_
  intro D cy ad bs X
  suffices main : ∀ post : Option Value → t_S → Prop, (∀ v s', (v = some (.int (N_move x1 x2 x3 x4)) ∧ t_keep [1059] s s') → post v s') → mj_G D cy ad bs X cX13_move 8 yX13_move.cls (some .int) yX13_move.name 1 0 0 1065 (t_P post) 0 [(0, .ref 950), (1, .int x1), (2, .int x2), (3, .int x3), (4, .int x4), (5, .int x5)] [] (t_m s) 1065 0 0 from main _ (fun _ _ h => h)
  intro post hpost
  refine mj_iload_n dX13_move_0 1 rfl ?_
  refine mj_i2l (v := x1.toInt64) dX13_move_1 rfl ?_
  refine mj_lconst (v := 0) dX13_move_2 (by decide) ?_
  refine mj_ldc2 dX13_move_3 K_X13_1198 ?_
  by_cases q1 : (0 : Int) ≤ x1.toInt ∧ x1.toInt ≤ 3
  · refine t_callS dX13_move_6 M_X13_in (N_in1 s x1.toInt64 0 3 ((t_in (B := 0) (C := 3) rfl rfl).mpr q1)) ML_X13_371 SM_X13_in (As := [.long x1.toInt64, .long 0, .long 3]) rfl rfl (Nat.le_of_ble_eq_true rfl) (Nat.le_of_ble_eq_true rfl) (Nat.le_of_ble_eq_true rfl) (Nat.le_of_ble_eq_true rfl) (fun v s2 hp => ?_)
    obtain ⟨rfl, hq⟩ := hp
    rw [hq]
    clear hq s2
    refine mj_if_eq 49 dX13_move_9 (by decide) (fun z => absurd z (by decide)) (fun _ => ?_)
    refine mj_iload_n dX13_move_12 2 rfl ?_
    refine mj_i2l (v := x2.toInt64) dX13_move_13 rfl ?_
    refine mj_lconst (v := 0) dX13_move_14 (by decide) ?_
    refine mj_ldc2 dX13_move_15 K_X13_697 ?_
    by_cases q3 : (0 : Int) ≤ x2.toInt ∧ x2.toInt ≤ 7
    · refine t_callS dX13_move_18 M_X13_in (N_in1 s x2.toInt64 0 7 ((t_in (B := 0) (C := 7) rfl rfl).mpr q3)) ML_X13_371 SM_X13_in (As := [.long x2.toInt64, .long 0, .long 7]) rfl rfl (Nat.le_of_ble_eq_true rfl) (Nat.le_of_ble_eq_true rfl) (Nat.le_of_ble_eq_true rfl) (Nat.le_of_ble_eq_true rfl) (fun v s4 hp => ?_)
      obtain ⟨rfl, hq⟩ := hp
      rw [hq]
      clear hq s4
      refine mj_if_eq 49 dX13_move_21 (by decide) (fun z => absurd z (by decide)) (fun _ => ?_)
      refine mj_iload dX13_move_24 4 rfl ?_
      refine mj_i2l (v := x4.toInt64) dX13_move_26 rfl ?_
      refine mj_lconst (v := 0) dX13_move_27 (by decide) ?_
      refine mj_ldc2 dX13_move_28 K_X13_697 ?_
      by_cases q5 : (0 : Int) ≤ x4.toInt ∧ x4.toInt ≤ 7
      · refine t_callS dX13_move_31 M_X13_in (N_in1 s x4.toInt64 0 7 ((t_in (B := 0) (C := 7) rfl rfl).mpr q5)) ML_X13_371 SM_X13_in (As := [.long x4.toInt64, .long 0, .long 7]) rfl rfl (Nat.le_of_ble_eq_true rfl) (Nat.le_of_ble_eq_true rfl) (Nat.le_of_ble_eq_true rfl) (Nat.le_of_ble_eq_true rfl) (fun v s6 hp => ?_)
        obtain ⟨rfl, hq⟩ := hp
        rw [hq]
        clear hq s6
        refine mj_if_eq 49 dX13_move_34 (by decide) (fun z => absurd z (by decide)) (fun _ => ?_)
        refine mj_iload_n dX13_move_37 3 rfl ?_
        refine mj_i2l (v := x3.toInt64) dX13_move_38 rfl ?_
        refine mj_lconst (v := 0) dX13_move_39 (by decide) ?_
        refine mj_ldc2 dX13_move_40 K_X13_697 ?_
        by_cases q7 : (0 : Int) ≤ x3.toInt ∧ x3.toInt ≤ 7
        · refine t_callS dX13_move_43 M_X13_in (N_in1 s x3.toInt64 0 7 ((t_in (B := 0) (C := 7) rfl rfl).mpr q7)) ML_X13_371 SM_X13_in (As := [.long x3.toInt64, .long 0, .long 7]) rfl rfl (Nat.le_of_ble_eq_true rfl) (Nat.le_of_ble_eq_true rfl) (Nat.le_of_ble_eq_true rfl) (Nat.le_of_ble_eq_true rfl) (fun v s8 hp => ?_)
          obtain ⟨rfl, hq⟩ := hp
          rw [hq]
          clear hq s8
          refine mj_if_ne 51 dX13_move_46 (by decide) (fun _ => ?_) (fun z => absurd z (by decide))
          refine mj_aload_n dX13_move_51 0 rfl ?_
          refine mj_iload_n dX13_move_52 1 rfl ?_
          refine mj_iload_n dX13_move_53 2 rfl ?_
          refine mj_iload_n dX13_move_54 3 rfl ?_
          refine t_callV dX13_move_55 M_X13_cellOf (N_X13_cellOf s x1 x2 x3) ML_X13_1496 IM_X13_cellOf SE_X13_cellOf qc_950 rfl (As := [.int x1, .int x2, .int x3]) rfl rfl (Nat.le_of_ble_eq_true rfl) (Nat.le_of_ble_eq_true rfl) (Nat.le_of_ble_eq_true rfl) (Nat.le_of_ble_eq_true rfl) (fun v s9 hp => ?_)
          obtain ⟨rfl, hq⟩ := hp
          rw [hq]
          clear hq s9
          refine mj_istore (lv2 := [(6, .int (((64 * x1) + (8 * x2)) + x3)), (0, .ref 950), (1, .int x1), (2, .int x2), (3, .int x3), (4, .int x4), (5, .int x5)]) dX13_move_58 (by decide) rfl ?_
          refine mj_aload_n dX13_move_60 1 rfl ?_
          refine t_getR 1059 dX13_move_61 F_X13_345 qr_950_181 ?_
          refine mj_iload dX13_move_64 0 rfl ?_
          refine t_iald dX13_move_66 qa_1059 (t_cell2 (by omega) (by omega) (by omega)) ?_
          rw [(hz_I_1059 (((((64 * x1) + (8 * x2)) + x3) : Int32).toNatClampNeg))]
          refine mj_iload dX13_move_67 5 rfl ?_
          refine mj_ishr dX13_move_69 ?_
          rw [t_shr0]
          refine mj_iconst (v := 1) dX13_move_70 (by decide) ?_
          refine mj_iand dX13_move_71 ?_
          rw [show (0 : Int32) &&& 1 = 0 by decide]
          refine mj_istore (lv2 := [(7, .int 0), (6, .int (((64 * x1) + (8 * x2)) + x3)), (0, .ref 950), (1, .int x1), (2, .int x2), (3, .int x3), (4, .int x4), (5, .int x5)]) dX13_move_72 (by decide) rfl ?_
          refine mj_aload_n dX13_move_74 2 rfl ?_
          refine t_getR 1059 dX13_move_75 F_X13_345 qr_950_181 ?_
          refine mj_iload dX13_move_78 1 rfl ?_
          refine mj_iload dX13_move_80 7 rfl ?_
          refine mj_if_eq 100 dX13_move_82 (by decide) (fun z10 => ?_) (fun z10 => ?_)
          · have z10i : x5.toInt = 0 := (t_eq (0) rfl).mp z10
            refine mj_aload_n dX13_move_100 2 rfl ?_
            refine t_getR 1059 dX13_move_101 F_X13_345 qr_950_181 ?_
            refine mj_iload dX13_move_104 1 rfl ?_
            refine t_iald dX13_move_106 qa_1059 (t_cell2 (by omega) (by omega) (by omega)) ?_
            rw [(hz_I_1059 (((((64 * x1) + (8 * x2)) + x3) : Int32).toNatClampNeg))]
            refine mj_iconst (v := 1) dX13_move_107 (by decide) ?_
            refine mj_iload dX13_move_108 6 rfl ?_
            refine mj_ishl dX13_move_110 ?_
            refine mj_iconst (v := (-1)) dX13_move_111 (by decide) ?_
            refine mj_ixor dX13_move_112 ?_
            refine mj_iand dX13_move_113 ?_
            refine t_iast dX13_move_114 qa_1059 (t_cell2 (by omega) (by omega) (by omega)) ?_
            obtain ⟨s11, w12⟩ : ∃ z, z = t_setI s 1059 (((((64 * x1) + (8 * x2)) + x3) : Int32).toNatClampNeg) ((0 : Int32) &&& ((1 <<< (x4 &&& 31)) ^^^ (-1))) := ⟨_, rfl⟩
            rw [← w12]
            refine mj_iload dX13_move_115 0 rfl ?_
            exact t_iret dX13_move_117 rfl (by decide) (hpost _ _ ⟨(congrArg (fun z => some (Value.int z)) (by unfold N_move; (repeat' split) <;> first | rfl | omega)), (t_keep_I w12 (by decide))⟩) (Nat.le_of_ble_eq_true rfl) (Nat.le_of_ble_eq_true rfl)
          · have z10i : ¬ x5.toInt = 0 := fun q => z10 ((t_eq (0) rfl).mpr q)
            refine mj_aload_n dX13_move_85 2 rfl ?_
            refine t_getR 1059 dX13_move_86 F_X13_345 qr_950_181 ?_
            refine mj_iload dX13_move_89 1 rfl ?_
            refine t_iald dX13_move_91 qa_1059 (t_cell2 (by omega) (by omega) (by omega)) ?_
            rw [(hz_I_1059 (((((64 * x1) + (8 * x2)) + x3) : Int32).toNatClampNeg))]
            refine mj_iconst (v := 1) dX13_move_92 (by decide) ?_
            refine mj_iload dX13_move_93 6 rfl ?_
            refine mj_ishl dX13_move_95 ?_
            refine mj_ior dX13_move_96 ?_
            refine mj_goto 114 dX13_move_97 (by decide) ?_
            refine t_iast dX13_move_114 qa_1059 (t_cell2 (by omega) (by omega) (by omega)) ?_
            obtain ⟨s13, w14⟩ : ∃ z, z = t_setI s 1059 (((((64 * x1) + (8 * x2)) + x3) : Int32).toNatClampNeg) ((0 : Int32) ||| (1 <<< (x4 &&& 31))) := ⟨_, rfl⟩
            rw [← w14]
            refine mj_iload dX13_move_115 0 rfl ?_
            exact t_iret dX13_move_117 rfl (by decide) (hpost _ _ ⟨(congrArg (fun z => some (Value.int z)) (by unfold N_move; (repeat' split) <;> first | rfl | omega)), (t_keep_I w14 (by decide))⟩) (Nat.le_of_ble_eq_true rfl) (Nat.le_of_ble_eq_true rfl)
        · refine t_callS dX13_move_43 M_X13_in (N_in0 s x3.toInt64 0 7 (fun q => q7 ((t_in (B := 0) (C := 7) rfl rfl).mp q))) ML_X13_371 SM_X13_in (As := [.long x3.toInt64, .long 0, .long 7]) rfl rfl (Nat.le_of_ble_eq_true rfl) (Nat.le_of_ble_eq_true rfl) (Nat.le_of_ble_eq_true rfl) (Nat.le_of_ble_eq_true rfl) (fun v s15 hp => ?_)
          obtain ⟨rfl, hq⟩ := hp
          rw [hq]
          clear hq s15
          refine mj_if_ne 51 dX13_move_46 (by decide) (fun z => absurd (by decide) z) (fun _ => ?_)
          refine mj_iconst (v := (-1)) dX13_move_49 (by decide) ?_
          exact t_iret dX13_move_50 rfl (by decide) (hpost _ _ ⟨(congrArg (fun z => some (Value.int z)) (by unfold N_move; (repeat' split) <;> first | rfl | omega)), t_keep.rf⟩) (Nat.le_of_ble_eq_true rfl) (Nat.le_of_ble_eq_true rfl)
      · refine t_callS dX13_move_31 M_X13_in (N_in0 s x4.toInt64 0 7 (fun q => q5 ((t_in (B := 0) (C := 7) rfl rfl).mp q))) ML_X13_371 SM_X13_in (As := [.long x4.toInt64, .long 0, .long 7]) rfl rfl (Nat.le_of_ble_eq_true rfl) (Nat.le_of_ble_eq_true rfl) (Nat.le_of_ble_eq_true rfl) (Nat.le_of_ble_eq_true rfl) (fun v s16 hp => ?_)
        obtain ⟨rfl, hq⟩ := hp
        rw [hq]
        clear hq s16
        refine mj_if_eq 49 dX13_move_34 (by decide) (fun _ => ?_) (fun z => absurd (by decide) z)
        refine mj_iconst (v := (-1)) dX13_move_49 (by decide) ?_
        exact t_iret dX13_move_50 rfl (by decide) (hpost _ _ ⟨(congrArg (fun z => some (Value.int z)) (by unfold N_move; (repeat' split) <;> first | rfl | omega)), t_keep.rf⟩) (Nat.le_of_ble_eq_true rfl) (Nat.le_of_ble_eq_true rfl)
    · refine t_callS dX13_move_18 M_X13_in (N_in0 s x2.toInt64 0 7 (fun q => q3 ((t_in (B := 0) (C := 7) rfl rfl).mp q))) ML_X13_371 SM_X13_in (As := [.long x2.toInt64, .long 0, .long 7]) rfl rfl (Nat.le_of_ble_eq_true rfl) (Nat.le_of_ble_eq_true rfl) (Nat.le_of_ble_eq_true rfl) (Nat.le_of_ble_eq_true rfl) (fun v s17 hp => ?_)
      obtain ⟨rfl, hq⟩ := hp
      rw [hq]
      clear hq s17
      refine mj_if_eq 49 dX13_move_21 (by decide) (fun _ => ?_) (fun z => absurd (by decide) z)
      refine mj_iconst (v := (-1)) dX13_move_49 (by decide) ?_
      exact t_iret dX13_move_50 rfl (by decide) (hpost _ _ ⟨(congrArg (fun z => some (Value.int z)) (by unfold N_move; (repeat' split) <;> first | rfl | omega)), t_keep.rf⟩) (Nat.le_of_ble_eq_true rfl) (Nat.le_of_ble_eq_true rfl)
  · refine t_callS dX13_move_6 M_X13_in (N_in0 s x1.toInt64 0 3 (fun q => q1 ((t_in (B := 0) (C := 3) rfl rfl).mp q))) ML_X13_371 SM_X13_in (As := [.long x1.toInt64, .long 0, .long 3]) rfl rfl (Nat.le_of_ble_eq_true rfl) (Nat.le_of_ble_eq_true rfl) (Nat.le_of_ble_eq_true rfl) (Nat.le_of_ble_eq_true rfl) (fun v s18 hp => ?_)
    obtain ⟨rfl, hq⟩ := hp
    rw [hq]
    clear hq s18
    refine mj_if_eq 49 dX13_move_9 (by decide) (fun _ => ?_) (fun z => absurd (by decide) z)
    refine mj_iconst (v := (-1)) dX13_move_49 (by decide) ?_
    exact t_iret dX13_move_50 rfl (by decide) (hpost _ _ ⟨(congrArg (fun z => some (Value.int z)) (by unfold N_move; (repeat' split) <;> first | rfl | omega)), t_keep.rf⟩) (Nat.le_of_ble_eq_true rfl) (Nat.le_of_ble_eq_true rfl)

theorem dX13_can_0 : decode cX13_can 0 = .ok (.iload_n 1, 1) := by decide +kernel
theorem dX13_can_1 : decode cX13_can 1 = .ok (.i2l, 1) := by decide +kernel
theorem dX13_can_12 : decode cX13_can 12 = .ok (.iload_n 2, 1) := by decide +kernel
theorem dX13_can_13 : decode cX13_can 13 = .ok (.ifCond .lt 23, 3) := by decide +kernel
theorem dX13_can_16 : decode cX13_can 16 = .ok (.iload_n 2, 1) := by decide +kernel
theorem dX13_can_17 : decode cX13_can 17 = .ok (.aload_n 0, 1) := by decide +kernel
theorem dX13_can_18 : decode cX13_can 18 = .ok (.getfield 1502, 3) := by decide +kernel
theorem dX13_can_2 : decode cX13_can 2 = .ok (.lconst 0, 1) := by decide +kernel
theorem dX13_can_21 : decode cX13_can 21 = .ok (.if_icmp .gt 15, 3) := by decide +kernel
theorem dX13_can_24 : decode cX13_can 24 = .ok (.iload_n 3, 1) := by decide +kernel
theorem dX13_can_25 : decode cX13_can 25 = .ok (.i2l, 1) := by decide +kernel
theorem dX13_can_26 : decode cX13_can 26 = .ok (.lconst 0, 1) := by decide +kernel
theorem dX13_can_27 : decode cX13_can 27 = .ok (.ldc2_w 951, 3) := by decide +kernel
theorem dX13_can_3 : decode cX13_can 3 = .ok (.ldc2_w 1198, 3) := by decide +kernel
theorem dX13_can_30 : decode cX13_can 30 = .ok (.invokestatic 371, 3) := by decide +kernel
theorem dX13_can_33 : decode cX13_can 33 = .ok (.ifCond .ne 5, 3) := by decide +kernel
theorem dX13_can_36 : decode cX13_can 36 = .ok (.iconst (-1), 1) := by decide +kernel
theorem dX13_can_37 : decode cX13_can 37 = .ok (.ireturn, 1) := by decide +kernel
theorem dX13_can_38 : decode cX13_can 38 = .ok (.iconst 1, 1) := by decide +kernel
theorem dX13_can_39 : decode cX13_can 39 = .ok (.istore 4, 2) := by decide +kernel
theorem dX13_can_41 : decode cX13_can 41 = .ok (.iconst 0, 1) := by decide +kernel
theorem dX13_can_42 : decode cX13_can 42 = .ok (.istore 5, 2) := by decide +kernel
theorem dX13_can_44 : decode cX13_can 44 = .ok (.iload 5, 2) := by decide +kernel
theorem dX13_can_46 : decode cX13_can 46 = .ok (.iload_n 2, 1) := by decide +kernel
theorem dX13_can_47 : decode cX13_can 47 = .ok (.if_icmp .ge 25, 3) := by decide +kernel
theorem dX13_can_6 : decode cX13_can 6 = .ok (.invokestatic 371, 3) := by decide +kernel
theorem dX13_can_72 : decode cX13_can 72 = .ok (.aload_n 0, 1) := by decide +kernel
theorem dX13_can_73 : decode cX13_can 73 = .ok (.iload_n 1, 1) := by decide +kernel
theorem dX13_can_74 : decode cX13_can 74 = .ok (.iload 4, 2) := by decide +kernel
theorem dX13_can_76 : decode cX13_can 76 = .ok (.iload_n 3, 1) := by decide +kernel
theorem dX13_can_77 : decode cX13_can 77 = .ok (.invokevirtual 1505, 3) := by decide +kernel
theorem dX13_can_80 : decode cX13_can 80 = .ok (.ifCond .eq 7, 3) := by decide +kernel
theorem dX13_can_83 : decode cX13_can 83 = .ok (.iconst 1, 1) := by decide +kernel
theorem dX13_can_84 : decode cX13_can 84 = .ok (.goto 4, 3) := by decide +kernel
theorem dX13_can_87 : decode cX13_can 87 = .ok (.iconst 0, 1) := by decide +kernel
theorem dX13_can_88 : decode cX13_can 88 = .ok (.ireturn, 1) := by decide +kernel
theorem dX13_can_9 : decode cX13_can 9 = .ok (.ifCond .eq 27, 3) := by decide +kernel
set_option maxRecDepth 4000 in
set_option maxHeartbeats 400000 in
theorem N_X13_can (s : t_S) (x1 : Int32) (x2 : Int32) (x3 : Int32) (h_I_950_183 : s.1 950 183 = 0) (hz_I_1059 : ∀ i, s.1 1059 i = 0) : t_C yX13_can cX13_can 6 (some .int) 3 [.ref 950, .int x1, .int x2, .int x3] s (fun v s' => v = some (.int (N_can x1 x2 x3)) ∧ s' = s) := by
  refine t_C.of (by decide +kernel) (Nat.le_of_ble_eq_true rfl) ?_
  intro D cy ad bs X
  suffices main : ∀ post : Option Value → t_S → Prop, (∀ v s', (v = some (.int (N_can x1 x2 x3)) ∧ s' = s) → post v s') → mj_G D cy ad bs X cX13_can 6 yX13_can.cls (some .int) yX13_can.name 3 0 0 1065 (t_P post) 0 [(0, .ref 950), (1, .int x1), (2, .int x2), (3, .int x3)] [] (t_m s) 1065 0 0 from main _ (fun _ _ h => h)
  intro post hpost
  refine mj_iload_n dX13_can_0 1 rfl ?_
  refine mj_i2l (v := x1.toInt64) dX13_can_1 rfl ?_
  refine mj_lconst (v := 0) dX13_can_2 (by decide) ?_
  refine mj_ldc2 dX13_can_3 K_X13_1198 ?_
  by_cases q1 : (0 : Int) ≤ x1.toInt ∧ x1.toInt ≤ 3
  · refine t_callS dX13_can_6 M_X13_in (N_in1 s x1.toInt64 0 3 ((t_in (B := 0) (C := 3) rfl rfl).mpr q1)) ML_X13_371 SM_X13_in (As := [.long x1.toInt64, .long 0, .long 3]) rfl rfl (Nat.le_of_ble_eq_true rfl) (Nat.le_of_ble_eq_true rfl) (Nat.le_of_ble_eq_true rfl) (Nat.le_of_ble_eq_true rfl) (fun v s2 hp => ?_)
    obtain ⟨rfl, hq⟩ := hp
    rw [hq]
    clear hq s2
    refine mj_if_eq 36 dX13_can_9 (by decide) (fun z => absurd z (by decide)) (fun _ => ?_)
    refine mj_iload_n dX13_can_12 2 rfl ?_
    refine mj_if_lt 36 dX13_can_13 (by decide) (fun z3 => ?_) (fun z3 => ?_)
    · have z3i : x2.toInt < 0 := (t_lt (0) rfl).mp z3
      refine mj_iconst (v := (-1)) dX13_can_36 (by decide) ?_
      exact t_iret dX13_can_37 rfl (by decide) (hpost _ _ ⟨(congrArg (fun z => some (Value.int z)) (by unfold N_can; (repeat' split) <;> first | rfl | omega)), rfl⟩) (Nat.le_of_ble_eq_true rfl) (Nat.le_of_ble_eq_true rfl)
    · have z3i : ¬ x2.toInt < 0 := fun q => z3 ((t_lt (0) rfl).mpr q)
      refine mj_iload_n dX13_can_16 2 rfl ?_
      refine mj_aload_n dX13_can_17 0 rfl ?_
      refine t_getI dX13_can_18 F_X13_1502 qf_950_183 ?_
      rw [h_I_950_183]
      refine mj_icmp_gt 36 dX13_can_21 (by decide) (fun z4 => ?_) (fun z4 => ?_)
      · have z4i : 0 < x2.toInt := (t_gt (0) rfl).mp z4
        refine mj_iconst (v := (-1)) dX13_can_36 (by decide) ?_
        exact t_iret dX13_can_37 rfl (by decide) (hpost _ _ ⟨(congrArg (fun z => some (Value.int z)) (by unfold N_can; (repeat' split) <;> first | rfl | omega)), rfl⟩) (Nat.le_of_ble_eq_true rfl) (Nat.le_of_ble_eq_true rfl)
      · have z4i : ¬ 0 < x2.toInt := fun q => z4 ((t_gt (0) rfl).mpr q)
        refine mj_iload_n dX13_can_24 3 rfl ?_
        refine mj_i2l (v := x3.toInt64) dX13_can_25 rfl ?_
        refine mj_lconst (v := 0) dX13_can_26 (by decide) ?_
        refine mj_ldc2 dX13_can_27 K_X13_951 ?_
        by_cases q5 : (0 : Int) ≤ x3.toInt ∧ x3.toInt ≤ 8
        · refine t_callS dX13_can_30 M_X13_in (N_in1 s x3.toInt64 0 8 ((t_in (B := 0) (C := 8) rfl rfl).mpr q5)) ML_X13_371 SM_X13_in (As := [.long x3.toInt64, .long 0, .long 8]) rfl rfl (Nat.le_of_ble_eq_true rfl) (Nat.le_of_ble_eq_true rfl) (Nat.le_of_ble_eq_true rfl) (Nat.le_of_ble_eq_true rfl) (fun v s6 hp => ?_)
          obtain ⟨rfl, hq⟩ := hp
          rw [hq]
          clear hq s6
          refine mj_if_ne 38 dX13_can_33 (by decide) (fun _ => ?_) (fun z => absurd z (by decide))
          refine mj_iconst (v := 1) dX13_can_38 (by decide) ?_
          refine mj_istore (lv2 := [(4, .int 1), (0, .ref 950), (1, .int x1), (2, .int x2), (3, .int x3)]) dX13_can_39 (by decide) rfl ?_
          refine mj_iconst (v := 0) dX13_can_41 (by decide) ?_
          refine mj_istore (lv2 := [(5, .int 0), (4, .int 1), (0, .ref 950), (1, .int x1), (2, .int x2), (3, .int x3)]) dX13_can_42 (by decide) rfl ?_
          refine mj_iload dX13_can_44 0 rfl ?_
          refine mj_iload_n dX13_can_46 4 rfl ?_
          refine mj_icmp_ge 72 dX13_can_47 (by decide) (fun z7 => ?_) (fun z7 => ?_)
          · have z7i : x2.toInt ≤ 0 := (t_le (0) rfl).mp z7
            refine mj_aload_n dX13_can_72 2 rfl ?_
            refine mj_iload_n dX13_can_73 3 rfl ?_
            refine mj_iload dX13_can_74 1 rfl ?_
            refine mj_iload_n dX13_can_76 5 rfl ?_
            by_cases q8 : x3.toInt = 8
            · refine t_callV dX13_can_77 M_X13_leads (N_leads_b s x1 x3 (by omega) (by omega) hz_I_1059) ML_X13_1505 IM_X13_leads SE_X13_leads qc_950 rfl (As := [.int x1, .int 1, .int x3]) rfl rfl (Nat.le_of_ble_eq_true rfl) (Nat.le_of_ble_eq_true rfl) (Nat.le_of_ble_eq_true rfl) (Nat.le_of_ble_eq_true rfl) (fun v s9 hp => ?_)
              obtain ⟨rfl, hq⟩ := hp
              rw [hq]
              clear hq s9
              refine mj_if_eq 87 dX13_can_80 (by decide) (fun z => absurd z (by decide)) (fun _ => ?_)
              refine mj_iconst (v := 1) dX13_can_83 (by decide) ?_
              refine mj_goto 88 dX13_can_84 (by decide) ?_
              exact t_iret dX13_can_88 rfl (by decide) (hpost _ _ ⟨(congrArg (fun z => some (Value.int z)) (by unfold N_can; (repeat' split) <;> first | rfl | omega)), rfl⟩) (Nat.le_of_ble_eq_true rfl) (Nat.le_of_ble_eq_true rfl)
            · refine t_callV dX13_can_77 M_X13_leads (N_leads_a s x1 x3 (by omega) (by omega) hz_I_1059) ML_X13_1505 IM_X13_leads SE_X13_leads qc_950 rfl (As := [.int x1, .int 1, .int x3]) rfl rfl (Nat.le_of_ble_eq_true rfl) (Nat.le_of_ble_eq_true rfl) (Nat.le_of_ble_eq_true rfl) (Nat.le_of_ble_eq_true rfl) (fun v s10 hp => ?_)
              obtain ⟨rfl, hq⟩ := hp
              rw [hq]
              clear hq s10
              refine mj_if_eq 87 dX13_can_80 (by decide) (fun _ => ?_) (fun z => absurd (by decide) z)
              refine mj_iconst (v := 0) dX13_can_87 (by decide) ?_
              exact t_iret dX13_can_88 rfl (by decide) (hpost _ _ ⟨(congrArg (fun z => some (Value.int z)) (by unfold N_can; (repeat' split) <;> first | rfl | omega)), rfl⟩) (Nat.le_of_ble_eq_true rfl) (Nat.le_of_ble_eq_true rfl)
          · have z7i : ¬ x2.toInt ≤ 0 := fun q => z7 ((t_le (0) rfl).mpr q)
            exfalso; omega
        · refine t_callS dX13_can_30 M_X13_in (N_in0 s x3.toInt64 0 8 (fun q => q5 ((t_in (B := 0) (C := 8) rfl rfl).mp q))) ML_X13_371 SM_X13_in (As := [.long x3.toInt64, .long 0, .long 8]) rfl rfl (Nat.le_of_ble_eq_true rfl) (Nat.le_of_ble_eq_true rfl) (Nat.le_of_ble_eq_true rfl) (Nat.le_of_ble_eq_true rfl) (fun v s11 hp => ?_)
          obtain ⟨rfl, hq⟩ := hp
          rw [hq]
          clear hq s11
          refine mj_if_ne 38 dX13_can_33 (by decide) (fun z => absurd (by decide) z) (fun _ => ?_)
          refine mj_iconst (v := (-1)) dX13_can_36 (by decide) ?_
          exact t_iret dX13_can_37 rfl (by decide) (hpost _ _ ⟨(congrArg (fun z => some (Value.int z)) (by unfold N_can; (repeat' split) <;> first | rfl | omega)), rfl⟩) (Nat.le_of_ble_eq_true rfl) (Nat.le_of_ble_eq_true rfl)
  · refine t_callS dX13_can_6 M_X13_in (N_in0 s x1.toInt64 0 3 (fun q => q1 ((t_in (B := 0) (C := 3) rfl rfl).mp q))) ML_X13_371 SM_X13_in (As := [.long x1.toInt64, .long 0, .long 3]) rfl rfl (Nat.le_of_ble_eq_true rfl) (Nat.le_of_ble_eq_true rfl) (Nat.le_of_ble_eq_true rfl) (Nat.le_of_ble_eq_true rfl) (fun v s12 hp => ?_)
    obtain ⟨rfl, hq⟩ := hp
    rw [hq]
    clear hq s12
    refine mj_if_eq 36 dX13_can_9 (by decide) (fun _ => ?_) (fun z => absurd (by decide) z)
    refine mj_iconst (v := (-1)) dX13_can_36 (by decide) ?_
    exact t_iret dX13_can_37 rfl (by decide) (hpost _ _ ⟨(congrArg (fun z => some (Value.int z)) (by unfold N_can; (repeat' split) <;> first | rfl | omega)), rfl⟩) (Nat.le_of_ble_eq_true rfl) (Nat.le_of_ble_eq_true rfl)

theorem dX13_conforms_28 : decode cX13_conforms 28 = .ok (.iload_n 3, 1) := by decide +kernel
theorem dX13_conforms_29 : decode cX13_conforms 29 = .ok (.ldc_w 362, 3) := by decide +kernel
theorem dX13_conforms_32 : decode cX13_conforms 32 = .ok (.if_icmp .ge 16, 3) := by decide +kernel
theorem dX13_conforms_35 : decode cX13_conforms 35 = .ok (.aload_n 0, 1) := by decide +kernel
theorem dX13_conforms_36 : decode cX13_conforms 36 = .ok (.getfield 363, 3) := by decide +kernel
theorem dX13_conforms_39 : decode cX13_conforms 39 = .ok (.iload_n 3, 1) := by decide +kernel
theorem dX13_conforms_40 : decode cX13_conforms 40 = .ok (.iconst 0, 1) := by decide +kernel
theorem dX13_conforms_41 : decode cX13_conforms 41 = .ok (.bastore, 1) := by decide +kernel
theorem dX13_conforms_42 : decode cX13_conforms 42 = .ok (.iinc 3 1, 3) := by decide +kernel
theorem dX13_conforms_45 : decode cX13_conforms 45 = .ok (.goto (-17), 3) := by decide +kernel
/-- conforms(): the loop that clears isPairMet -/
theorem N_clr {D : va_G} {cy : Nat → ClassId} {ad : Nat → Nat} {bs : Nat} {X : State → Heap → Prop} {post : Option Value → t_S → Prop} {d : Nat} (s0 : t_S) (x1 x2 : Int32) (k : ∀ s' : t_S, (∀ i, s'.1 1064 i = 0) → t_keep [1064] s0 s' → mj_G D cy ad bs X cX13_conforms 11 yX13_conforms.cls (some .int) yX13_conforms.name d 0 0 1065 (t_P post) 48 [(3, .int (nI 65536)), (0, .ref 950), (1, .int x1), (2, .int x2)] [] (t_m s') 1065 0 0) : ∀ (m i : Nat) (s : t_S), i + m = 65536 → (∀ j, s.1 1064 j = 0) → t_keep [1064] s0 s → mj_G D cy ad bs X cX13_conforms 11 yX13_conforms.cls (some .int) yX13_conforms.name d 0 0 1065 (t_P post) 28 [(3, .int (nI i)), (0, .ref 950), (1, .int x1), (2, .int x2)] [] (t_m s) 1065 0 0 := by
  intro m
  induction m with
  | zero =>
    intro i s hi hs hk
    refine mj_iload_n dX13_conforms_28 0 rfl ?_
    refine mj_ldcw dX13_conforms_29 K_X13_362 ?_
    refine mj_icmp_ge 48 dX13_conforms_32 (by decide) (fun _ => ?_) (fun z => absurd (show nI 65536 ≤ nI i from nI_le (by omega) (by omega)) z)
    rw [show i = 65536 by omega]
    exact k s hs hk
  | succ m ih =>
    intro i s hi hs hk
    refine mj_iload_n dX13_conforms_28 0 rfl ?_
    refine mj_ldcw dX13_conforms_29 K_X13_362 ?_
    refine mj_icmp_ge 48 dX13_conforms_32 (by decide) (fun z => absurd (show nI 65536 ≤ nI i from z) (nI_ge (by omega) (by omega))) (fun _ => ?_)
    refine mj_aload_n dX13_conforms_35 1 rfl ?_
    refine t_getR 1064 dX13_conforms_36 F_X13_363 qr_950_189 ?_
    refine mj_iload_n dX13_conforms_39 0 rfl ?_
    refine mj_iconst (v := 0) dX13_conforms_40 (by decide) ?_
    refine t_zast dX13_conforms_41 qa_1064 (vp_in_nI (by omega) (by omega)) (by decide) ?_
    rw [nI_clamp (show i < 2 ^ 31 by omega)]
    refine mj_iinc (k := 0) (v := nI (i + 1)) (lv2 := [(3, .int (nI (i + 1))), (0, .ref 950), (1, .int x1), (2, .int x2)]) dX13_conforms_42 rfl (nI_1 i) (by decide) rfl ?_
    refine mj_goto 28 dX13_conforms_45 (by decide) ?_
    refine ih (i + 1) _ (by omega) (fun j => ?_) (hk.trans (t_keep_I rfl (by decide)))
    by_cases e : j = i
    · subst e
      show va_up s.1 1064 (va_up (s.1 1064) j 0) 1064 j = 0
      rw [mj_up_eq, mj_up_eq]
    · show va_up s.1 1064 (va_up (s.1 1064) i 0) 1064 j = 0
      rw [mj_up_eq, mj_up_ne _ _ e]
      exact hs j

theorem dX13_conforms_0 : decode cX13_conforms 0 = .ok (.iload_n 1, 1) := by decide +kernel
theorem dX13_conforms_1 : decode cX13_conforms 1 = .ok (.i2l, 1) := by decide +kernel
theorem dX13_conforms_102 : decode cX13_conforms 102 = .ok (.idiv, 1) := by decide +kernel
theorem dX13_conforms_103 : decode cX13_conforms 103 = .ok (.istore 5, 2) := by decide +kernel
theorem dX13_conforms_105 : decode cX13_conforms 105 = .ok (.aload_n 0, 1) := by decide +kernel
theorem dX13_conforms_106 : decode cX13_conforms 106 = .ok (.getfield 359, 3) := by decide +kernel
theorem dX13_conforms_109 : decode cX13_conforms 109 = .ok (.iload 4, 2) := by decide +kernel
theorem dX13_conforms_111 : decode cX13_conforms 111 = .ok (.iaload, 1) := by decide +kernel
theorem dX13_conforms_112 : decode cX13_conforms 112 = .ok (.sipush 256, 3) := by decide +kernel
theorem dX13_conforms_115 : decode cX13_conforms 115 = .ok (.irem, 1) := by decide +kernel
theorem dX13_conforms_116 : decode cX13_conforms 116 = .ok (.istore 6, 2) := by decide +kernel
theorem dX13_conforms_118 : decode cX13_conforms 118 = .ok (.iconst 0, 1) := by decide +kernel
theorem dX13_conforms_119 : decode cX13_conforms 119 = .ok (.istore 7, 2) := by decide +kernel
theorem dX13_conforms_12 : decode cX13_conforms 12 = .ok (.iload_n 2, 1) := by decide +kernel
theorem dX13_conforms_121 : decode cX13_conforms 121 = .ok (.iload 7, 2) := by decide +kernel
theorem dX13_conforms_123 : decode cX13_conforms 123 = .ok (.bipush 9, 2) := by decide +kernel
theorem dX13_conforms_125 : decode cX13_conforms 125 = .ok (.if_icmp .ge 118, 3) := by decide +kernel
theorem dX13_conforms_128 : decode cX13_conforms 128 = .ok (.aload_n 0, 1) := by decide +kernel
theorem dX13_conforms_129 : decode cX13_conforms 129 = .ok (.iload_n 1, 1) := by decide +kernel
theorem dX13_conforms_13 : decode cX13_conforms 13 = .ok (.i2l, 1) := by decide +kernel
theorem dX13_conforms_130 : decode cX13_conforms 130 = .ok (.iload 5, 2) := by decide +kernel
theorem dX13_conforms_132 : decode cX13_conforms 132 = .ok (.iload 7, 2) := by decide +kernel
theorem dX13_conforms_134 : decode cX13_conforms 134 = .ok (.invokevirtual 1505, 3) := by decide +kernel
theorem dX13_conforms_137 : decode cX13_conforms 137 = .ok (.istore 8, 2) := by decide +kernel
theorem dX13_conforms_139 : decode cX13_conforms 139 = .ok (.aload_n 0, 1) := by decide +kernel
theorem dX13_conforms_14 : decode cX13_conforms 14 = .ok (.lconst 0, 1) := by decide +kernel
theorem dX13_conforms_140 : decode cX13_conforms 140 = .ok (.iload_n 2, 1) := by decide +kernel
theorem dX13_conforms_141 : decode cX13_conforms 141 = .ok (.iload 6, 2) := by decide +kernel
theorem dX13_conforms_143 : decode cX13_conforms 143 = .ok (.iload 7, 2) := by decide +kernel
theorem dX13_conforms_145 : decode cX13_conforms 145 = .ok (.invokevirtual 1505, 3) := by decide +kernel
theorem dX13_conforms_148 : decode cX13_conforms 148 = .ok (.istore 9, 2) := by decide +kernel
theorem dX13_conforms_15 : decode cX13_conforms 15 = .ok (.ldc2_w 1198, 3) := by decide +kernel
theorem dX13_conforms_150 : decode cX13_conforms 150 = .ok (.iload 7, 2) := by decide +kernel
theorem dX13_conforms_152 : decode cX13_conforms 152 = .ok (.iconst 4, 1) := by decide +kernel
theorem dX13_conforms_153 : decode cX13_conforms 153 = .ok (.if_icmp .lt 23, 3) := by decide +kernel
theorem dX13_conforms_156 : decode cX13_conforms 156 = .ok (.iload 8, 2) := by decide +kernel
theorem dX13_conforms_158 : decode cX13_conforms 158 = .ok (.ifCond .eq 18, 3) := by decide +kernel
theorem dX13_conforms_161 : decode cX13_conforms 161 = .ok (.iload 9, 2) := by decide +kernel
theorem dX13_conforms_163 : decode cX13_conforms 163 = .ok (.ifCond .ne 13, 3) := by decide +kernel
theorem dX13_conforms_176 : decode cX13_conforms 176 = .ok (.sipush 256, 3) := by decide +kernel
theorem dX13_conforms_179 : decode cX13_conforms 179 = .ok (.iload 8, 2) := by decide +kernel
theorem dX13_conforms_18 : decode cX13_conforms 18 = .ok (.invokestatic 371, 3) := by decide +kernel
theorem dX13_conforms_181 : decode cX13_conforms 181 = .ok (.imul, 1) := by decide +kernel
theorem dX13_conforms_182 : decode cX13_conforms 182 = .ok (.iload 9, 2) := by decide +kernel
theorem dX13_conforms_184 : decode cX13_conforms 184 = .ok (.iadd, 1) := by decide +kernel
theorem dX13_conforms_185 : decode cX13_conforms 185 = .ok (.istore 10, 2) := by decide +kernel
theorem dX13_conforms_187 : decode cX13_conforms 187 = .ok (.iload 9, 2) := by decide +kernel
theorem dX13_conforms_189 : decode cX13_conforms 189 = .ok (.ifCond .eq 48, 3) := by decide +kernel
theorem dX13_conforms_192 : decode cX13_conforms 192 = .ok (.aload_n 0, 1) := by decide +kernel
theorem dX13_conforms_193 : decode cX13_conforms 193 = .ok (.getfield 363, 3) := by decide +kernel
theorem dX13_conforms_196 : decode cX13_conforms 196 = .ok (.iload 10, 2) := by decide +kernel
theorem dX13_conforms_198 : decode cX13_conforms 198 = .ok (.baload, 1) := by decide +kernel
theorem dX13_conforms_199 : decode cX13_conforms 199 = .ok (.ifCond .ne 38, 3) := by decide +kernel
theorem dX13_conforms_2 : decode cX13_conforms 2 = .ok (.lconst 0, 1) := by decide +kernel
theorem dX13_conforms_21 : decode cX13_conforms 21 = .ok (.ifCond .ne 5, 3) := by decide +kernel
theorem dX13_conforms_237 : decode cX13_conforms 237 = .ok (.iinc 7 1, 3) := by decide +kernel
theorem dX13_conforms_24 : decode cX13_conforms 24 = .ok (.iconst (-1), 1) := by decide +kernel
theorem dX13_conforms_240 : decode cX13_conforms 240 = .ok (.goto (-119), 3) := by decide +kernel
theorem dX13_conforms_243 : decode cX13_conforms 243 = .ok (.iinc 4 1, 3) := by decide +kernel
theorem dX13_conforms_246 : decode cX13_conforms 246 = .ok (.goto (-160), 3) := by decide +kernel
theorem dX13_conforms_249 : decode cX13_conforms 249 = .ok (.iconst 1, 1) := by decide +kernel
theorem dX13_conforms_25 : decode cX13_conforms 25 = .ok (.ireturn, 1) := by decide +kernel
theorem dX13_conforms_250 : decode cX13_conforms 250 = .ok (.ireturn, 1) := by decide +kernel
theorem dX13_conforms_26 : decode cX13_conforms 26 = .ok (.iconst 0, 1) := by decide +kernel
theorem dX13_conforms_27 : decode cX13_conforms 27 = .ok (.istore_n 3, 1) := by decide +kernel
theorem dX13_conforms_3 : decode cX13_conforms 3 = .ok (.ldc2_w 1198, 3) := by decide +kernel
theorem dX13_conforms_48 : decode cX13_conforms 48 = .ok (.aload_n 0, 1) := by decide +kernel
theorem dX13_conforms_49 : decode cX13_conforms 49 = .ok (.iconst 0, 1) := by decide +kernel
theorem dX13_conforms_50 : decode cX13_conforms 50 = .ok (.putfield 1502, 3) := by decide +kernel
theorem dX13_conforms_53 : decode cX13_conforms 53 = .ok (.iconst 0, 1) := by decide +kernel
theorem dX13_conforms_54 : decode cX13_conforms 54 = .ok (.istore_n 3, 1) := by decide +kernel
theorem dX13_conforms_55 : decode cX13_conforms 55 = .ok (.aload_n 0, 1) := by decide +kernel
theorem dX13_conforms_56 : decode cX13_conforms 56 = .ok (.getfield 359, 3) := by decide +kernel
theorem dX13_conforms_59 : decode cX13_conforms 59 = .ok (.iconst 0, 1) := by decide +kernel
theorem dX13_conforms_6 : decode cX13_conforms 6 = .ok (.invokestatic 371, 3) := by decide +kernel
theorem dX13_conforms_60 : decode cX13_conforms 60 = .ok (.sipush 257, 3) := by decide +kernel
theorem dX13_conforms_63 : decode cX13_conforms 63 = .ok (.iastore, 1) := by decide +kernel
theorem dX13_conforms_64 : decode cX13_conforms 64 = .ok (.aload_n 0, 1) := by decide +kernel
theorem dX13_conforms_65 : decode cX13_conforms 65 = .ok (.getfield 353, 3) := by decide +kernel
theorem dX13_conforms_68 : decode cX13_conforms 68 = .ok (.iconst 0, 1) := by decide +kernel
theorem dX13_conforms_69 : decode cX13_conforms 69 = .ok (.iconst (-1), 1) := by decide +kernel
theorem dX13_conforms_70 : decode cX13_conforms 70 = .ok (.iastore, 1) := by decide +kernel
theorem dX13_conforms_71 : decode cX13_conforms 71 = .ok (.aload_n 0, 1) := by decide +kernel
theorem dX13_conforms_72 : decode cX13_conforms 72 = .ok (.getfield 363, 3) := by decide +kernel
theorem dX13_conforms_75 : decode cX13_conforms 75 = .ok (.sipush 257, 3) := by decide +kernel
theorem dX13_conforms_78 : decode cX13_conforms 78 = .ok (.iconst 1, 1) := by decide +kernel
theorem dX13_conforms_79 : decode cX13_conforms 79 = .ok (.bastore, 1) := by decide +kernel
theorem dX13_conforms_80 : decode cX13_conforms 80 = .ok (.iinc 3 1, 3) := by decide +kernel
theorem dX13_conforms_83 : decode cX13_conforms 83 = .ok (.iconst 0, 1) := by decide +kernel
theorem dX13_conforms_84 : decode cX13_conforms 84 = .ok (.istore 4, 2) := by decide +kernel
theorem dX13_conforms_86 : decode cX13_conforms 86 = .ok (.iload 4, 2) := by decide +kernel
theorem dX13_conforms_88 : decode cX13_conforms 88 = .ok (.iload_n 3, 1) := by decide +kernel
theorem dX13_conforms_89 : decode cX13_conforms 89 = .ok (.if_icmp .ge 160, 3) := by decide +kernel
theorem dX13_conforms_9 : decode cX13_conforms 9 = .ok (.ifCond .eq 15, 3) := by decide +kernel
theorem dX13_conforms_92 : decode cX13_conforms 92 = .ok (.aload_n 0, 1) := by decide +kernel
theorem dX13_conforms_93 : decode cX13_conforms 93 = .ok (.getfield 359, 3) := by decide +kernel
theorem dX13_conforms_96 : decode cX13_conforms 96 = .ok (.iload 4, 2) := by decide +kernel
theorem dX13_conforms_98 : decode cX13_conforms 98 = .ok (.iaload, 1) := by decide +kernel
theorem dX13_conforms_99 : decode cX13_conforms 99 = .ok (.sipush 256, 3) := by decide +kernel
set_option maxRecDepth 4000 in
set_option maxHeartbeats 400000 in
theorem N_X13_conforms (s : t_S) (x1 : Int32) (x2 : Int32) (hz_I_1059 : ∀ i, s.1 1059 i = 0) (hz_I_1064 : ∀ i, s.1 1064 i = 0) : t_C yX13_conforms cX13_conforms 11 (some .int) 3 [.ref 950, .int x1, .int x2] s (fun v s' => v = some (.int (N_conf x1 x2)) ∧ t_keep [950, 1061, 1063, 1064] s s') := by
  refine t_C.of (by decide +kernel) (Nat.le_of_ble_eq_true rfl) ?_
  intro D cy ad bs X
  suffices main : ∀ post : Option Value → t_S → Prop, (∀ v s', (v = some (.int (N_conf x1 x2)) ∧ t_keep [950, 1061, 1063, 1064] s s') → post v s') → mj_G D cy ad bs X cX13_conforms 11 yX13_conforms.cls (some .int) yX13_conforms.name 3 0 0 1065 (t_P post) 0 [(0, .ref 950), (1, .int x1), (2, .int x2)] [] (t_m s) 1065 0 0 from main _ (fun _ _ h => h)
  intro post hpost
  refine mj_iload_n dX13_conforms_0 1 rfl ?_
  refine mj_i2l (v := x1.toInt64) dX13_conforms_1 rfl ?_
  refine mj_lconst (v := 0) dX13_conforms_2 (by decide) ?_
  refine mj_ldc2 dX13_conforms_3 K_X13_1198 ?_
  by_cases q1 : (0 : Int) ≤ x1.toInt ∧ x1.toInt ≤ 3
  · refine t_callS dX13_conforms_6 M_X13_in (N_in1 s x1.toInt64 0 3 ((t_in (B := 0) (C := 3) rfl rfl).mpr q1)) ML_X13_371 SM_X13_in (As := [.long x1.toInt64, .long 0, .long 3]) rfl rfl (Nat.le_of_ble_eq_true rfl) (Nat.le_of_ble_eq_true rfl) (Nat.le_of_ble_eq_true rfl) (Nat.le_of_ble_eq_true rfl) (fun v s2 hp => ?_)
    obtain ⟨rfl, hq⟩ := hp
    rw [hq]
    clear hq s2
    refine mj_if_eq 24 dX13_conforms_9 (by decide) (fun z => absurd z (by decide)) (fun _ => ?_)
    refine mj_iload_n dX13_conforms_12 2 rfl ?_
    refine mj_i2l (v := x2.toInt64) dX13_conforms_13 rfl ?_
    refine mj_lconst (v := 0) dX13_conforms_14 (by decide) ?_
    refine mj_ldc2 dX13_conforms_15 K_X13_1198 ?_
    by_cases q3 : (0 : Int) ≤ x2.toInt ∧ x2.toInt ≤ 3
    · refine t_callS dX13_conforms_18 M_X13_in (N_in1 s x2.toInt64 0 3 ((t_in (B := 0) (C := 3) rfl rfl).mpr q3)) ML_X13_371 SM_X13_in (As := [.long x2.toInt64, .long 0, .long 3]) rfl rfl (Nat.le_of_ble_eq_true rfl) (Nat.le_of_ble_eq_true rfl) (Nat.le_of_ble_eq_true rfl) (Nat.le_of_ble_eq_true rfl) (fun v s4 hp => ?_)
      obtain ⟨rfl, hq⟩ := hp
      rw [hq]
      clear hq s4
      refine mj_if_ne 26 dX13_conforms_21 (by decide) (fun _ => ?_) (fun z => absurd z (by decide))
      refine mj_iconst (v := 0) dX13_conforms_26 (by decide) ?_
      refine mj_istore_n 3 (lv2 := [(3, .int 0), (0, .ref 950), (1, .int x1), (2, .int x2)]) dX13_conforms_27 rfl (by decide) rfl ?_
      refine mj_sublv [(3, .int (nI 0)), (0, .ref 950), (1, .int x1), (2, .int x2)] [0, 1, 2, 3] rfl ?_
      refine N_clr s x1 x2 (fun s5 e6 k7 => ?_) 65536 0 s (by omega) hz_I_1064 t_keep.rf
      show mj_G _ _ _ _ _ _ _ _ _ _ _ _ _ _ _ 48 [(3, .int 65536), (0, .ref 950), (1, .int x1), (2, .int x2)] [] _ _ _ _
      refine mj_aload_n dX13_conforms_48 1 rfl ?_
      refine mj_iconst (v := 0) dX13_conforms_49 (by decide) ?_
      refine t_putI dX13_conforms_50 F_X13_1502 qf_950_183 (by decide) ?_
      obtain ⟨s8, w9⟩ : ∃ z, z = t_setI s5 950 183 0 := ⟨_, rfl⟩
      rw [← w9]
      refine mj_iconst (v := 0) dX13_conforms_53 (by decide) ?_
      refine mj_istore_n 3 (lv2 := [(3, .int 0), (0, .ref 950), (1, .int x1), (2, .int x2)]) dX13_conforms_54 rfl (by decide) rfl ?_
      refine mj_aload_n dX13_conforms_55 1 rfl ?_
      refine t_getR 1063 dX13_conforms_56 F_X13_359 qr_950_188 ?_
      refine mj_iconst (v := 0) dX13_conforms_59 (by decide) ?_
      refine mj_sipush (v := 257) dX13_conforms_60 (by decide) ?_
      refine t_iast dX13_conforms_63 qa_1063 (by unfold vp_in; decide) ?_
      rw [show (0 : Int32).toNatClampNeg = 0 by decide]
      obtain ⟨s10, w11⟩ : ∃ z, z = t_setI s8 1063 0 257 := ⟨_, rfl⟩
      rw [← w11]
      refine mj_aload_n dX13_conforms_64 1 rfl ?_
      refine t_getR 1061 dX13_conforms_65 F_X13_353 qr_950_186 ?_
      refine mj_iconst (v := 0) dX13_conforms_68 (by decide) ?_
      refine mj_iconst (v := (-1)) dX13_conforms_69 (by decide) ?_
      refine t_iast dX13_conforms_70 qa_1061 (by unfold vp_in; decide) ?_
      rw [show (0 : Int32).toNatClampNeg = 0 by decide]
      obtain ⟨s12, w13⟩ : ∃ z, z = t_setI s10 1061 0 (-1) := ⟨_, rfl⟩
      rw [← w13]
      refine mj_aload_n dX13_conforms_71 1 rfl ?_
      refine t_getR 1064 dX13_conforms_72 F_X13_363 qr_950_189 ?_
      refine mj_sipush (v := 257) dX13_conforms_75 (by decide) ?_
      refine mj_iconst (v := 1) dX13_conforms_78 (by decide) ?_
      refine t_zast dX13_conforms_79 qa_1064 (by unfold vp_in; decide) (by decide) ?_
      rw [show (257 : Int32).toNatClampNeg = 257 by decide]
      obtain ⟨s14, w15⟩ : ∃ z, z = t_setI s12 1064 257 1 := ⟨_, rfl⟩
      rw [← w15]
      refine mj_iinc (k := 0) (v := 1) (lv2 := [(3, .int 1), (0, .ref 950), (1, .int x1), (2, .int x2)]) dX13_conforms_80 rfl (by decide) (by decide) rfl ?_
      refine mj_iconst (v := 0) dX13_conforms_83 (by decide) ?_
      refine mj_istore (lv2 := [(4, .int 0), (3, .int 1), (0, .ref 950), (1, .int x1), (2, .int x2)]) dX13_conforms_84 (by decide) rfl ?_
      refine mj_iload dX13_conforms_86 0 rfl ?_
      refine mj_iload_n dX13_conforms_88 1 rfl ?_
      refine mj_icmp_ge 249 dX13_conforms_89 (by decide) (fun z => absurd z (by decide)) (fun _ => ?_)
      refine mj_aload_n dX13_conforms_92 2 rfl ?_
      refine t_getR 1063 dX13_conforms_93 F_X13_359 qr_950_188 ?_
      refine mj_iload dX13_conforms_96 0 rfl ?_
      refine t_iald dX13_conforms_98 qa_1063 (by unfold vp_in; decide) ?_
      rw [show (0 : Int32).toNatClampNeg = 0 by decide]
      rw [((t_oI w15 1063 0 rfl).trans ((t_oI w13 1063 0 rfl).trans (t_wI w11)))]
      refine mj_sipush (v := 256) dX13_conforms_99 (by decide) ?_
      refine mj_idiv dX13_conforms_102 (by decide) ?_
      rw [show (257 : Int32) / 256 = 1 by decide]
      refine mj_istore (lv2 := [(5, .int 1), (4, .int 0), (3, .int 1), (0, .ref 950), (1, .int x1), (2, .int x2)]) dX13_conforms_103 (by decide) rfl ?_
      refine mj_aload_n dX13_conforms_105 3 rfl ?_
      refine t_getR 1063 dX13_conforms_106 F_X13_359 qr_950_188 ?_
      refine mj_iload dX13_conforms_109 1 rfl ?_
      refine t_iald dX13_conforms_111 qa_1063 (by unfold vp_in; decide) ?_
      rw [show (0 : Int32).toNatClampNeg = 0 by decide]
      rw [((t_oI w15 1063 0 rfl).trans ((t_oI w13 1063 0 rfl).trans (t_wI w11)))]
      refine mj_sipush (v := 256) dX13_conforms_112 (by decide) ?_
      refine mj_irem dX13_conforms_115 (by decide) ?_
      rw [show (257 : Int32) - 257 / 256 * 256 = 1 by decide]
      refine mj_istore (lv2 := [(6, .int 1), (5, .int 1), (4, .int 0), (3, .int 1), (0, .ref 950), (1, .int x1), (2, .int x2)]) dX13_conforms_116 (by decide) rfl ?_
      refine mj_iconst (v := 0) dX13_conforms_118 (by decide) ?_
      refine mj_istore (lv2 := [(7, .int 0), (6, .int 1), (5, .int 1), (4, .int 0), (3, .int 1), (0, .ref 950), (1, .int x1), (2, .int x2)]) dX13_conforms_119 (by decide) rfl ?_
      refine mj_iload dX13_conforms_121 0 rfl ?_
      refine mj_bipush (v := 9) dX13_conforms_123 (by decide) ?_
      refine mj_icmp_ge 243 dX13_conforms_125 (by decide) (fun z => absurd z (by decide)) (fun _ => ?_)
      refine mj_aload_n dX13_conforms_128 5 rfl ?_
      refine mj_iload_n dX13_conforms_129 6 rfl ?_
      refine mj_iload dX13_conforms_130 2 rfl ?_
      refine mj_iload dX13_conforms_132 0 rfl ?_
      refine t_callV dX13_conforms_134 M_X13_leads (N_leads_a s14 x1 0 (by omega) (by decide) (fun i => (t_oI w15 1059 i rfl).trans ((fun i => (t_oI w13 1059 i rfl).trans ((fun i => (t_oI w11 1059 i rfl).trans ((fun i => (t_oI w9 1059 i rfl).trans ((fun i => (congrFun (k7 1059 (by decide)).1 i).trans (hz_I_1059 i)) i)) i)) i)) i))) ML_X13_1505 IM_X13_leads SE_X13_leads qc_950 rfl (As := [.int x1, .int 1, .int 0]) rfl rfl (Nat.le_of_ble_eq_true rfl) (Nat.le_of_ble_eq_true rfl) (Nat.le_of_ble_eq_true rfl) (Nat.le_of_ble_eq_true rfl) (fun v s16 hp => ?_)
      obtain ⟨rfl, hq⟩ := hp
      rw [hq]
      clear hq s16
      refine mj_istore (lv2 := [(8, .int 0), (7, .int 0), (6, .int 1), (5, .int 1), (4, .int 0), (3, .int 1), (0, .ref 950), (1, .int x1), (2, .int x2)]) dX13_conforms_137 (by decide) rfl ?_
      refine mj_aload_n dX13_conforms_139 6 rfl ?_
      refine mj_iload_n dX13_conforms_140 8 rfl ?_
      refine mj_iload dX13_conforms_141 2 rfl ?_
      refine mj_iload dX13_conforms_143 1 rfl ?_
      refine t_callV dX13_conforms_145 M_X13_leads (N_leads_a s14 x2 0 (by omega) (by decide) (fun i => (t_oI w15 1059 i rfl).trans ((fun i => (t_oI w13 1059 i rfl).trans ((fun i => (t_oI w11 1059 i rfl).trans ((fun i => (t_oI w9 1059 i rfl).trans ((fun i => (congrFun (k7 1059 (by decide)).1 i).trans (hz_I_1059 i)) i)) i)) i)) i))) ML_X13_1505 IM_X13_leads SE_X13_leads qc_950 rfl (As := [.int x2, .int 1, .int 0]) rfl rfl (Nat.le_of_ble_eq_true rfl) (Nat.le_of_ble_eq_true rfl) (Nat.le_of_ble_eq_true rfl) (Nat.le_of_ble_eq_true rfl) (fun v s17 hp => ?_)
      obtain ⟨rfl, hq⟩ := hp
      rw [hq]
      clear hq s17
      refine mj_istore (lv2 := [(9, .int 0), (8, .int 0), (7, .int 0), (6, .int 1), (5, .int 1), (4, .int 0), (3, .int 1), (0, .ref 950), (1, .int x1), (2, .int x2)]) dX13_conforms_148 (by decide) rfl ?_
      refine mj_iload dX13_conforms_150 2 rfl ?_
      refine mj_iconst (v := 4) dX13_conforms_152 (by decide) ?_
      refine mj_icmp_lt 176 dX13_conforms_153 (by decide) (fun _ => ?_) (fun z => absurd (by decide) z)
      refine mj_sipush (v := 256) dX13_conforms_176 (by decide) ?_
      refine mj_iload dX13_conforms_179 1 rfl ?_
      refine mj_imul dX13_conforms_181 ?_
      rw [show (256 : Int32) * 0 = 0 by decide]
      refine mj_iload dX13_conforms_182 0 rfl ?_
      refine mj_iadd dX13_conforms_184 ?_
      rw [show (0 : Int32) + 0 = 0 by decide]
      refine mj_istore (lv2 := [(10, .int 0), (9, .int 0), (8, .int 0), (7, .int 0), (6, .int 1), (5, .int 1), (4, .int 0), (3, .int 1), (0, .ref 950), (1, .int x1), (2, .int x2)]) dX13_conforms_185 (by decide) rfl ?_
      refine mj_iload dX13_conforms_187 1 rfl ?_
      refine mj_if_eq 237 dX13_conforms_189 (by decide) (fun _ => ?_) (fun z => absurd (by decide) z)
      refine mj_iinc (k := 3) (v := 1) (lv2 := [(7, .int 1), (10, .int 0), (9, .int 0), (8, .int 0), (6, .int 1), (5, .int 1), (4, .int 0), (3, .int 1), (0, .ref 950), (1, .int x1), (2, .int x2)]) dX13_conforms_237 rfl (by decide) (by decide) rfl ?_
      refine mj_goto 121 dX13_conforms_240 (by decide) ?_
      refine mj_iload dX13_conforms_121 0 rfl ?_
      refine mj_bipush (v := 9) dX13_conforms_123 (by decide) ?_
      refine mj_icmp_ge 243 dX13_conforms_125 (by decide) (fun z => absurd z (by decide)) (fun _ => ?_)
      refine mj_aload_n dX13_conforms_128 8 rfl ?_
      refine mj_iload_n dX13_conforms_129 9 rfl ?_
      refine mj_iload dX13_conforms_130 5 rfl ?_
      refine mj_iload dX13_conforms_132 0 rfl ?_
      refine t_callV dX13_conforms_134 M_X13_leads (N_leads_a s14 x1 1 (by omega) (by decide) (fun i => (t_oI w15 1059 i rfl).trans ((fun i => (t_oI w13 1059 i rfl).trans ((fun i => (t_oI w11 1059 i rfl).trans ((fun i => (t_oI w9 1059 i rfl).trans ((fun i => (congrFun (k7 1059 (by decide)).1 i).trans (hz_I_1059 i)) i)) i)) i)) i))) ML_X13_1505 IM_X13_leads SE_X13_leads qc_950 rfl (As := [.int x1, .int 1, .int 1]) rfl rfl (Nat.le_of_ble_eq_true rfl) (Nat.le_of_ble_eq_true rfl) (Nat.le_of_ble_eq_true rfl) (Nat.le_of_ble_eq_true rfl) (fun v s18 hp => ?_)
      obtain ⟨rfl, hq⟩ := hp
      rw [hq]
      clear hq s18
      refine mj_istore (lv2 := [(8, .int 0), (7, .int 1), (10, .int 0), (9, .int 0), (6, .int 1), (5, .int 1), (4, .int 0), (3, .int 1), (0, .ref 950), (1, .int x1), (2, .int x2)]) dX13_conforms_137 (by decide) rfl ?_
      refine mj_aload_n dX13_conforms_139 8 rfl ?_
      refine mj_iload_n dX13_conforms_140 10 rfl ?_
      refine mj_iload dX13_conforms_141 4 rfl ?_
      refine mj_iload dX13_conforms_143 1 rfl ?_
      refine t_callV dX13_conforms_145 M_X13_leads (N_leads_a s14 x2 1 (by omega) (by decide) (fun i => (t_oI w15 1059 i rfl).trans ((fun i => (t_oI w13 1059 i rfl).trans ((fun i => (t_oI w11 1059 i rfl).trans ((fun i => (t_oI w9 1059 i rfl).trans ((fun i => (congrFun (k7 1059 (by decide)).1 i).trans (hz_I_1059 i)) i)) i)) i)) i))) ML_X13_1505 IM_X13_leads SE_X13_leads qc_950 rfl (As := [.int x2, .int 1, .int 1]) rfl rfl (Nat.le_of_ble_eq_true rfl) (Nat.le_of_ble_eq_true rfl) (Nat.le_of_ble_eq_true rfl) (Nat.le_of_ble_eq_true rfl) (fun v s19 hp => ?_)
      obtain ⟨rfl, hq⟩ := hp
      rw [hq]
      clear hq s19
      refine mj_istore (lv2 := [(9, .int 0), (8, .int 0), (7, .int 1), (10, .int 0), (6, .int 1), (5, .int 1), (4, .int 0), (3, .int 1), (0, .ref 950), (1, .int x1), (2, .int x2)]) dX13_conforms_148 (by decide) rfl ?_
      refine mj_iload dX13_conforms_150 2 rfl ?_
      refine mj_iconst (v := 4) dX13_conforms_152 (by decide) ?_
      refine mj_icmp_lt 176 dX13_conforms_153 (by decide) (fun _ => ?_) (fun z => absurd (by decide) z)
      refine mj_sipush (v := 256) dX13_conforms_176 (by decide) ?_
      refine mj_iload dX13_conforms_179 1 rfl ?_
      refine mj_imul dX13_conforms_181 ?_
      rw [show (256 : Int32) * 0 = 0 by decide]
      refine mj_iload dX13_conforms_182 0 rfl ?_
      refine mj_iadd dX13_conforms_184 ?_
      rw [show (0 : Int32) + 0 = 0 by decide]
      refine mj_istore (lv2 := [(10, .int 0), (9, .int 0), (8, .int 0), (7, .int 1), (6, .int 1), (5, .int 1), (4, .int 0), (3, .int 1), (0, .ref 950), (1, .int x1), (2, .int x2)]) dX13_conforms_185 (by decide) rfl ?_
      refine mj_iload dX13_conforms_187 1 rfl ?_
      refine mj_if_eq 237 dX13_conforms_189 (by decide) (fun _ => ?_) (fun z => absurd (by decide) z)
      refine mj_iinc (k := 3) (v := 2) (lv2 := [(7, .int 2), (10, .int 0), (9, .int 0), (8, .int 0), (6, .int 1), (5, .int 1), (4, .int 0), (3, .int 1), (0, .ref 950), (1, .int x1), (2, .int x2)]) dX13_conforms_237 rfl (by decide) (by decide) rfl ?_
      refine mj_goto 121 dX13_conforms_240 (by decide) ?_
      refine mj_iload dX13_conforms_121 0 rfl ?_
      refine mj_bipush (v := 9) dX13_conforms_123 (by decide) ?_
      refine mj_icmp_ge 243 dX13_conforms_125 (by decide) (fun z => absurd z (by decide)) (fun _ => ?_)
      refine mj_aload_n dX13_conforms_128 8 rfl ?_
      refine mj_iload_n dX13_conforms_129 9 rfl ?_
      refine mj_iload dX13_conforms_130 5 rfl ?_
      refine mj_iload dX13_conforms_132 0 rfl ?_
      refine t_callV dX13_conforms_134 M_X13_leads (N_leads_a s14 x1 2 (by omega) (by decide) (fun i => (t_oI w15 1059 i rfl).trans ((fun i => (t_oI w13 1059 i rfl).trans ((fun i => (t_oI w11 1059 i rfl).trans ((fun i => (t_oI w9 1059 i rfl).trans ((fun i => (congrFun (k7 1059 (by decide)).1 i).trans (hz_I_1059 i)) i)) i)) i)) i))) ML_X13_1505 IM_X13_leads SE_X13_leads qc_950 rfl (As := [.int x1, .int 1, .int 2]) rfl rfl (Nat.le_of_ble_eq_true rfl) (Nat.le_of_ble_eq_true rfl) (Nat.le_of_ble_eq_true rfl) (Nat.le_of_ble_eq_true rfl) (fun v s20 hp => ?_)
      obtain ⟨rfl, hq⟩ := hp
      rw [hq]
      clear hq s20
      refine mj_istore (lv2 := [(8, .int 0), (7, .int 2), (10, .int 0), (9, .int 0), (6, .int 1), (5, .int 1), (4, .int 0), (3, .int 1), (0, .ref 950), (1, .int x1), (2, .int x2)]) dX13_conforms_137 (by decide) rfl ?_
      refine mj_aload_n dX13_conforms_139 8 rfl ?_
      refine mj_iload_n dX13_conforms_140 10 rfl ?_
      refine mj_iload dX13_conforms_141 4 rfl ?_
      refine mj_iload dX13_conforms_143 1 rfl ?_
      refine t_callV dX13_conforms_145 M_X13_leads (N_leads_a s14 x2 2 (by omega) (by decide) (fun i => (t_oI w15 1059 i rfl).trans ((fun i => (t_oI w13 1059 i rfl).trans ((fun i => (t_oI w11 1059 i rfl).trans ((fun i => (t_oI w9 1059 i rfl).trans ((fun i => (congrFun (k7 1059 (by decide)).1 i).trans (hz_I_1059 i)) i)) i)) i)) i))) ML_X13_1505 IM_X13_leads SE_X13_leads qc_950 rfl (As := [.int x2, .int 1, .int 2]) rfl rfl (Nat.le_of_ble_eq_true rfl) (Nat.le_of_ble_eq_true rfl) (Nat.le_of_ble_eq_true rfl) (Nat.le_of_ble_eq_true rfl) (fun v s21 hp => ?_)
      obtain ⟨rfl, hq⟩ := hp
      rw [hq]
      clear hq s21
      refine mj_istore (lv2 := [(9, .int 0), (8, .int 0), (7, .int 2), (10, .int 0), (6, .int 1), (5, .int 1), (4, .int 0), (3, .int 1), (0, .ref 950), (1, .int x1), (2, .int x2)]) dX13_conforms_148 (by decide) rfl ?_
      refine mj_iload dX13_conforms_150 2 rfl ?_
      refine mj_iconst (v := 4) dX13_conforms_152 (by decide) ?_
      refine mj_icmp_lt 176 dX13_conforms_153 (by decide) (fun _ => ?_) (fun z => absurd (by decide) z)
      refine mj_sipush (v := 256) dX13_conforms_176 (by decide) ?_
      refine mj_iload dX13_conforms_179 1 rfl ?_
      refine mj_imul dX13_conforms_181 ?_
      rw [show (256 : Int32) * 0 = 0 by decide]
      refine mj_iload dX13_conforms_182 0 rfl ?_
      refine mj_iadd dX13_conforms_184 ?_
      rw [show (0 : Int32) + 0 = 0 by decide]
      refine mj_istore (lv2 := [(10, .int 0), (9, .int 0), (8, .int 0), (7, .int 2), (6, .int 1), (5, .int 1), (4, .int 0), (3, .int 1), (0, .ref 950), (1, .int x1), (2, .int x2)]) dX13_conforms_185 (by decide) rfl ?_
      refine mj_iload dX13_conforms_187 1 rfl ?_
      refine mj_if_eq 237 dX13_conforms_189 (by decide) (fun _ => ?_) (fun z => absurd (by decide) z)
      refine mj_iinc (k := 3) (v := 3) (lv2 := [(7, .int 3), (10, .int 0), (9, .int 0), (8, .int 0), (6, .int 1), (5, .int 1), (4, .int 0), (3, .int 1), (0, .ref 950), (1, .int x1), (2, .int x2)]) dX13_conforms_237 rfl (by decide) (by decide) rfl ?_
      refine mj_goto 121 dX13_conforms_240 (by decide) ?_
      refine mj_iload dX13_conforms_121 0 rfl ?_
      refine mj_bipush (v := 9) dX13_conforms_123 (by decide) ?_
      refine mj_icmp_ge 243 dX13_conforms_125 (by decide) (fun z => absurd z (by decide)) (fun _ => ?_)
      refine mj_aload_n dX13_conforms_128 8 rfl ?_
      refine mj_iload_n dX13_conforms_129 9 rfl ?_
      refine mj_iload dX13_conforms_130 5 rfl ?_
      refine mj_iload dX13_conforms_132 0 rfl ?_
      refine t_callV dX13_conforms_134 M_X13_leads (N_leads_a s14 x1 3 (by omega) (by decide) (fun i => (t_oI w15 1059 i rfl).trans ((fun i => (t_oI w13 1059 i rfl).trans ((fun i => (t_oI w11 1059 i rfl).trans ((fun i => (t_oI w9 1059 i rfl).trans ((fun i => (congrFun (k7 1059 (by decide)).1 i).trans (hz_I_1059 i)) i)) i)) i)) i))) ML_X13_1505 IM_X13_leads SE_X13_leads qc_950 rfl (As := [.int x1, .int 1, .int 3]) rfl rfl (Nat.le_of_ble_eq_true rfl) (Nat.le_of_ble_eq_true rfl) (Nat.le_of_ble_eq_true rfl) (Nat.le_of_ble_eq_true rfl) (fun v s22 hp => ?_)
      obtain ⟨rfl, hq⟩ := hp
      rw [hq]
      clear hq s22
      refine mj_istore (lv2 := [(8, .int 0), (7, .int 3), (10, .int 0), (9, .int 0), (6, .int 1), (5, .int 1), (4, .int 0), (3, .int 1), (0, .ref 950), (1, .int x1), (2, .int x2)]) dX13_conforms_137 (by decide) rfl ?_
      refine mj_aload_n dX13_conforms_139 8 rfl ?_
      refine mj_iload_n dX13_conforms_140 10 rfl ?_
      refine mj_iload dX13_conforms_141 4 rfl ?_
      refine mj_iload dX13_conforms_143 1 rfl ?_
      refine t_callV dX13_conforms_145 M_X13_leads (N_leads_a s14 x2 3 (by omega) (by decide) (fun i => (t_oI w15 1059 i rfl).trans ((fun i => (t_oI w13 1059 i rfl).trans ((fun i => (t_oI w11 1059 i rfl).trans ((fun i => (t_oI w9 1059 i rfl).trans ((fun i => (congrFun (k7 1059 (by decide)).1 i).trans (hz_I_1059 i)) i)) i)) i)) i))) ML_X13_1505 IM_X13_leads SE_X13_leads qc_950 rfl (As := [.int x2, .int 1, .int 3]) rfl rfl (Nat.le_of_ble_eq_true rfl) (Nat.le_of_ble_eq_true rfl) (Nat.le_of_ble_eq_true rfl) (Nat.le_of_ble_eq_true rfl) (fun v s23 hp => ?_)
      obtain ⟨rfl, hq⟩ := hp
      rw [hq]
      clear hq s23
      refine mj_istore (lv2 := [(9, .int 0), (8, .int 0), (7, .int 3), (10, .int 0), (6, .int 1), (5, .int 1), (4, .int 0), (3, .int 1), (0, .ref 950), (1, .int x1), (2, .int x2)]) dX13_conforms_148 (by decide) rfl ?_
      refine mj_iload dX13_conforms_150 2 rfl ?_
      refine mj_iconst (v := 4) dX13_conforms_152 (by decide) ?_
      refine mj_icmp_lt 176 dX13_conforms_153 (by decide) (fun _ => ?_) (fun z => absurd (by decide) z)
      refine mj_sipush (v := 256) dX13_conforms_176 (by decide) ?_
      refine mj_iload dX13_conforms_179 1 rfl ?_
      refine mj_imul dX13_conforms_181 ?_
      rw [show (256 : Int32) * 0 = 0 by decide]
      refine mj_iload dX13_conforms_182 0 rfl ?_
      refine mj_iadd dX13_conforms_184 ?_
      rw [show (0 : Int32) + 0 = 0 by decide]
      refine mj_istore (lv2 := [(10, .int 0), (9, .int 0), (8, .int 0), (7, .int 3), (6, .int 1), (5, .int 1), (4, .int 0), (3, .int 1), (0, .ref 950), (1, .int x1), (2, .int x2)]) dX13_conforms_185 (by decide) rfl ?_
      refine mj_iload dX13_conforms_187 1 rfl ?_
      refine mj_if_eq 237 dX13_conforms_189 (by decide) (fun _ => ?_) (fun z => absurd (by decide) z)
      refine mj_iinc (k := 3) (v := 4) (lv2 := [(7, .int 4), (10, .int 0), (9, .int 0), (8, .int 0), (6, .int 1), (5, .int 1), (4, .int 0), (3, .int 1), (0, .ref 950), (1, .int x1), (2, .int x2)]) dX13_conforms_237 rfl (by decide) (by decide) rfl ?_
      refine mj_goto 121 dX13_conforms_240 (by decide) ?_
      refine mj_iload dX13_conforms_121 0 rfl ?_
      refine mj_bipush (v := 9) dX13_conforms_123 (by decide) ?_
      refine mj_icmp_ge 243 dX13_conforms_125 (by decide) (fun z => absurd z (by decide)) (fun _ => ?_)
      refine mj_aload_n dX13_conforms_128 8 rfl ?_
      refine mj_iload_n dX13_conforms_129 9 rfl ?_
      refine mj_iload dX13_conforms_130 5 rfl ?_
      refine mj_iload dX13_conforms_132 0 rfl ?_
      refine t_callV dX13_conforms_134 M_X13_leads (N_leads_a s14 x1 4 (by omega) (by decide) (fun i => (t_oI w15 1059 i rfl).trans ((fun i => (t_oI w13 1059 i rfl).trans ((fun i => (t_oI w11 1059 i rfl).trans ((fun i => (t_oI w9 1059 i rfl).trans ((fun i => (congrFun (k7 1059 (by decide)).1 i).trans (hz_I_1059 i)) i)) i)) i)) i))) ML_X13_1505 IM_X13_leads SE_X13_leads qc_950 rfl (As := [.int x1, .int 1, .int 4]) rfl rfl (Nat.le_of_ble_eq_true rfl) (Nat.le_of_ble_eq_true rfl) (Nat.le_of_ble_eq_true rfl) (Nat.le_of_ble_eq_true rfl) (fun v s24 hp => ?_)
      obtain ⟨rfl, hq⟩ := hp
      rw [hq]
      clear hq s24
      refine mj_istore (lv2 := [(8, .int 0), (7, .int 4), (10, .int 0), (9, .int 0), (6, .int 1), (5, .int 1), (4, .int 0), (3, .int 1), (0, .ref 950), (1, .int x1), (2, .int x2)]) dX13_conforms_137 (by decide) rfl ?_
      refine mj_aload_n dX13_conforms_139 8 rfl ?_
      refine mj_iload_n dX13_conforms_140 10 rfl ?_
      refine mj_iload dX13_conforms_141 4 rfl ?_
      refine mj_iload dX13_conforms_143 1 rfl ?_
      refine t_callV dX13_conforms_145 M_X13_leads (N_leads_a s14 x2 4 (by omega) (by decide) (fun i => (t_oI w15 1059 i rfl).trans ((fun i => (t_oI w13 1059 i rfl).trans ((fun i => (t_oI w11 1059 i rfl).trans ((fun i => (t_oI w9 1059 i rfl).trans ((fun i => (congrFun (k7 1059 (by decide)).1 i).trans (hz_I_1059 i)) i)) i)) i)) i))) ML_X13_1505 IM_X13_leads SE_X13_leads qc_950 rfl (As := [.int x2, .int 1, .int 4]) rfl rfl (Nat.le_of_ble_eq_true rfl) (Nat.le_of_ble_eq_true rfl) (Nat.le_of_ble_eq_true rfl) (Nat.le_of_ble_eq_true rfl) (fun v s25 hp => ?_)
      obtain ⟨rfl, hq⟩ := hp
      rw [hq]
      clear hq s25
      refine mj_istore (lv2 := [(9, .int 0), (8, .int 0), (7, .int 4), (10, .int 0), (6, .int 1), (5, .int 1), (4, .int 0), (3, .int 1), (0, .ref 950), (1, .int x1), (2, .int x2)]) dX13_conforms_148 (by decide) rfl ?_
      refine mj_iload dX13_conforms_150 2 rfl ?_
      refine mj_iconst (v := 4) dX13_conforms_152 (by decide) ?_
      refine mj_icmp_lt 176 dX13_conforms_153 (by decide) (fun z => absurd z (by decide)) (fun _ => ?_)
      refine mj_iload dX13_conforms_156 1 rfl ?_
      refine mj_if_eq 176 dX13_conforms_158 (by decide) (fun _ => ?_) (fun z => absurd (by decide) z)
      refine mj_sipush (v := 256) dX13_conforms_176 (by decide) ?_
      refine mj_iload dX13_conforms_179 1 rfl ?_
      refine mj_imul dX13_conforms_181 ?_
      rw [show (256 : Int32) * 0 = 0 by decide]
      refine mj_iload dX13_conforms_182 0 rfl ?_
      refine mj_iadd dX13_conforms_184 ?_
      rw [show (0 : Int32) + 0 = 0 by decide]
      refine mj_istore (lv2 := [(10, .int 0), (9, .int 0), (8, .int 0), (7, .int 4), (6, .int 1), (5, .int 1), (4, .int 0), (3, .int 1), (0, .ref 950), (1, .int x1), (2, .int x2)]) dX13_conforms_185 (by decide) rfl ?_
      refine mj_iload dX13_conforms_187 1 rfl ?_
      refine mj_if_eq 237 dX13_conforms_189 (by decide) (fun _ => ?_) (fun z => absurd (by decide) z)
      refine mj_iinc (k := 3) (v := 5) (lv2 := [(7, .int 5), (10, .int 0), (9, .int 0), (8, .int 0), (6, .int 1), (5, .int 1), (4, .int 0), (3, .int 1), (0, .ref 950), (1, .int x1), (2, .int x2)]) dX13_conforms_237 rfl (by decide) (by decide) rfl ?_
      refine mj_goto 121 dX13_conforms_240 (by decide) ?_
      refine mj_iload dX13_conforms_121 0 rfl ?_
      refine mj_bipush (v := 9) dX13_conforms_123 (by decide) ?_
      refine mj_icmp_ge 243 dX13_conforms_125 (by decide) (fun z => absurd z (by decide)) (fun _ => ?_)
      refine mj_aload_n dX13_conforms_128 8 rfl ?_
      refine mj_iload_n dX13_conforms_129 9 rfl ?_
      refine mj_iload dX13_conforms_130 5 rfl ?_
      refine mj_iload dX13_conforms_132 0 rfl ?_
      refine t_callV dX13_conforms_134 M_X13_leads (N_leads_a s14 x1 5 (by omega) (by decide) (fun i => (t_oI w15 1059 i rfl).trans ((fun i => (t_oI w13 1059 i rfl).trans ((fun i => (t_oI w11 1059 i rfl).trans ((fun i => (t_oI w9 1059 i rfl).trans ((fun i => (congrFun (k7 1059 (by decide)).1 i).trans (hz_I_1059 i)) i)) i)) i)) i))) ML_X13_1505 IM_X13_leads SE_X13_leads qc_950 rfl (As := [.int x1, .int 1, .int 5]) rfl rfl (Nat.le_of_ble_eq_true rfl) (Nat.le_of_ble_eq_true rfl) (Nat.le_of_ble_eq_true rfl) (Nat.le_of_ble_eq_true rfl) (fun v s26 hp => ?_)
      obtain ⟨rfl, hq⟩ := hp
      rw [hq]
      clear hq s26
      refine mj_istore (lv2 := [(8, .int 0), (7, .int 5), (10, .int 0), (9, .int 0), (6, .int 1), (5, .int 1), (4, .int 0), (3, .int 1), (0, .ref 950), (1, .int x1), (2, .int x2)]) dX13_conforms_137 (by decide) rfl ?_
      refine mj_aload_n dX13_conforms_139 8 rfl ?_
      refine mj_iload_n dX13_conforms_140 10 rfl ?_
      refine mj_iload dX13_conforms_141 4 rfl ?_
      refine mj_iload dX13_conforms_143 1 rfl ?_
      refine t_callV dX13_conforms_145 M_X13_leads (N_leads_a s14 x2 5 (by omega) (by decide) (fun i => (t_oI w15 1059 i rfl).trans ((fun i => (t_oI w13 1059 i rfl).trans ((fun i => (t_oI w11 1059 i rfl).trans ((fun i => (t_oI w9 1059 i rfl).trans ((fun i => (congrFun (k7 1059 (by decide)).1 i).trans (hz_I_1059 i)) i)) i)) i)) i))) ML_X13_1505 IM_X13_leads SE_X13_leads qc_950 rfl (As := [.int x2, .int 1, .int 5]) rfl rfl (Nat.le_of_ble_eq_true rfl) (Nat.le_of_ble_eq_true rfl) (Nat.le_of_ble_eq_true rfl) (Nat.le_of_ble_eq_true rfl) (fun v s27 hp => ?_)
      obtain ⟨rfl, hq⟩ := hp
      rw [hq]
      clear hq s27
      refine mj_istore (lv2 := [(9, .int 0), (8, .int 0), (7, .int 5), (10, .int 0), (6, .int 1), (5, .int 1), (4, .int 0), (3, .int 1), (0, .ref 950), (1, .int x1), (2, .int x2)]) dX13_conforms_148 (by decide) rfl ?_
      refine mj_iload dX13_conforms_150 2 rfl ?_
      refine mj_iconst (v := 4) dX13_conforms_152 (by decide) ?_
      refine mj_icmp_lt 176 dX13_conforms_153 (by decide) (fun z => absurd z (by decide)) (fun _ => ?_)
      refine mj_iload dX13_conforms_156 1 rfl ?_
      refine mj_if_eq 176 dX13_conforms_158 (by decide) (fun _ => ?_) (fun z => absurd (by decide) z)
      refine mj_sipush (v := 256) dX13_conforms_176 (by decide) ?_
      refine mj_iload dX13_conforms_179 1 rfl ?_
      refine mj_imul dX13_conforms_181 ?_
      rw [show (256 : Int32) * 0 = 0 by decide]
      refine mj_iload dX13_conforms_182 0 rfl ?_
      refine mj_iadd dX13_conforms_184 ?_
      rw [show (0 : Int32) + 0 = 0 by decide]
      refine mj_istore (lv2 := [(10, .int 0), (9, .int 0), (8, .int 0), (7, .int 5), (6, .int 1), (5, .int 1), (4, .int 0), (3, .int 1), (0, .ref 950), (1, .int x1), (2, .int x2)]) dX13_conforms_185 (by decide) rfl ?_
      refine mj_iload dX13_conforms_187 1 rfl ?_
      refine mj_if_eq 237 dX13_conforms_189 (by decide) (fun _ => ?_) (fun z => absurd (by decide) z)
      refine mj_iinc (k := 3) (v := 6) (lv2 := [(7, .int 6), (10, .int 0), (9, .int 0), (8, .int 0), (6, .int 1), (5, .int 1), (4, .int 0), (3, .int 1), (0, .ref 950), (1, .int x1), (2, .int x2)]) dX13_conforms_237 rfl (by decide) (by decide) rfl ?_
      refine mj_goto 121 dX13_conforms_240 (by decide) ?_
      refine mj_iload dX13_conforms_121 0 rfl ?_
      refine mj_bipush (v := 9) dX13_conforms_123 (by decide) ?_
      refine mj_icmp_ge 243 dX13_conforms_125 (by decide) (fun z => absurd z (by decide)) (fun _ => ?_)
      refine mj_aload_n dX13_conforms_128 8 rfl ?_
      refine mj_iload_n dX13_conforms_129 9 rfl ?_
      refine mj_iload dX13_conforms_130 5 rfl ?_
      refine mj_iload dX13_conforms_132 0 rfl ?_
      refine t_callV dX13_conforms_134 M_X13_leads (N_leads_a s14 x1 6 (by omega) (by decide) (fun i => (t_oI w15 1059 i rfl).trans ((fun i => (t_oI w13 1059 i rfl).trans ((fun i => (t_oI w11 1059 i rfl).trans ((fun i => (t_oI w9 1059 i rfl).trans ((fun i => (congrFun (k7 1059 (by decide)).1 i).trans (hz_I_1059 i)) i)) i)) i)) i))) ML_X13_1505 IM_X13_leads SE_X13_leads qc_950 rfl (As := [.int x1, .int 1, .int 6]) rfl rfl (Nat.le_of_ble_eq_true rfl) (Nat.le_of_ble_eq_true rfl) (Nat.le_of_ble_eq_true rfl) (Nat.le_of_ble_eq_true rfl) (fun v s28 hp => ?_)
      obtain ⟨rfl, hq⟩ := hp
      rw [hq]
      clear hq s28
      refine mj_istore (lv2 := [(8, .int 0), (7, .int 6), (10, .int 0), (9, .int 0), (6, .int 1), (5, .int 1), (4, .int 0), (3, .int 1), (0, .ref 950), (1, .int x1), (2, .int x2)]) dX13_conforms_137 (by decide) rfl ?_
      refine mj_aload_n dX13_conforms_139 8 rfl ?_
      refine mj_iload_n dX13_conforms_140 10 rfl ?_
      refine mj_iload dX13_conforms_141 4 rfl ?_
      refine mj_iload dX13_conforms_143 1 rfl ?_
      refine t_callV dX13_conforms_145 M_X13_leads (N_leads_a s14 x2 6 (by omega) (by decide) (fun i => (t_oI w15 1059 i rfl).trans ((fun i => (t_oI w13 1059 i rfl).trans ((fun i => (t_oI w11 1059 i rfl).trans ((fun i => (t_oI w9 1059 i rfl).trans ((fun i => (congrFun (k7 1059 (by decide)).1 i).trans (hz_I_1059 i)) i)) i)) i)) i))) ML_X13_1505 IM_X13_leads SE_X13_leads qc_950 rfl (As := [.int x2, .int 1, .int 6]) rfl rfl (Nat.le_of_ble_eq_true rfl) (Nat.le_of_ble_eq_true rfl) (Nat.le_of_ble_eq_true rfl) (Nat.le_of_ble_eq_true rfl) (fun v s29 hp => ?_)
      obtain ⟨rfl, hq⟩ := hp
      rw [hq]
      clear hq s29
      refine mj_istore (lv2 := [(9, .int 0), (8, .int 0), (7, .int 6), (10, .int 0), (6, .int 1), (5, .int 1), (4, .int 0), (3, .int 1), (0, .ref 950), (1, .int x1), (2, .int x2)]) dX13_conforms_148 (by decide) rfl ?_
      refine mj_iload dX13_conforms_150 2 rfl ?_
      refine mj_iconst (v := 4) dX13_conforms_152 (by decide) ?_
      refine mj_icmp_lt 176 dX13_conforms_153 (by decide) (fun z => absurd z (by decide)) (fun _ => ?_)
      refine mj_iload dX13_conforms_156 1 rfl ?_
      refine mj_if_eq 176 dX13_conforms_158 (by decide) (fun _ => ?_) (fun z => absurd (by decide) z)
      refine mj_sipush (v := 256) dX13_conforms_176 (by decide) ?_
      refine mj_iload dX13_conforms_179 1 rfl ?_
      refine mj_imul dX13_conforms_181 ?_
      rw [show (256 : Int32) * 0 = 0 by decide]
      refine mj_iload dX13_conforms_182 0 rfl ?_
      refine mj_iadd dX13_conforms_184 ?_
      rw [show (0 : Int32) + 0 = 0 by decide]
      refine mj_istore (lv2 := [(10, .int 0), (9, .int 0), (8, .int 0), (7, .int 6), (6, .int 1), (5, .int 1), (4, .int 0), (3, .int 1), (0, .ref 950), (1, .int x1), (2, .int x2)]) dX13_conforms_185 (by decide) rfl ?_
      refine mj_iload dX13_conforms_187 1 rfl ?_
      refine mj_if_eq 237 dX13_conforms_189 (by decide) (fun _ => ?_) (fun z => absurd (by decide) z)
      refine mj_iinc (k := 3) (v := 7) (lv2 := [(7, .int 7), (10, .int 0), (9, .int 0), (8, .int 0), (6, .int 1), (5, .int 1), (4, .int 0), (3, .int 1), (0, .ref 950), (1, .int x1), (2, .int x2)]) dX13_conforms_237 rfl (by decide) (by decide) rfl ?_
      refine mj_goto 121 dX13_conforms_240 (by decide) ?_
      refine mj_iload dX13_conforms_121 0 rfl ?_
      refine mj_bipush (v := 9) dX13_conforms_123 (by decide) ?_
      refine mj_icmp_ge 243 dX13_conforms_125 (by decide) (fun z => absurd z (by decide)) (fun _ => ?_)
      refine mj_aload_n dX13_conforms_128 8 rfl ?_
      refine mj_iload_n dX13_conforms_129 9 rfl ?_
      refine mj_iload dX13_conforms_130 5 rfl ?_
      refine mj_iload dX13_conforms_132 0 rfl ?_
      refine t_callV dX13_conforms_134 M_X13_leads (N_leads_a s14 x1 7 (by omega) (by decide) (fun i => (t_oI w15 1059 i rfl).trans ((fun i => (t_oI w13 1059 i rfl).trans ((fun i => (t_oI w11 1059 i rfl).trans ((fun i => (t_oI w9 1059 i rfl).trans ((fun i => (congrFun (k7 1059 (by decide)).1 i).trans (hz_I_1059 i)) i)) i)) i)) i))) ML_X13_1505 IM_X13_leads SE_X13_leads qc_950 rfl (As := [.int x1, .int 1, .int 7]) rfl rfl (Nat.le_of_ble_eq_true rfl) (Nat.le_of_ble_eq_true rfl) (Nat.le_of_ble_eq_true rfl) (Nat.le_of_ble_eq_true rfl) (fun v s30 hp => ?_)
      obtain ⟨rfl, hq⟩ := hp
      rw [hq]
      clear hq s30
      refine mj_istore (lv2 := [(8, .int 0), (7, .int 7), (10, .int 0), (9, .int 0), (6, .int 1), (5, .int 1), (4, .int 0), (3, .int 1), (0, .ref 950), (1, .int x1), (2, .int x2)]) dX13_conforms_137 (by decide) rfl ?_
      refine mj_aload_n dX13_conforms_139 8 rfl ?_
      refine mj_iload_n dX13_conforms_140 10 rfl ?_
      refine mj_iload dX13_conforms_141 4 rfl ?_
      refine mj_iload dX13_conforms_143 1 rfl ?_
      refine t_callV dX13_conforms_145 M_X13_leads (N_leads_a s14 x2 7 (by omega) (by decide) (fun i => (t_oI w15 1059 i rfl).trans ((fun i => (t_oI w13 1059 i rfl).trans ((fun i => (t_oI w11 1059 i rfl).trans ((fun i => (t_oI w9 1059 i rfl).trans ((fun i => (congrFun (k7 1059 (by decide)).1 i).trans (hz_I_1059 i)) i)) i)) i)) i))) ML_X13_1505 IM_X13_leads SE_X13_leads qc_950 rfl (As := [.int x2, .int 1, .int 7]) rfl rfl (Nat.le_of_ble_eq_true rfl) (Nat.le_of_ble_eq_true rfl) (Nat.le_of_ble_eq_true rfl) (Nat.le_of_ble_eq_true rfl) (fun v s31 hp => ?_)
      obtain ⟨rfl, hq⟩ := hp
      rw [hq]
      clear hq s31
      refine mj_istore (lv2 := [(9, .int 0), (8, .int 0), (7, .int 7), (10, .int 0), (6, .int 1), (5, .int 1), (4, .int 0), (3, .int 1), (0, .ref 950), (1, .int x1), (2, .int x2)]) dX13_conforms_148 (by decide) rfl ?_
      refine mj_iload dX13_conforms_150 2 rfl ?_
      refine mj_iconst (v := 4) dX13_conforms_152 (by decide) ?_
      refine mj_icmp_lt 176 dX13_conforms_153 (by decide) (fun z => absurd z (by decide)) (fun _ => ?_)
      refine mj_iload dX13_conforms_156 1 rfl ?_
      refine mj_if_eq 176 dX13_conforms_158 (by decide) (fun _ => ?_) (fun z => absurd (by decide) z)
      refine mj_sipush (v := 256) dX13_conforms_176 (by decide) ?_
      refine mj_iload dX13_conforms_179 1 rfl ?_
      refine mj_imul dX13_conforms_181 ?_
      rw [show (256 : Int32) * 0 = 0 by decide]
      refine mj_iload dX13_conforms_182 0 rfl ?_
      refine mj_iadd dX13_conforms_184 ?_
      rw [show (0 : Int32) + 0 = 0 by decide]
      refine mj_istore (lv2 := [(10, .int 0), (9, .int 0), (8, .int 0), (7, .int 7), (6, .int 1), (5, .int 1), (4, .int 0), (3, .int 1), (0, .ref 950), (1, .int x1), (2, .int x2)]) dX13_conforms_185 (by decide) rfl ?_
      refine mj_iload dX13_conforms_187 1 rfl ?_
      refine mj_if_eq 237 dX13_conforms_189 (by decide) (fun _ => ?_) (fun z => absurd (by decide) z)
      refine mj_iinc (k := 3) (v := 8) (lv2 := [(7, .int 8), (10, .int 0), (9, .int 0), (8, .int 0), (6, .int 1), (5, .int 1), (4, .int 0), (3, .int 1), (0, .ref 950), (1, .int x1), (2, .int x2)]) dX13_conforms_237 rfl (by decide) (by decide) rfl ?_
      refine mj_goto 121 dX13_conforms_240 (by decide) ?_
      refine mj_iload dX13_conforms_121 0 rfl ?_
      refine mj_bipush (v := 9) dX13_conforms_123 (by decide) ?_
      refine mj_icmp_ge 243 dX13_conforms_125 (by decide) (fun z => absurd z (by decide)) (fun _ => ?_)
      refine mj_aload_n dX13_conforms_128 8 rfl ?_
      refine mj_iload_n dX13_conforms_129 9 rfl ?_
      refine mj_iload dX13_conforms_130 5 rfl ?_
      refine mj_iload dX13_conforms_132 0 rfl ?_
      refine t_callV dX13_conforms_134 M_X13_leads (N_leads_b s14 x1 8 (by omega) (by decide) (fun i => (t_oI w15 1059 i rfl).trans ((fun i => (t_oI w13 1059 i rfl).trans ((fun i => (t_oI w11 1059 i rfl).trans ((fun i => (t_oI w9 1059 i rfl).trans ((fun i => (congrFun (k7 1059 (by decide)).1 i).trans (hz_I_1059 i)) i)) i)) i)) i))) ML_X13_1505 IM_X13_leads SE_X13_leads qc_950 rfl (As := [.int x1, .int 1, .int 8]) rfl rfl (Nat.le_of_ble_eq_true rfl) (Nat.le_of_ble_eq_true rfl) (Nat.le_of_ble_eq_true rfl) (Nat.le_of_ble_eq_true rfl) (fun v s32 hp => ?_)
      obtain ⟨rfl, hq⟩ := hp
      rw [hq]
      clear hq s32
      refine mj_istore (lv2 := [(8, .int 1), (7, .int 8), (10, .int 0), (9, .int 0), (6, .int 1), (5, .int 1), (4, .int 0), (3, .int 1), (0, .ref 950), (1, .int x1), (2, .int x2)]) dX13_conforms_137 (by decide) rfl ?_
      refine mj_aload_n dX13_conforms_139 8 rfl ?_
      refine mj_iload_n dX13_conforms_140 10 rfl ?_
      refine mj_iload dX13_conforms_141 4 rfl ?_
      refine mj_iload dX13_conforms_143 1 rfl ?_
      refine t_callV dX13_conforms_145 M_X13_leads (N_leads_b s14 x2 8 (by omega) (by decide) (fun i => (t_oI w15 1059 i rfl).trans ((fun i => (t_oI w13 1059 i rfl).trans ((fun i => (t_oI w11 1059 i rfl).trans ((fun i => (t_oI w9 1059 i rfl).trans ((fun i => (congrFun (k7 1059 (by decide)).1 i).trans (hz_I_1059 i)) i)) i)) i)) i))) ML_X13_1505 IM_X13_leads SE_X13_leads qc_950 rfl (As := [.int x2, .int 1, .int 8]) rfl rfl (Nat.le_of_ble_eq_true rfl) (Nat.le_of_ble_eq_true rfl) (Nat.le_of_ble_eq_true rfl) (Nat.le_of_ble_eq_true rfl) (fun v s33 hp => ?_)
      obtain ⟨rfl, hq⟩ := hp
      rw [hq]
      clear hq s33
      refine mj_istore (lv2 := [(9, .int 1), (8, .int 1), (7, .int 8), (10, .int 0), (6, .int 1), (5, .int 1), (4, .int 0), (3, .int 1), (0, .ref 950), (1, .int x1), (2, .int x2)]) dX13_conforms_148 (by decide) rfl ?_
      refine mj_iload dX13_conforms_150 2 rfl ?_
      refine mj_iconst (v := 4) dX13_conforms_152 (by decide) ?_
      refine mj_icmp_lt 176 dX13_conforms_153 (by decide) (fun z => absurd z (by decide)) (fun _ => ?_)
      refine mj_iload dX13_conforms_156 1 rfl ?_
      refine mj_if_eq 176 dX13_conforms_158 (by decide) (fun z => absurd z (by decide)) (fun _ => ?_)
      refine mj_iload dX13_conforms_161 0 rfl ?_
      refine mj_if_ne 176 dX13_conforms_163 (by decide) (fun _ => ?_) (fun z => absurd z (by decide))
      refine mj_sipush (v := 256) dX13_conforms_176 (by decide) ?_
      refine mj_iload dX13_conforms_179 1 rfl ?_
      refine mj_imul dX13_conforms_181 ?_
      rw [show (256 : Int32) * 1 = 256 by decide]
      refine mj_iload dX13_conforms_182 0 rfl ?_
      refine mj_iadd dX13_conforms_184 ?_
      rw [show (256 : Int32) + 1 = 257 by decide]
      refine mj_istore (lv2 := [(10, .int 257), (9, .int 1), (8, .int 1), (7, .int 8), (6, .int 1), (5, .int 1), (4, .int 0), (3, .int 1), (0, .ref 950), (1, .int x1), (2, .int x2)]) dX13_conforms_185 (by decide) rfl ?_
      refine mj_iload dX13_conforms_187 1 rfl ?_
      refine mj_if_eq 237 dX13_conforms_189 (by decide) (fun z => absurd z (by decide)) (fun _ => ?_)
      refine mj_aload_n dX13_conforms_192 8 rfl ?_
      refine t_getR 1064 dX13_conforms_193 F_X13_363 qr_950_189 ?_
      refine mj_iload dX13_conforms_196 0 rfl ?_
      refine t_zald dX13_conforms_198 qa_1064 (by unfold vp_in; decide) ?_
      rw [show (257 : Int32).toNatClampNeg = 257 by decide]
      rw [(t_wI w15)]
      refine mj_if_ne 237 dX13_conforms_199 (by decide) (fun _ => ?_) (fun z => absurd z (by decide))
      refine mj_iinc (k := 3) (v := 9) (lv2 := [(7, .int 9), (10, .int 257), (9, .int 1), (8, .int 1), (6, .int 1), (5, .int 1), (4, .int 0), (3, .int 1), (0, .ref 950), (1, .int x1), (2, .int x2)]) dX13_conforms_237 rfl (by decide) (by decide) rfl ?_
      refine mj_goto 121 dX13_conforms_240 (by decide) ?_
      refine mj_iload dX13_conforms_121 0 rfl ?_
      refine mj_bipush (v := 9) dX13_conforms_123 (by decide) ?_
      refine mj_icmp_ge 243 dX13_conforms_125 (by decide) (fun _ => ?_) (fun z => absurd (by decide) z)
      refine mj_iinc (k := 6) (v := 1) (lv2 := [(4, .int 1), (7, .int 9), (10, .int 257), (9, .int 1), (8, .int 1), (6, .int 1), (5, .int 1), (3, .int 1), (0, .ref 950), (1, .int x1), (2, .int x2)]) dX13_conforms_243 rfl (by decide) (by decide) rfl ?_
      refine mj_goto 86 dX13_conforms_246 (by decide) ?_
      refine mj_iload dX13_conforms_86 0 rfl ?_
      refine mj_iload_n dX13_conforms_88 7 rfl ?_
      refine mj_icmp_ge 249 dX13_conforms_89 (by decide) (fun _ => ?_) (fun z => absurd (by decide) z)
      refine mj_iconst (v := 1) dX13_conforms_249 (by decide) ?_
      exact t_iret dX13_conforms_250 rfl (by decide) (hpost _ _ ⟨(congrArg (fun z => some (Value.int z)) (by unfold N_conf; (repeat' split) <;> first | rfl | omega)), (((((k7.mono (by decide)).trans (t_keep_I w9 (by decide))).trans (t_keep_I w11 (by decide))).trans (t_keep_I w13 (by decide))).trans (t_keep_I w15 (by decide)))⟩) (Nat.le_of_ble_eq_true rfl) (Nat.le_of_ble_eq_true rfl)
    · refine t_callS dX13_conforms_18 M_X13_in (N_in0 s x2.toInt64 0 3 (fun q => q3 ((t_in (B := 0) (C := 3) rfl rfl).mp q))) ML_X13_371 SM_X13_in (As := [.long x2.toInt64, .long 0, .long 3]) rfl rfl (Nat.le_of_ble_eq_true rfl) (Nat.le_of_ble_eq_true rfl) (Nat.le_of_ble_eq_true rfl) (Nat.le_of_ble_eq_true rfl) (fun v s34 hp => ?_)
      obtain ⟨rfl, hq⟩ := hp
      rw [hq]
      clear hq s34
      refine mj_if_ne 26 dX13_conforms_21 (by decide) (fun z => absurd (by decide) z) (fun _ => ?_)
      refine mj_iconst (v := (-1)) dX13_conforms_24 (by decide) ?_
      exact t_iret dX13_conforms_25 rfl (by decide) (hpost _ _ ⟨(congrArg (fun z => some (Value.int z)) (by unfold N_conf; (repeat' split) <;> first | rfl | omega)), t_keep.rf⟩) (Nat.le_of_ble_eq_true rfl) (Nat.le_of_ble_eq_true rfl)
  · refine t_callS dX13_conforms_6 M_X13_in (N_in0 s x1.toInt64 0 3 (fun q => q1 ((t_in (B := 0) (C := 3) rfl rfl).mp q))) ML_X13_371 SM_X13_in (As := [.long x1.toInt64, .long 0, .long 3]) rfl rfl (Nat.le_of_ble_eq_true rfl) (Nat.le_of_ble_eq_true rfl) (Nat.le_of_ble_eq_true rfl) (Nat.le_of_ble_eq_true rfl) (fun v s35 hp => ?_)
    obtain ⟨rfl, hq⟩ := hp
    rw [hq]
    clear hq s35
    refine mj_if_eq 24 dX13_conforms_9 (by decide) (fun _ => ?_) (fun z => absurd (by decide) z)
    refine mj_iconst (v := (-1)) dX13_conforms_24 (by decide) ?_
    exact t_iret dX13_conforms_25 rfl (by decide) (hpost _ _ ⟨(congrArg (fun z => some (Value.int z)) (by unfold N_conf; (repeat' split) <;> first | rfl | omega)), t_keep.rf⟩) (Nat.le_of_ble_eq_true rfl) (Nat.le_of_ble_eq_true rfl)

theorem dX1_put_0 : decode cX1_put 0 = .ok (.iload_n 3, 1) := by decide +kernel
theorem dX1_put_1 : decode cX1_put 1 = .ok (.iconst 1, 1) := by decide +kernel
theorem dX1_put_10 : decode cX1_put 10 = .ok (.aload_n 0, 1) := by decide +kernel
theorem dX1_put_11 : decode cX1_put 11 = .ok (.getfield 132, 3) := by decide +kernel
theorem dX1_put_14 : decode cX1_put 14 = .ok (.sipush 8000, 3) := by decide +kernel
theorem dX1_put_17 : decode cX1_put 17 = .ok (.if_icmp .ge 36, 3) := by decide +kernel
theorem dX1_put_2 : decode cX1_put 2 = .ok (.isub, 1) := by decide +kernel
theorem dX1_put_20 : decode cX1_put 20 = .ok (.aload_n 0, 1) := by decide +kernel
theorem dX1_put_21 : decode cX1_put 21 = .ok (.getfield 13, 3) := by decide +kernel
theorem dX1_put_24 : decode cX1_put 24 = .ok (.aload_n 0, 1) := by decide +kernel
theorem dX1_put_25 : decode cX1_put 25 = .ok (.getfield 132, 3) := by decide +kernel
theorem dX1_put_28 : decode cX1_put 28 = .ok (.lload_n 1, 1) := by decide +kernel
theorem dX1_put_29 : decode cX1_put 29 = .ok (.iload 4, 2) := by decide +kernel
theorem dX1_put_3 : decode cX1_put 3 = .ok (.istore 4, 2) := by decide +kernel
theorem dX1_put_31 : decode cX1_put 31 = .ok (.lshr, 1) := by decide +kernel
theorem dX1_put_32 : decode cX1_put 32 = .ok (.lconst 1, 1) := by decide +kernel
theorem dX1_put_33 : decode cX1_put 33 = .ok (.land, 1) := by decide +kernel
theorem dX1_put_34 : decode cX1_put 34 = .ok (.l2i, 1) := by decide +kernel
theorem dX1_put_35 : decode cX1_put 35 = .ok (.i2b, 1) := by decide +kernel
theorem dX1_put_36 : decode cX1_put 36 = .ok (.bastore, 1) := by decide +kernel
theorem dX1_put_37 : decode cX1_put 37 = .ok (.aload_n 0, 1) := by decide +kernel
theorem dX1_put_38 : decode cX1_put 38 = .ok (.dup, 1) := by decide +kernel
theorem dX1_put_39 : decode cX1_put 39 = .ok (.getfield 132, 3) := by decide +kernel
theorem dX1_put_42 : decode cX1_put 42 = .ok (.iconst 1, 1) := by decide +kernel
theorem dX1_put_43 : decode cX1_put 43 = .ok (.iadd, 1) := by decide +kernel
theorem dX1_put_44 : decode cX1_put 44 = .ok (.putfield 132, 3) := by decide +kernel
theorem dX1_put_47 : decode cX1_put 47 = .ok (.iinc 4 (-1), 3) := by decide +kernel
theorem dX1_put_5 : decode cX1_put 5 = .ok (.iload 4, 2) := by decide +kernel
theorem dX1_put_50 : decode cX1_put 50 = .ok (.goto (-45), 3) := by decide +kernel
theorem dX1_put_53 : decode cX1_put 53 = .ok (.return_, 1) := by decide +kernel
theorem dX1_put_7 : decode cX1_put 7 = .ok (.ifCond .lt 46, 3) := by decide +kernel
/-- Codes.put(n, k) from an empty row -/
theorem N_put_loop {D : va_G} {cy : Nat → ClassId} {ad : Nat → Nat} {bs : Nat} {X : State → Heap → Prop} (s0 : t_S) (n : Int64) (x : Int32) (K : Nat) (hK : K ≤ 32) : ∀ (m j : Nat) (s : t_S), j + m = K → s.1 856 5 = nI j → t_keep [856, 858] s0 s → mj_G D cy ad bs X cX1_put 5 yX1_put.cls none yX1_put.name 0 0 0 1065 (t_P (fun v s' => v = none ∧ s'.1 856 5 = nI K ∧ t_keep [856, 858] s0 s')) 5 [(4, .int (nI m - 1)), (0, .ref 856), (1, .long n), (3, .int x)] [] (t_m s) 1065 0 0 := by
  intro m
  induction m with
  | zero =>
    intro j s hj hs hk
    refine mj_iload dX1_put_5 0 rfl ?_
    refine mj_if_lt 53 dX1_put_7 (by decide) (fun _ => ?_) (fun z => absurd (by decide) z)
    exact t_vret dX1_put_53 rfl ⟨rfl, by rw [hs, show j = K by omega], hk⟩ (Nat.le_of_ble_eq_true rfl) (Nat.le_of_ble_eq_true rfl)
  | succ m ih =>
    intro j s hj hs hk
    rw [nI_pred]
    refine mj_iload dX1_put_5 0 rfl ?_
    refine mj_if_lt 53 dX1_put_7 (by decide) (fun z => absurd z (nI_pos (by omega))) (fun _ => ?_)
    refine mj_aload_n dX1_put_10 1 rfl ?_
    refine t_getI dX1_put_11 F_X1_132 qf_856_5 ?_
    rw [hs]
    refine mj_sipush (v := 8000) dX1_put_14 (by decide) ?_
    refine mj_icmp_ge 53 dX1_put_17 (by decide) (fun z => absurd (show nI 8000 ≤ nI j from z) (nI_ge (by omega) (by omega))) (fun _ => ?_)
    refine mj_aload_n dX1_put_20 1 rfl ?_
    refine t_getR 858 dX1_put_21 F_X1_13 qr_856_4 ?_
    refine mj_aload_n dX1_put_24 1 rfl ?_
    refine t_getI dX1_put_25 F_X1_132 qf_856_5 ?_
    rw [hs]
    refine mj_lload_n dX1_put_28 2 rfl ?_
    refine mj_iload dX1_put_29 0 rfl ?_
    refine mj_lshr dX1_put_31 rfl ?_
    refine mj_lconst (v := 1) dX1_put_32 (by decide) ?_
    refine mj_land dX1_put_33 ?_
    refine mj_l2i dX1_put_34 rfl ?_
    refine mj_i2b dX1_put_35 rfl ?_
    refine t_bast dX1_put_36 qa_858 (vp_in_nI (by omega) (by decide)) ?_
    obtain ⟨s1, w1⟩ : ∃ z, z = t_setI s 858 (nI j).toNatClampNeg ((n >>> ((nI m).toInt64 &&& 63) &&& 1).toInt32.toInt8.toInt32).toInt8.toInt32 := ⟨_, rfl⟩
    rw [← w1]
    have hs1 : s1.1 856 5 = nI j := (t_oI w1 856 5 rfl).trans hs
    refine mj_aload_n dX1_put_37 1 rfl ?_
    refine mj_dup dX1_put_38 rfl ?_
    refine t_getI dX1_put_39 F_X1_132 qf_856_5 ?_
    rw [hs1]
    refine mj_iconst (v := 1) dX1_put_42 (by decide) ?_
    refine mj_iadd dX1_put_43 ?_
    rw [nI_1]
    refine t_putI dX1_put_44 F_X1_132 qf_856_5 rfl ?_
    refine mj_iinc (k := 0) (v := nI m - 1) (lv2 := [(4, .int (nI m - 1)), (0, .ref 856), (1, .long n), (3, .int x)]) dX1_put_47 rfl (t_dec m) (by decide) rfl ?_
    refine mj_goto 5 dX1_put_50 (by decide) ?_
    exact ih (j + 1) _ (by omega) (t_wI rfl) ((hk.trans (t_keep_I w1 (by decide))).trans (t_keep_I rfl (by decide)))
theorem N_put (s : t_S) (n : Int64) (x : Int32) (hx : 0 ≤ x.toInt ∧ x.toInt ≤ 32) (hb : s.1 856 5 = 0) : t_C yX1_put cX1_put 5 none 0 [.ref 856, .long n, .int x] s (fun v s' => v = none ∧ s'.1 856 5 = x ∧ t_keep [856, 858] s s') := by
  refine t_C.of (by decide +kernel) (Nat.le_of_ble_eq_true rfl) ?_
  intro D cy ad bs X
  show mj_G D cy ad bs X cX1_put 5 yX1_put.cls none yX1_put.name 0 0 0 1065 (t_P _) 0 [(0, .ref 856), (1, .long n), (3, .int x)] [] (t_m s) 1065 0 0
  obtain ⟨K, hK, rfl⟩ := t_nI (B := 32) (by decide) hx
  refine mj_iload_n dX1_put_0 2 rfl ?_
  refine mj_iconst (v := 1) dX1_put_1 (by decide) ?_
  refine mj_isub dX1_put_2 ?_
  refine mj_istore (lv2 := [(4, .int (nI K - 1)), (0, .ref 856), (1, .long n), (3, .int (nI K))]) dX1_put_3 (by decide) rfl ?_
  exact N_put_loop s n (nI K) K hK K 0 s (by omega) hb t_keep.rf

theorem dX12_bits_0 : decode cX12_bits 0 = .ok (.iload_n 2, 1) := by decide +kernel
theorem dX12_bits_1 : decode cX12_bits 1 = .ok (.ifCond .lt 9, 3) := by decide +kernel
theorem dX12_bits_10 : decode cX12_bits 10 = .ok (.iconst (-1), 1) := by decide +kernel
theorem dX12_bits_11 : decode cX12_bits 11 = .ok (.ireturn, 1) := by decide +kernel
theorem dX12_bits_12 : decode cX12_bits 12 = .ok (.aload_n 0, 1) := by decide +kernel
theorem dX12_bits_13 : decode cX12_bits 13 = .ok (.getfield 75, 3) := by decide +kernel
theorem dX12_bits_16 : decode cX12_bits 16 = .ok (.getfield 148, 3) := by decide +kernel
theorem dX12_bits_19 : decode cX12_bits 19 = .ok (.iload_n 2, 1) := by decide +kernel
theorem dX12_bits_20 : decode cX12_bits 20 = .ok (.iadd, 1) := by decide +kernel
theorem dX12_bits_21 : decode cX12_bits 21 = .ok (.sipush 8000, 3) := by decide +kernel
theorem dX12_bits_24 : decode cX12_bits 24 = .ok (.if_icmp .le 6, 3) := by decide +kernel
theorem dX12_bits_30 : decode cX12_bits 30 = .ok (.aload_n 0, 1) := by decide +kernel
theorem dX12_bits_31 : decode cX12_bits 31 = .ok (.getfield 75, 3) := by decide +kernel
theorem dX12_bits_34 : decode cX12_bits 34 = .ok (.iload_n 1, 1) := by decide +kernel
theorem dX12_bits_35 : decode cX12_bits 35 = .ok (.i2l, 1) := by decide +kernel
theorem dX12_bits_36 : decode cX12_bits 36 = .ok (.iload_n 2, 1) := by decide +kernel
theorem dX12_bits_37 : decode cX12_bits 37 = .ok (.invokevirtual 255, 3) := by decide +kernel
theorem dX12_bits_4 : decode cX12_bits 4 = .ok (.iload_n 2, 1) := by decide +kernel
theorem dX12_bits_40 : decode cX12_bits 40 = .ok (.aload_n 0, 1) := by decide +kernel
theorem dX12_bits_41 : decode cX12_bits 41 = .ok (.getfield 75, 3) := by decide +kernel
theorem dX12_bits_44 : decode cX12_bits 44 = .ok (.getfield 148, 3) := by decide +kernel
theorem dX12_bits_47 : decode cX12_bits 47 = .ok (.ireturn, 1) := by decide +kernel
theorem dX12_bits_5 : decode cX12_bits 5 = .ok (.bipush 32, 2) := by decide +kernel
theorem dX12_bits_7 : decode cX12_bits 7 = .ok (.if_icmp .le 5, 3) := by decide +kernel
set_option maxRecDepth 4000 in
set_option maxHeartbeats 400000 in
theorem N_X12_bits (s : t_S) (x1 : Int32) (x2 : Int32) (h_I_856_5 : s.1 856 5 = 0) : t_C yX12_bits cX12_bits 3 (some .int) 1 [.ref 0, .int x1, .int x2] s (fun v s' => v = some (.int (N_bits x2)) ∧ t_keep [856, 858] s s') := by
  refine t_C.of (by decide +kernel) (Nat.le_of_ble_eq_true rfl) ?_
  intro D cy ad bs X
  suffices main : ∀ post : Option Value → t_S → Prop, (∀ v s', (v = some (.int (N_bits x2)) ∧ t_keep [856, 858] s s') → post v s') → mj_G D cy ad bs X cX12_bits 3 yX12_bits.cls (some .int) yX12_bits.name 1 0 0 1065 (t_P post) 0 [(0, .ref 0), (1, .int x1), (2, .int x2)] [] (t_m s) 1065 0 0 from main _ (fun _ _ h => h)
  intro post hpost
  refine mj_iload_n dX12_bits_0 2 rfl ?_
  refine mj_if_lt 10 dX12_bits_1 (by decide) (fun z1 => ?_) (fun z1 => ?_)
  · have z1i : x2.toInt < 0 := (t_lt (0) rfl).mp z1
    refine mj_iconst (v := (-1)) dX12_bits_10 (by decide) ?_
    exact t_iret dX12_bits_11 rfl (by decide) (hpost _ _ ⟨(congrArg (fun z => some (Value.int z)) (by unfold N_bits; (repeat' split) <;> first | rfl | omega)), t_keep.rf⟩) (Nat.le_of_ble_eq_true rfl) (Nat.le_of_ble_eq_true rfl)
  · have z1i : ¬ x2.toInt < 0 := fun q => z1 ((t_lt (0) rfl).mpr q)
    refine mj_iload_n dX12_bits_4 2 rfl ?_
    refine mj_bipush (v := 32) dX12_bits_5 (by decide) ?_
    refine mj_icmp_le 12 dX12_bits_7 (by decide) (fun z2 => ?_) (fun z2 => ?_)
    · have z2i : x2.toInt ≤ 32 := (t_le (32) rfl).mp z2
      refine mj_aload_n dX12_bits_12 0 rfl ?_
      refine t_getR 856 dX12_bits_13 F_X12_75 qr_0_7 ?_
      refine t_getI dX12_bits_16 F_X12_148 qf_856_5 ?_
      rw [h_I_856_5]
      refine mj_iload_n dX12_bits_19 2 rfl ?_
      refine mj_iadd dX12_bits_20 ?_
      rw [Int32.zero_add]
      refine mj_sipush (v := 8000) dX12_bits_21 (by decide) ?_
      refine mj_icmp_le 30 dX12_bits_24 (by decide) (fun z3 => ?_) (fun z3 => ?_)
      · have z3i : x2.toInt ≤ 8000 := (t_le (8000) rfl).mp z3
        refine mj_aload_n dX12_bits_30 0 rfl ?_
        refine t_getR 856 dX12_bits_31 F_X12_75 qr_0_7 ?_
        refine mj_iload_n dX12_bits_34 1 rfl ?_
        refine mj_i2l (v := x1.toInt64) dX12_bits_35 rfl ?_
        refine mj_iload_n dX12_bits_36 2 rfl ?_
        refine t_callV dX12_bits_37 M_X1_put (N_put s x1.toInt64 x2 (by omega) h_I_856_5) ML_X12_255 IM_X1_put SE_X1_put qc_856 rfl (As := [.long x1.toInt64, .int x2]) rfl rfl (Nat.le_of_ble_eq_true rfl) (Nat.le_of_ble_eq_true rfl) (Nat.le_of_ble_eq_true rfl) (Nat.le_of_ble_eq_true rfl) (fun v s4 hp => ?_)
        obtain ⟨rfl, e5, k6⟩ := hp
        refine mj_aload_n dX12_bits_40 0 rfl ?_
        refine t_getR 856 dX12_bits_41 F_X12_75 qr_0_7 ?_
        refine t_getI dX12_bits_44 F_X12_148 qf_856_5 ?_
        rw [e5]
        exact t_iret dX12_bits_47 rfl rfl (hpost _ _ ⟨(congrArg (fun z => some (Value.int z)) (by unfold N_bits; (repeat' split) <;> first | rfl | omega)), (k6.mono (by decide))⟩) (Nat.le_of_ble_eq_true rfl) (Nat.le_of_ble_eq_true rfl)
      · have z3i : ¬ x2.toInt ≤ 8000 := fun q => z3 ((t_le (8000) rfl).mpr q)
        exfalso; omega
    · have z2i : ¬ x2.toInt ≤ 32 := fun q => z2 ((t_le (32) rfl).mpr q)
      refine mj_iconst (v := (-1)) dX12_bits_10 (by decide) ?_
      exact t_iret dX12_bits_11 rfl (by decide) (hpost _ _ ⟨(congrArg (fun z => some (Value.int z)) (by unfold N_bits; (repeat' split) <;> first | rfl | omega)), t_keep.rf⟩) (Nat.le_of_ble_eq_true rfl) (Nat.le_of_ble_eq_true rfl)

theorem dX13_putBits_0 : decode cX13_putBits 0 = .ok (.iload_n 3, 1) := by decide +kernel
theorem dX13_putBits_1 : decode cX13_putBits 1 = .ok (.iconst 1, 1) := by decide +kernel
theorem dX13_putBits_10 : decode cX13_putBits 10 = .ok (.aload_n 0, 1) := by decide +kernel
theorem dX13_putBits_11 : decode cX13_putBits 11 = .ok (.getfield 833, 3) := by decide +kernel
theorem dX13_putBits_14 : decode cX13_putBits 14 = .ok (.sipush 8600, 3) := by decide +kernel
theorem dX13_putBits_17 : decode cX13_putBits 17 = .ok (.if_icmp .ge 38, 3) := by decide +kernel
theorem dX13_putBits_2 : decode cX13_putBits 2 = .ok (.isub, 1) := by decide +kernel
theorem dX13_putBits_20 : decode cX13_putBits 20 = .ok (.aload_n 0, 1) := by decide +kernel
theorem dX13_putBits_21 : decode cX13_putBits 21 = .ok (.getfield 226, 3) := by decide +kernel
theorem dX13_putBits_24 : decode cX13_putBits 24 = .ok (.aload_n 0, 1) := by decide +kernel
theorem dX13_putBits_25 : decode cX13_putBits 25 = .ok (.getfield 833, 3) := by decide +kernel
theorem dX13_putBits_28 : decode cX13_putBits 28 = .ok (.lload_n 1, 1) := by decide +kernel
theorem dX13_putBits_29 : decode cX13_putBits 29 = .ok (.iload 4, 2) := by decide +kernel
theorem dX13_putBits_3 : decode cX13_putBits 3 = .ok (.istore 4, 2) := by decide +kernel
theorem dX13_putBits_31 : decode cX13_putBits 31 = .ok (.lshr, 1) := by decide +kernel
theorem dX13_putBits_32 : decode cX13_putBits 32 = .ok (.lconst 1, 1) := by decide +kernel
theorem dX13_putBits_33 : decode cX13_putBits 33 = .ok (.land, 1) := by decide +kernel
theorem dX13_putBits_34 : decode cX13_putBits 34 = .ok (.lconst 1, 1) := by decide +kernel
theorem dX13_putBits_35 : decode cX13_putBits 35 = .ok (.lcmp, 1) := by decide +kernel
theorem dX13_putBits_36 : decode cX13_putBits 36 = .ok (.ifCond .ne 7, 3) := by decide +kernel
theorem dX13_putBits_39 : decode cX13_putBits 39 = .ok (.iconst 1, 1) := by decide +kernel
theorem dX13_putBits_40 : decode cX13_putBits 40 = .ok (.goto 4, 3) := by decide +kernel
theorem dX13_putBits_43 : decode cX13_putBits 43 = .ok (.iconst 0, 1) := by decide +kernel
theorem dX13_putBits_44 : decode cX13_putBits 44 = .ok (.bastore, 1) := by decide +kernel
theorem dX13_putBits_45 : decode cX13_putBits 45 = .ok (.aload_n 0, 1) := by decide +kernel
theorem dX13_putBits_46 : decode cX13_putBits 46 = .ok (.dup, 1) := by decide +kernel
theorem dX13_putBits_47 : decode cX13_putBits 47 = .ok (.getfield 833, 3) := by decide +kernel
theorem dX13_putBits_5 : decode cX13_putBits 5 = .ok (.iload 4, 2) := by decide +kernel
theorem dX13_putBits_50 : decode cX13_putBits 50 = .ok (.iconst 1, 1) := by decide +kernel
theorem dX13_putBits_51 : decode cX13_putBits 51 = .ok (.iadd, 1) := by decide +kernel
theorem dX13_putBits_52 : decode cX13_putBits 52 = .ok (.putfield 833, 3) := by decide +kernel
theorem dX13_putBits_55 : decode cX13_putBits 55 = .ok (.iinc 4 (-1), 3) := by decide +kernel
theorem dX13_putBits_58 : decode cX13_putBits 58 = .ok (.goto (-53), 3) := by decide +kernel
theorem dX13_putBits_61 : decode cX13_putBits 61 = .ok (.return_, 1) := by decide +kernel
theorem dX13_putBits_7 : decode cX13_putBits 7 = .ok (.ifCond .lt 54, 3) := by decide +kernel
/-- putBits(n, k) from an empty row -/
theorem N_putB_loop {D : va_G} {cy : Nat → ClassId} {ad : Nat → Nat} {bs : Nat} {X : State → Heap → Prop} (s0 : t_S) (n : Int64) (x : Int32) (K : Nat) (hK : K ≤ 32) : ∀ (m j : Nat) (s : t_S), j + m = K → s.1 950 121 = nI j → t_keep [950, 1020] s0 s → mj_G D cy ad bs X cX13_putBits 5 yX13_putBits.cls none yX13_putBits.name 0 0 0 1065 (t_P (fun v s' => v = none ∧ s'.1 950 121 = nI K ∧ t_keep [950, 1020] s0 s')) 5 [(4, .int (nI m - 1)), (0, .ref 950), (1, .long n), (3, .int x)] [] (t_m s) 1065 0 0 := by
  intro m
  induction m with
  | zero =>
    intro j s hj hs hk
    refine mj_iload dX13_putBits_5 0 rfl ?_
    refine mj_if_lt 61 dX13_putBits_7 (by decide) (fun _ => ?_) (fun z => absurd (by decide) z)
    exact t_vret dX13_putBits_61 rfl ⟨rfl, by rw [hs, show j = K by omega], hk⟩ (Nat.le_of_ble_eq_true rfl) (Nat.le_of_ble_eq_true rfl)
  | succ m ih =>
    intro j s hj hs hk
    rw [nI_pred]
    refine mj_iload dX13_putBits_5 0 rfl ?_
    refine mj_if_lt 61 dX13_putBits_7 (by decide) (fun z => absurd z (nI_pos (by omega))) (fun _ => ?_)
    refine mj_aload_n dX13_putBits_10 1 rfl ?_
    refine t_getI dX13_putBits_11 F_X13_833 qf_950_121 ?_
    rw [hs]
    refine mj_sipush (v := 8600) dX13_putBits_14 (by decide) ?_
    refine mj_icmp_ge 55 dX13_putBits_17 (by decide) (fun z => absurd (show nI 8600 ≤ nI j from z) (nI_ge (by omega) (by omega))) (fun _ => ?_)
    refine mj_aload_n dX13_putBits_20 1 rfl ?_
    refine t_getR 1020 dX13_putBits_21 F_X13_226 qr_950_120 ?_
    refine mj_aload_n dX13_putBits_24 1 rfl ?_
    refine t_getI dX13_putBits_25 F_X13_833 qf_950_121 ?_
    rw [hs]
    refine mj_lload_n dX13_putBits_28 2 rfl ?_
    refine mj_iload dX13_putBits_29 0 rfl ?_
    refine mj_lshr dX13_putBits_31 rfl ?_
    refine mj_lconst (v := 1) dX13_putBits_32 (by decide) ?_
    refine mj_land dX13_putBits_33 ?_
    refine mj_lconst (v := 1) dX13_putBits_34 (by decide) ?_
    refine mj_lcmp dX13_putBits_35 ?_
    refine mj_if_ne 43 dX13_putBits_36 (by decide) (fun _ => ?_) (fun _ => ?_)
    · refine mj_iconst (v := 0) dX13_putBits_43 (by decide) ?_
      refine t_zast dX13_putBits_44 qa_1020 (vp_in_nI (by omega) (by decide)) (by decide) ?_
      obtain ⟨s1, w1⟩ : ∃ z, z = t_setI s 1020 (nI j).toNatClampNeg 0 := ⟨_, rfl⟩
      rw [← w1]
      have hs1 : s1.1 950 121 = nI j := (t_oI w1 950 121 rfl).trans hs
      refine mj_aload_n dX13_putBits_45 1 rfl ?_
      refine mj_dup dX13_putBits_46 rfl ?_
      refine t_getI dX13_putBits_47 F_X13_833 qf_950_121 ?_
      rw [hs1]
      refine mj_iconst (v := 1) dX13_putBits_50 (by decide) ?_
      refine mj_iadd dX13_putBits_51 ?_
      rw [nI_1]
      refine t_putI dX13_putBits_52 F_X13_833 qf_950_121 rfl ?_
      refine mj_iinc (k := 0) (v := nI m - 1) (lv2 := [(4, .int (nI m - 1)), (0, .ref 950), (1, .long n), (3, .int x)]) dX13_putBits_55 rfl (t_dec m) (by decide) rfl ?_
      refine mj_goto 5 dX13_putBits_58 (by decide) ?_
      exact ih (j + 1) _ (by omega) (t_wI rfl) ((hk.trans (t_keep_I w1 (by decide))).trans (t_keep_I rfl (by decide)))
    · refine mj_iconst (v := 1) dX13_putBits_39 (by decide) ?_
      refine mj_goto 44 dX13_putBits_40 (by decide) ?_
      refine t_zast dX13_putBits_44 qa_1020 (vp_in_nI (by omega) (by decide)) (by decide) ?_
      obtain ⟨s1, w1⟩ : ∃ z, z = t_setI s 1020 (nI j).toNatClampNeg 1 := ⟨_, rfl⟩
      rw [← w1]
      have hs1 : s1.1 950 121 = nI j := (t_oI w1 950 121 rfl).trans hs
      refine mj_aload_n dX13_putBits_45 1 rfl ?_
      refine mj_dup dX13_putBits_46 rfl ?_
      refine t_getI dX13_putBits_47 F_X13_833 qf_950_121 ?_
      rw [hs1]
      refine mj_iconst (v := 1) dX13_putBits_50 (by decide) ?_
      refine mj_iadd dX13_putBits_51 ?_
      rw [nI_1]
      refine t_putI dX13_putBits_52 F_X13_833 qf_950_121 rfl ?_
      refine mj_iinc (k := 0) (v := nI m - 1) (lv2 := [(4, .int (nI m - 1)), (0, .ref 950), (1, .long n), (3, .int x)]) dX13_putBits_55 rfl (t_dec m) (by decide) rfl ?_
      refine mj_goto 5 dX13_putBits_58 (by decide) ?_
      exact ih (j + 1) _ (by omega) (t_wI rfl) ((hk.trans (t_keep_I w1 (by decide))).trans (t_keep_I rfl (by decide)))
theorem N_putB (s : t_S) (n : Int64) (x : Int32) (hx : 0 ≤ x.toInt ∧ x.toInt ≤ 32) (hb : s.1 950 121 = 0) : t_C yX13_putBits cX13_putBits 5 none 0 [.ref 950, .long n, .int x] s (fun v s' => v = none ∧ s'.1 950 121 = x ∧ t_keep [950, 1020] s s') := by
  refine t_C.of (by decide +kernel) (Nat.le_of_ble_eq_true rfl) ?_
  intro D cy ad bs X
  show mj_G D cy ad bs X cX13_putBits 5 yX13_putBits.cls none yX13_putBits.name 0 0 0 1065 (t_P _) 0 [(0, .ref 950), (1, .long n), (3, .int x)] [] (t_m s) 1065 0 0
  obtain ⟨K, hK, rfl⟩ := t_nI (B := 32) (by decide) hx
  refine mj_iload_n dX13_putBits_0 2 rfl ?_
  refine mj_iconst (v := 1) dX13_putBits_1 (by decide) ?_
  refine mj_isub dX13_putBits_2 ?_
  refine mj_istore (lv2 := [(4, .int (nI K - 1)), (0, .ref 950), (1, .long n), (3, .int (nI K))]) dX13_putBits_3 (by decide) rfl ?_
  exact N_putB_loop s n (nI K) K hK K 0 s (by omega) hb t_keep.rf

theorem dX13_bits_0 : decode cX13_bits 0 = .ok (.iload_n 2, 1) := by decide +kernel
theorem dX13_bits_1 : decode cX13_bits 1 = .ok (.i2l, 1) := by decide +kernel
theorem dX13_bits_12 : decode cX13_bits 12 = .ok (.iconst (-1), 1) := by decide +kernel
theorem dX13_bits_13 : decode cX13_bits 13 = .ok (.ireturn, 1) := by decide +kernel
theorem dX13_bits_14 : decode cX13_bits 14 = .ok (.aload_n 0, 1) := by decide +kernel
theorem dX13_bits_15 : decode cX13_bits 15 = .ok (.getfield 833, 3) := by decide +kernel
theorem dX13_bits_18 : decode cX13_bits 18 = .ok (.iload_n 2, 1) := by decide +kernel
theorem dX13_bits_19 : decode cX13_bits 19 = .ok (.iadd, 1) := by decide +kernel
theorem dX13_bits_2 : decode cX13_bits 2 = .ok (.lconst 0, 1) := by decide +kernel
theorem dX13_bits_20 : decode cX13_bits 20 = .ok (.sipush 8000, 3) := by decide +kernel
theorem dX13_bits_23 : decode cX13_bits 23 = .ok (.if_icmp .le 6, 3) := by decide +kernel
theorem dX13_bits_29 : decode cX13_bits 29 = .ok (.aload_n 0, 1) := by decide +kernel
theorem dX13_bits_3 : decode cX13_bits 3 = .ok (.ldc2_w 423, 3) := by decide +kernel
theorem dX13_bits_30 : decode cX13_bits 30 = .ok (.iload_n 1, 1) := by decide +kernel
theorem dX13_bits_31 : decode cX13_bits 31 = .ok (.i2l, 1) := by decide +kernel
theorem dX13_bits_32 : decode cX13_bits 32 = .ok (.iload_n 2, 1) := by decide +kernel
theorem dX13_bits_33 : decode cX13_bits 33 = .ok (.invokevirtual 1138, 3) := by decide +kernel
theorem dX13_bits_36 : decode cX13_bits 36 = .ok (.aload_n 0, 1) := by decide +kernel
theorem dX13_bits_37 : decode cX13_bits 37 = .ok (.getfield 833, 3) := by decide +kernel
theorem dX13_bits_40 : decode cX13_bits 40 = .ok (.ireturn, 1) := by decide +kernel
theorem dX13_bits_6 : decode cX13_bits 6 = .ok (.invokestatic 371, 3) := by decide +kernel
theorem dX13_bits_9 : decode cX13_bits 9 = .ok (.ifCond .ne 5, 3) := by decide +kernel
set_option maxRecDepth 4000 in
set_option maxHeartbeats 400000 in
theorem N_X13_bits (s : t_S) (x1 : Int32) (x2 : Int32) (h_I_950_121 : s.1 950 121 = 0) : t_C yX13_bits cX13_bits 3 (some .int) 1 [.ref 950, .int x1, .int x2] s (fun v s' => v = some (.int (N_bits x2)) ∧ t_keep [950, 1020] s s') := by
  refine t_C.of (by decide +kernel) (Nat.le_of_ble_eq_true rfl) ?_
  intro D cy ad bs X
  suffices main : ∀ post : Option Value → t_S → Prop, (∀ v s', (v = some (.int (N_bits x2)) ∧ t_keep [950, 1020] s s') → post v s') → mj_G D cy ad bs X cX13_bits 3 yX13_bits.cls (some .int) yX13_bits.name 1 0 0 1065 (t_P post) 0 [(0, .ref 950), (1, .int x1), (2, .int x2)] [] (t_m s) 1065 0 0 from main _ (fun _ _ h => h)
  intro post hpost
  refine mj_iload_n dX13_bits_0 2 rfl ?_
  refine mj_i2l (v := x2.toInt64) dX13_bits_1 rfl ?_
  refine mj_lconst (v := 0) dX13_bits_2 (by decide) ?_
  refine mj_ldc2 dX13_bits_3 K_X13_423 ?_
  by_cases q1 : (0 : Int) ≤ x2.toInt ∧ x2.toInt ≤ 32
  · refine t_callS dX13_bits_6 M_X13_in (N_in1 s x2.toInt64 0 32 ((t_in (B := 0) (C := 32) rfl rfl).mpr q1)) ML_X13_371 SM_X13_in (As := [.long x2.toInt64, .long 0, .long 32]) rfl rfl (Nat.le_of_ble_eq_true rfl) (Nat.le_of_ble_eq_true rfl) (Nat.le_of_ble_eq_true rfl) (Nat.le_of_ble_eq_true rfl) (fun v s2 hp => ?_)
    obtain ⟨rfl, hq⟩ := hp
    rw [hq]
    clear hq s2
    refine mj_if_ne 14 dX13_bits_9 (by decide) (fun _ => ?_) (fun z => absurd z (by decide))
    refine mj_aload_n dX13_bits_14 0 rfl ?_
    refine t_getI dX13_bits_15 F_X13_833 qf_950_121 ?_
    rw [h_I_950_121]
    refine mj_iload_n dX13_bits_18 2 rfl ?_
    refine mj_iadd dX13_bits_19 ?_
    rw [Int32.zero_add]
    refine mj_sipush (v := 8000) dX13_bits_20 (by decide) ?_
    refine mj_icmp_le 29 dX13_bits_23 (by decide) (fun z3 => ?_) (fun z3 => ?_)
    · have z3i : x2.toInt ≤ 8000 := (t_le (8000) rfl).mp z3
      refine mj_aload_n dX13_bits_29 0 rfl ?_
      refine mj_iload_n dX13_bits_30 1 rfl ?_
      refine mj_i2l (v := x1.toInt64) dX13_bits_31 rfl ?_
      refine mj_iload_n dX13_bits_32 2 rfl ?_
      refine t_callV dX13_bits_33 M_X13_putBits (N_putB s x1.toInt64 x2 (by omega) h_I_950_121) ML_X13_1138 IM_X13_putBits SE_X13_putBits qc_950 rfl (As := [.long x1.toInt64, .int x2]) rfl rfl (Nat.le_of_ble_eq_true rfl) (Nat.le_of_ble_eq_true rfl) (Nat.le_of_ble_eq_true rfl) (Nat.le_of_ble_eq_true rfl) (fun v s4 hp => ?_)
      obtain ⟨rfl, e5, k6⟩ := hp
      refine mj_aload_n dX13_bits_36 0 rfl ?_
      refine t_getI dX13_bits_37 F_X13_833 qf_950_121 ?_
      rw [e5]
      exact t_iret dX13_bits_40 rfl rfl (hpost _ _ ⟨(congrArg (fun z => some (Value.int z)) (by unfold N_bits; (repeat' split) <;> first | rfl | omega)), (k6.mono (by decide))⟩) (Nat.le_of_ble_eq_true rfl) (Nat.le_of_ble_eq_true rfl)
    · have z3i : ¬ x2.toInt ≤ 8000 := fun q => z3 ((t_le (8000) rfl).mpr q)
      exfalso; omega
  · refine t_callS dX13_bits_6 M_X13_in (N_in0 s x2.toInt64 0 32 (fun q => q1 ((t_in (B := 0) (C := 32) rfl rfl).mp q))) ML_X13_371 SM_X13_in (As := [.long x2.toInt64, .long 0, .long 32]) rfl rfl (Nat.le_of_ble_eq_true rfl) (Nat.le_of_ble_eq_true rfl) (Nat.le_of_ble_eq_true rfl) (Nat.le_of_ble_eq_true rfl) (fun v s7 hp => ?_)
    obtain ⟨rfl, hq⟩ := hp
    rw [hq]
    clear hq s7
    refine mj_if_ne 14 dX13_bits_9 (by decide) (fun z => absurd (by decide) z) (fun _ => ?_)
    refine mj_iconst (v := (-1)) dX13_bits_12 (by decide) ?_
    exact t_iret dX13_bits_13 rfl (by decide) (hpost _ _ ⟨(congrArg (fun z => some (Value.int z)) (by unfold N_bits; (repeat' split) <;> first | rfl | omega)), t_keep.rf⟩) (Nat.le_of_ble_eq_true rfl) (Nat.le_of_ble_eq_true rfl)

