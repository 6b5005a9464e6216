theorem dX9_init_0 : decode cX9_init 0 = .ok (.aload_n 0, 1) := by decide +kernel
theorem dX9_init_1 : decode cX9_init 1 = .ok (.invokespecial 1, 3) := by decide +kernel
theorem dX9_init_4 : decode cX9_init 4 = .ok (.aload_n 0, 1) := by decide +kernel
theorem dX9_init_5 : decode cX9_init 5 = .ok (.sipush 256, 3) := by decide +kernel
theorem dX9_init_8 : decode cX9_init 8 = .ok (.newarray .int, 2) := by decide +kernel
theorem dX9_init_10 : decode cX9_init 10 = .ok (.putfield 9, 3) := by decide +kernel
theorem dX9_init_13 : decode cX9_init 13 = .ok (.aload_n 0, 1) := by decide +kernel
theorem dX9_init_14 : decode cX9_init 14 = .ok (.ldc 13, 2) := by decide +kernel
theorem dX9_init_16 : decode cX9_init 16 = .ok (.newarray .int, 2) := by decide +kernel
theorem dX9_init_18 : decode cX9_init 18 = .ok (.putfield 14, 3) := by decide +kernel
theorem dX9_init_21 : decode cX9_init 21 = .ok (.aload_n 0, 1) := by decide +kernel
theorem dX9_init_22 : decode cX9_init 22 = .ok (.ldc 17, 2) := by decide +kernel
theorem dX9_init_24 : decode cX9_init 24 = .ok (.newarray .int, 2) := by decide +kernel
theorem dX9_init_26 : decode cX9_init 26 = .ok (.putfield 18, 3) := by decide +kernel
theorem dX9_init_29 : decode cX9_init 29 = .ok (.return_, 1) := by decide +kernel
set_option maxRecDepth 10000 in
set_option maxHeartbeats 4000000 in
/-- Systems() -/
theorem C_X9_init (a n : Nat) (h : mj_H) (ha : a < n) (hn : n + 3 < 1000000) (e0 : h a = .inr (9, [.null, .null, .null, .int 0])) : mj_C yX9_init cX9_init 1 none 1 3 131329 [.ref a] h n (fun v h' => v = none ∧ h' a = .inr (9, [.ref n, .ref (n + 1), .ref (n + 2), .int 0]) ∧ h' n = .inl (1, 256, .inl ((fun _ => 0))) ∧ h' (n + 1) = .inl (1, 65536, .inl ((fun _ => 0))) ∧ h' (n + 2) = .inl (1, 65537, .inl ((fun _ => 0))) ∧ ∀ j, j < n → j ≠ a → h' j = h j) := by
  refine mj_C.of (by decide +kernel) (Nat.le_of_ble_eq_true rfl) ?_
  intro D cy ad bs X
  refine mj_aload_n dX9_init_0 0 rfl ?_
  refine mj_objInit dX9_init_1 ML_X9_1 OI_i OI_c (by decide) (Nat.le_of_ble_eq_true rfl) ?_
  refine mj_aload_n dX9_init_4 0 rfl ?_
  refine mj_sipush (v := 256) dX9_init_5 (by decide) ?_
  refine mj_newIA (N := 256) dX9_init_8 AC_int (by decide) (by decide) (Nat.le_of_ble_eq_true rfl) (by omega) (Nat.le_of_ble_eq_true rfl) (Nat.le_of_ble_eq_true rfl) (fun h1 q2 o3 => ?_)
  have e4 : h1 a = .inr (9, [.null, .null, .null, .int 0]) := (o3 _ (by omega)).trans (e0)
  refine mj_putFA dX9_init_10 F_X9_9 (by omega) e4 rfl (Nat.le_of_ble_eq_true rfl) rfl rfl (fun h5 q6 o7 => ?_)
  replace q6 : h5 a = .inr (9, [.ref n, .null, .null, .int 0]) := q6
  refine mj_aload_n dX9_init_13 0 rfl ?_
  refine mj_ldc dX9_init_14 K_X9_13 ?_
  refine mj_newIA (N := 65536) dX9_init_16 AC_int (by decide) (by decide) (Nat.le_of_ble_eq_true rfl) (by omega) (Nat.le_of_ble_eq_true rfl) (Nat.le_of_ble_eq_true rfl) (fun h8 q9 o10 => ?_)
  have e11 : h8 a = .inr (9, [.ref n, .null, .null, .int 0]) := (o10 _ (by omega)).trans (q6)
  refine mj_putFA dX9_init_18 F_X9_14 (by omega) e11 rfl (Nat.le_of_ble_eq_true rfl) rfl rfl (fun h12 q13 o14 => ?_)
  replace q13 : h12 a = .inr (9, [.ref n, .ref (n + 1), .null, .int 0]) := q13
  refine mj_aload_n dX9_init_21 0 rfl ?_
  refine mj_ldc dX9_init_22 K_X9_17 ?_
  refine mj_newIA (N := 65537) dX9_init_24 AC_int (by decide) (by decide) (Nat.le_of_ble_eq_true rfl) (by omega) (Nat.le_of_ble_eq_true rfl) (Nat.le_of_ble_eq_true rfl) (fun h15 q16 o17 => ?_)
  have e18 : h15 a = .inr (9, [.ref n, .ref (n + 1), .null, .int 0]) := (o17 _ (by omega)).trans (q13)
  refine mj_putFA dX9_init_26 F_X9_18 (by omega) e18 rfl (Nat.le_of_ble_eq_true rfl) rfl rfl (fun h19 q20 o21 => ?_)
  replace q20 : h19 a = .inr (9, [.ref n, .ref (n + 1), .ref (n + 2), .int 0]) := q20
  have e22 : h19 n = .inl (1, 256, .inl ((fun _ => 0))) := (o21 _ (by omega)).trans ((o17 _ (by omega)).trans ((o14 _ (by omega)).trans ((o10 _ (by omega)).trans ((o7 _ (by omega)).trans (q2)))))
  have e23 : h19 (n + 1) = .inl (1, 65536, .inl ((fun _ => 0))) := (o21 _ (by omega)).trans ((o17 _ (by omega)).trans ((o14 _ (by omega)).trans (q9)))
  have e24 : h19 (n + 2) = .inl (1, 65537, .inl ((fun _ => 0))) := (o21 _ (by omega)).trans (q16)
  exact mj_vret dX9_init_29 rfl ⟨rfl, q20, e22, e23, e24, fun j hj1 hj2 => ((o21 j (by omega)).trans ((o17 j (by omega)).trans ((o14 j (by omega)).trans ((o10 j (by omega)).trans ((o7 j (by omega)).trans (o3 j (by omega)))))))⟩ (by omega) (Nat.le_of_ble_eq_true rfl) (Nat.le_of_ble_eq_true rfl)
theorem dX8_init_0 : decode cX8_init 0 = .ok (.aload_n 0, 1) := by decide +kernel
theorem dX8_init_1 : decode cX8_init 1 = .ok (.invokespecial 5, 3) := by decide +kernel
theorem dX8_init_4 : decode cX8_init 4 = .ok (.aload_n 0, 1) := by decide +kernel
theorem dX8_init_5 : decode cX8_init 5 = .ok (.ldc 11, 2) := by decide +kernel
theorem dX8_init_7 : decode cX8_init 7 = .ok (.newarray .long, 2) := by decide +kernel
theorem dX8_init_9 : decode cX8_init 9 = .ok (.putfield 12, 3) := by decide +kernel
theorem dX8_init_12 : decode cX8_init 12 = .ok (.aload_n 0, 1) := by decide +kernel
theorem dX8_init_13 : decode cX8_init 13 = .ok (.sipush 1589, 3) := by decide +kernel
theorem dX8_init_16 : decode cX8_init 16 = .ok (.newarray .int, 2) := by decide +kernel
theorem dX8_init_18 : decode cX8_init 18 = .ok (.putfield 16, 3) := by decide +kernel
theorem dX8_init_21 : decode cX8_init 21 = .ok (.aload_n 0, 1) := by decide +kernel
theorem dX8_init_22 : decode cX8_init 22 = .ok (.sipush 300, 3) := by decide +kernel
theorem dX8_init_25 : decode cX8_init 25 = .ok (.iconst 3, 1) := by decide +kernel
theorem dX8_init_26 : decode cX8_init 26 = .ok (.multianewarray 20 2, 4) := by decide +kernel
theorem dX8_init_30 : decode cX8_init 30 = .ok (.putfield 22, 3) := by decide +kernel
theorem dX8_init_33 : decode cX8_init 33 = .ok (.aload_n 0, 1) := by decide +kernel
theorem dX8_init_34 : decode cX8_init 34 = .ok (.getfield 12, 3) := by decide +kernel
theorem dX8_init_37 : decode cX8_init 37 = .ok (.ldc 25, 2) := by decide +kernel
theorem dX8_init_39 : decode cX8_init 39 = .ok (.ldc2_w 26, 3) := by decide +kernel
theorem dX8_init_42 : decode cX8_init 42 = .ok (.lastore, 1) := by decide +kernel
theorem dX8_init_43 : decode cX8_init 43 = .ok (.aload_n 0, 1) := by decide +kernel
theorem dX8_init_44 : decode cX8_init 44 = .ok (.getfield 16, 3) := by decide +kernel
theorem dX8_init_47 : decode cX8_init 47 = .ok (.sipush 1588, 3) := by decide +kernel
theorem dX8_init_50 : decode cX8_init 50 = .ok (.iconst 1, 1) := by decide +kernel
theorem dX8_init_51 : decode cX8_init 51 = .ok (.iastore, 1) := by decide +kernel
theorem dX8_init_52 : decode cX8_init 52 = .ok (.return_, 1) := by decide +kernel
set_option maxRecDepth 10000 in
set_option maxHeartbeats 4000000 in
/-- Store() -/
theorem C_X8_init (a n : Nat) (h : mj_H) (ha : a < n) (hn : n + 303 < 1000000) (e0 : h a = .inr (8, [.null, .null, .int 0, .null, .int 0, .int 0])) : mj_C yX8_init cX8_init 1 none 1 303 193469 [.ref a] h n (fun v h' => v = none ∧ h' a = .inr (8, [.ref n, .ref (n + 1), .int 0, .ref (n + 2), .int 0, .int 0]) ∧ h' n = .inl (2, 190680, .inr (.inl ((va_up ((fun _ => 0)) 190560 20)))) ∧ h' (n + 1) = .inl (1, 1589, .inl ((va_up ((fun _ => 0)) 1588 1))) ∧ h' (n + 2) = .inl (5, 300, .inr (.inr (.inr (.inr (fun i => if i < 300 then some (n + 2 + 1 + i) else none))))) ∧ (∀ i, i < 300 → h' (n + 3 + i) = .inl (1, 3, .inl (fun _ => 0))) ∧ ∀ j, j < n → j ≠ a → h' j = h j) := by
  refine mj_C.of (by decide +kernel) (Nat.le_of_ble_eq_true rfl) ?_
  intro D cy ad bs X
  refine mj_aload_n dX8_init_0 0 rfl ?_
  refine mj_objInit dX8_init_1 ML_X8_5 OI_i OI_c (by decide) (Nat.le_of_ble_eq_true rfl) ?_
  refine mj_aload_n dX8_init_4 0 rfl ?_
  refine mj_ldc dX8_init_5 K_X8_11 ?_
  refine mj_newJA (N := 190680) dX8_init_7 AC_long (by decide) (by decide) (Nat.le_of_ble_eq_true rfl) (by omega) (Nat.le_of_ble_eq_true rfl) (Nat.le_of_ble_eq_true rfl) (fun h1 q2 o3 => ?_)
  have e4 : h1 a = .inr (8, [.null, .null, .int 0, .null, .int 0, .int 0]) := (o3 _ (by omega)).trans (e0)
  refine mj_putFA dX8_init_9 F_X8_12 (by omega) e4 rfl (Nat.le_of_ble_eq_true rfl) rfl rfl (fun h5 q6 o7 => ?_)
  replace q6 : h5 a = .inr (8, [.ref n, .null, .int 0, .null, .int 0, .int 0]) := q6
  refine mj_aload_n dX8_init_12 0 rfl ?_
  refine mj_sipush (v := 1589) dX8_init_13 (by decide) ?_
  refine mj_newIA (N := 1589) dX8_init_16 AC_int (by decide) (by decide) (Nat.le_of_ble_eq_true rfl) (by omega) (Nat.le_of_ble_eq_true rfl) (Nat.le_of_ble_eq_true rfl) (fun h8 q9 o10 => ?_)
  have e11 : h8 a = .inr (8, [.ref n, .null, .int 0, .null, .int 0, .int 0]) := (o10 _ (by omega)).trans (q6)
  refine mj_putFA dX8_init_18 F_X8_16 (by omega) e11 rfl (Nat.le_of_ble_eq_true rfl) rfl rfl (fun h12 q13 o14 => ?_)
  replace q13 : h12 a = .inr (8, [.ref n, .ref (n + 1), .int 0, .null, .int 0, .int 0]) := q13
  refine mj_aload_n dX8_init_21 0 rfl ?_
  refine mj_sipush (v := 300) dX8_init_22 (by decide) ?_
  refine mj_iconst (v := 3) dX8_init_25 (by decide) ?_
  refine mj_mnaA (N := 300) (K := 3) dX8_init_26 (mj_in1 192 (by decide +kernel) rfl) AC_int (by decide) (by decide) (by decide) (by decide) (Nat.le_of_ble_eq_true rfl) (Nat.le_of_ble_eq_true rfl) (by omega) (Nat.le_of_ble_eq_true rfl) (Nat.le_of_ble_eq_true rfl) (fun h15 q16 q17 o18 => ?_)
  replace q17 : ∀ i, i < 300 → h15 (n + 3 + i) = .inl (1, 3, .inl (fun _ => 0)) := q17
  have e19 : h15 a = .inr (8, [.ref n, .ref (n + 1), .int 0, .null, .int 0, .int 0]) := (o18 _ (by omega)).trans (q13)
  refine mj_putFA dX8_init_30 F_X8_22 (by omega) e19 rfl (Nat.le_of_ble_eq_true rfl) rfl rfl (fun h20 q21 o22 => ?_)
  replace q21 : h20 a = .inr (8, [.ref n, .ref (n + 1), .int 0, .ref (n + 2), .int 0, .int 0]) := q21
  refine mj_aload_n dX8_init_33 0 rfl ?_
  refine mj_get dX8_init_34 F_X8_12 (by omega) q21 rfl ?_
  refine mj_ldc dX8_init_37 K_X8_25 ?_
  refine mj_ldc2 dX8_init_39 K_X8_26 ?_
  have e23 : h20 n = .inl (2, 190680, .inr (.inl ((fun _ => 0)))) := (o22 _ (by omega)).trans ((o18 _ (by omega)).trans ((o14 _ (by omega)).trans ((o10 _ (by omega)).trans ((o7 _ (by omega)).trans (q2)))))
  refine mj_lastA dX8_init_42 (by omega) e23 (by unfold vp_in; decide) (fun h24 q25 o26 => ?_)
  replace q25 : h24 n = .inl (2, 190680, .inr (.inl ((va_up ((fun _ => 0)) 190560 20)))) := q25
  refine mj_aload_n dX8_init_43 0 rfl ?_
  have e27 : h24 a = .inr (8, [.ref n, .ref (n + 1), .int 0, .ref (n + 2), .int 0, .int 0]) := (o26 _ (by omega)).trans (q21)
  refine mj_get dX8_init_44 F_X8_16 (by omega) e27 rfl ?_
  refine mj_sipush (v := 1588) dX8_init_47 (by decide) ?_
  refine mj_iconst (v := 1) dX8_init_50 (by decide) ?_
  have e28 : h24 (n + 1) = .inl (1, 1589, .inl ((fun _ => 0))) := (o26 _ (by omega)).trans ((o22 _ (by omega)).trans ((o18 _ (by omega)).trans ((o14 _ (by omega)).trans (q9))))
  refine mj_iastA dX8_init_51 (by omega) e28 (by unfold vp_in; decide) (fun h29 q30 o31 => ?_)
  replace q30 : h29 (n + 1) = .inl (1, 1589, .inl ((va_up ((fun _ => 0)) 1588 1))) := q30
  have e32 : h29 a = .inr (8, [.ref n, .ref (n + 1), .int 0, .ref (n + 2), .int 0, .int 0]) := (o31 _ (by omega)).trans (e27)
  have e33 : h29 n = .inl (2, 190680, .inr (.inl ((va_up ((fun _ => 0)) 190560 20)))) := (o31 _ (by omega)).trans (q25)
  have e34 : h29 (n + 2) = .inl (5, 300, .inr (.inr (.inr (.inr (fun i => if i < 300 then some (n + 2 + 1 + i) else none))))) := (o31 _ (by omega)).trans ((o26 _ (by omega)).trans ((o22 _ (by omega)).trans (q16)))
  have e35 : ∀ i, i < 300 → h29 (n + 3 + i) = .inl (1, 3, .inl (fun _ => 0)) := fun i hi => (o31 _ (by omega)).trans ((o26 _ (by omega)).trans ((o22 _ (by omega)).trans (q17 i hi)))
  exact mj_vret dX8_init_52 rfl ⟨rfl, e32, e33, q30, e34, e35, fun j hj1 hj2 => ((o31 j (by omega)).trans ((o26 j (by omega)).trans ((o22 j (by omega)).trans ((o18 j (by omega)).trans ((o14 j (by omega)).trans ((o10 j (by omega)).trans ((o7 j (by omega)).trans (o3 j (by omega)))))))))⟩ (by omega) (Nat.le_of_ble_eq_true rfl) (Nat.le_of_ble_eq_true rfl)
theorem dX11_init_0 : decode cX11_init 0 = .ok (.aload_n 0, 1) := by decide +kernel
theorem dX11_init_1 : decode cX11_init 1 = .ok (.invokespecial 1, 3) := by decide +kernel
theorem dX11_init_4 : decode cX11_init 4 = .ok (.aload_n 0, 1) := by decide +kernel
theorem dX11_init_5 : decode cX11_init 5 = .ok (.sipush 3001, 3) := by decide +kernel
theorem dX11_init_8 : decode cX11_init 8 = .ok (.newarray .int, 2) := by decide +kernel
theorem dX11_init_10 : decode cX11_init 10 = .ok (.putfield 9, 3) := by decide +kernel
theorem dX11_init_13 : decode cX11_init 13 = .ok (.aload_n 0, 1) := by decide +kernel
theorem dX11_init_14 : decode cX11_init 14 = .ok (.sipush 3001, 3) := by decide +kernel
theorem dX11_init_17 : decode cX11_init 17 = .ok (.newarray .int, 2) := by decide +kernel
theorem dX11_init_19 : decode cX11_init 19 = .ok (.putfield 13, 3) := by decide +kernel
theorem dX11_init_22 : decode cX11_init 22 = .ok (.aload_n 0, 1) := by decide +kernel
theorem dX11_init_23 : decode cX11_init 23 = .ok (.sipush 3001, 3) := by decide +kernel
theorem dX11_init_26 : decode cX11_init 26 = .ok (.newarray .int, 2) := by decide +kernel
theorem dX11_init_28 : decode cX11_init 28 = .ok (.putfield 16, 3) := by decide +kernel
theorem dX11_init_31 : decode cX11_init 31 = .ok (.aload_n 0, 1) := by decide +kernel
theorem dX11_init_32 : decode cX11_init 32 = .ok (.sipush 3001, 3) := by decide +kernel
theorem dX11_init_35 : decode cX11_init 35 = .ok (.newarray .int, 2) := by decide +kernel
theorem dX11_init_37 : decode cX11_init 37 = .ok (.putfield 19, 3) := by decide +kernel
theorem dX11_init_40 : decode cX11_init 40 = .ok (.aload_n 0, 1) := by decide +kernel
theorem dX11_init_41 : decode cX11_init 41 = .ok (.sipush 3001, 3) := by decide +kernel
theorem dX11_init_44 : decode cX11_init 44 = .ok (.newarray .int, 2) := by decide +kernel
theorem dX11_init_46 : decode cX11_init 46 = .ok (.putfield 22, 3) := by decide +kernel
theorem dX11_init_49 : decode cX11_init 49 = .ok (.aload_n 0, 1) := by decide +kernel
theorem dX11_init_50 : decode cX11_init 50 = .ok (.sipush 3001, 3) := by decide +kernel
theorem dX11_init_53 : decode cX11_init 53 = .ok (.newarray .long, 2) := by decide +kernel
theorem dX11_init_55 : decode cX11_init 55 = .ok (.putfield 25, 3) := by decide +kernel
theorem dX11_init_58 : decode cX11_init 58 = .ok (.aload_n 0, 1) := by decide +kernel
theorem dX11_init_59 : decode cX11_init 59 = .ok (.sipush 3001, 3) := by decide +kernel
theorem dX11_init_62 : decode cX11_init 62 = .ok (.newarray .long, 2) := by decide +kernel
theorem dX11_init_64 : decode cX11_init 64 = .ok (.putfield 29, 3) := by decide +kernel
theorem dX11_init_67 : decode cX11_init 67 = .ok (.aload_n 0, 1) := by decide +kernel
theorem dX11_init_68 : decode cX11_init 68 = .ok (.sipush 3001, 3) := by decide +kernel
theorem dX11_init_71 : decode cX11_init 71 = .ok (.newarray .int, 2) := by decide +kernel
theorem dX11_init_73 : decode cX11_init 73 = .ok (.putfield 32, 3) := by decide +kernel
theorem dX11_init_76 : decode cX11_init 76 = .ok (.aload_n 0, 1) := by decide +kernel
theorem dX11_init_77 : decode cX11_init 77 = .ok (.sipush 6002, 3) := by decide +kernel
theorem dX11_init_80 : decode cX11_init 80 = .ok (.newarray .int, 2) := by decide +kernel
theorem dX11_init_82 : decode cX11_init 82 = .ok (.putfield 35, 3) := by decide +kernel
theorem dX11_init_85 : decode cX11_init 85 = .ok (.aload_n 0, 1) := by decide +kernel
theorem dX11_init_86 : decode cX11_init 86 = .ok (.bipush 60, 2) := by decide +kernel
theorem dX11_init_88 : decode cX11_init 88 = .ok (.newarray .int, 2) := by decide +kernel
theorem dX11_init_90 : decode cX11_init 90 = .ok (.putfield 38, 3) := by decide +kernel
theorem dX11_init_93 : decode cX11_init 93 = .ok (.aload_n 0, 1) := by decide +kernel
theorem dX11_init_94 : decode cX11_init 94 = .ok (.bipush 60, 2) := by decide +kernel
theorem dX11_init_96 : decode cX11_init 96 = .ok (.newarray .int, 2) := by decide +kernel
theorem dX11_init_98 : decode cX11_init 98 = .ok (.putfield 41, 3) := by decide +kernel
theorem dX11_init_101 : decode cX11_init 101 = .ok (.aload_n 0, 1) := by decide +kernel
theorem dX11_init_102 : decode cX11_init 102 = .ok (.ldc 44, 2) := by decide +kernel
theorem dX11_init_104 : decode cX11_init 104 = .ok (.newarray .long, 2) := by decide +kernel
theorem dX11_init_106 : decode cX11_init 106 = .ok (.putfield 45, 3) := by decide +kernel
theorem dX11_init_109 : decode cX11_init 109 = .ok (.aload_n 0, 1) := by decide +kernel
theorem dX11_init_110 : decode cX11_init 110 = .ok (.bipush 42, 2) := by decide +kernel
theorem dX11_init_112 : decode cX11_init 112 = .ok (.newarray .long, 2) := by decide +kernel
theorem dX11_init_114 : decode cX11_init 114 = .ok (.putfield 48, 3) := by decide +kernel
theorem dX11_init_117 : decode cX11_init 117 = .ok (.aload_n 0, 1) := by decide +kernel
theorem dX11_init_118 : decode cX11_init 118 = .ok (.sipush 2820, 3) := by decide +kernel
theorem dX11_init_121 : decode cX11_init 121 = .ok (.newarray .long, 2) := by decide +kernel
theorem dX11_init_123 : decode cX11_init 123 = .ok (.putfield 51, 3) := by decide +kernel
theorem dX11_init_126 : decode cX11_init 126 = .ok (.aload_n 0, 1) := by decide +kernel
theorem dX11_init_127 : decode cX11_init 127 = .ok (.sipush 2820, 3) := by decide +kernel
theorem dX11_init_130 : decode cX11_init 130 = .ok (.newarray .long, 2) := by decide +kernel
theorem dX11_init_132 : decode cX11_init 132 = .ok (.putfield 54, 3) := by decide +kernel
theorem dX11_init_135 : decode cX11_init 135 = .ok (.aload_n 0, 1) := by decide +kernel
theorem dX11_init_136 : decode cX11_init 136 = .ok (.sipush 1000, 3) := by decide +kernel
theorem dX11_init_139 : decode cX11_init 139 = .ok (.newarray .int, 2) := by decide +kernel
theorem dX11_init_141 : decode cX11_init 141 = .ok (.putfield 57, 3) := by decide +kernel
theorem dX11_init_144 : decode cX11_init 144 = .ok (.aload_n 0, 1) := by decide +kernel
theorem dX11_init_145 : decode cX11_init 145 = .ok (.bipush 120, 2) := by decide +kernel
theorem dX11_init_147 : decode cX11_init 147 = .ok (.newarray .int, 2) := by decide +kernel
theorem dX11_init_149 : decode cX11_init 149 = .ok (.putfield 62, 3) := by decide +kernel
theorem dX11_init_152 : decode cX11_init 152 = .ok (.return_, 1) := by decide +kernel
set_option maxRecDepth 10000 in
set_option maxHeartbeats 4000000 in
/-- Types() -/
theorem C_X11_init (a n : Nat) (h : mj_H) (ha : a < n) (hn : n + 17 < 1000000) (e0 : h a = .inr (11, [.null, .null, .null, .null, .null, .null, .null, .null, .int 0, .null, .int 0, .null, .null, .int 0, .null, .int 0, .null, .null, .null, .null, .null])) : mj_C yX11_init cX11_init 1 none 1 17 99953 [.ref a] h n (fun v h' => v = none ∧ h' a = .inr (11, [.ref n, .ref (n + 1), .ref (n + 2), .ref (n + 3), .ref (n + 4), .ref (n + 5), .ref (n + 6), .ref (n + 7), .int 0, .ref (n + 8), .int 0, .ref (n + 9), .ref (n + 10), .int 0, .ref (n + 11), .int 0, .ref (n + 12), .ref (n + 13), .ref (n + 14), .ref (n + 15), .ref (n + 16)]) ∧ h' n = .inl (1, 3001, .inl ((fun _ => 0))) ∧ h' (n + 1) = .inl (1, 3001, .inl ((fun _ => 0))) ∧ h' (n + 2) = .inl (1, 3001, .inl ((fun _ => 0))) ∧ h' (n + 3) = .inl (1, 3001, .inl ((fun _ => 0))) ∧ h' (n + 4) = .inl (1, 3001, .inl ((fun _ => 0))) ∧ h' (n + 5) = .inl (2, 3001, .inr (.inl ((fun _ => 0)))) ∧ h' (n + 6) = .inl (2, 3001, .inr (.inl ((fun _ => 0)))) ∧ h' (n + 7) = .inl (1, 3001, .inl ((fun _ => 0))) ∧ h' (n + 8) = .inl (1, 6002, .inl ((fun _ => 0))) ∧ h' (n + 9) = .inl (1, 60, .inl ((fun _ => 0))) ∧ h' (n + 10) = .inl (1, 60, .inl ((fun _ => 0))) ∧ h' (n + 11) = .inl (2, 63021, .inr (.inl ((fun _ => 0)))) ∧ h' (n + 12) = .inl (2, 42, .inr (.inl ((fun _ => 0)))) ∧ h' (n + 13) = .inl (2, 2820, .inr (.inl ((fun _ => 0)))) ∧ h' (n + 14) = .inl (2, 2820, .inr (.inl ((fun _ => 0)))) ∧ h' (n + 15) = .inl (1, 1000, .inl ((fun _ => 0))) ∧ h' (n + 16) = .inl (1, 120, .inl ((fun _ => 0))) ∧ ∀ j, j < n → j ≠ a → h' j = h j) := by
  refine mj_C.of (by decide +kernel) (Nat.le_of_ble_eq_true rfl) ?_
  intro D cy ad bs X
  refine mj_aload_n dX11_init_0 0 rfl ?_
  refine mj_objInit dX11_init_1 ML_X11_1 OI_i OI_c (by decide) (Nat.le_of_ble_eq_true rfl) ?_
  refine mj_aload_n dX11_init_4 0 rfl ?_
  refine mj_sipush (v := 3001) dX11_init_5 (by decide) ?_
  refine mj_newIA (N := 3001) dX11_init_8 AC_int (by decide) (by decide) (Nat.le_of_ble_eq_true rfl) (by omega) (Nat.le_of_ble_eq_true rfl) (Nat.le_of_ble_eq_true rfl) (fun h1 q2 o3 => ?_)
  have e4 : h1 a = .inr (11, [.null, .null, .null, .null, .null, .null, .null, .null, .int 0, .null, .int 0, .null, .null, .int 0, .null, .int 0, .null, .null, .null, .null, .null]) := (o3 _ (by omega)).trans (e0)
  refine mj_putFA dX11_init_10 F_X11_9 (by omega) e4 rfl (Nat.le_of_ble_eq_true rfl) rfl rfl (fun h5 q6 o7 => ?_)
  replace q6 : h5 a = .inr (11, [.ref n, .null, .null, .null, .null, .null, .null, .null, .int 0, .null, .int 0, .null, .null, .int 0, .null, .int 0, .null, .null, .null, .null, .null]) := q6
  refine mj_aload_n dX11_init_13 0 rfl ?_
  refine mj_sipush (v := 3001) dX11_init_14 (by decide) ?_
  refine mj_newIA (N := 3001) dX11_init_17 AC_int (by decide) (by decide) (Nat.le_of_ble_eq_true rfl) (by omega) (Nat.le_of_ble_eq_true rfl) (Nat.le_of_ble_eq_true rfl) (fun h8 q9 o10 => ?_)
  have e11 : h8 a = .inr (11, [.ref n, .null, .null, .null, .null, .null, .null, .null, .int 0, .null, .int 0, .null, .null, .int 0, .null, .int 0, .null, .null, .null, .null, .null]) := (o10 _ (by omega)).trans (q6)
  refine mj_putFA dX11_init_19 F_X11_13 (by omega) e11 rfl (Nat.le_of_ble_eq_true rfl) rfl rfl (fun h12 q13 o14 => ?_)
  replace q13 : h12 a = .inr (11, [.ref n, .ref (n + 1), .null, .null, .null, .null, .null, .null, .int 0, .null, .int 0, .null, .null, .int 0, .null, .int 0, .null, .null, .null, .null, .null]) := q13
  refine mj_aload_n dX11_init_22 0 rfl ?_
  refine mj_sipush (v := 3001) dX11_init_23 (by decide) ?_
  refine mj_newIA (N := 3001) dX11_init_26 AC_int (by decide) (by decide) (Nat.le_of_ble_eq_true rfl) (by omega) (Nat.le_of_ble_eq_true rfl) (Nat.le_of_ble_eq_true rfl) (fun h15 q16 o17 => ?_)
  have e18 : h15 a = .inr (11, [.ref n, .ref (n + 1), .null, .null, .null, .null, .null, .null, .int 0, .null, .int 0, .null, .null, .int 0, .null, .int 0, .null, .null, .null, .null, .null]) := (o17 _ (by omega)).trans (q13)
  refine mj_putFA dX11_init_28 F_X11_16 (by omega) e18 rfl (Nat.le_of_ble_eq_true rfl) rfl rfl (fun h19 q20 o21 => ?_)
  replace q20 : h19 a = .inr (11, [.ref n, .ref (n + 1), .ref (n + 2), .null, .null, .null, .null, .null, .int 0, .null, .int 0, .null, .null, .int 0, .null, .int 0, .null, .null, .null, .null, .null]) := q20
  refine mj_aload_n dX11_init_31 0 rfl ?_
  refine mj_sipush (v := 3001) dX11_init_32 (by decide) ?_
  refine mj_newIA (N := 3001) dX11_init_35 AC_int (by decide) (by decide) (Nat.le_of_ble_eq_true rfl) (by omega) (Nat.le_of_ble_eq_true rfl) (Nat.le_of_ble_eq_true rfl) (fun h22 q23 o24 => ?_)
  have e25 : h22 a = .inr (11, [.ref n, .ref (n + 1), .ref (n + 2), .null, .null, .null, .null, .null, .int 0, .null, .int 0, .null, .null, .int 0, .null, .int 0, .null, .null, .null, .null, .null]) := (o24 _ (by omega)).trans (q20)
  refine mj_putFA dX11_init_37 F_X11_19 (by omega) e25 rfl (Nat.le_of_ble_eq_true rfl) rfl rfl (fun h26 q27 o28 => ?_)
  replace q27 : h26 a = .inr (11, [.ref n, .ref (n + 1), .ref (n + 2), .ref (n + 3), .null, .null, .null, .null, .int 0, .null, .int 0, .null, .null, .int 0, .null, .int 0, .null, .null, .null, .null, .null]) := q27
  refine mj_aload_n dX11_init_40 0 rfl ?_
  refine mj_sipush (v := 3001) dX11_init_41 (by decide) ?_
  refine mj_newIA (N := 3001) dX11_init_44 AC_int (by decide) (by decide) (Nat.le_of_ble_eq_true rfl) (by omega) (Nat.le_of_ble_eq_true rfl) (Nat.le_of_ble_eq_true rfl) (fun h29 q30 o31 => ?_)
  have e32 : h29 a = .inr (11, [.ref n, .ref (n + 1), .ref (n + 2), .ref (n + 3), .null, .null, .null, .null, .int 0, .null, .int 0, .null, .null, .int 0, .null, .int 0, .null, .null, .null, .null, .null]) := (o31 _ (by omega)).trans (q27)
  refine mj_putFA dX11_init_46 F_X11_22 (by omega) e32 rfl (Nat.le_of_ble_eq_true rfl) rfl rfl (fun h33 q34 o35 => ?_)
  replace q34 : h33 a = .inr (11, [.ref n, .ref (n + 1), .ref (n + 2), .ref (n + 3), .ref (n + 4), .null, .null, .null, .int 0, .null, .int 0, .null, .null, .int 0, .null, .int 0, .null, .null, .null, .null, .null]) := q34
  refine mj_aload_n dX11_init_49 0 rfl ?_
  refine mj_sipush (v := 3001) dX11_init_50 (by decide) ?_
  refine mj_newJA (N := 3001) dX11_init_53 AC_long (by decide) (by decide) (Nat.le_of_ble_eq_true rfl) (by omega) (Nat.le_of_ble_eq_true rfl) (Nat.le_of_ble_eq_true rfl) (fun h36 q37 o38 => ?_)
  have e39 : h36 a = .inr (11, [.ref n, .ref (n + 1), .ref (n + 2), .ref (n + 3), .ref (n + 4), .null, .null, .null, .int 0, .null, .int 0, .null, .null, .int 0, .null, .int 0, .null, .null, .null, .null, .null]) := (o38 _ (by omega)).trans (q34)
  refine mj_putFA dX11_init_55 F_X11_25 (by omega) e39 rfl (Nat.le_of_ble_eq_true rfl) rfl rfl (fun h40 q41 o42 => ?_)
  replace q41 : h40 a = .inr (11, [.ref n, .ref (n + 1), .ref (n + 2), .ref (n + 3), .ref (n + 4), .ref (n + 5), .null, .null, .int 0, .null, .int 0, .null, .null, .int 0, .null, .int 0, .null, .null, .null, .null, .null]) := q41
  refine mj_aload_n dX11_init_58 0 rfl ?_
  refine mj_sipush (v := 3001) dX11_init_59 (by decide) ?_
  refine mj_newJA (N := 3001) dX11_init_62 AC_long (by decide) (by decide) (Nat.le_of_ble_eq_true rfl) (by omega) (Nat.le_of_ble_eq_true rfl) (Nat.le_of_ble_eq_true rfl) (fun h43 q44 o45 => ?_)
  have e46 : h43 a = .inr (11, [.ref n, .ref (n + 1), .ref (n + 2), .ref (n + 3), .ref (n + 4), .ref (n + 5), .null, .null, .int 0, .null, .int 0, .null, .null, .int 0, .null, .int 0, .null, .null, .null, .null, .null]) := (o45 _ (by omega)).trans (q41)
  refine mj_putFA dX11_init_64 F_X11_29 (by omega) e46 rfl (Nat.le_of_ble_eq_true rfl) rfl rfl (fun h47 q48 o49 => ?_)
  replace q48 : h47 a = .inr (11, [.ref n, .ref (n + 1), .ref (n + 2), .ref (n + 3), .ref (n + 4), .ref (n + 5), .ref (n + 6), .null, .int 0, .null, .int 0, .null, .null, .int 0, .null, .int 0, .null, .null, .null, .null, .null]) := q48
  refine mj_aload_n dX11_init_67 0 rfl ?_
  refine mj_sipush (v := 3001) dX11_init_68 (by decide) ?_
  refine mj_newIA (N := 3001) dX11_init_71 AC_int (by decide) (by decide) (Nat.le_of_ble_eq_true rfl) (by omega) (Nat.le_of_ble_eq_true rfl) (Nat.le_of_ble_eq_true rfl) (fun h50 q51 o52 => ?_)
  have e53 : h50 a = .inr (11, [.ref n, .ref (n + 1), .ref (n + 2), .ref (n + 3), .ref (n + 4), .ref (n + 5), .ref (n + 6), .null, .int 0, .null, .int 0, .null, .null, .int 0, .null, .int 0, .null, .null, .null, .null, .null]) := (o52 _ (by omega)).trans (q48)
  refine mj_putFA dX11_init_73 F_X11_32 (by omega) e53 rfl (Nat.le_of_ble_eq_true rfl) rfl rfl (fun h54 q55 o56 => ?_)
  replace q55 : h54 a = .inr (11, [.ref n, .ref (n + 1), .ref (n + 2), .ref (n + 3), .ref (n + 4), .ref (n + 5), .ref (n + 6), .ref (n + 7), .int 0, .null, .int 0, .null, .null, .int 0, .null, .int 0, .null, .null, .null, .null, .null]) := q55
  refine mj_aload_n dX11_init_76 0 rfl ?_
  refine mj_sipush (v := 6002) dX11_init_77 (by decide) ?_
  refine mj_newIA (N := 6002) dX11_init_80 AC_int (by decide) (by decide) (Nat.le_of_ble_eq_true rfl) (by omega) (Nat.le_of_ble_eq_true rfl) (Nat.le_of_ble_eq_true rfl) (fun h57 q58 o59 => ?_)
  have e60 : h57 a = .inr (11, [.ref n, .ref (n + 1), .ref (n + 2), .ref (n + 3), .ref (n + 4), .ref (n + 5), .ref (n + 6), .ref (n + 7), .int 0, .null, .int 0, .null, .null, .int 0, .null, .int 0, .null, .null, .null, .null, .null]) := (o59 _ (by omega)).trans (q55)
  refine mj_putFA dX11_init_82 F_X11_35 (by omega) e60 rfl (Nat.le_of_ble_eq_true rfl) rfl rfl (fun h61 q62 o63 => ?_)
  replace q62 : h61 a = .inr (11, [.ref n, .ref (n + 1), .ref (n + 2), .ref (n + 3), .ref (n + 4), .ref (n + 5), .ref (n + 6), .ref (n + 7), .int 0, .ref (n + 8), .int 0, .null, .null, .int 0, .null, .int 0, .null, .null, .null, .null, .null]) := q62
  refine mj_aload_n dX11_init_85 0 rfl ?_
  refine mj_bipush (v := 60) dX11_init_86 (by decide) ?_
  refine mj_newIA (N := 60) dX11_init_88 AC_int (by decide) (by decide) (Nat.le_of_ble_eq_true rfl) (by omega) (Nat.le_of_ble_eq_true rfl) (Nat.le_of_ble_eq_true rfl) (fun h64 q65 o66 => ?_)
  have e67 : h64 a = .inr (11, [.ref n, .ref (n + 1), .ref (n + 2), .ref (n + 3), .ref (n + 4), .ref (n + 5), .ref (n + 6), .ref (n + 7), .int 0, .ref (n + 8), .int 0, .null, .null, .int 0, .null, .int 0, .null, .null, .null, .null, .null]) := (o66 _ (by omega)).trans (q62)
  refine mj_putFA dX11_init_90 F_X11_38 (by omega) e67 rfl (Nat.le_of_ble_eq_true rfl) rfl rfl (fun h68 q69 o70 => ?_)
  replace q69 : h68 a = .inr (11, [.ref n, .ref (n + 1), .ref (n + 2), .ref (n + 3), .ref (n + 4), .ref (n + 5), .ref (n + 6), .ref (n + 7), .int 0, .ref (n + 8), .int 0, .ref (n + 9), .null, .int 0, .null, .int 0, .null, .null, .null, .null, .null]) := q69
  refine mj_aload_n dX11_init_93 0 rfl ?_
  refine mj_bipush (v := 60) dX11_init_94 (by decide) ?_
  refine mj_newIA (N := 60) dX11_init_96 AC_int (by decide) (by decide) (Nat.le_of_ble_eq_true rfl) (by omega) (Nat.le_of_ble_eq_true rfl) (Nat.le_of_ble_eq_true rfl) (fun h71 q72 o73 => ?_)
  have e74 : h71 a = .inr (11, [.ref n, .ref (n + 1), .ref (n + 2), .ref (n + 3), .ref (n + 4), .ref (n + 5), .ref (n + 6), .ref (n + 7), .int 0, .ref (n + 8), .int 0, .ref (n + 9), .null, .int 0, .null, .int 0, .null, .null, .null, .null, .null]) := (o73 _ (by omega)).trans (q69)
  refine mj_putFA dX11_init_98 F_X11_41 (by omega) e74 rfl (Nat.le_of_ble_eq_true rfl) rfl rfl (fun h75 q76 o77 => ?_)
  replace q76 : h75 a = .inr (11, [.ref n, .ref (n + 1), .ref (n + 2), .ref (n + 3), .ref (n + 4), .ref (n + 5), .ref (n + 6), .ref (n + 7), .int 0, .ref (n + 8), .int 0, .ref (n + 9), .ref (n + 10), .int 0, .null, .int 0, .null, .null, .null, .null, .null]) := q76
  refine mj_aload_n dX11_init_101 0 rfl ?_
  refine mj_ldc dX11_init_102 K_X11_44 ?_
  refine mj_newJA (N := 63021) dX11_init_104 AC_long (by decide) (by decide) (Nat.le_of_ble_eq_true rfl) (by omega) (Nat.le_of_ble_eq_true rfl) (Nat.le_of_ble_eq_true rfl) (fun h78 q79 o80 => ?_)
  have e81 : h78 a = .inr (11, [.ref n, .ref (n + 1), .ref (n + 2), .ref (n + 3), .ref (n + 4), .ref (n + 5), .ref (n + 6), .ref (n + 7), .int 0, .ref (n + 8), .int 0, .ref (n + 9), .ref (n + 10), .int 0, .null, .int 0, .null, .null, .null, .null, .null]) := (o80 _ (by omega)).trans (q76)
  refine mj_putFA dX11_init_106 F_X11_45 (by omega) e81 rfl (Nat.le_of_ble_eq_true rfl) rfl rfl (fun h82 q83 o84 => ?_)
  replace q83 : h82 a = .inr (11, [.ref n, .ref (n + 1), .ref (n + 2), .ref (n + 3), .ref (n + 4), .ref (n + 5), .ref (n + 6), .ref (n + 7), .int 0, .ref (n + 8), .int 0, .ref (n + 9), .ref (n + 10), .int 0, .ref (n + 11), .int 0, .null, .null, .null, .null, .null]) := q83
  refine mj_aload_n dX11_init_109 0 rfl ?_
  refine mj_bipush (v := 42) dX11_init_110 (by decide) ?_
  refine mj_newJA (N := 42) dX11_init_112 AC_long (by decide) (by decide) (Nat.le_of_ble_eq_true rfl) (by omega) (Nat.le_of_ble_eq_true rfl) (Nat.le_of_ble_eq_true rfl) (fun h85 q86 o87 => ?_)
  have e88 : h85 a = .inr (11, [.ref n, .ref (n + 1), .ref (n + 2), .ref (n + 3), .ref (n + 4), .ref (n + 5), .ref (n + 6), .ref (n + 7), .int 0, .ref (n + 8), .int 0, .ref (n + 9), .ref (n + 10), .int 0, .ref (n + 11), .int 0, .null, .null, .null, .null, .null]) := (o87 _ (by omega)).trans (q83)
  refine mj_putFA dX11_init_114 F_X11_48 (by omega) e88 rfl (Nat.le_of_ble_eq_true rfl) rfl rfl (fun h89 q90 o91 => ?_)
  replace q90 : h89 a = .inr (11, [.ref n, .ref (n + 1), .ref (n + 2), .ref (n + 3), .ref (n + 4), .ref (n + 5), .ref (n + 6), .ref (n + 7), .int 0, .ref (n + 8), .int 0, .ref (n + 9), .ref (n + 10), .int 0, .ref (n + 11), .int 0, .ref (n + 12), .null, .null, .null, .null]) := q90
  refine mj_aload_n dX11_init_117 0 rfl ?_
  refine mj_sipush (v := 2820) dX11_init_118 (by decide) ?_
  refine mj_newJA (N := 2820) dX11_init_121 AC_long (by decide) (by decide) (Nat.le_of_ble_eq_true rfl) (by omega) (Nat.le_of_ble_eq_true rfl) (Nat.le_of_ble_eq_true rfl) (fun h92 q93 o94 => ?_)
  have e95 : h92 a = .inr (11, [.ref n, .ref (n + 1), .ref (n + 2), .ref (n + 3), .ref (n + 4), .ref (n + 5), .ref (n + 6), .ref (n + 7), .int 0, .ref (n + 8), .int 0, .ref (n + 9), .ref (n + 10), .int 0, .ref (n + 11), .int 0, .ref (n + 12), .null, .null, .null, .null]) := (o94 _ (by omega)).trans (q90)
  refine mj_putFA dX11_init_123 F_X11_51 (by omega) e95 rfl (Nat.le_of_ble_eq_true rfl) rfl rfl (fun h96 q97 o98 => ?_)
  replace q97 : h96 a = .inr (11, [.ref n, .ref (n + 1), .ref (n + 2), .ref (n + 3), .ref (n + 4), .ref (n + 5), .ref (n + 6), .ref (n + 7), .int 0, .ref (n + 8), .int 0, .ref (n + 9), .ref (n + 10), .int 0, .ref (n + 11), .int 0, .ref (n + 12), .ref (n + 13), .null, .null, .null]) := q97
  refine mj_aload_n dX11_init_126 0 rfl ?_
  refine mj_sipush (v := 2820) dX11_init_127 (by decide) ?_
  refine mj_newJA (N := 2820) dX11_init_130 AC_long (by decide) (by decide) (Nat.le_of_ble_eq_true rfl) (by omega) (Nat.le_of_ble_eq_true rfl) (Nat.le_of_ble_eq_true rfl) (fun h99 q100 o101 => ?_)
  have e102 : h99 a = .inr (11, [.ref n, .ref (n + 1), .ref (n + 2), .ref (n + 3), .ref (n + 4), .ref (n + 5), .ref (n + 6), .ref (n + 7), .int 0, .ref (n + 8), .int 0, .ref (n + 9), .ref (n + 10), .int 0, .ref (n + 11), .int 0, .ref (n + 12), .ref (n + 13), .null, .null, .null]) := (o101 _ (by omega)).trans (q97)
  refine mj_putFA dX11_init_132 F_X11_54 (by omega) e102 rfl (Nat.le_of_ble_eq_true rfl) rfl rfl (fun h103 q104 o105 => ?_)
  replace q104 : h103 a = .inr (11, [.ref n, .ref (n + 1), .ref (n + 2), .ref (n + 3), .ref (n + 4), .ref (n + 5), .ref (n + 6), .ref (n + 7), .int 0, .ref (n + 8), .int 0, .ref (n + 9), .ref (n + 10), .int 0, .ref (n + 11), .int 0, .ref (n + 12), .ref (n + 13), .ref (n + 14), .null, .null]) := q104
  refine mj_aload_n dX11_init_135 0 rfl ?_
  refine mj_sipush (v := 1000) dX11_init_136 (by decide) ?_
  refine mj_newIA (N := 1000) dX11_init_139 AC_int (by decide) (by decide) (Nat.le_of_ble_eq_true rfl) (by omega) (Nat.le_of_ble_eq_true rfl) (Nat.le_of_ble_eq_true rfl) (fun h106 q107 o108 => ?_)
  have e109 : h106 a = .inr (11, [.ref n, .ref (n + 1), .ref (n + 2), .ref (n + 3), .ref (n + 4), .ref (n + 5), .ref (n + 6), .ref (n + 7), .int 0, .ref (n + 8), .int 0, .ref (n + 9), .ref (n + 10), .int 0, .ref (n + 11), .int 0, .ref (n + 12), .ref (n + 13), .ref (n + 14), .null, .null]) := (o108 _ (by omega)).trans (q104)
  refine mj_putFA dX11_init_141 F_X11_57 (by omega) e109 rfl (Nat.le_of_ble_eq_true rfl) rfl rfl (fun h110 q111 o112 => ?_)
  replace q111 : h110 a = .inr (11, [.ref n, .ref (n + 1), .ref (n + 2), .ref (n + 3), .ref (n + 4), .ref (n + 5), .ref (n + 6), .ref (n + 7), .int 0, .ref (n + 8), .int 0, .ref (n + 9), .ref (n + 10), .int 0, .ref (n + 11), .int 0, .ref (n + 12), .ref (n + 13), .ref (n + 14), .ref (n + 15), .null]) := q111
  refine mj_aload_n dX11_init_144 0 rfl ?_
  refine mj_bipush (v := 120) dX11_init_145 (by decide) ?_
  refine mj_newIA (N := 120) dX11_init_147 AC_int (by decide) (by decide) (Nat.le_of_ble_eq_true rfl) (by omega) (Nat.le_of_ble_eq_true rfl) (Nat.le_of_ble_eq_true rfl) (fun h113 q114 o115 => ?_)
  have e116 : h113 a = .inr (11, [.ref n, .ref (n + 1), .ref (n + 2), .ref (n + 3), .ref (n + 4), .ref (n + 5), .ref (n + 6), .ref (n + 7), .int 0, .ref (n + 8), .int 0, .ref (n + 9), .ref (n + 10), .int 0, .ref (n + 11), .int 0, .ref (n + 12), .ref (n + 13), .ref (n + 14), .ref (n + 15), .null]) := (o115 _ (by omega)).trans (q111)
  refine mj_putFA dX11_init_149 F_X11_62 (by omega) e116 rfl (Nat.le_of_ble_eq_true rfl) rfl rfl (fun h117 q118 o119 => ?_)
  replace q118 : h117 a = .inr (11, [.ref n, .ref (n + 1), .ref (n + 2), .ref (n + 3), .ref (n + 4), .ref (n + 5), .ref (n + 6), .ref (n + 7), .int 0, .ref (n + 8), .int 0, .ref (n + 9), .ref (n + 10), .int 0, .ref (n + 11), .int 0, .ref (n + 12), .ref (n + 13), .ref (n + 14), .ref (n + 15), .ref (n + 16)]) := q118
  have e120 : h117 n = .inl (1, 3001, .inl ((fun _ => 0))) := (o119 _ (by omega)).trans ((o115 _ (by omega)).trans ((o112 _ (by omega)).trans ((o108 _ (by omega)).trans ((o105 _ (by omega)).trans ((o101 _ (by omega)).trans ((o98 _ (by omega)).trans ((o94 _ (by omega)).trans ((o91 _ (by omega)).trans ((o87 _ (by omega)).trans ((o84 _ (by omega)).trans ((o80 _ (by omega)).trans ((o77 _ (by omega)).trans ((o73 _ (by omega)).trans ((o70 _ (by omega)).trans ((o66 _ (by omega)).trans ((o63 _ (by omega)).trans ((o59 _ (by omega)).trans ((o56 _ (by omega)).trans ((o52 _ (by omega)).trans ((o49 _ (by omega)).trans ((o45 _ (by omega)).trans ((o42 _ (by omega)).trans ((o38 _ (by omega)).trans ((o35 _ (by omega)).trans ((o31 _ (by omega)).trans ((o28 _ (by omega)).trans ((o24 _ (by omega)).trans ((o21 _ (by omega)).trans ((o17 _ (by omega)).trans ((o14 _ (by omega)).trans ((o10 _ (by omega)).trans ((o7 _ (by omega)).trans (q2)))))))))))))))))))))))))))))))))
  have e121 : h117 (n + 1) = .inl (1, 3001, .inl ((fun _ => 0))) := (o119 _ (by omega)).trans ((o115 _ (by omega)).trans ((o112 _ (by omega)).trans ((o108 _ (by omega)).trans ((o105 _ (by omega)).trans ((o101 _ (by omega)).trans ((o98 _ (by omega)).trans ((o94 _ (by omega)).trans ((o91 _ (by omega)).trans ((o87 _ (by omega)).trans ((o84 _ (by omega)).trans ((o80 _ (by omega)).trans ((o77 _ (by omega)).trans ((o73 _ (by omega)).trans ((o70 _ (by omega)).trans ((o66 _ (by omega)).trans ((o63 _ (by omega)).trans ((o59 _ (by omega)).trans ((o56 _ (by omega)).trans ((o52 _ (by omega)).trans ((o49 _ (by omega)).trans ((o45 _ (by omega)).trans ((o42 _ (by omega)).trans ((o38 _ (by omega)).trans ((o35 _ (by omega)).trans ((o31 _ (by omega)).trans ((o28 _ (by omega)).trans ((o24 _ (by omega)).trans ((o21 _ (by omega)).trans ((o17 _ (by omega)).trans ((o14 _ (by omega)).trans (q9)))))))))))))))))))))))))))))))
  have e122 : h117 (n + 2) = .inl (1, 3001, .inl ((fun _ => 0))) := (o119 _ (by omega)).trans ((o115 _ (by omega)).trans ((o112 _ (by omega)).trans ((o108 _ (by omega)).trans ((o105 _ (by omega)).trans ((o101 _ (by omega)).trans ((o98 _ (by omega)).trans ((o94 _ (by omega)).trans ((o91 _ (by omega)).trans ((o87 _ (by omega)).trans ((o84 _ (by omega)).trans ((o80 _ (by omega)).trans ((o77 _ (by omega)).trans ((o73 _ (by omega)).trans ((o70 _ (by omega)).trans ((o66 _ (by omega)).trans ((o63 _ (by omega)).trans ((o59 _ (by omega)).trans ((o56 _ (by omega)).trans ((o52 _ (by omega)).trans ((o49 _ (by omega)).trans ((o45 _ (by omega)).trans ((o42 _ (by omega)).trans ((o38 _ (by omega)).trans ((o35 _ (by omega)).trans ((o31 _ (by omega)).trans ((o28 _ (by omega)).trans ((o24 _ (by omega)).trans ((o21 _ (by omega)).trans (q16)))))))))))))))))))))))))))))
  have e123 : h117 (n + 3) = .inl (1, 3001, .inl ((fun _ => 0))) := (o119 _ (by omega)).trans ((o115 _ (by omega)).trans ((o112 _ (by omega)).trans ((o108 _ (by omega)).trans ((o105 _ (by omega)).trans ((o101 _ (by omega)).trans ((o98 _ (by omega)).trans ((o94 _ (by omega)).trans ((o91 _ (by omega)).trans ((o87 _ (by omega)).trans ((o84 _ (by omega)).trans ((o80 _ (by omega)).trans ((o77 _ (by omega)).trans ((o73 _ (by omega)).trans ((o70 _ (by omega)).trans ((o66 _ (by omega)).trans ((o63 _ (by omega)).trans ((o59 _ (by omega)).trans ((o56 _ (by omega)).trans ((o52 _ (by omega)).trans ((o49 _ (by omega)).trans ((o45 _ (by omega)).trans ((o42 _ (by omega)).trans ((o38 _ (by omega)).trans ((o35 _ (by omega)).trans ((o31 _ (by omega)).trans ((o28 _ (by omega)).trans (q23)))))))))))))))))))))))))))
  have e124 : h117 (n + 4) = .inl (1, 3001, .inl ((fun _ => 0))) := (o119 _ (by omega)).trans ((o115 _ (by omega)).trans ((o112 _ (by omega)).trans ((o108 _ (by omega)).trans ((o105 _ (by omega)).trans ((o101 _ (by omega)).trans ((o98 _ (by omega)).trans ((o94 _ (by omega)).trans ((o91 _ (by omega)).trans ((o87 _ (by omega)).trans ((o84 _ (by omega)).trans ((o80 _ (by omega)).trans ((o77 _ (by omega)).trans ((o73 _ (by omega)).trans ((o70 _ (by omega)).trans ((o66 _ (by omega)).trans ((o63 _ (by omega)).trans ((o59 _ (by omega)).trans ((o56 _ (by omega)).trans ((o52 _ (by omega)).trans ((o49 _ (by omega)).trans ((o45 _ (by omega)).trans ((o42 _ (by omega)).trans ((o38 _ (by omega)).trans ((o35 _ (by omega)).trans (q30)))))))))))))))))))))))))
  have e125 : h117 (n + 5) = .inl (2, 3001, .inr (.inl ((fun _ => 0)))) := (o119 _ (by omega)).trans ((o115 _ (by omega)).trans ((o112 _ (by omega)).trans ((o108 _ (by omega)).trans ((o105 _ (by omega)).trans ((o101 _ (by omega)).trans ((o98 _ (by omega)).trans ((o94 _ (by omega)).trans ((o91 _ (by omega)).trans ((o87 _ (by omega)).trans ((o84 _ (by omega)).trans ((o80 _ (by omega)).trans ((o77 _ (by omega)).trans ((o73 _ (by omega)).trans ((o70 _ (by omega)).trans ((o66 _ (by omega)).trans ((o63 _ (by omega)).trans ((o59 _ (by omega)).trans ((o56 _ (by omega)).trans ((o52 _ (by omega)).trans ((o49 _ (by omega)).trans ((o45 _ (by omega)).trans ((o42 _ (by omega)).trans (q37)))))))))))))))))))))))
  have e126 : h117 (n + 6) = .inl (2, 3001, .inr (.inl ((fun _ => 0)))) := (o119 _ (by omega)).trans ((o115 _ (by omega)).trans ((o112 _ (by omega)).trans ((o108 _ (by omega)).trans ((o105 _ (by omega)).trans ((o101 _ (by omega)).trans ((o98 _ (by omega)).trans ((o94 _ (by omega)).trans ((o91 _ (by omega)).trans ((o87 _ (by omega)).trans ((o84 _ (by omega)).trans ((o80 _ (by omega)).trans ((o77 _ (by omega)).trans ((o73 _ (by omega)).trans ((o70 _ (by omega)).trans ((o66 _ (by omega)).trans ((o63 _ (by omega)).trans ((o59 _ (by omega)).trans ((o56 _ (by omega)).trans ((o52 _ (by omega)).trans ((o49 _ (by omega)).trans (q44)))))))))))))))))))))
  have e127 : h117 (n + 7) = .inl (1, 3001, .inl ((fun _ => 0))) := (o119 _ (by omega)).trans ((o115 _ (by omega)).trans ((o112 _ (by omega)).trans ((o108 _ (by omega)).trans ((o105 _ (by omega)).trans ((o101 _ (by omega)).trans ((o98 _ (by omega)).trans ((o94 _ (by omega)).trans ((o91 _ (by omega)).trans ((o87 _ (by omega)).trans ((o84 _ (by omega)).trans ((o80 _ (by omega)).trans ((o77 _ (by omega)).trans ((o73 _ (by omega)).trans ((o70 _ (by omega)).trans ((o66 _ (by omega)).trans ((o63 _ (by omega)).trans ((o59 _ (by omega)).trans ((o56 _ (by omega)).trans (q51)))))))))))))))))))
  have e128 : h117 (n + 8) = .inl (1, 6002, .inl ((fun _ => 0))) := (o119 _ (by omega)).trans ((o115 _ (by omega)).trans ((o112 _ (by omega)).trans ((o108 _ (by omega)).trans ((o105 _ (by omega)).trans ((o101 _ (by omega)).trans ((o98 _ (by omega)).trans ((o94 _ (by omega)).trans ((o91 _ (by omega)).trans ((o87 _ (by omega)).trans ((o84 _ (by omega)).trans ((o80 _ (by omega)).trans ((o77 _ (by omega)).trans ((o73 _ (by omega)).trans ((o70 _ (by omega)).trans ((o66 _ (by omega)).trans ((o63 _ (by omega)).trans (q58)))))))))))))))))
  have e129 : h117 (n + 9) = .inl (1, 60, .inl ((fun _ => 0))) := (o119 _ (by omega)).trans ((o115 _ (by omega)).trans ((o112 _ (by omega)).trans ((o108 _ (by omega)).trans ((o105 _ (by omega)).trans ((o101 _ (by omega)).trans ((o98 _ (by omega)).trans ((o94 _ (by omega)).trans ((o91 _ (by omega)).trans ((o87 _ (by omega)).trans ((o84 _ (by omega)).trans ((o80 _ (by omega)).trans ((o77 _ (by omega)).trans ((o73 _ (by omega)).trans ((o70 _ (by omega)).trans (q65)))))))))))))))
  have e130 : h117 (n + 10) = .inl (1, 60, .inl ((fun _ => 0))) := (o119 _ (by omega)).trans ((o115 _ (by omega)).trans ((o112 _ (by omega)).trans ((o108 _ (by omega)).trans ((o105 _ (by omega)).trans ((o101 _ (by omega)).trans ((o98 _ (by omega)).trans ((o94 _ (by omega)).trans ((o91 _ (by omega)).trans ((o87 _ (by omega)).trans ((o84 _ (by omega)).trans ((o80 _ (by omega)).trans ((o77 _ (by omega)).trans (q72)))))))))))))
  have e131 : h117 (n + 11) = .inl (2, 63021, .inr (.inl ((fun _ => 0)))) := (o119 _ (by omega)).trans ((o115 _ (by omega)).trans ((o112 _ (by omega)).trans ((o108 _ (by omega)).trans ((o105 _ (by omega)).trans ((o101 _ (by omega)).trans ((o98 _ (by omega)).trans ((o94 _ (by omega)).trans ((o91 _ (by omega)).trans ((o87 _ (by omega)).trans ((o84 _ (by omega)).trans (q79)))))))))))
  have e132 : h117 (n + 12) = .inl (2, 42, .inr (.inl ((fun _ => 0)))) := (o119 _ (by omega)).trans ((o115 _ (by omega)).trans ((o112 _ (by omega)).trans ((o108 _ (by omega)).trans ((o105 _ (by omega)).trans ((o101 _ (by omega)).trans ((o98 _ (by omega)).trans ((o94 _ (by omega)).trans ((o91 _ (by omega)).trans (q86)))))))))
  have e133 : h117 (n + 13) = .inl (2, 2820, .inr (.inl ((fun _ => 0)))) := (o119 _ (by omega)).trans ((o115 _ (by omega)).trans ((o112 _ (by omega)).trans ((o108 _ (by omega)).trans ((o105 _ (by omega)).trans ((o101 _ (by omega)).trans ((o98 _ (by omega)).trans (q93)))))))
  have e134 : h117 (n + 14) = .inl (2, 2820, .inr (.inl ((fun _ => 0)))) := (o119 _ (by omega)).trans ((o115 _ (by omega)).trans ((o112 _ (by omega)).trans ((o108 _ (by omega)).trans ((o105 _ (by omega)).trans (q100)))))
  have e135 : h117 (n + 15) = .inl (1, 1000, .inl ((fun _ => 0))) := (o119 _ (by omega)).trans ((o115 _ (by omega)).trans ((o112 _ (by omega)).trans (q107)))
  have e136 : h117 (n + 16) = .inl (1, 120, .inl ((fun _ => 0))) := (o119 _ (by omega)).trans (q114)
  exact mj_vret dX11_init_152 rfl ⟨rfl, q118, e120, e121, e122, e123, e124, e125, e126, e127, e128, e129, e130, e131, e132, e133, e134, e135, e136, fun j hj1 hj2 => ((o119 j (by omega)).trans ((o115 j (by omega)).trans ((o112 j (by omega)).trans ((o108 j (by omega)).trans ((o105 j (by omega)).trans ((o101 j (by omega)).trans ((o98 j (by omega)).trans ((o94 j (by omega)).trans ((o91 j (by omega)).trans ((o87 j (by omega)).trans ((o84 j (by omega)).trans ((o80 j (by omega)).trans ((o77 j (by omega)).trans ((o73 j (by omega)).trans ((o70 j (by omega)).trans ((o66 j (by omega)).trans ((o63 j (by omega)).trans ((o59 j (by omega)).trans ((o56 j (by omega)).trans ((o52 j (by omega)).trans ((o49 j (by omega)).trans ((o45 j (by omega)).trans ((o42 j (by omega)).trans ((o38 j (by omega)).trans ((o35 j (by omega)).trans ((o31 j (by omega)).trans ((o28 j (by omega)).trans ((o24 j (by omega)).trans ((o21 j (by omega)).trans ((o17 j (by omega)).trans ((o14 j (by omega)).trans ((o10 j (by omega)).trans ((o7 j (by omega)).trans (o3 j (by omega)))))))))))))))))))))))))))))))))))⟩ (by omega) (Nat.le_of_ble_eq_true rfl) (Nat.le_of_ble_eq_true rfl)
theorem dX4_init_0 : decode cX4_init 0 = .ok (.aload_n 0, 1) := by decide +kernel
theorem dX4_init_1 : decode cX4_init 1 = .ok (.invokespecial 1, 3) := by decide +kernel
theorem dX4_init_4 : decode cX4_init 4 = .ok (.aload_n 0, 1) := by decide +kernel
theorem dX4_init_5 : decode cX4_init 5 = .ok (.bipush 8, 2) := by decide +kernel
theorem dX4_init_7 : decode cX4_init 7 = .ok (.newarray .int, 2) := by decide +kernel
theorem dX4_init_9 : decode cX4_init 9 = .ok (.putfield 9, 3) := by decide +kernel
theorem dX4_init_12 : decode cX4_init 12 = .ok (.aload_n 0, 1) := by decide +kernel
theorem dX4_init_13 : decode cX4_init 13 = .ok (.bipush 8, 2) := by decide +kernel
theorem dX4_init_15 : decode cX4_init 15 = .ok (.newarray .int, 2) := by decide +kernel
theorem dX4_init_17 : decode cX4_init 17 = .ok (.putfield 13, 3) := by decide +kernel
theorem dX4_init_20 : decode cX4_init 20 = .ok (.aload_n 0, 1) := by decide +kernel
theorem dX4_init_21 : decode cX4_init 21 = .ok (.bipush 8, 2) := by decide +kernel
theorem dX4_init_23 : decode cX4_init 23 = .ok (.newarray .int, 2) := by decide +kernel
theorem dX4_init_25 : decode cX4_init 25 = .ok (.putfield 16, 3) := by decide +kernel
theorem dX4_init_28 : decode cX4_init 28 = .ok (.aload_n 0, 1) := by decide +kernel
theorem dX4_init_29 : decode cX4_init 29 = .ok (.iconst 4, 1) := by decide +kernel
theorem dX4_init_30 : decode cX4_init 30 = .ok (.newarray .int, 2) := by decide +kernel
theorem dX4_init_32 : decode cX4_init 32 = .ok (.putfield 19, 3) := by decide +kernel
theorem dX4_init_35 : decode cX4_init 35 = .ok (.aload_n 0, 1) := by decide +kernel
theorem dX4_init_36 : decode cX4_init 36 = .ok (.bipush 6, 2) := by decide +kernel
theorem dX4_init_38 : decode cX4_init 38 = .ok (.newarray .int, 2) := by decide +kernel
theorem dX4_init_40 : decode cX4_init 40 = .ok (.putfield 24, 3) := by decide +kernel
theorem dX4_init_43 : decode cX4_init 43 = .ok (.aload_n 0, 1) := by decide +kernel
theorem dX4_init_44 : decode cX4_init 44 = .ok (.bipush 6, 2) := by decide +kernel
theorem dX4_init_46 : decode cX4_init 46 = .ok (.newarray .int, 2) := by decide +kernel
theorem dX4_init_48 : decode cX4_init 48 = .ok (.putfield 27, 3) := by decide +kernel
theorem dX4_init_51 : decode cX4_init 51 = .ok (.aload_n 0, 1) := by decide +kernel
theorem dX4_init_52 : decode cX4_init 52 = .ok (.bipush 6, 2) := by decide +kernel
theorem dX4_init_54 : decode cX4_init 54 = .ok (.newarray .int, 2) := by decide +kernel
theorem dX4_init_56 : decode cX4_init 56 = .ok (.putfield 30, 3) := by decide +kernel
theorem dX4_init_59 : decode cX4_init 59 = .ok (.aload_n 0, 1) := by decide +kernel
theorem dX4_init_60 : decode cX4_init 60 = .ok (.bipush 48, 2) := by decide +kernel
theorem dX4_init_62 : decode cX4_init 62 = .ok (.newarray .int, 2) := by decide +kernel
theorem dX4_init_64 : decode cX4_init 64 = .ok (.putfield 33, 3) := by decide +kernel
theorem dX4_init_67 : decode cX4_init 67 = .ok (.aload_n 0, 1) := by decide +kernel
theorem dX4_init_68 : decode cX4_init 68 = .ok (.iconst 4, 1) := by decide +kernel
theorem dX4_init_69 : decode cX4_init 69 = .ok (.newarray .long, 2) := by decide +kernel
theorem dX4_init_71 : decode cX4_init 71 = .ok (.putfield 36, 3) := by decide +kernel
theorem dX4_init_74 : decode cX4_init 74 = .ok (.aload_n 0, 1) := by decide +kernel
theorem dX4_init_75 : decode cX4_init 75 = .ok (.iload_n 1, 1) := by decide +kernel
theorem dX4_init_76 : decode cX4_init 76 = .ok (.putfield 40, 3) := by decide +kernel
theorem dX4_init_79 : decode cX4_init 79 = .ok (.return_, 1) := by decide +kernel
set_option maxRecDepth 10000 in
set_option maxHeartbeats 4000000 in
/-- Part(k) -/
theorem C_X4_init (a n : Nat) (k : Int32) (h : mj_H) (ha : a < n) (hn : n + 9 < 1000000) (e0 : h a = .inr (4, [.int 0, .int 0, .int 0, .int 0, .int 0, .int 0, .int 0, .null, .null, .null, .int 0, .null, .null, .null, .null, .null, .null])) : mj_C yX4_init cX4_init 2 none 1 9 98 [.ref a, .int k] h n (fun v h' => v = none ∧ h' a = .inr (4, [.int k, .int 0, .int 0, .int 0, .int 0, .int 0, .int 0, .ref n, .ref (n + 1), .ref (n + 2), .int 0, .ref (n + 3), .ref (n + 4), .ref (n + 5), .ref (n + 6), .ref (n + 7), .ref (n + 8)]) ∧ h' n = .inl (1, 8, .inl ((fun _ => 0))) ∧ h' (n + 1) = .inl (1, 8, .inl ((fun _ => 0))) ∧ h' (n + 2) = .inl (1, 8, .inl ((fun _ => 0))) ∧ h' (n + 3) = .inl (1, 4, .inl ((fun _ => 0))) ∧ h' (n + 4) = .inl (1, 6, .inl ((fun _ => 0))) ∧ h' (n + 5) = .inl (1, 6, .inl ((fun _ => 0))) ∧ h' (n + 6) = .inl (1, 6, .inl ((fun _ => 0))) ∧ h' (n + 7) = .inl (1, 48, .inl ((fun _ => 0))) ∧ h' (n + 8) = .inl (2, 4, .inr (.inl ((fun _ => 0)))) ∧ ∀ j, j < n → j ≠ a → h' j = h j) := by
  refine mj_C.of (by decide +kernel) (Nat.le_of_ble_eq_true rfl) ?_
  intro D cy ad bs X
  refine mj_aload_n dX4_init_0 0 rfl ?_
  refine mj_objInit dX4_init_1 ML_X4_1 OI_i OI_c (by decide) (Nat.le_of_ble_eq_true rfl) ?_
  refine mj_aload_n dX4_init_4 0 rfl ?_
  refine mj_bipush (v := 8) dX4_init_5 (by decide) ?_
  refine mj_newIA (N := 8) dX4_init_7 AC_int (by decide) (by decide) (Nat.le_of_ble_eq_true rfl) (by omega) (Nat.le_of_ble_eq_true rfl) (Nat.le_of_ble_eq_true rfl) (fun h1 q2 o3 => ?_)
  have e4 : h1 a = .inr (4, [.int 0, .int 0, .int 0, .int 0, .int 0, .int 0, .int 0, .null, .null, .null, .int 0, .null, .null, .null, .null, .null, .null]) := (o3 _ (by omega)).trans (e0)
  refine mj_putFA dX4_init_9 F_X4_9 (by omega) e4 rfl (Nat.le_of_ble_eq_true rfl) rfl rfl (fun h5 q6 o7 => ?_)
  replace q6 : h5 a = .inr (4, [.int 0, .int 0, .int 0, .int 0, .int 0, .int 0, .int 0, .ref n, .null, .null, .int 0, .null, .null, .null, .null, .null, .null]) := q6
  refine mj_aload_n dX4_init_12 0 rfl ?_
  refine mj_bipush (v := 8) dX4_init_13 (by decide) ?_
  refine mj_newIA (N := 8) dX4_init_15 AC_int (by decide) (by decide) (Nat.le_of_ble_eq_true rfl) (by omega) (Nat.le_of_ble_eq_true rfl) (Nat.le_of_ble_eq_true rfl) (fun h8 q9 o10 => ?_)
  have e11 : h8 a = .inr (4, [.int 0, .int 0, .int 0, .int 0, .int 0, .int 0, .int 0, .ref n, .null, .null, .int 0, .null, .null, .null, .null, .null, .null]) := (o10 _ (by omega)).trans (q6)
  refine mj_putFA dX4_init_17 F_X4_13 (by omega) e11 rfl (Nat.le_of_ble_eq_true rfl) rfl rfl (fun h12 q13 o14 => ?_)
  replace q13 : h12 a = .inr (4, [.int 0, .int 0, .int 0, .int 0, .int 0, .int 0, .int 0, .ref n, .ref (n + 1), .null, .int 0, .null, .null, .null, .null, .null, .null]) := q13
  refine mj_aload_n dX4_init_20 0 rfl ?_
  refine mj_bipush (v := 8) dX4_init_21 (by decide) ?_
  refine mj_newIA (N := 8) dX4_init_23 AC_int (by decide) (by decide) (Nat.le_of_ble_eq_true rfl) (by omega) (Nat.le_of_ble_eq_true rfl) (Nat.le_of_ble_eq_true rfl) (fun h15 q16 o17 => ?_)
  have e18 : h15 a = .inr (4, [.int 0, .int 0, .int 0, .int 0, .int 0, .int 0, .int 0, .ref n, .ref (n + 1), .null, .int 0, .null, .null, .null, .null, .null, .null]) := (o17 _ (by omega)).trans (q13)
  refine mj_putFA dX4_init_25 F_X4_16 (by omega) e18 rfl (Nat.le_of_ble_eq_true rfl) rfl rfl (fun h19 q20 o21 => ?_)
  replace q20 : h19 a = .inr (4, [.int 0, .int 0, .int 0, .int 0, .int 0, .int 0, .int 0, .ref n, .ref (n + 1), .ref (n + 2), .int 0, .null, .null, .null, .null, .null, .null]) := q20
  refine mj_aload_n dX4_init_28 0 rfl ?_
  refine mj_iconst (v := 4) dX4_init_29 (by decide) ?_
  refine mj_newIA (N := 4) dX4_init_30 AC_int (by decide) (by decide) (Nat.le_of_ble_eq_true rfl) (by omega) (Nat.le_of_ble_eq_true rfl) (Nat.le_of_ble_eq_true rfl) (fun h22 q23 o24 => ?_)
  have e25 : h22 a = .inr (4, [.int 0, .int 0, .int 0, .int 0, .int 0, .int 0, .int 0, .ref n, .ref (n + 1), .ref (n + 2), .int 0, .null, .null, .null, .null, .null, .null]) := (o24 _ (by omega)).trans (q20)
  refine mj_putFA dX4_init_32 F_X4_19 (by omega) e25 rfl (Nat.le_of_ble_eq_true rfl) rfl rfl (fun h26 q27 o28 => ?_)
  replace q27 : h26 a = .inr (4, [.int 0, .int 0, .int 0, .int 0, .int 0, .int 0, .int 0, .ref n, .ref (n + 1), .ref (n + 2), .int 0, .ref (n + 3), .null, .null, .null, .null, .null]) := q27
  refine mj_aload_n dX4_init_35 0 rfl ?_
  refine mj_bipush (v := 6) dX4_init_36 (by decide) ?_
  refine mj_newIA (N := 6) dX4_init_38 AC_int (by decide) (by decide) (Nat.le_of_ble_eq_true rfl) (by omega) (Nat.le_of_ble_eq_true rfl) (Nat.le_of_ble_eq_true rfl) (fun h29 q30 o31 => ?_)
  have e32 : h29 a = .inr (4, [.int 0, .int 0, .int 0, .int 0, .int 0, .int 0, .int 0, .ref n, .ref (n + 1), .ref (n + 2), .int 0, .ref (n + 3), .null, .null, .null, .null, .null]) := (o31 _ (by omega)).trans (q27)
  refine mj_putFA dX4_init_40 F_X4_24 (by omega) e32 rfl (Nat.le_of_ble_eq_true rfl) rfl rfl (fun h33 q34 o35 => ?_)
  replace q34 : h33 a = .inr (4, [.int 0, .int 0, .int 0, .int 0, .int 0, .int 0, .int 0, .ref n, .ref (n + 1), .ref (n + 2), .int 0, .ref (n + 3), .ref (n + 4), .null, .null, .null, .null]) := q34
  refine mj_aload_n dX4_init_43 0 rfl ?_
  refine mj_bipush (v := 6) dX4_init_44 (by decide) ?_
  refine mj_newIA (N := 6) dX4_init_46 AC_int (by decide) (by decide) (Nat.le_of_ble_eq_true rfl) (by omega) (Nat.le_of_ble_eq_true rfl) (Nat.le_of_ble_eq_true rfl) (fun h36 q37 o38 => ?_)
  have e39 : h36 a = .inr (4, [.int 0, .int 0, .int 0, .int 0, .int 0, .int 0, .int 0, .ref n, .ref (n + 1), .ref (n + 2), .int 0, .ref (n + 3), .ref (n + 4), .null, .null, .null, .null]) := (o38 _ (by omega)).trans (q34)
  refine mj_putFA dX4_init_48 F_X4_27 (by omega) e39 rfl (Nat.le_of_ble_eq_true rfl) rfl rfl (fun h40 q41 o42 => ?_)
  replace q41 : h40 a = .inr (4, [.int 0, .int 0, .int 0, .int 0, .int 0, .int 0, .int 0, .ref n, .ref (n + 1), .ref (n + 2), .int 0, .ref (n + 3), .ref (n + 4), .ref (n + 5), .null, .null, .null]) := q41
  refine mj_aload_n dX4_init_51 0 rfl ?_
  refine mj_bipush (v := 6) dX4_init_52 (by decide) ?_
  refine mj_newIA (N := 6) dX4_init_54 AC_int (by decide) (by decide) (Nat.le_of_ble_eq_true rfl) (by omega) (Nat.le_of_ble_eq_true rfl) (Nat.le_of_ble_eq_true rfl) (fun h43 q44 o45 => ?_)
  have e46 : h43 a = .inr (4, [.int 0, .int 0, .int 0, .int 0, .int 0, .int 0, .int 0, .ref n, .ref (n + 1), .ref (n + 2), .int 0, .ref (n + 3), .ref (n + 4), .ref (n + 5), .null, .null, .null]) := (o45 _ (by omega)).trans (q41)
  refine mj_putFA dX4_init_56 F_X4_30 (by omega) e46 rfl (Nat.le_of_ble_eq_true rfl) rfl rfl (fun h47 q48 o49 => ?_)
  replace q48 : h47 a = .inr (4, [.int 0, .int 0, .int 0, .int 0, .int 0, .int 0, .int 0, .ref n, .ref (n + 1), .ref (n + 2), .int 0, .ref (n + 3), .ref (n + 4), .ref (n + 5), .ref (n + 6), .null, .null]) := q48
  refine mj_aload_n dX4_init_59 0 rfl ?_
  refine mj_bipush (v := 48) dX4_init_60 (by decide) ?_
  refine mj_newIA (N := 48) dX4_init_62 AC_int (by decide) (by decide) (Nat.le_of_ble_eq_true rfl) (by omega) (Nat.le_of_ble_eq_true rfl) (Nat.le_of_ble_eq_true rfl) (fun h50 q51 o52 => ?_)
  have e53 : h50 a = .inr (4, [.int 0, .int 0, .int 0, .int 0, .int 0, .int 0, .int 0, .ref n, .ref (n + 1), .ref (n + 2), .int 0, .ref (n + 3), .ref (n + 4), .ref (n + 5), .ref (n + 6), .null, .null]) := (o52 _ (by omega)).trans (q48)
  refine mj_putFA dX4_init_64 F_X4_33 (by omega) e53 rfl (Nat.le_of_ble_eq_true rfl) rfl rfl (fun h54 q55 o56 => ?_)
  replace q55 : h54 a = .inr (4, [.int 0, .int 0, .int 0, .int 0, .int 0, .int 0, .int 0, .ref n, .ref (n + 1), .ref (n + 2), .int 0, .ref (n + 3), .ref (n + 4), .ref (n + 5), .ref (n + 6), .ref (n + 7), .null]) := q55
  refine mj_aload_n dX4_init_67 0 rfl ?_
  refine mj_iconst (v := 4) dX4_init_68 (by decide) ?_
  refine mj_newJA (N := 4) dX4_init_69 AC_long (by decide) (by decide) (Nat.le_of_ble_eq_true rfl) (by omega) (Nat.le_of_ble_eq_true rfl) (Nat.le_of_ble_eq_true rfl) (fun h57 q58 o59 => ?_)
  have e60 : h57 a = .inr (4, [.int 0, .int 0, .int 0, .int 0, .int 0, .int 0, .int 0, .ref n, .ref (n + 1), .ref (n + 2), .int 0, .ref (n + 3), .ref (n + 4), .ref (n + 5), .ref (n + 6), .ref (n + 7), .null]) := (o59 _ (by omega)).trans (q55)
  refine mj_putFA dX4_init_71 F_X4_36 (by omega) e60 rfl (Nat.le_of_ble_eq_true rfl) rfl rfl (fun h61 q62 o63 => ?_)
  replace q62 : h61 a = .inr (4, [.int 0, .int 0, .int 0, .int 0, .int 0, .int 0, .int 0, .ref n, .ref (n + 1), .ref (n + 2), .int 0, .ref (n + 3), .ref (n + 4), .ref (n + 5), .ref (n + 6), .ref (n + 7), .ref (n + 8)]) := q62
  refine mj_aload_n dX4_init_74 0 rfl ?_
  refine mj_iload_n dX4_init_75 1 rfl ?_
  refine mj_putFA dX4_init_76 F_X4_40 (by omega) q62 rfl (Nat.le_of_ble_eq_true rfl) rfl rfl (fun h64 q65 o66 => ?_)
  replace q65 : h64 a = .inr (4, [.int k, .int 0, .int 0, .int 0, .int 0, .int 0, .int 0, .ref n, .ref (n + 1), .ref (n + 2), .int 0, .ref (n + 3), .ref (n + 4), .ref (n + 5), .ref (n + 6), .ref (n + 7), .ref (n + 8)]) := q65
  have e67 : h64 n = .inl (1, 8, .inl ((fun _ => 0))) := (o66 _ (by omega)).trans ((o63 _ (by omega)).trans ((o59 _ (by omega)).trans ((o56 _ (by omega)).trans ((o52 _ (by omega)).trans ((o49 _ (by omega)).trans ((o45 _ (by omega)).trans ((o42 _ (by omega)).trans ((o38 _ (by omega)).trans ((o35 _ (by omega)).trans ((o31 _ (by omega)).trans ((o28 _ (by omega)).trans ((o24 _ (by omega)).trans ((o21 _ (by omega)).trans ((o17 _ (by omega)).trans ((o14 _ (by omega)).trans ((o10 _ (by omega)).trans ((o7 _ (by omega)).trans (q2))))))))))))))))))
  have e68 : h64 (n + 1) = .inl (1, 8, .inl ((fun _ => 0))) := (o66 _ (by omega)).trans ((o63 _ (by omega)).trans ((o59 _ (by omega)).trans ((o56 _ (by omega)).trans ((o52 _ (by omega)).trans ((o49 _ (by omega)).trans ((o45 _ (by omega)).trans ((o42 _ (by omega)).trans ((o38 _ (by omega)).trans ((o35 _ (by omega)).trans ((o31 _ (by omega)).trans ((o28 _ (by omega)).trans ((o24 _ (by omega)).trans ((o21 _ (by omega)).trans ((o17 _ (by omega)).trans ((o14 _ (by omega)).trans (q9))))))))))))))))
  have e69 : h64 (n + 2) = .inl (1, 8, .inl ((fun _ => 0))) := (o66 _ (by omega)).trans ((o63 _ (by omega)).trans ((o59 _ (by omega)).trans ((o56 _ (by omega)).trans ((o52 _ (by omega)).trans ((o49 _ (by omega)).trans ((o45 _ (by omega)).trans ((o42 _ (by omega)).trans ((o38 _ (by omega)).trans ((o35 _ (by omega)).trans ((o31 _ (by omega)).trans ((o28 _ (by omega)).trans ((o24 _ (by omega)).trans ((o21 _ (by omega)).trans (q16))))))))))))))
  have e70 : h64 (n + 3) = .inl (1, 4, .inl ((fun _ => 0))) := (o66 _ (by omega)).trans ((o63 _ (by omega)).trans ((o59 _ (by omega)).trans ((o56 _ (by omega)).trans ((o52 _ (by omega)).trans ((o49 _ (by omega)).trans ((o45 _ (by omega)).trans ((o42 _ (by omega)).trans ((o38 _ (by omega)).trans ((o35 _ (by omega)).trans ((o31 _ (by omega)).trans ((o28 _ (by omega)).trans (q23))))))))))))
  have e71 : h64 (n + 4) = .inl (1, 6, .inl ((fun _ => 0))) := (o66 _ (by omega)).trans ((o63 _ (by omega)).trans ((o59 _ (by omega)).trans ((o56 _ (by omega)).trans ((o52 _ (by omega)).trans ((o49 _ (by omega)).trans ((o45 _ (by omega)).trans ((o42 _ (by omega)).trans ((o38 _ (by omega)).trans ((o35 _ (by omega)).trans (q30))))))))))
  have e72 : h64 (n + 5) = .inl (1, 6, .inl ((fun _ => 0))) := (o66 _ (by omega)).trans ((o63 _ (by omega)).trans ((o59 _ (by omega)).trans ((o56 _ (by omega)).trans ((o52 _ (by omega)).trans ((o49 _ (by omega)).trans ((o45 _ (by omega)).trans ((o42 _ (by omega)).trans (q37))))))))
  have e73 : h64 (n + 6) = .inl (1, 6, .inl ((fun _ => 0))) := (o66 _ (by omega)).trans ((o63 _ (by omega)).trans ((o59 _ (by omega)).trans ((o56 _ (by omega)).trans ((o52 _ (by omega)).trans ((o49 _ (by omega)).trans (q44))))))
  have e74 : h64 (n + 7) = .inl (1, 48, .inl ((fun _ => 0))) := (o66 _ (by omega)).trans ((o63 _ (by omega)).trans ((o59 _ (by omega)).trans ((o56 _ (by omega)).trans (q51))))
  have e75 : h64 (n + 8) = .inl (2, 4, .inr (.inl ((fun _ => 0)))) := (o66 _ (by omega)).trans ((o63 _ (by omega)).trans (q58))
  exact mj_vret dX4_init_79 rfl ⟨rfl, q65, e67, e68, e69, e70, e71, e72, e73, e74, e75, fun j hj1 hj2 => ((o66 j (by omega)).trans ((o63 j (by omega)).trans ((o59 j (by omega)).trans ((o56 j (by omega)).trans ((o52 j (by omega)).trans ((o49 j (by omega)).trans ((o45 j (by omega)).trans ((o42 j (by omega)).trans ((o38 j (by omega)).trans ((o35 j (by omega)).trans ((o31 j (by omega)).trans ((o28 j (by omega)).trans ((o24 j (by omega)).trans ((o21 j (by omega)).trans ((o17 j (by omega)).trans ((o14 j (by omega)).trans ((o10 j (by omega)).trans ((o7 j (by omega)).trans (o3 j (by omega))))))))))))))))))))⟩ (by omega) (Nat.le_of_ble_eq_true rfl) (Nat.le_of_ble_eq_true rfl)
theorem dX5_init_0 : decode cX5_init 0 = .ok (.aload_n 0, 1) := by decide +kernel
theorem dX5_init_1 : decode cX5_init 1 = .ok (.invokespecial 1, 3) := by decide +kernel
theorem dX5_init_4 : decode cX5_init 4 = .ok (.aload_n 0, 1) := by decide +kernel
theorem dX5_init_5 : decode cX5_init 5 = .ok (.bipush 8, 2) := by decide +kernel
theorem dX5_init_7 : decode cX5_init 7 = .ok (.newarray .int, 2) := by decide +kernel
theorem dX5_init_9 : decode cX5_init 9 = .ok (.putfield 9, 3) := by decide +kernel
theorem dX5_init_12 : decode cX5_init 12 = .ok (.aload_n 0, 1) := by decide +kernel
theorem dX5_init_13 : decode cX5_init 13 = .ok (.bipush 48, 2) := by decide +kernel
theorem dX5_init_15 : decode cX5_init 15 = .ok (.newarray .int, 2) := by decide +kernel
theorem dX5_init_17 : decode cX5_init 17 = .ok (.putfield 13, 3) := by decide +kernel
theorem dX5_init_20 : decode cX5_init 20 = .ok (.aload_n 0, 1) := by decide +kernel
theorem dX5_init_21 : decode cX5_init 21 = .ok (.bipush 8, 2) := by decide +kernel
theorem dX5_init_23 : decode cX5_init 23 = .ok (.newarray .int, 2) := by decide +kernel
theorem dX5_init_25 : decode cX5_init 25 = .ok (.putfield 16, 3) := by decide +kernel
theorem dX5_init_28 : decode cX5_init 28 = .ok (.aload_n 0, 1) := by decide +kernel
theorem dX5_init_29 : decode cX5_init 29 = .ok (.bipush 32, 2) := by decide +kernel
theorem dX5_init_31 : decode cX5_init 31 = .ok (.newarray .int, 2) := by decide +kernel
theorem dX5_init_33 : decode cX5_init 33 = .ok (.putfield 19, 3) := by decide +kernel
theorem dX5_init_36 : decode cX5_init 36 = .ok (.aload_n 0, 1) := by decide +kernel
theorem dX5_init_37 : decode cX5_init 37 = .ok (.bipush 8, 2) := by decide +kernel
theorem dX5_init_39 : decode cX5_init 39 = .ok (.newarray .int, 2) := by decide +kernel
theorem dX5_init_41 : decode cX5_init 41 = .ok (.putfield 22, 3) := by decide +kernel
theorem dX5_init_44 : decode cX5_init 44 = .ok (.aload_n 0, 1) := by decide +kernel
theorem dX5_init_45 : decode cX5_init 45 = .ok (.bipush 64, 2) := by decide +kernel
theorem dX5_init_47 : decode cX5_init 47 = .ok (.newarray .int, 2) := by decide +kernel
theorem dX5_init_49 : decode cX5_init 49 = .ok (.putfield 25, 3) := by decide +kernel
theorem dX5_init_52 : decode cX5_init 52 = .ok (.aload_n 0, 1) := by decide +kernel
theorem dX5_init_53 : decode cX5_init 53 = .ok (.bipush 64, 2) := by decide +kernel
theorem dX5_init_55 : decode cX5_init 55 = .ok (.newarray .int, 2) := by decide +kernel
theorem dX5_init_57 : decode cX5_init 57 = .ok (.putfield 28, 3) := by decide +kernel
theorem dX5_init_60 : decode cX5_init 60 = .ok (.aload_n 0, 1) := by decide +kernel
theorem dX5_init_61 : decode cX5_init 61 = .ok (.bipush 64, 2) := by decide +kernel
theorem dX5_init_63 : decode cX5_init 63 = .ok (.newarray .int, 2) := by decide +kernel
theorem dX5_init_65 : decode cX5_init 65 = .ok (.putfield 31, 3) := by decide +kernel
theorem dX5_init_68 : decode cX5_init 68 = .ok (.aload_n 0, 1) := by decide +kernel
theorem dX5_init_69 : decode cX5_init 69 = .ok (.bipush 40, 2) := by decide +kernel
theorem dX5_init_71 : decode cX5_init 71 = .ok (.newarray .int, 2) := by decide +kernel
theorem dX5_init_73 : decode cX5_init 73 = .ok (.putfield 34, 3) := by decide +kernel
theorem dX5_init_76 : decode cX5_init 76 = .ok (.aload_n 0, 1) := by decide +kernel
theorem dX5_init_77 : decode cX5_init 77 = .ok (.bipush 40, 2) := by decide +kernel
theorem dX5_init_79 : decode cX5_init 79 = .ok (.newarray .int, 2) := by decide +kernel
theorem dX5_init_81 : decode cX5_init 81 = .ok (.putfield 37, 3) := by decide +kernel
theorem dX5_init_84 : decode cX5_init 84 = .ok (.aload_n 0, 1) := by decide +kernel
theorem dX5_init_85 : decode cX5_init 85 = .ok (.bipush 40, 2) := by decide +kernel
theorem dX5_init_87 : decode cX5_init 87 = .ok (.newarray .int, 2) := by decide +kernel
theorem dX5_init_89 : decode cX5_init 89 = .ok (.putfield 40, 3) := by decide +kernel
theorem dX5_init_92 : decode cX5_init 92 = .ok (.aload_n 0, 1) := by decide +kernel
theorem dX5_init_93 : decode cX5_init 93 = .ok (.bipush 40, 2) := by decide +kernel
theorem dX5_init_95 : decode cX5_init 95 = .ok (.newarray .int, 2) := by decide +kernel
theorem dX5_init_97 : decode cX5_init 97 = .ok (.putfield 43, 3) := by decide +kernel
theorem dX5_init_100 : decode cX5_init 100 = .ok (.aload_n 0, 1) := by decide +kernel
theorem dX5_init_101 : decode cX5_init 101 = .ok (.bipush 40, 2) := by decide +kernel
theorem dX5_init_103 : decode cX5_init 103 = .ok (.newarray .int, 2) := by decide +kernel
theorem dX5_init_105 : decode cX5_init 105 = .ok (.putfield 46, 3) := by decide +kernel
theorem dX5_init_108 : decode cX5_init 108 = .ok (.aload_n 0, 1) := by decide +kernel
theorem dX5_init_109 : decode cX5_init 109 = .ok (.sipush 320, 3) := by decide +kernel
theorem dX5_init_112 : decode cX5_init 112 = .ok (.newarray .int, 2) := by decide +kernel
theorem dX5_init_114 : decode cX5_init 114 = .ok (.putfield 49, 3) := by decide +kernel
theorem dX5_init_117 : decode cX5_init 117 = .ok (.aload_n 0, 1) := by decide +kernel
theorem dX5_init_118 : decode cX5_init 118 = .ok (.sipush 320, 3) := by decide +kernel
theorem dX5_init_121 : decode cX5_init 121 = .ok (.newarray .int, 2) := by decide +kernel
theorem dX5_init_123 : decode cX5_init 123 = .ok (.putfield 52, 3) := by decide +kernel
theorem dX5_init_126 : decode cX5_init 126 = .ok (.aload_n 0, 1) := by decide +kernel
theorem dX5_init_127 : decode cX5_init 127 = .ok (.sipush 400, 3) := by decide +kernel
theorem dX5_init_130 : decode cX5_init 130 = .ok (.bipush 12, 2) := by decide +kernel
theorem dX5_init_132 : decode cX5_init 132 = .ok (.multianewarray 55 2, 4) := by decide +kernel
theorem dX5_init_136 : decode cX5_init 136 = .ok (.putfield 57, 3) := by decide +kernel
theorem dX5_init_139 : decode cX5_init 139 = .ok (.return_, 1) := by decide +kernel
set_option maxRecDepth 10000 in
set_option maxHeartbeats 4000000 in
/-- Plan() -/
theorem C_X5_init (a n : Nat) (h : mj_H) (ha : a < n) (hn : n + 416 < 1000000) (e0 : h a = .inr (5, [.int 0, .null, .null, .null, .null, .null, .null, .null, .null, .int 0, .null, .null, .null, .null, .null, .null, .null, .null, .int 0])) : mj_C yX5_init cX5_init 1 none 1 416 6336 [.ref a] h n (fun v h' => v = none ∧ h' a = .inr (5, [.int 0, .ref n, .ref (n + 1), .ref (n + 2), .ref (n + 3), .ref (n + 4), .ref (n + 5), .ref (n + 6), .ref (n + 7), .int 0, .ref (n + 8), .ref (n + 9), .ref (n + 10), .ref (n + 11), .ref (n + 12), .ref (n + 13), .ref (n + 14), .ref (n + 15), .int 0]) ∧ h' n = .inl (1, 8, .inl ((fun _ => 0))) ∧ h' (n + 1) = .inl (1, 48, .inl ((fun _ => 0))) ∧ h' (n + 2) = .inl (1, 8, .inl ((fun _ => 0))) ∧ h' (n + 3) = .inl (1, 32, .inl ((fun _ => 0))) ∧ h' (n + 4) = .inl (1, 8, .inl ((fun _ => 0))) ∧ h' (n + 5) = .inl (1, 64, .inl ((fun _ => 0))) ∧ h' (n + 6) = .inl (1, 64, .inl ((fun _ => 0))) ∧ h' (n + 7) = .inl (1, 64, .inl ((fun _ => 0))) ∧ h' (n + 8) = .inl (1, 40, .inl ((fun _ => 0))) ∧ h' (n + 9) = .inl (1, 40, .inl ((fun _ => 0))) ∧ h' (n + 10) = .inl (1, 40, .inl ((fun _ => 0))) ∧ h' (n + 11) = .inl (1, 40, .inl ((fun _ => 0))) ∧ h' (n + 12) = .inl (1, 40, .inl ((fun _ => 0))) ∧ h' (n + 13) = .inl (1, 320, .inl ((fun _ => 0))) ∧ h' (n + 14) = .inl (1, 320, .inl ((fun _ => 0))) ∧ h' (n + 15) = .inl (5, 400, .inr (.inr (.inr (.inr (fun i => if i < 400 then some (n + 15 + 1 + i) else none))))) ∧ (∀ i, i < 400 → h' (n + 16 + i) = .inl (1, 12, .inl (fun _ => 0))) ∧ ∀ j, j < n → j ≠ a → h' j = h j) := by
  refine mj_C.of (by decide +kernel) (Nat.le_of_ble_eq_true rfl) ?_
  intro D cy ad bs X
  refine mj_aload_n dX5_init_0 0 rfl ?_
  refine mj_objInit dX5_init_1 ML_X5_1 OI_i OI_c (by decide) (Nat.le_of_ble_eq_true rfl) ?_
  refine mj_aload_n dX5_init_4 0 rfl ?_
  refine mj_bipush (v := 8) dX5_init_5 (by decide) ?_
  refine mj_newIA (N := 8) dX5_init_7 AC_int (by decide) (by decide) (Nat.le_of_ble_eq_true rfl) (by omega) (Nat.le_of_ble_eq_true rfl) (Nat.le_of_ble_eq_true rfl) (fun h1 q2 o3 => ?_)
  have e4 : h1 a = .inr (5, [.int 0, .null, .null, .null, .null, .null, .null, .null, .null, .int 0, .null, .null, .null, .null, .null, .null, .null, .null, .int 0]) := (o3 _ (by omega)).trans (e0)
  refine mj_putFA dX5_init_9 F_X5_9 (by omega) e4 rfl (Nat.le_of_ble_eq_true rfl) rfl rfl (fun h5 q6 o7 => ?_)
  replace q6 : h5 a = .inr (5, [.int 0, .ref n, .null, .null, .null, .null, .null, .null, .null, .int 0, .null, .null, .null, .null, .null, .null, .null, .null, .int 0]) := q6
  refine mj_aload_n dX5_init_12 0 rfl ?_
  refine mj_bipush (v := 48) dX5_init_13 (by decide) ?_
  refine mj_newIA (N := 48) dX5_init_15 AC_int (by decide) (by decide) (Nat.le_of_ble_eq_true rfl) (by omega) (Nat.le_of_ble_eq_true rfl) (Nat.le_of_ble_eq_true rfl) (fun h8 q9 o10 => ?_)
  have e11 : h8 a = .inr (5, [.int 0, .ref n, .null, .null, .null, .null, .null, .null, .null, .int 0, .null, .null, .null, .null, .null, .null, .null, .null, .int 0]) := (o10 _ (by omega)).trans (q6)
  refine mj_putFA dX5_init_17 F_X5_13 (by omega) e11 rfl (Nat.le_of_ble_eq_true rfl) rfl rfl (fun h12 q13 o14 => ?_)
  replace q13 : h12 a = .inr (5, [.int 0, .ref n, .ref (n + 1), .null, .null, .null, .null, .null, .null, .int 0, .null, .null, .null, .null, .null, .null, .null, .null, .int 0]) := q13
  refine mj_aload_n dX5_init_20 0 rfl ?_
  refine mj_bipush (v := 8) dX5_init_21 (by decide) ?_
  refine mj_newIA (N := 8) dX5_init_23 AC_int (by decide) (by decide) (Nat.le_of_ble_eq_true rfl) (by omega) (Nat.le_of_ble_eq_true rfl) (Nat.le_of_ble_eq_true rfl) (fun h15 q16 o17 => ?_)
  have e18 : h15 a = .inr (5, [.int 0, .ref n, .ref (n + 1), .null, .null, .null, .null, .null, .null, .int 0, .null, .null, .null, .null, .null, .null, .null, .null, .int 0]) := (o17 _ (by omega)).trans (q13)
  refine mj_putFA dX5_init_25 F_X5_16 (by omega) e18 rfl (Nat.le_of_ble_eq_true rfl) rfl rfl (fun h19 q20 o21 => ?_)
  replace q20 : h19 a = .inr (5, [.int 0, .ref n, .ref (n + 1), .ref (n + 2), .null, .null, .null, .null, .null, .int 0, .null, .null, .null, .null, .null, .null, .null, .null, .int 0]) := q20
  refine mj_aload_n dX5_init_28 0 rfl ?_
  refine mj_bipush (v := 32) dX5_init_29 (by decide) ?_
  refine mj_newIA (N := 32) dX5_init_31 AC_int (by decide) (by decide) (Nat.le_of_ble_eq_true rfl) (by omega) (Nat.le_of_ble_eq_true rfl) (Nat.le_of_ble_eq_true rfl) (fun h22 q23 o24 => ?_)
  have e25 : h22 a = .inr (5, [.int 0, .ref n, .ref (n + 1), .ref (n + 2), .null, .null, .null, .null, .null, .int 0, .null, .null, .null, .null, .null, .null, .null, .null, .int 0]) := (o24 _ (by omega)).trans (q20)
  refine mj_putFA dX5_init_33 F_X5_19 (by omega) e25 rfl (Nat.le_of_ble_eq_true rfl) rfl rfl (fun h26 q27 o28 => ?_)
  replace q27 : h26 a = .inr (5, [.int 0, .ref n, .ref (n + 1), .ref (n + 2), .ref (n + 3), .null, .null, .null, .null, .int 0, .null, .null, .null, .null, .null, .null, .null, .null, .int 0]) := q27
  refine mj_aload_n dX5_init_36 0 rfl ?_
  refine mj_bipush (v := 8) dX5_init_37 (by decide) ?_
  refine mj_newIA (N := 8) dX5_init_39 AC_int (by decide) (by decide) (Nat.le_of_ble_eq_true rfl) (by omega) (Nat.le_of_ble_eq_true rfl) (Nat.le_of_ble_eq_true rfl) (fun h29 q30 o31 => ?_)
  have e32 : h29 a = .inr (5, [.int 0, .ref n, .ref (n + 1), .ref (n + 2), .ref (n + 3), .null, .null, .null, .null, .int 0, .null, .null, .null, .null, .null, .null, .null, .null, .int 0]) := (o31 _ (by omega)).trans (q27)
  refine mj_putFA dX5_init_41 F_X5_22 (by omega) e32 rfl (Nat.le_of_ble_eq_true rfl) rfl rfl (fun h33 q34 o35 => ?_)
  replace q34 : h33 a = .inr (5, [.int 0, .ref n, .ref (n + 1), .ref (n + 2), .ref (n + 3), .ref (n + 4), .null, .null, .null, .int 0, .null, .null, .null, .null, .null, .null, .null, .null, .int 0]) := q34
  refine mj_aload_n dX5_init_44 0 rfl ?_
  refine mj_bipush (v := 64) dX5_init_45 (by decide) ?_
  refine mj_newIA (N := 64) dX5_init_47 AC_int (by decide) (by decide) (Nat.le_of_ble_eq_true rfl) (by omega) (Nat.le_of_ble_eq_true rfl) (Nat.le_of_ble_eq_true rfl) (fun h36 q37 o38 => ?_)
  have e39 : h36 a = .inr (5, [.int 0, .ref n, .ref (n + 1), .ref (n + 2), .ref (n + 3), .ref (n + 4), .null, .null, .null, .int 0, .null, .null, .null, .null, .null, .null, .null, .null, .int 0]) := (o38 _ (by omega)).trans (q34)
  refine mj_putFA dX5_init_49 F_X5_25 (by omega) e39 rfl (Nat.le_of_ble_eq_true rfl) rfl rfl (fun h40 q41 o42 => ?_)
  replace q41 : h40 a = .inr (5, [.int 0, .ref n, .ref (n + 1), .ref (n + 2), .ref (n + 3), .ref (n + 4), .ref (n + 5), .null, .null, .int 0, .null, .null, .null, .null, .null, .null, .null, .null, .int 0]) := q41
  refine mj_aload_n dX5_init_52 0 rfl ?_
  refine mj_bipush (v := 64) dX5_init_53 (by decide) ?_
  refine mj_newIA (N := 64) dX5_init_55 AC_int (by decide) (by decide) (Nat.le_of_ble_eq_true rfl) (by omega) (Nat.le_of_ble_eq_true rfl) (Nat.le_of_ble_eq_true rfl) (fun h43 q44 o45 => ?_)
  have e46 : h43 a = .inr (5, [.int 0, .ref n, .ref (n + 1), .ref (n + 2), .ref (n + 3), .ref (n + 4), .ref (n + 5), .null, .null, .int 0, .null, .null, .null, .null, .null, .null, .null, .null, .int 0]) := (o45 _ (by omega)).trans (q41)
  refine mj_putFA dX5_init_57 F_X5_28 (by omega) e46 rfl (Nat.le_of_ble_eq_true rfl) rfl rfl (fun h47 q48 o49 => ?_)
  replace q48 : h47 a = .inr (5, [.int 0, .ref n, .ref (n + 1), .ref (n + 2), .ref (n + 3), .ref (n + 4), .ref (n + 5), .ref (n + 6), .null, .int 0, .null, .null, .null, .null, .null, .null, .null, .null, .int 0]) := q48
  refine mj_aload_n dX5_init_60 0 rfl ?_
  refine mj_bipush (v := 64) dX5_init_61 (by decide) ?_
  refine mj_newIA (N := 64) dX5_init_63 AC_int (by decide) (by decide) (Nat.le_of_ble_eq_true rfl) (by omega) (Nat.le_of_ble_eq_true rfl) (Nat.le_of_ble_eq_true rfl) (fun h50 q51 o52 => ?_)
  have e53 : h50 a = .inr (5, [.int 0, .ref n, .ref (n + 1), .ref (n + 2), .ref (n + 3), .ref (n + 4), .ref (n + 5), .ref (n + 6), .null, .int 0, .null, .null, .null, .null, .null, .null, .null, .null, .int 0]) := (o52 _ (by omega)).trans (q48)
  refine mj_putFA dX5_init_65 F_X5_31 (by omega) e53 rfl (Nat.le_of_ble_eq_true rfl) rfl rfl (fun h54 q55 o56 => ?_)
  replace q55 : h54 a = .inr (5, [.int 0, .ref n, .ref (n + 1), .ref (n + 2), .ref (n + 3), .ref (n + 4), .ref (n + 5), .ref (n + 6), .ref (n + 7), .int 0, .null, .null, .null, .null, .null, .null, .null, .null, .int 0]) := q55
  refine mj_aload_n dX5_init_68 0 rfl ?_
  refine mj_bipush (v := 40) dX5_init_69 (by decide) ?_
  refine mj_newIA (N := 40) dX5_init_71 AC_int (by decide) (by decide) (Nat.le_of_ble_eq_true rfl) (by omega) (Nat.le_of_ble_eq_true rfl) (Nat.le_of_ble_eq_true rfl) (fun h57 q58 o59 => ?_)
  have e60 : h57 a = .inr (5, [.int 0, .ref n, .ref (n + 1), .ref (n + 2), .ref (n + 3), .ref (n + 4), .ref (n + 5), .ref (n + 6), .ref (n + 7), .int 0, .null, .null, .null, .null, .null, .null, .null, .null, .int 0]) := (o59 _ (by omega)).trans (q55)
  refine mj_putFA dX5_init_73 F_X5_34 (by omega) e60 rfl (Nat.le_of_ble_eq_true rfl) rfl rfl (fun h61 q62 o63 => ?_)
  replace q62 : h61 a = .inr (5, [.int 0, .ref n, .ref (n + 1), .ref (n + 2), .ref (n + 3), .ref (n + 4), .ref (n + 5), .ref (n + 6), .ref (n + 7), .int 0, .ref (n + 8), .null, .null, .null, .null, .null, .null, .null, .int 0]) := q62
  refine mj_aload_n dX5_init_76 0 rfl ?_
  refine mj_bipush (v := 40) dX5_init_77 (by decide) ?_
  refine mj_newIA (N := 40) dX5_init_79 AC_int (by decide) (by decide) (Nat.le_of_ble_eq_true rfl) (by omega) (Nat.le_of_ble_eq_true rfl) (Nat.le_of_ble_eq_true rfl) (fun h64 q65 o66 => ?_)
  have e67 : h64 a = .inr (5, [.int 0, .ref n, .ref (n + 1), .ref (n + 2), .ref (n + 3), .ref (n + 4), .ref (n + 5), .ref (n + 6), .ref (n + 7), .int 0, .ref (n + 8), .null, .null, .null, .null, .null, .null, .null, .int 0]) := (o66 _ (by omega)).trans (q62)
  refine mj_putFA dX5_init_81 F_X5_37 (by omega) e67 rfl (Nat.le_of_ble_eq_true rfl) rfl rfl (fun h68 q69 o70 => ?_)
  replace q69 : h68 a = .inr (5, [.int 0, .ref n, .ref (n + 1), .ref (n + 2), .ref (n + 3), .ref (n + 4), .ref (n + 5), .ref (n + 6), .ref (n + 7), .int 0, .ref (n + 8), .ref (n + 9), .null, .null, .null, .null, .null, .null, .int 0]) := q69
  refine mj_aload_n dX5_init_84 0 rfl ?_
  refine mj_bipush (v := 40) dX5_init_85 (by decide) ?_
  refine mj_newIA (N := 40) dX5_init_87 AC_int (by decide) (by decide) (Nat.le_of_ble_eq_true rfl) (by omega) (Nat.le_of_ble_eq_true rfl) (Nat.le_of_ble_eq_true rfl) (fun h71 q72 o73 => ?_)
  have e74 : h71 a = .inr (5, [.int 0, .ref n, .ref (n + 1), .ref (n + 2), .ref (n + 3), .ref (n + 4), .ref (n + 5), .ref (n + 6), .ref (n + 7), .int 0, .ref (n + 8), .ref (n + 9), .null, .null, .null, .null, .null, .null, .int 0]) := (o73 _ (by omega)).trans (q69)
  refine mj_putFA dX5_init_89 F_X5_40 (by omega) e74 rfl (Nat.le_of_ble_eq_true rfl) rfl rfl (fun h75 q76 o77 => ?_)
  replace q76 : h75 a = .inr (5, [.int 0, .ref n, .ref (n + 1), .ref (n + 2), .ref (n + 3), .ref (n + 4), .ref (n + 5), .ref (n + 6), .ref (n + 7), .int 0, .ref (n + 8), .ref (n + 9), .ref (n + 10), .null, .null, .null, .null, .null, .int 0]) := q76
  refine mj_aload_n dX5_init_92 0 rfl ?_
  refine mj_bipush (v := 40) dX5_init_93 (by decide) ?_
  refine mj_newIA (N := 40) dX5_init_95 AC_int (by decide) (by decide) (Nat.le_of_ble_eq_true rfl) (by omega) (Nat.le_of_ble_eq_true rfl) (Nat.le_of_ble_eq_true rfl) (fun h78 q79 o80 => ?_)
  have e81 : h78 a = .inr (5, [.int 0, .ref n, .ref (n + 1), .ref (n + 2), .ref (n + 3), .ref (n + 4), .ref (n + 5), .ref (n + 6), .ref (n + 7), .int 0, .ref (n + 8), .ref (n + 9), .ref (n + 10), .null, .null, .null, .null, .null, .int 0]) := (o80 _ (by omega)).trans (q76)
  refine mj_putFA dX5_init_97 F_X5_43 (by omega) e81 rfl (Nat.le_of_ble_eq_true rfl) rfl rfl (fun h82 q83 o84 => ?_)
  replace q83 : h82 a = .inr (5, [.int 0, .ref n, .ref (n + 1), .ref (n + 2), .ref (n + 3), .ref (n + 4), .ref (n + 5), .ref (n + 6), .ref (n + 7), .int 0, .ref (n + 8), .ref (n + 9), .ref (n + 10), .ref (n + 11), .null, .null, .null, .null, .int 0]) := q83
  refine mj_aload_n dX5_init_100 0 rfl ?_
  refine mj_bipush (v := 40) dX5_init_101 (by decide) ?_
  refine mj_newIA (N := 40) dX5_init_103 AC_int (by decide) (by decide) (Nat.le_of_ble_eq_true rfl) (by omega) (Nat.le_of_ble_eq_true rfl) (Nat.le_of_ble_eq_true rfl) (fun h85 q86 o87 => ?_)
  have e88 : h85 a = .inr (5, [.int 0, .ref n, .ref (n + 1), .ref (n + 2), .ref (n + 3), .ref (n + 4), .ref (n + 5), .ref (n + 6), .ref (n + 7), .int 0, .ref (n + 8), .ref (n + 9), .ref (n + 10), .ref (n + 11), .null, .null, .null, .null, .int 0]) := (o87 _ (by omega)).trans (q83)
  refine mj_putFA dX5_init_105 F_X5_46 (by omega) e88 rfl (Nat.le_of_ble_eq_true rfl) rfl rfl (fun h89 q90 o91 => ?_)
  replace q90 : h89 a = .inr (5, [.int 0, .ref n, .ref (n + 1), .ref (n + 2), .ref (n + 3), .ref (n + 4), .ref (n + 5), .ref (n + 6), .ref (n + 7), .int 0, .ref (n + 8), .ref (n + 9), .ref (n + 10), .ref (n + 11), .ref (n + 12), .null, .null, .null, .int 0]) := q90
  refine mj_aload_n dX5_init_108 0 rfl ?_
  refine mj_sipush (v := 320) dX5_init_109 (by decide) ?_
  refine mj_newIA (N := 320) dX5_init_112 AC_int (by decide) (by decide) (Nat.le_of_ble_eq_true rfl) (by omega) (Nat.le_of_ble_eq_true rfl) (Nat.le_of_ble_eq_true rfl) (fun h92 q93 o94 => ?_)
  have e95 : h92 a = .inr (5, [.int 0, .ref n, .ref (n + 1), .ref (n + 2), .ref (n + 3), .ref (n + 4), .ref (n + 5), .ref (n + 6), .ref (n + 7), .int 0, .ref (n + 8), .ref (n + 9), .ref (n + 10), .ref (n + 11), .ref (n + 12), .null, .null, .null, .int 0]) := (o94 _ (by omega)).trans (q90)
  refine mj_putFA dX5_init_114 F_X5_49 (by omega) e95 rfl (Nat.le_of_ble_eq_true rfl) rfl rfl (fun h96 q97 o98 => ?_)
  replace q97 : h96 a = .inr (5, [.int 0, .ref n, .ref (n + 1), .ref (n + 2), .ref (n + 3), .ref (n + 4), .ref (n + 5), .ref (n + 6), .ref (n + 7), .int 0, .ref (n + 8), .ref (n + 9), .ref (n + 10), .ref (n + 11), .ref (n + 12), .ref (n + 13), .null, .null, .int 0]) := q97
  refine mj_aload_n dX5_init_117 0 rfl ?_
  refine mj_sipush (v := 320) dX5_init_118 (by decide) ?_
  refine mj_newIA (N := 320) dX5_init_121 AC_int (by decide) (by decide) (Nat.le_of_ble_eq_true rfl) (by omega) (Nat.le_of_ble_eq_true rfl) (Nat.le_of_ble_eq_true rfl) (fun h99 q100 o101 => ?_)
  have e102 : h99 a = .inr (5, [.int 0, .ref n, .ref (n + 1), .ref (n + 2), .ref (n + 3), .ref (n + 4), .ref (n + 5), .ref (n + 6), .ref (n + 7), .int 0, .ref (n + 8), .ref (n + 9), .ref (n + 10), .ref (n + 11), .ref (n + 12), .ref (n + 13), .null, .null, .int 0]) := (o101 _ (by omega)).trans (q97)
  refine mj_putFA dX5_init_123 F_X5_52 (by omega) e102 rfl (Nat.le_of_ble_eq_true rfl) rfl rfl (fun h103 q104 o105 => ?_)
  replace q104 : h103 a = .inr (5, [.int 0, .ref n, .ref (n + 1), .ref (n + 2), .ref (n + 3), .ref (n + 4), .ref (n + 5), .ref (n + 6), .ref (n + 7), .int 0, .ref (n + 8), .ref (n + 9), .ref (n + 10), .ref (n + 11), .ref (n + 12), .ref (n + 13), .ref (n + 14), .null, .int 0]) := q104
  refine mj_aload_n dX5_init_126 0 rfl ?_
  refine mj_sipush (v := 400) dX5_init_127 (by decide) ?_
  refine mj_bipush (v := 12) dX5_init_130 (by decide) ?_
  refine mj_mnaA (N := 400) (K := 12) dX5_init_132 (mj_in3 121 (by decide +kernel) rfl) AC_int (by decide) (by decide) (by decide) (by decide) (Nat.le_of_ble_eq_true rfl) (Nat.le_of_ble_eq_true rfl) (by omega) (Nat.le_of_ble_eq_true rfl) (Nat.le_of_ble_eq_true rfl) (fun h106 q107 q108 o109 => ?_)
  replace q108 : ∀ i, i < 400 → h106 (n + 16 + i) = .inl (1, 12, .inl (fun _ => 0)) := q108
  have e110 : h106 a = .inr (5, [.int 0, .ref n, .ref (n + 1), .ref (n + 2), .ref (n + 3), .ref (n + 4), .ref (n + 5), .ref (n + 6), .ref (n + 7), .int 0, .ref (n + 8), .ref (n + 9), .ref (n + 10), .ref (n + 11), .ref (n + 12), .ref (n + 13), .ref (n + 14), .null, .int 0]) := (o109 _ (by omega)).trans (q104)
  refine mj_putFA dX5_init_136 F_X5_57 (by omega) e110 rfl (Nat.le_of_ble_eq_true rfl) rfl rfl (fun h111 q112 o113 => ?_)
  replace q112 : h111 a = .inr (5, [.int 0, .ref n, .ref (n + 1), .ref (n + 2), .ref (n + 3), .ref (n + 4), .ref (n + 5), .ref (n + 6), .ref (n + 7), .int 0, .ref (n + 8), .ref (n + 9), .ref (n + 10), .ref (n + 11), .ref (n + 12), .ref (n + 13), .ref (n + 14), .ref (n + 15), .int 0]) := q112
  have e114 : h111 n = .inl (1, 8, .inl ((fun _ => 0))) := (o113 _ (by omega)).trans ((o109 _ (by omega)).trans ((o105 _ (by omega)).trans ((o101 _ (by omega)).trans ((o98 _ (by omega)).trans ((o94 _ (by omega)).trans ((o91 _ (by omega)).trans ((o87 _ (by omega)).trans ((o84 _ (by omega)).trans ((o80 _ (by omega)).trans ((o77 _ (by omega)).trans ((o73 _ (by omega)).trans ((o70 _ (by omega)).trans ((o66 _ (by omega)).trans ((o63 _ (by omega)).trans ((o59 _ (by omega)).trans ((o56 _ (by omega)).trans ((o52 _ (by omega)).trans ((o49 _ (by omega)).trans ((o45 _ (by omega)).trans ((o42 _ (by omega)).trans ((o38 _ (by omega)).trans ((o35 _ (by omega)).trans ((o31 _ (by omega)).trans ((o28 _ (by omega)).trans ((o24 _ (by omega)).trans ((o21 _ (by omega)).trans ((o17 _ (by omega)).trans ((o14 _ (by omega)).trans ((o10 _ (by omega)).trans ((o7 _ (by omega)).trans (q2)))))))))))))))))))))))))))))))
  have e115 : h111 (n + 1) = .inl (1, 48, .inl ((fun _ => 0))) := (o113 _ (by omega)).trans ((o109 _ (by omega)).trans ((o105 _ (by omega)).trans ((o101 _ (by omega)).trans ((o98 _ (by omega)).trans ((o94 _ (by omega)).trans ((o91 _ (by omega)).trans ((o87 _ (by omega)).trans ((o84 _ (by omega)).trans ((o80 _ (by omega)).trans ((o77 _ (by omega)).trans ((o73 _ (by omega)).trans ((o70 _ (by omega)).trans ((o66 _ (by omega)).trans ((o63 _ (by omega)).trans ((o59 _ (by omega)).trans ((o56 _ (by omega)).trans ((o52 _ (by omega)).trans ((o49 _ (by omega)).trans ((o45 _ (by omega)).trans ((o42 _ (by omega)).trans ((o38 _ (by omega)).trans ((o35 _ (by omega)).trans ((o31 _ (by omega)).trans ((o28 _ (by omega)).trans ((o24 _ (by omega)).trans ((o21 _ (by omega)).trans ((o17 _ (by omega)).trans ((o14 _ (by omega)).trans (q9)))))))))))))))))))))))))))))
  have e116 : h111 (n + 2) = .inl (1, 8, .inl ((fun _ => 0))) := (o113 _ (by omega)).trans ((o109 _ (by omega)).trans ((o105 _ (by omega)).trans ((o101 _ (by omega)).trans ((o98 _ (by omega)).trans ((o94 _ (by omega)).trans ((o91 _ (by omega)).trans ((o87 _ (by omega)).trans ((o84 _ (by omega)).trans ((o80 _ (by omega)).trans ((o77 _ (by omega)).trans ((o73 _ (by omega)).trans ((o70 _ (by omega)).trans ((o66 _ (by omega)).trans ((o63 _ (by omega)).trans ((o59 _ (by omega)).trans ((o56 _ (by omega)).trans ((o52 _ (by omega)).trans ((o49 _ (by omega)).trans ((o45 _ (by omega)).trans ((o42 _ (by omega)).trans ((o38 _ (by omega)).trans ((o35 _ (by omega)).trans ((o31 _ (by omega)).trans ((o28 _ (by omega)).trans ((o24 _ (by omega)).trans ((o21 _ (by omega)).trans (q16)))))))))))))))))))))))))))
  have e117 : h111 (n + 3) = .inl (1, 32, .inl ((fun _ => 0))) := (o113 _ (by omega)).trans ((o109 _ (by omega)).trans ((o105 _ (by omega)).trans ((o101 _ (by omega)).trans ((o98 _ (by omega)).trans ((o94 _ (by omega)).trans ((o91 _ (by omega)).trans ((o87 _ (by omega)).trans ((o84 _ (by omega)).trans ((o80 _ (by omega)).trans ((o77 _ (by omega)).trans ((o73 _ (by omega)).trans ((o70 _ (by omega)).trans ((o66 _ (by omega)).trans ((o63 _ (by omega)).trans ((o59 _ (by omega)).trans ((o56 _ (by omega)).trans ((o52 _ (by omega)).trans ((o49 _ (by omega)).trans ((o45 _ (by omega)).trans ((o42 _ (by omega)).trans ((o38 _ (by omega)).trans ((o35 _ (by omega)).trans ((o31 _ (by omega)).trans ((o28 _ (by omega)).trans (q23)))))))))))))))))))))))))
  have e118 : h111 (n + 4) = .inl (1, 8, .inl ((fun _ => 0))) := (o113 _ (by omega)).trans ((o109 _ (by omega)).trans ((o105 _ (by omega)).trans ((o101 _ (by omega)).trans ((o98 _ (by omega)).trans ((o94 _ (by omega)).trans ((o91 _ (by omega)).trans ((o87 _ (by omega)).trans ((o84 _ (by omega)).trans ((o80 _ (by omega)).trans ((o77 _ (by omega)).trans ((o73 _ (by omega)).trans ((o70 _ (by omega)).trans ((o66 _ (by omega)).trans ((o63 _ (by omega)).trans ((o59 _ (by omega)).trans ((o56 _ (by omega)).trans ((o52 _ (by omega)).trans ((o49 _ (by omega)).trans ((o45 _ (by omega)).trans ((o42 _ (by omega)).trans ((o38 _ (by omega)).trans ((o35 _ (by omega)).trans (q30)))))))))))))))))))))))
  have e119 : h111 (n + 5) = .inl (1, 64, .inl ((fun _ => 0))) := (o113 _ (by omega)).trans ((o109 _ (by omega)).trans ((o105 _ (by omega)).trans ((o101 _ (by omega)).trans ((o98 _ (by omega)).trans ((o94 _ (by omega)).trans ((o91 _ (by omega)).trans ((o87 _ (by omega)).trans ((o84 _ (by omega)).trans ((o80 _ (by omega)).trans ((o77 _ (by omega)).trans ((o73 _ (by omega)).trans ((o70 _ (by omega)).trans ((o66 _ (by omega)).trans ((o63 _ (by omega)).trans ((o59 _ (by omega)).trans ((o56 _ (by omega)).trans ((o52 _ (by omega)).trans ((o49 _ (by omega)).trans ((o45 _ (by omega)).trans ((o42 _ (by omega)).trans (q37)))))))))))))))))))))
  have e120 : h111 (n + 6) = .inl (1, 64, .inl ((fun _ => 0))) := (o113 _ (by omega)).trans ((o109 _ (by omega)).trans ((o105 _ (by omega)).trans ((o101 _ (by omega)).trans ((o98 _ (by omega)).trans ((o94 _ (by omega)).trans ((o91 _ (by omega)).trans ((o87 _ (by omega)).trans ((o84 _ (by omega)).trans ((o80 _ (by omega)).trans ((o77 _ (by omega)).trans ((o73 _ (by omega)).trans ((o70 _ (by omega)).trans ((o66 _ (by omega)).trans ((o63 _ (by omega)).trans ((o59 _ (by omega)).trans ((o56 _ (by omega)).trans ((o52 _ (by omega)).trans ((o49 _ (by omega)).trans (q44)))))))))))))))))))
  have e121 : h111 (n + 7) = .inl (1, 64, .inl ((fun _ => 0))) := (o113 _ (by omega)).trans ((o109 _ (by omega)).trans ((o105 _ (by omega)).trans ((o101 _ (by omega)).trans ((o98 _ (by omega)).trans ((o94 _ (by omega)).trans ((o91 _ (by omega)).trans ((o87 _ (by omega)).trans ((o84 _ (by omega)).trans ((o80 _ (by omega)).trans ((o77 _ (by omega)).trans ((o73 _ (by omega)).trans ((o70 _ (by omega)).trans ((o66 _ (by omega)).trans ((o63 _ (by omega)).trans ((o59 _ (by omega)).trans ((o56 _ (by omega)).trans (q51)))))))))))))))))
  have e122 : h111 (n + 8) = .inl (1, 40, .inl ((fun _ => 0))) := (o113 _ (by omega)).trans ((o109 _ (by omega)).trans ((o105 _ (by omega)).trans ((o101 _ (by omega)).trans ((o98 _ (by omega)).trans ((o94 _ (by omega)).trans ((o91 _ (by omega)).trans ((o87 _ (by omega)).trans ((o84 _ (by omega)).trans ((o80 _ (by omega)).trans ((o77 _ (by omega)).trans ((o73 _ (by omega)).trans ((o70 _ (by omega)).trans ((o66 _ (by omega)).trans ((o63 _ (by omega)).trans (q58)))))))))))))))
  have e123 : h111 (n + 9) = .inl (1, 40, .inl ((fun _ => 0))) := (o113 _ (by omega)).trans ((o109 _ (by omega)).trans ((o105 _ (by omega)).trans ((o101 _ (by omega)).trans ((o98 _ (by omega)).trans ((o94 _ (by omega)).trans ((o91 _ (by omega)).trans ((o87 _ (by omega)).trans ((o84 _ (by omega)).trans ((o80 _ (by omega)).trans ((o77 _ (by omega)).trans ((o73 _ (by omega)).trans ((o70 _ (by omega)).trans (q65)))))))))))))
  have e124 : h111 (n + 10) = .inl (1, 40, .inl ((fun _ => 0))) := (o113 _ (by omega)).trans ((o109 _ (by omega)).trans ((o105 _ (by omega)).trans ((o101 _ (by omega)).trans ((o98 _ (by omega)).trans ((o94 _ (by omega)).trans ((o91 _ (by omega)).trans ((o87 _ (by omega)).trans ((o84 _ (by omega)).trans ((o80 _ (by omega)).trans ((o77 _ (by omega)).trans (q72)))))))))))
  have e125 : h111 (n + 11) = .inl (1, 40, .inl ((fun _ => 0))) := (o113 _ (by omega)).trans ((o109 _ (by omega)).trans ((o105 _ (by omega)).trans ((o101 _ (by omega)).trans ((o98 _ (by omega)).trans ((o94 _ (by omega)).trans ((o91 _ (by omega)).trans ((o87 _ (by omega)).trans ((o84 _ (by omega)).trans (q79)))))))))
  have e126 : h111 (n + 12) = .inl (1, 40, .inl ((fun _ => 0))) := (o113 _ (by omega)).trans ((o109 _ (by omega)).trans ((o105 _ (by omega)).trans ((o101 _ (by omega)).trans ((o98 _ (by omega)).trans ((o94 _ (by omega)).trans ((o91 _ (by omega)).trans (q86)))))))
  have e127 : h111 (n + 13) = .inl (1, 320, .inl ((fun _ => 0))) := (o113 _ (by omega)).trans ((o109 _ (by omega)).trans ((o105 _ (by omega)).trans ((o101 _ (by omega)).trans ((o98 _ (by omega)).trans (q93)))))
  have e128 : h111 (n + 14) = .inl (1, 320, .inl ((fun _ => 0))) := (o113 _ (by omega)).trans ((o109 _ (by omega)).trans ((o105 _ (by omega)).trans (q100)))
  have e129 : h111 (n + 15) = .inl (5, 400, .inr (.inr (.inr (.inr (fun i => if i < 400 then some (n + 15 + 1 + i) else none))))) := (o113 _ (by omega)).trans (q107)
  have e130 : ∀ i, i < 400 → h111 (n + 16 + i) = .inl (1, 12, .inl (fun _ => 0)) := fun i hi => (o113 _ (by omega)).trans (q108 i hi)
  exact mj_vret dX5_init_139 rfl ⟨rfl, q112, e114, e115, e116, e117, e118, e119, e120, e121, e122, e123, e124, e125, e126, e127, e128, e129, e130, fun j hj1 hj2 => ((o113 j (by omega)).trans ((o109 j (by omega)).trans ((o105 j (by omega)).trans ((o101 j (by omega)).trans ((o98 j (by omega)).trans ((o94 j (by omega)).trans ((o91 j (by omega)).trans ((o87 j (by omega)).trans ((o84 j (by omega)).trans ((o80 j (by omega)).trans ((o77 j (by omega)).trans ((o73 j (by omega)).trans ((o70 j (by omega)).trans ((o66 j (by omega)).trans ((o63 j (by omega)).trans ((o59 j (by omega)).trans ((o56 j (by omega)).trans ((o52 j (by omega)).trans ((o49 j (by omega)).trans ((o45 j (by omega)).trans ((o42 j (by omega)).trans ((o38 j (by omega)).trans ((o35 j (by omega)).trans ((o31 j (by omega)).trans ((o28 j (by omega)).trans ((o24 j (by omega)).trans ((o21 j (by omega)).trans ((o17 j (by omega)).trans ((o14 j (by omega)).trans ((o10 j (by omega)).trans ((o7 j (by omega)).trans (o3 j (by omega)))))))))))))))))))))))))))))))))⟩ (by omega) (Nat.le_of_ble_eq_true rfl) (Nat.le_of_ble_eq_true rfl)
theorem dX3_init_0 : decode cX3_init 0 = .ok (.aload_n 0, 1) := by decide +kernel
theorem dX3_init_1 : decode cX3_init 1 = .ok (.invokespecial 1, 3) := by decide +kernel
theorem dX3_init_4 : decode cX3_init 4 = .ok (.aload_n 0, 1) := by decide +kernel
theorem dX3_init_5 : decode cX3_init 5 = .ok (.bipush 6, 2) := by decide +kernel
theorem dX3_init_7 : decode cX3_init 7 = .ok (.sipush 6002, 3) := by decide +kernel
theorem dX3_init_10 : decode cX3_init 10 = .ok (.multianewarray 9 2, 4) := by decide +kernel
theorem dX3_init_14 : decode cX3_init 14 = .ok (.putfield 11, 3) := by decide +kernel
theorem dX3_init_17 : decode cX3_init 17 = .ok (.aload_n 0, 1) := by decide +kernel
theorem dX3_init_18 : decode cX3_init 18 = .ok (.aload_n 1, 1) := by decide +kernel
theorem dX3_init_19 : decode cX3_init 19 = .ok (.putfield 14, 3) := by decide +kernel
theorem dX3_init_22 : decode cX3_init 22 = .ok (.aload_n 0, 1) := by decide +kernel
theorem dX3_init_23 : decode cX3_init 23 = .ok (.aload_n 2, 1) := by decide +kernel
theorem dX3_init_24 : decode cX3_init 24 = .ok (.putfield 18, 3) := by decide +kernel
theorem dX3_init_27 : decode cX3_init 27 = .ok (.aload_n 0, 1) := by decide +kernel
theorem dX3_init_28 : decode cX3_init 28 = .ok (.aload_n 3, 1) := by decide +kernel
theorem dX3_init_29 : decode cX3_init 29 = .ok (.putfield 22, 3) := by decide +kernel
theorem dX3_init_32 : decode cX3_init 32 = .ok (.aload_n 0, 1) := by decide +kernel
theorem dX3_init_33 : decode cX3_init 33 = .ok (.aload 4, 2) := by decide +kernel
theorem dX3_init_35 : decode cX3_init 35 = .ok (.putfield 26, 3) := by decide +kernel
theorem dX3_init_38 : decode cX3_init 38 = .ok (.aload_n 0, 1) := by decide +kernel
theorem dX3_init_39 : decode cX3_init 39 = .ok (.aload 5, 2) := by decide +kernel
theorem dX3_init_41 : decode cX3_init 41 = .ok (.putfield 30, 3) := by decide +kernel
theorem dX3_init_44 : decode cX3_init 44 = .ok (.return_, 1) := by decide +kernel
set_option maxRecDepth 10000 in
set_option maxHeartbeats 4000000 in
/-- Links -/
theorem C_X3_init (a n : Nat) (xl : Nat) (xt : Nat) (xm : Nat) (xc : Nat) (xp : Nat) (h : mj_H) (ha : a < n) (hn : n + 7 < 1000000) (e0 : h a = .inr (3, [.null, .null, .null, .null, .null, .null, .int 0, .int 0, .int 0])) : mj_C yX3_init cX3_init 6 none 1 7 36018 [.ref a, .ref xl, .ref xt, .ref xm, .ref xc, .ref xp] h n (fun v h' => v = none ∧ h' a = .inr (3, [.ref xl, .ref xt, .ref xm, .ref xc, .ref xp, .ref n, .int 0, .int 0, .int 0]) ∧ h' n = .inl (5, 6, .inr (.inr (.inr (.inr (fun i => if i < 6 then some (n + 1 + i) else none))))) ∧ (∀ i, i < 6 → h' (n + 1 + i) = .inl (1, 6002, .inl (fun _ => 0))) ∧ ∀ j, j < n → j ≠ a → h' j = h j) := by
  refine mj_C.of (by decide +kernel) (Nat.le_of_ble_eq_true rfl) ?_
  intro D cy ad bs X
  refine mj_aload_n dX3_init_0 0 rfl ?_
  refine mj_objInit dX3_init_1 ML_X3_1 OI_i OI_c (by decide) (Nat.le_of_ble_eq_true rfl) ?_
  refine mj_aload_n dX3_init_4 0 rfl ?_
  refine mj_bipush (v := 6) dX3_init_5 (by decide) ?_
  refine mj_sipush (v := 6002) dX3_init_7 (by decide) ?_
  refine mj_mnaA (N := 6) (K := 6002) dX3_init_10 (mj_in3 225 (by decide +kernel) rfl) AC_int (by decide) (by decide) (by decide) (by decide) (Nat.le_of_ble_eq_true rfl) (Nat.le_of_ble_eq_true rfl) (by omega) (Nat.le_of_ble_eq_true rfl) (Nat.le_of_ble_eq_true rfl) (fun h1 q2 q3 o4 => ?_)
  replace q3 : ∀ i, i < 6 → h1 (n + 1 + i) = .inl (1, 6002, .inl (fun _ => 0)) := q3
  have e5 : h1 a = .inr (3, [.null, .null, .null, .null, .null, .null, .int 0, .int 0, .int 0]) := (o4 _ (by omega)).trans (e0)
  refine mj_putFA dX3_init_14 F_X3_11 (by omega) e5 rfl (Nat.le_of_ble_eq_true rfl) rfl rfl (fun h6 q7 o8 => ?_)
  replace q7 : h6 a = .inr (3, [.null, .null, .null, .null, .null, .ref n, .int 0, .int 0, .int 0]) := q7
  refine mj_aload_n dX3_init_17 0 rfl ?_
  refine mj_aload_n dX3_init_18 1 rfl ?_
  refine mj_putFA dX3_init_19 F_X3_14 (by omega) q7 rfl (Nat.le_of_ble_eq_true rfl) rfl rfl (fun h9 q10 o11 => ?_)
  replace q10 : h9 a = .inr (3, [.ref xl, .null, .null, .null, .null, .ref n, .int 0, .int 0, .int 0]) := q10
  refine mj_aload_n dX3_init_22 0 rfl ?_
  refine mj_aload_n dX3_init_23 2 rfl ?_
  refine mj_putFA dX3_init_24 F_X3_18 (by omega) q10 rfl (Nat.le_of_ble_eq_true rfl) rfl rfl (fun h12 q13 o14 => ?_)
  replace q13 : h12 a = .inr (3, [.ref xl, .ref xt, .null, .null, .null, .ref n, .int 0, .int 0, .int 0]) := q13
  refine mj_aload_n dX3_init_27 0 rfl ?_
  refine mj_aload_n dX3_init_28 3 rfl ?_
  refine mj_putFA dX3_init_29 F_X3_22 (by omega) q13 rfl (Nat.le_of_ble_eq_true rfl) rfl rfl (fun h15 q16 o17 => ?_)
  replace q16 : h15 a = .inr (3, [.ref xl, .ref xt, .ref xm, .null, .null, .ref n, .int 0, .int 0, .int 0]) := q16
  refine mj_aload_n dX3_init_32 0 rfl ?_
  refine mj_aload dX3_init_33 4 rfl ?_
  refine mj_putFA dX3_init_35 F_X3_26 (by omega) q16 rfl (Nat.le_of_ble_eq_true rfl) rfl rfl (fun h18 q19 o20 => ?_)
  replace q19 : h18 a = .inr (3, [.ref xl, .ref xt, .ref xm, .ref xc, .null, .ref n, .int 0, .int 0, .int 0]) := q19
  refine mj_aload_n dX3_init_38 0 rfl ?_
  refine mj_aload dX3_init_39 5 rfl ?_
  refine mj_putFA dX3_init_41 F_X3_30 (by omega) q19 rfl (Nat.le_of_ble_eq_true rfl) rfl rfl (fun h21 q22 o23 => ?_)
  replace q22 : h21 a = .inr (3, [.ref xl, .ref xt, .ref xm, .ref xc, .ref xp, .ref n, .int 0, .int 0, .int 0]) := q22
  have e24 : h21 n = .inl (5, 6, .inr (.inr (.inr (.inr (fun i => if i < 6 then some (n + 1 + i) else none))))) := (o23 _ (by omega)).trans ((o20 _ (by omega)).trans ((o17 _ (by omega)).trans ((o14 _ (by omega)).trans ((o11 _ (by omega)).trans ((o8 _ (by omega)).trans (q2))))))
  have e25 : ∀ i, i < 6 → h21 (n + 1 + i) = .inl (1, 6002, .inl (fun _ => 0)) := fun i hi => (o23 _ (by omega)).trans ((o20 _ (by omega)).trans ((o17 _ (by omega)).trans ((o14 _ (by omega)).trans ((o11 _ (by omega)).trans ((o8 _ (by omega)).trans (q3 i hi))))))
  exact mj_vret dX3_init_44 rfl ⟨rfl, q22, e24, e25, fun j hj1 hj2 => ((o23 j (by omega)).trans ((o20 j (by omega)).trans ((o17 j (by omega)).trans ((o14 j (by omega)).trans ((o11 j (by omega)).trans ((o8 j (by omega)).trans (o4 j (by omega))))))))⟩ (by omega) (Nat.le_of_ble_eq_true rfl) (Nat.le_of_ble_eq_true rfl)
theorem dX6_init_0 : decode cX6_init 0 = .ok (.aload_n 0, 1) := by decide +kernel
theorem dX6_init_1 : decode cX6_init 1 = .ok (.invokespecial 3, 3) := by decide +kernel
theorem dX6_init_4 : decode cX6_init 4 = .ok (.aload_n 0, 1) := by decide +kernel
theorem dX6_init_5 : decode cX6_init 5 = .ok (.sipush 6004, 3) := by decide +kernel
theorem dX6_init_8 : decode cX6_init 8 = .ok (.newarray .int, 2) := by decide +kernel
theorem dX6_init_10 : decode cX6_init 10 = .ok (.putfield 11, 3) := by decide +kernel
theorem dX6_init_13 : decode cX6_init 13 = .ok (.aload_n 0, 1) := by decide +kernel
theorem dX6_init_14 : decode cX6_init 14 = .ok (.sipush 288, 3) := by decide +kernel
theorem dX6_init_17 : decode cX6_init 17 = .ok (.newarray .int, 2) := by decide +kernel
theorem dX6_init_19 : decode cX6_init 19 = .ok (.putfield 15, 3) := by decide +kernel
theorem dX6_init_22 : decode cX6_init 22 = .ok (.aload_n 0, 1) := by decide +kernel
theorem dX6_init_23 : decode cX6_init 23 = .ok (.aload_n 1, 1) := by decide +kernel
theorem dX6_init_24 : decode cX6_init 24 = .ok (.putfield 18, 3) := by decide +kernel
theorem dX6_init_27 : decode cX6_init 27 = .ok (.aload_n 0, 1) := by decide +kernel
theorem dX6_init_28 : decode cX6_init 28 = .ok (.aload_n 1, 1) := by decide +kernel
theorem dX6_init_29 : decode cX6_init 29 = .ok (.getfield 22, 3) := by decide +kernel
theorem dX6_init_32 : decode cX6_init 32 = .ok (.putfield 28, 3) := by decide +kernel
theorem dX6_init_35 : decode cX6_init 35 = .ok (.aload_n 0, 1) := by decide +kernel
theorem dX6_init_36 : decode cX6_init 36 = .ok (.aload_n 1, 1) := by decide +kernel
theorem dX6_init_37 : decode cX6_init 37 = .ok (.getfield 29, 3) := by decide +kernel
theorem dX6_init_40 : decode cX6_init 40 = .ok (.putfield 33, 3) := by decide +kernel
theorem dX6_init_43 : decode cX6_init 43 = .ok (.aload_n 0, 1) := by decide +kernel
theorem dX6_init_44 : decode cX6_init 44 = .ok (.aload_n 1, 1) := by decide +kernel
theorem dX6_init_45 : decode cX6_init 45 = .ok (.getfield 34, 3) := by decide +kernel
theorem dX6_init_48 : decode cX6_init 48 = .ok (.putfield 38, 3) := by decide +kernel
theorem dX6_init_51 : decode cX6_init 51 = .ok (.aload_n 0, 1) := by decide +kernel
theorem dX6_init_52 : decode cX6_init 52 = .ok (.aload_n 1, 1) := by decide +kernel
theorem dX6_init_53 : decode cX6_init 53 = .ok (.getfield 39, 3) := by decide +kernel
theorem dX6_init_56 : decode cX6_init 56 = .ok (.putfield 43, 3) := by decide +kernel
theorem dX6_init_59 : decode cX6_init 59 = .ok (.aload_n 0, 1) := by decide +kernel
theorem dX6_init_60 : decode cX6_init 60 = .ok (.aload_n 1, 1) := by decide +kernel
theorem dX6_init_61 : decode cX6_init 61 = .ok (.getfield 44, 3) := by decide +kernel
theorem dX6_init_64 : decode cX6_init 64 = .ok (.putfield 48, 3) := by decide +kernel
theorem dX6_init_67 : decode cX6_init 67 = .ok (.return_, 1) := by decide +kernel
set_option maxRecDepth 10000 in
set_option maxHeartbeats 4000000 in
/-- Reader -/
theorem C_X6_init (a n : Nat) (lk : Nat) (l0 : Nat) (l1 : Nat) (l2 : Nat) (l3 : Nat) (l4 : Nat) (l5 : Nat) (c0 : Int32) (c1 : Int32) (c2 : Int32) (h : mj_H) (ha : a < n) (hn : n + 2 < 1000000) (e0 : h a = .inr (6, [.null, .null, .null, .null, .null, .null, .null, .int 0, .null, .int 0, .int 0, .int 0, .int 0, .int 0, .int 0, .int 0, .int 0])) (b0 : lk < n) (d0 : lk ≠ a) (o0 : h lk = .inr (3, [.ref l0, .ref l1, .ref l2, .ref l3, .ref l4, .ref l5, .int c0, .int c1, .int c2])) : mj_C yX6_init cX6_init 2 none 1 2 6292 [.ref a, .ref lk] h n (fun v h' => v = none ∧ h' a = .inr (6, [.ref l0, .ref l1, .ref l2, .ref l3, .ref l4, .ref lk, .ref n, .int 0, .ref (n + 1), .int 0, .int 0, .int 0, .int 0, .int 0, .int 0, .int 0, .int 0]) ∧ h' n = .inl (1, 6004, .inl ((fun _ => 0))) ∧ h' (n + 1) = .inl (1, 288, .inl ((fun _ => 0))) ∧ ∀ j, j < n → j ≠ a → h' j = h j) := by
  refine mj_C.of (by decide +kernel) (Nat.le_of_ble_eq_true rfl) ?_
  intro D cy ad bs X
  refine mj_aload_n dX6_init_0 0 rfl ?_
  refine mj_objInit dX6_init_1 ML_X6_3 OI_i OI_c (by decide) (Nat.le_of_ble_eq_true rfl) ?_
  refine mj_aload_n dX6_init_4 0 rfl ?_
  refine mj_sipush (v := 6004) dX6_init_5 (by decide) ?_
  refine mj_newIA (N := 6004) dX6_init_8 AC_int (by decide) (by decide) (Nat.le_of_ble_eq_true rfl) (by omega) (Nat.le_of_ble_eq_true rfl) (Nat.le_of_ble_eq_true rfl) (fun h1 q2 o3 => ?_)
  have e4 : h1 a = .inr (6, [.null, .null, .null, .null, .null, .null, .null, .int 0, .null, .int 0, .int 0, .int 0, .int 0, .int 0, .int 0, .int 0, .int 0]) := (o3 _ (by omega)).trans (e0)
  refine mj_putFA dX6_init_10 F_X6_11 (by omega) e4 rfl (Nat.le_of_ble_eq_true rfl) rfl rfl (fun h5 q6 o7 => ?_)
  replace q6 : h5 a = .inr (6, [.null, .null, .null, .null, .null, .null, .ref n, .int 0, .null, .int 0, .int 0, .int 0, .int 0, .int 0, .int 0, .int 0, .int 0]) := q6
  refine mj_aload_n dX6_init_13 0 rfl ?_
  refine mj_sipush (v := 288) dX6_init_14 (by decide) ?_
  refine mj_newIA (N := 288) dX6_init_17 AC_int (by decide) (by decide) (Nat.le_of_ble_eq_true rfl) (by omega) (Nat.le_of_ble_eq_true rfl) (Nat.le_of_ble_eq_true rfl) (fun h8 q9 o10 => ?_)
  have e11 : h8 a = .inr (6, [.null, .null, .null, .null, .null, .null, .ref n, .int 0, .null, .int 0, .int 0, .int 0, .int 0, .int 0, .int 0, .int 0, .int 0]) := (o10 _ (by omega)).trans (q6)
  refine mj_putFA dX6_init_19 F_X6_15 (by omega) e11 rfl (Nat.le_of_ble_eq_true rfl) rfl rfl (fun h12 q13 o14 => ?_)
  replace q13 : h12 a = .inr (6, [.null, .null, .null, .null, .null, .null, .ref n, .int 0, .ref (n + 1), .int 0, .int 0, .int 0, .int 0, .int 0, .int 0, .int 0, .int 0]) := q13
  refine mj_aload_n dX6_init_22 0 rfl ?_
  refine mj_aload_n dX6_init_23 1 rfl ?_
  refine mj_putFA dX6_init_24 F_X6_18 (by omega) q13 rfl (Nat.le_of_ble_eq_true rfl) rfl rfl (fun h15 q16 o17 => ?_)
  replace q16 : h15 a = .inr (6, [.null, .null, .null, .null, .null, .ref lk, .ref n, .int 0, .ref (n + 1), .int 0, .int 0, .int 0, .int 0, .int 0, .int 0, .int 0, .int 0]) := q16
  refine mj_aload_n dX6_init_27 0 rfl ?_
  refine mj_aload_n dX6_init_28 1 rfl ?_
  have e18 : h15 lk = .inr (3, [.ref l0, .ref l1, .ref l2, .ref l3, .ref l4, .ref l5, .int c0, .int c1, .int c2]) := (o17 _ (by omega)).trans ((o14 _ (by omega)).trans ((o10 _ (by omega)).trans ((o7 _ (by omega)).trans ((o3 _ (by omega)).trans (o0)))))
  refine mj_get dX6_init_29 F_X6_22 (by omega) e18 rfl ?_
  refine mj_putFA dX6_init_32 F_X6_28 (by omega) q16 rfl (Nat.le_of_ble_eq_true rfl) rfl rfl (fun h19 q20 o21 => ?_)
  replace q20 : h19 a = .inr (6, [.ref l0, .null, .null, .null, .null, .ref lk, .ref n, .int 0, .ref (n + 1), .int 0, .int 0, .int 0, .int 0, .int 0, .int 0, .int 0, .int 0]) := q20
  refine mj_aload_n dX6_init_35 0 rfl ?_
  refine mj_aload_n dX6_init_36 1 rfl ?_
  have e22 : h19 lk = .inr (3, [.ref l0, .ref l1, .ref l2, .ref l3, .ref l4, .ref l5, .int c0, .int c1, .int c2]) := (o21 _ (by omega)).trans (e18)
  refine mj_get dX6_init_37 F_X6_29 (by omega) e22 rfl ?_
  refine mj_putFA dX6_init_40 F_X6_33 (by omega) q20 rfl (Nat.le_of_ble_eq_true rfl) rfl rfl (fun h23 q24 o25 => ?_)
  replace q24 : h23 a = .inr (6, [.ref l0, .ref l1, .null, .null, .null, .ref lk, .ref n, .int 0, .ref (n + 1), .int 0, .int 0, .int 0, .int 0, .int 0, .int 0, .int 0, .int 0]) := q24
  refine mj_aload_n dX6_init_43 0 rfl ?_
  refine mj_aload_n dX6_init_44 1 rfl ?_
  have e26 : h23 lk = .inr (3, [.ref l0, .ref l1, .ref l2, .ref l3, .ref l4, .ref l5, .int c0, .int c1, .int c2]) := (o25 _ (by omega)).trans (e22)
  refine mj_get dX6_init_45 F_X6_34 (by omega) e26 rfl ?_
  refine mj_putFA dX6_init_48 F_X6_38 (by omega) q24 rfl (Nat.le_of_ble_eq_true rfl) rfl rfl (fun h27 q28 o29 => ?_)
  replace q28 : h27 a = .inr (6, [.ref l0, .ref l1, .ref l2, .null, .null, .ref lk, .ref n, .int 0, .ref (n + 1), .int 0, .int 0, .int 0, .int 0, .int 0, .int 0, .int 0, .int 0]) := q28
  refine mj_aload_n dX6_init_51 0 rfl ?_
  refine mj_aload_n dX6_init_52 1 rfl ?_
  have e30 : h27 lk = .inr (3, [.ref l0, .ref l1, .ref l2, .ref l3, .ref l4, .ref l5, .int c0, .int c1, .int c2]) := (o29 _ (by omega)).trans (e26)
  refine mj_get dX6_init_53 F_X6_39 (by omega) e30 rfl ?_
  refine mj_putFA dX6_init_56 F_X6_43 (by omega) q28 rfl (Nat.le_of_ble_eq_true rfl) rfl rfl (fun h31 q32 o33 => ?_)
  replace q32 : h31 a = .inr (6, [.ref l0, .ref l1, .ref l2, .ref l3, .null, .ref lk, .ref n, .int 0, .ref (n + 1), .int 0, .int 0, .int 0, .int 0, .int 0, .int 0, .int 0, .int 0]) := q32
  refine mj_aload_n dX6_init_59 0 rfl ?_
  refine mj_aload_n dX6_init_60 1 rfl ?_
  have e34 : h31 lk = .inr (3, [.ref l0, .ref l1, .ref l2, .ref l3, .ref l4, .ref l5, .int c0, .int c1, .int c2]) := (o33 _ (by omega)).trans (e30)
  refine mj_get dX6_init_61 F_X6_44 (by omega) e34 rfl ?_
  refine mj_putFA dX6_init_64 F_X6_48 (by omega) q32 rfl (Nat.le_of_ble_eq_true rfl) rfl rfl (fun h35 q36 o37 => ?_)
  replace q36 : h35 a = .inr (6, [.ref l0, .ref l1, .ref l2, .ref l3, .ref l4, .ref lk, .ref n, .int 0, .ref (n + 1), .int 0, .int 0, .int 0, .int 0, .int 0, .int 0, .int 0, .int 0]) := q36
  have e38 : h35 n = .inl (1, 6004, .inl ((fun _ => 0))) := (o37 _ (by omega)).trans ((o33 _ (by omega)).trans ((o29 _ (by omega)).trans ((o25 _ (by omega)).trans ((o21 _ (by omega)).trans ((o17 _ (by omega)).trans ((o14 _ (by omega)).trans ((o10 _ (by omega)).trans ((o7 _ (by omega)).trans (q2)))))))))
  have e39 : h35 (n + 1) = .inl (1, 288, .inl ((fun _ => 0))) := (o37 _ (by omega)).trans ((o33 _ (by omega)).trans ((o29 _ (by omega)).trans ((o25 _ (by omega)).trans ((o21 _ (by omega)).trans ((o17 _ (by omega)).trans ((o14 _ (by omega)).trans (q9)))))))
  exact mj_vret dX6_init_67 rfl ⟨rfl, q36, e38, e39, fun j hj1 hj2 => ((o37 j (by omega)).trans ((o33 j (by omega)).trans ((o29 j (by omega)).trans ((o25 j (by omega)).trans ((o21 j (by omega)).trans ((o17 j (by omega)).trans ((o14 j (by omega)).trans ((o10 j (by omega)).trans ((o7 j (by omega)).trans (o3 j (by omega)))))))))))⟩ (by omega) (Nat.le_of_ble_eq_true rfl) (Nat.le_of_ble_eq_true rfl)
theorem dX1_init_0 : decode cX1_init 0 = .ok (.aload_n 0, 1) := by decide +kernel
theorem dX1_init_1 : decode cX1_init 1 = .ok (.invokespecial 1, 3) := by decide +kernel
theorem dX1_init_4 : decode cX1_init 4 = .ok (.aload_n 0, 1) := by decide +kernel
theorem dX1_init_5 : decode cX1_init 5 = .ok (.sipush 4000, 3) := by decide +kernel
theorem dX1_init_8 : decode cX1_init 8 = .ok (.newarray .byte, 2) := by decide +kernel
theorem dX1_init_10 : decode cX1_init 10 = .ok (.putfield 9, 3) := by decide +kernel
theorem dX1_init_13 : decode cX1_init 13 = .ok (.aload_n 0, 1) := by decide +kernel
theorem dX1_init_14 : decode cX1_init 14 = .ok (.sipush 8000, 3) := by decide +kernel
theorem dX1_init_17 : decode cX1_init 17 = .ok (.newarray .byte, 2) := by decide +kernel
theorem dX1_init_19 : decode cX1_init 19 = .ok (.putfield 13, 3) := by decide +kernel
theorem dX1_init_22 : decode cX1_init 22 = .ok (.aload_n 0, 1) := by decide +kernel
theorem dX1_init_23 : decode cX1_init 23 = .ok (.sipush 240, 3) := by decide +kernel
theorem dX1_init_26 : decode cX1_init 26 = .ok (.newarray .long, 2) := by decide +kernel
theorem dX1_init_28 : decode cX1_init 28 = .ok (.putfield 18, 3) := by decide +kernel
theorem dX1_init_31 : decode cX1_init 31 = .ok (.aload_n 0, 1) := by decide +kernel
theorem dX1_init_32 : decode cX1_init 32 = .ok (.sipush 240, 3) := by decide +kernel
theorem dX1_init_35 : decode cX1_init 35 = .ok (.newarray .long, 2) := by decide +kernel
theorem dX1_init_37 : decode cX1_init 37 = .ok (.putfield 22, 3) := by decide +kernel
theorem dX1_init_40 : decode cX1_init 40 = .ok (.aload_n 0, 1) := by decide +kernel
theorem dX1_init_41 : decode cX1_init 41 = .ok (.sipush 240, 3) := by decide +kernel
theorem dX1_init_44 : decode cX1_init 44 = .ok (.newarray .int, 2) := by decide +kernel
theorem dX1_init_46 : decode cX1_init 46 = .ok (.putfield 25, 3) := by decide +kernel
theorem dX1_init_49 : decode cX1_init 49 = .ok (.aload_n 0, 1) := by decide +kernel
theorem dX1_init_50 : decode cX1_init 50 = .ok (.sipush 240, 3) := by decide +kernel
theorem dX1_init_53 : decode cX1_init 53 = .ok (.newarray .int, 2) := by decide +kernel
theorem dX1_init_55 : decode cX1_init 55 = .ok (.putfield 29, 3) := by decide +kernel
theorem dX1_init_58 : decode cX1_init 58 = .ok (.aload_n 0, 1) := by decide +kernel
theorem dX1_init_59 : decode cX1_init 59 = .ok (.sipush 240, 3) := by decide +kernel
theorem dX1_init_62 : decode cX1_init 62 = .ok (.newarray .int, 2) := by decide +kernel
theorem dX1_init_64 : decode cX1_init 64 = .ok (.putfield 32, 3) := by decide +kernel
theorem dX1_init_67 : decode cX1_init 67 = .ok (.aload_n 0, 1) := by decide +kernel
theorem dX1_init_68 : decode cX1_init 68 = .ok (.aload_n 1, 1) := by decide +kernel
theorem dX1_init_69 : decode cX1_init 69 = .ok (.putfield 35, 3) := by decide +kernel
theorem dX1_init_72 : decode cX1_init 72 = .ok (.aload_n 0, 1) := by decide +kernel
theorem dX1_init_73 : decode cX1_init 73 = .ok (.aload_n 2, 1) := by decide +kernel
theorem dX1_init_74 : decode cX1_init 74 = .ok (.putfield 39, 3) := by decide +kernel
theorem dX1_init_77 : decode cX1_init 77 = .ok (.return_, 1) := by decide +kernel
set_option maxRecDepth 10000 in
set_option maxHeartbeats 4000000 in
/-- Codes -/
theorem C_X1_init (a n : Nat) (xl : Nat) (xt : Nat) (h : mj_H) (ha : a < n) (hn : n + 7 < 1000000) (e0 : h a = .inr (1, [.null, .null, .null, .int 0, .null, .int 0, .null, .int 0, .int 0, .int 0, .int 0, .null, .null, .null, .null, .int 0])) : mj_C yX1_init cX1_init 3 none 1 7 13200 [.ref a, .ref xl, .ref xt] h n (fun v h' => v = none ∧ h' a = .inr (1, [.ref xl, .ref xt, .ref n, .int 0, .ref (n + 1), .int 0, .ref (n + 2), .int 0, .int 0, .int 0, .int 0, .ref (n + 3), .ref (n + 4), .ref (n + 5), .ref (n + 6), .int 0]) ∧ h' n = .inl (0, 4000, .inl ((fun _ => 0))) ∧ h' (n + 1) = .inl (0, 8000, .inl ((fun _ => 0))) ∧ h' (n + 2) = .inl (2, 240, .inr (.inl ((fun _ => 0)))) ∧ h' (n + 3) = .inl (2, 240, .inr (.inl ((fun _ => 0)))) ∧ h' (n + 4) = .inl (1, 240, .inl ((fun _ => 0))) ∧ h' (n + 5) = .inl (1, 240, .inl ((fun _ => 0))) ∧ h' (n + 6) = .inl (1, 240, .inl ((fun _ => 0))) ∧ ∀ j, j < n → j ≠ a → h' j = h j) := by
  refine mj_C.of (by decide +kernel) (Nat.le_of_ble_eq_true rfl) ?_
  intro D cy ad bs X
  refine mj_aload_n dX1_init_0 0 rfl ?_
  refine mj_objInit dX1_init_1 ML_X1_1 OI_i OI_c (by decide) (Nat.le_of_ble_eq_true rfl) ?_
  refine mj_aload_n dX1_init_4 0 rfl ?_
  refine mj_sipush (v := 4000) dX1_init_5 (by decide) ?_
  refine mj_newBA (N := 4000) dX1_init_8 AC_byte (by decide) (by decide) (Nat.le_of_ble_eq_true rfl) (by omega) (Nat.le_of_ble_eq_true rfl) (Nat.le_of_ble_eq_true rfl) (fun h1 q2 o3 => ?_)
  have e4 : h1 a = .inr (1, [.null, .null, .null, .int 0, .null, .int 0, .null, .int 0, .int 0, .int 0, .int 0, .null, .null, .null, .null, .int 0]) := (o3 _ (by omega)).trans (e0)
  refine mj_putFA dX1_init_10 F_X1_9 (by omega) e4 rfl (Nat.le_of_ble_eq_true rfl) rfl rfl (fun h5 q6 o7 => ?_)
  replace q6 : h5 a = .inr (1, [.null, .null, .ref n, .int 0, .null, .int 0, .null, .int 0, .int 0, .int 0, .int 0, .null, .null, .null, .null, .int 0]) := q6
  refine mj_aload_n dX1_init_13 0 rfl ?_
  refine mj_sipush (v := 8000) dX1_init_14 (by decide) ?_
  refine mj_newBA (N := 8000) dX1_init_17 AC_byte (by decide) (by decide) (Nat.le_of_ble_eq_true rfl) (by omega) (Nat.le_of_ble_eq_true rfl) (Nat.le_of_ble_eq_true rfl) (fun h8 q9 o10 => ?_)
  have e11 : h8 a = .inr (1, [.null, .null, .ref n, .int 0, .null, .int 0, .null, .int 0, .int 0, .int 0, .int 0, .null, .null, .null, .null, .int 0]) := (o10 _ (by omega)).trans (q6)
  refine mj_putFA dX1_init_19 F_X1_13 (by omega) e11 rfl (Nat.le_of_ble_eq_true rfl) rfl rfl (fun h12 q13 o14 => ?_)
  replace q13 : h12 a = .inr (1, [.null, .null, .ref n, .int 0, .ref (n + 1), .int 0, .null, .int 0, .int 0, .int 0, .int 0, .null, .null, .null, .null, .int 0]) := q13
  refine mj_aload_n dX1_init_22 0 rfl ?_
  refine mj_sipush (v := 240) dX1_init_23 (by decide) ?_
  refine mj_newJA (N := 240) dX1_init_26 AC_long (by decide) (by decide) (Nat.le_of_ble_eq_true rfl) (by omega) (Nat.le_of_ble_eq_true rfl) (Nat.le_of_ble_eq_true rfl) (fun h15 q16 o17 => ?_)
  have e18 : h15 a = .inr (1, [.null, .null, .ref n, .int 0, .ref (n + 1), .int 0, .null, .int 0, .int 0, .int 0, .int 0, .null, .null, .null, .null, .int 0]) := (o17 _ (by omega)).trans (q13)
  refine mj_putFA dX1_init_28 F_X1_18 (by omega) e18 rfl (Nat.le_of_ble_eq_true rfl) rfl rfl (fun h19 q20 o21 => ?_)
  replace q20 : h19 a = .inr (1, [.null, .null, .ref n, .int 0, .ref (n + 1), .int 0, .ref (n + 2), .int 0, .int 0, .int 0, .int 0, .null, .null, .null, .null, .int 0]) := q20
  refine mj_aload_n dX1_init_31 0 rfl ?_
  refine mj_sipush (v := 240) dX1_init_32 (by decide) ?_
  refine mj_newJA (N := 240) dX1_init_35 AC_long (by decide) (by decide) (Nat.le_of_ble_eq_true rfl) (by omega) (Nat.le_of_ble_eq_true rfl) (Nat.le_of_ble_eq_true rfl) (fun h22 q23 o24 => ?_)
  have e25 : h22 a = .inr (1, [.null, .null, .ref n, .int 0, .ref (n + 1), .int 0, .ref (n + 2), .int 0, .int 0, .int 0, .int 0, .null, .null, .null, .null, .int 0]) := (o24 _ (by omega)).trans (q20)
  refine mj_putFA dX1_init_37 F_X1_22 (by omega) e25 rfl (Nat.le_of_ble_eq_true rfl) rfl rfl (fun h26 q27 o28 => ?_)
  replace q27 : h26 a = .inr (1, [.null, .null, .ref n, .int 0, .ref (n + 1), .int 0, .ref (n + 2), .int 0, .int 0, .int 0, .int 0, .ref (n + 3), .null, .null, .null, .int 0]) := q27
  refine mj_aload_n dX1_init_40 0 rfl ?_
  refine mj_sipush (v := 240) dX1_init_41 (by decide) ?_
  refine mj_newIA (N := 240) dX1_init_44 AC_int (by decide) (by decide) (Nat.le_of_ble_eq_true rfl) (by omega) (Nat.le_of_ble_eq_true rfl) (Nat.le_of_ble_eq_true rfl) (fun h29 q30 o31 => ?_)
  have e32 : h29 a = .inr (1, [.null, .null, .ref n, .int 0, .ref (n + 1), .int 0, .ref (n + 2), .int 0, .int 0, .int 0, .int 0, .ref (n + 3), .null, .null, .null, .int 0]) := (o31 _ (by omega)).trans (q27)
  refine mj_putFA dX1_init_46 F_X1_25 (by omega) e32 rfl (Nat.le_of_ble_eq_true rfl) rfl rfl (fun h33 q34 o35 => ?_)
  replace q34 : h33 a = .inr (1, [.null, .null, .ref n, .int 0, .ref (n + 1), .int 0, .ref (n + 2), .int 0, .int 0, .int 0, .int 0, .ref (n + 3), .ref (n + 4), .null, .null, .int 0]) := q34
  refine mj_aload_n dX1_init_49 0 rfl ?_
  refine mj_sipush (v := 240) dX1_init_50 (by decide) ?_
  refine mj_newIA (N := 240) dX1_init_53 AC_int (by decide) (by decide) (Nat.le_of_ble_eq_true rfl) (by omega) (Nat.le_of_ble_eq_true rfl) (Nat.le_of_ble_eq_true rfl) (fun h36 q37 o38 => ?_)
  have e39 : h36 a = .inr (1, [.null, .null, .ref n, .int 0, .ref (n + 1), .int 0, .ref (n + 2), .int 0, .int 0, .int 0, .int 0, .ref (n + 3), .ref (n + 4), .null, .null, .int 0]) := (o38 _ (by omega)).trans (q34)
  refine mj_putFA dX1_init_55 F_X1_29 (by omega) e39 rfl (Nat.le_of_ble_eq_true rfl) rfl rfl (fun h40 q41 o42 => ?_)
  replace q41 : h40 a = .inr (1, [.null, .null, .ref n, .int 0, .ref (n + 1), .int 0, .ref (n + 2), .int 0, .int 0, .int 0, .int 0, .ref (n + 3), .ref (n + 4), .ref (n + 5), .null, .int 0]) := q41
  refine mj_aload_n dX1_init_58 0 rfl ?_
  refine mj_sipush (v := 240) dX1_init_59 (by decide) ?_
  refine mj_newIA (N := 240) dX1_init_62 AC_int (by decide) (by decide) (Nat.le_of_ble_eq_true rfl) (by omega) (Nat.le_of_ble_eq_true rfl) (Nat.le_of_ble_eq_true rfl) (fun h43 q44 o45 => ?_)
  have e46 : h43 a = .inr (1, [.null, .null, .ref n, .int 0, .ref (n + 1), .int 0, .ref (n + 2), .int 0, .int 0, .int 0, .int 0, .ref (n + 3), .ref (n + 4), .ref (n + 5), .null, .int 0]) := (o45 _ (by omega)).trans (q41)
  refine mj_putFA dX1_init_64 F_X1_32 (by omega) e46 rfl (Nat.le_of_ble_eq_true rfl) rfl rfl (fun h47 q48 o49 => ?_)
  replace q48 : h47 a = .inr (1, [.null, .null, .ref n, .int 0, .ref (n + 1), .int 0, .ref (n + 2), .int 0, .int 0, .int 0, .int 0, .ref (n + 3), .ref (n + 4), .ref (n + 5), .ref (n + 6), .int 0]) := q48
  refine mj_aload_n dX1_init_67 0 rfl ?_
  refine mj_aload_n dX1_init_68 1 rfl ?_
  refine mj_putFA dX1_init_69 F_X1_35 (by omega) q48 rfl (Nat.le_of_ble_eq_true rfl) rfl rfl (fun h50 q51 o52 => ?_)
  replace q51 : h50 a = .inr (1, [.ref xl, .null, .ref n, .int 0, .ref (n + 1), .int 0, .ref (n + 2), .int 0, .int 0, .int 0, .int 0, .ref (n + 3), .ref (n + 4), .ref (n + 5), .ref (n + 6), .int 0]) := q51
  refine mj_aload_n dX1_init_72 0 rfl ?_
  refine mj_aload_n dX1_init_73 2 rfl ?_
  refine mj_putFA dX1_init_74 F_X1_39 (by omega) q51 rfl (Nat.le_of_ble_eq_true rfl) rfl rfl (fun h53 q54 o55 => ?_)
  replace q54 : h53 a = .inr (1, [.ref xl, .ref xt, .ref n, .int 0, .ref (n + 1), .int 0, .ref (n + 2), .int 0, .int 0, .int 0, .int 0, .ref (n + 3), .ref (n + 4), .ref (n + 5), .ref (n + 6), .int 0]) := q54
  have e56 : h53 n = .inl (0, 4000, .inl ((fun _ => 0))) := (o55 _ (by omega)).trans ((o52 _ (by omega)).trans ((o49 _ (by omega)).trans ((o45 _ (by omega)).trans ((o42 _ (by omega)).trans ((o38 _ (by omega)).trans ((o35 _ (by omega)).trans ((o31 _ (by omega)).trans ((o28 _ (by omega)).trans ((o24 _ (by omega)).trans ((o21 _ (by omega)).trans ((o17 _ (by omega)).trans ((o14 _ (by omega)).trans ((o10 _ (by omega)).trans ((o7 _ (by omega)).trans (q2)))))))))))))))
  have e57 : h53 (n + 1) = .inl (0, 8000, .inl ((fun _ => 0))) := (o55 _ (by omega)).trans ((o52 _ (by omega)).trans ((o49 _ (by omega)).trans ((o45 _ (by omega)).trans ((o42 _ (by omega)).trans ((o38 _ (by omega)).trans ((o35 _ (by omega)).trans ((o31 _ (by omega)).trans ((o28 _ (by omega)).trans ((o24 _ (by omega)).trans ((o21 _ (by omega)).trans ((o17 _ (by omega)).trans ((o14 _ (by omega)).trans (q9)))))))))))))
  have e58 : h53 (n + 2) = .inl (2, 240, .inr (.inl ((fun _ => 0)))) := (o55 _ (by omega)).trans ((o52 _ (by omega)).trans ((o49 _ (by omega)).trans ((o45 _ (by omega)).trans ((o42 _ (by omega)).trans ((o38 _ (by omega)).trans ((o35 _ (by omega)).trans ((o31 _ (by omega)).trans ((o28 _ (by omega)).trans ((o24 _ (by omega)).trans ((o21 _ (by omega)).trans (q16)))))))))))
  have e59 : h53 (n + 3) = .inl (2, 240, .inr (.inl ((fun _ => 0)))) := (o55 _ (by omega)).trans ((o52 _ (by omega)).trans ((o49 _ (by omega)).trans ((o45 _ (by omega)).trans ((o42 _ (by omega)).trans ((o38 _ (by omega)).trans ((o35 _ (by omega)).trans ((o31 _ (by omega)).trans ((o28 _ (by omega)).trans (q23)))))))))
  have e60 : h53 (n + 4) = .inl (1, 240, .inl ((fun _ => 0))) := (o55 _ (by omega)).trans ((o52 _ (by omega)).trans ((o49 _ (by omega)).trans ((o45 _ (by omega)).trans ((o42 _ (by omega)).trans ((o38 _ (by omega)).trans ((o35 _ (by omega)).trans (q30)))))))
  have e61 : h53 (n + 5) = .inl (1, 240, .inl ((fun _ => 0))) := (o55 _ (by omega)).trans ((o52 _ (by omega)).trans ((o49 _ (by omega)).trans ((o45 _ (by omega)).trans ((o42 _ (by omega)).trans (q37)))))
  have e62 : h53 (n + 6) = .inl (1, 240, .inl ((fun _ => 0))) := (o55 _ (by omega)).trans ((o52 _ (by omega)).trans ((o49 _ (by omega)).trans (q44)))
  exact mj_vret dX1_init_77 rfl ⟨rfl, q54, e56, e57, e58, e59, e60, e61, e62, fun j hj1 hj2 => ((o55 j (by omega)).trans ((o52 j (by omega)).trans ((o49 j (by omega)).trans ((o45 j (by omega)).trans ((o42 j (by omega)).trans ((o38 j (by omega)).trans ((o35 j (by omega)).trans ((o31 j (by omega)).trans ((o28 j (by omega)).trans ((o24 j (by omega)).trans ((o21 j (by omega)).trans ((o17 j (by omega)).trans ((o14 j (by omega)).trans ((o10 j (by omega)).trans ((o7 j (by omega)).trans (o3 j (by omega)))))))))))))))))⟩ (by omega) (Nat.le_of_ble_eq_true rfl) (Nat.le_of_ble_eq_true rfl)
theorem dX0_init_0 : decode cX0_init 0 = .ok (.aload_n 0, 1) := by decide +kernel
theorem dX0_init_1 : decode cX0_init 1 = .ok (.invokespecial 1, 3) := by decide +kernel
theorem dX0_init_4 : decode cX0_init 4 = .ok (.aload_n 0, 1) := by decide +kernel
theorem dX0_init_5 : decode cX0_init 5 = .ok (.sipush 16000, 3) := by decide +kernel
theorem dX0_init_8 : decode cX0_init 8 = .ok (.newarray .int, 2) := by decide +kernel
theorem dX0_init_10 : decode cX0_init 10 = .ok (.putfield 9, 3) := by decide +kernel
theorem dX0_init_13 : decode cX0_init 13 = .ok (.aload_n 0, 1) := by decide +kernel
theorem dX0_init_14 : decode cX0_init 14 = .ok (.sipush 16000, 3) := by decide +kernel
theorem dX0_init_17 : decode cX0_init 17 = .ok (.newarray .int, 2) := by decide +kernel
theorem dX0_init_19 : decode cX0_init 19 = .ok (.putfield 13, 3) := by decide +kernel
theorem dX0_init_22 : decode cX0_init 22 = .ok (.aload_n 0, 1) := by decide +kernel
theorem dX0_init_23 : decode cX0_init 23 = .ok (.sipush 26000, 3) := by decide +kernel
theorem dX0_init_26 : decode cX0_init 26 = .ok (.newarray .long, 2) := by decide +kernel
theorem dX0_init_28 : decode cX0_init 28 = .ok (.putfield 16, 3) := by decide +kernel
theorem dX0_init_31 : decode cX0_init 31 = .ok (.aload_n 0, 1) := by decide +kernel
theorem dX0_init_32 : decode cX0_init 32 = .ok (.ldc 20, 2) := by decide +kernel
theorem dX0_init_34 : decode cX0_init 34 = .ok (.newarray .long, 2) := by decide +kernel
theorem dX0_init_36 : decode cX0_init 36 = .ok (.putfield 21, 3) := by decide +kernel
theorem dX0_init_39 : decode cX0_init 39 = .ok (.aload_n 0, 1) := by decide +kernel
theorem dX0_init_40 : decode cX0_init 40 = .ok (.sipush 3201, 3) := by decide +kernel
theorem dX0_init_43 : decode cX0_init 43 = .ok (.newarray .int, 2) := by decide +kernel
theorem dX0_init_45 : decode cX0_init 45 = .ok (.putfield 24, 3) := by decide +kernel
theorem dX0_init_48 : decode cX0_init 48 = .ok (.aload_n 0, 1) := by decide +kernel
theorem dX0_init_49 : decode cX0_init 49 = .ok (.sipush 240, 3) := by decide +kernel
theorem dX0_init_52 : decode cX0_init 52 = .ok (.newarray .long, 2) := by decide +kernel
theorem dX0_init_54 : decode cX0_init 54 = .ok (.putfield 29, 3) := by decide +kernel
theorem dX0_init_57 : decode cX0_init 57 = .ok (.aload_n 0, 1) := by decide +kernel
theorem dX0_init_58 : decode cX0_init 58 = .ok (.sipush 240, 3) := by decide +kernel
theorem dX0_init_61 : decode cX0_init 61 = .ok (.newarray .long, 2) := by decide +kernel
theorem dX0_init_63 : decode cX0_init 63 = .ok (.putfield 32, 3) := by decide +kernel
theorem dX0_init_66 : decode cX0_init 66 = .ok (.aload_n 0, 1) := by decide +kernel
theorem dX0_init_67 : decode cX0_init 67 = .ok (.bipush 124, 2) := by decide +kernel
theorem dX0_init_69 : decode cX0_init 69 = .ok (.newarray .int, 2) := by decide +kernel
theorem dX0_init_71 : decode cX0_init 71 = .ok (.putfield 35, 3) := by decide +kernel
theorem dX0_init_74 : decode cX0_init 74 = .ok (.aload_n 0, 1) := by decide +kernel
theorem dX0_init_75 : decode cX0_init 75 = .ok (.aload_n 1, 1) := by decide +kernel
theorem dX0_init_76 : decode cX0_init 76 = .ok (.putfield 38, 3) := by decide +kernel
theorem dX0_init_79 : decode cX0_init 79 = .ok (.aload_n 0, 1) := by decide +kernel
theorem dX0_init_80 : decode cX0_init 80 = .ok (.new 42, 3) := by decide +kernel
theorem dX0_init_83 : decode cX0_init 83 = .ok (.dup, 1) := by decide +kernel
theorem dX0_init_84 : decode cX0_init 84 = .ok (.iconst 0, 1) := by decide +kernel
theorem dX0_init_85 : decode cX0_init 85 = .ok (.invokespecial 44, 3) := by decide +kernel
theorem dX0_init_88 : decode cX0_init 88 = .ok (.putfield 47, 3) := by decide +kernel
theorem dX0_init_91 : decode cX0_init 91 = .ok (.return_, 1) := by decide +kernel
set_option maxRecDepth 10000 in
set_option maxHeartbeats 4000000 in
/-- Code -/
theorem C_X0_init (a n : Nat) (sr : Nat) (h : mj_H) (ha : a < n) (hn : n + 18 < 1000000) (e0 : h a = .inr (0, [.null, .null, .int 0, .null, .int 0, .null, .null, .int 0, .null, .null, .null, .int 0, .int 0, .int 0, .int 0, .null, .int 0, .long 0, .int 0, .null, .null])) : mj_C yX0_init cX0_init 2 none 2 18 109920 [.ref a, .ref sr] h n (fun v h' => v = none ∧ h' a = .inr (0, [.ref n, .ref (n + 1), .int 0, .ref (n + 2), .int 0, .ref (n + 3), .ref (n + 4), .int 0, .ref (n + 5), .ref (n + 6), .ref (n + 7), .int 0, .int 0, .int 0, .int 0, .ref (n + 8), .int 0, .long 0, .int 0, .ref sr, .null]) ∧ h' n = .inl (1, 16000, .inl ((fun _ => 0))) ∧ h' (n + 1) = .inl (1, 16000, .inl ((fun _ => 0))) ∧ h' (n + 2) = .inl (2, 26000, .inr (.inl ((fun _ => 0)))) ∧ h' (n + 3) = .inl (2, 48000, .inr (.inl ((fun _ => 0)))) ∧ h' (n + 4) = .inl (1, 3201, .inl ((fun _ => 0))) ∧ h' (n + 5) = .inl (2, 240, .inr (.inl ((fun _ => 0)))) ∧ h' (n + 6) = .inl (2, 240, .inr (.inl ((fun _ => 0)))) ∧ h' (n + 7) = .inl (1, 124, .inl ((fun _ => 0))) ∧ h' (n + 8) = .inr (4, [.int 0, .int 0, .int 0, .int 0, .int 0, .int 0, .int 0, .ref (n + 9), .ref (n + 10), .ref (n + 11), .int 0, .ref (n + 12), .ref (n + 13), .ref (n + 14), .ref (n + 15), .ref (n + 16), .ref (n + 17)]) ∧ h' (n + 9) = .inl (1, 8, .inl ((fun _ => 0))) ∧ h' (n + 10) = .inl (1, 8, .inl ((fun _ => 0))) ∧ h' (n + 11) = .inl (1, 8, .inl ((fun _ => 0))) ∧ h' (n + 12) = .inl (1, 4, .inl ((fun _ => 0))) ∧ h' (n + 13) = .inl (1, 6, .inl ((fun _ => 0))) ∧ h' (n + 14) = .inl (1, 6, .inl ((fun _ => 0))) ∧ h' (n + 15) = .inl (1, 6, .inl ((fun _ => 0))) ∧ h' (n + 16) = .inl (1, 48, .inl ((fun _ => 0))) ∧ h' (n + 17) = .inl (2, 4, .inr (.inl ((fun _ => 0)))) ∧ ∀ j, j < n → j ≠ a → h' j = h j) := by
  refine mj_C.of (by decide +kernel) (Nat.le_of_ble_eq_true rfl) ?_
  intro D cy ad bs X
  refine mj_aload_n dX0_init_0 0 rfl ?_
  refine mj_objInit dX0_init_1 ML_X0_1 OI_i OI_c (by decide) (Nat.le_of_ble_eq_true rfl) ?_
  refine mj_aload_n dX0_init_4 0 rfl ?_
  refine mj_sipush (v := 16000) dX0_init_5 (by decide) ?_
  refine mj_newIA (N := 16000) dX0_init_8 AC_int (by decide) (by decide) (Nat.le_of_ble_eq_true rfl) (by omega) (Nat.le_of_ble_eq_true rfl) (Nat.le_of_ble_eq_true rfl) (fun h1 q2 o3 => ?_)
  have e4 : h1 a = .inr (0, [.null, .null, .int 0, .null, .int 0, .null, .null, .int 0, .null, .null, .null, .int 0, .int 0, .int 0, .int 0, .null, .int 0, .long 0, .int 0, .null, .null]) := (o3 _ (by omega)).trans (e0)
  refine mj_putFA dX0_init_10 F_X0_9 (by omega) e4 rfl (Nat.le_of_ble_eq_true rfl) rfl rfl (fun h5 q6 o7 => ?_)
  replace q6 : h5 a = .inr (0, [.ref n, .null, .int 0, .null, .int 0, .null, .null, .int 0, .null, .null, .null, .int 0, .int 0, .int 0, .int 0, .null, .int 0, .long 0, .int 0, .null, .null]) := q6
  refine mj_aload_n dX0_init_13 0 rfl ?_
  refine mj_sipush (v := 16000) dX0_init_14 (by decide) ?_
  refine mj_newIA (N := 16000) dX0_init_17 AC_int (by decide) (by decide) (Nat.le_of_ble_eq_true rfl) (by omega) (Nat.le_of_ble_eq_true rfl) (Nat.le_of_ble_eq_true rfl) (fun h8 q9 o10 => ?_)
  have e11 : h8 a = .inr (0, [.ref n, .null, .int 0, .null, .int 0, .null, .null, .int 0, .null, .null, .null, .int 0, .int 0, .int 0, .int 0, .null, .int 0, .long 0, .int 0, .null, .null]) := (o10 _ (by omega)).trans (q6)
  refine mj_putFA dX0_init_19 F_X0_13 (by omega) e11 rfl (Nat.le_of_ble_eq_true rfl) rfl rfl (fun h12 q13 o14 => ?_)
  replace q13 : h12 a = .inr (0, [.ref n, .ref (n + 1), .int 0, .null, .int 0, .null, .null, .int 0, .null, .null, .null, .int 0, .int 0, .int 0, .int 0, .null, .int 0, .long 0, .int 0, .null, .null]) := q13
  refine mj_aload_n dX0_init_22 0 rfl ?_
  refine mj_sipush (v := 26000) dX0_init_23 (by decide) ?_
  refine mj_newJA (N := 26000) dX0_init_26 AC_long (by decide) (by decide) (Nat.le_of_ble_eq_true rfl) (by omega) (Nat.le_of_ble_eq_true rfl) (Nat.le_of_ble_eq_true rfl) (fun h15 q16 o17 => ?_)
  have e18 : h15 a = .inr (0, [.ref n, .ref (n + 1), .int 0, .null, .int 0, .null, .null, .int 0, .null, .null, .null, .int 0, .int 0, .int 0, .int 0, .null, .int 0, .long 0, .int 0, .null, .null]) := (o17 _ (by omega)).trans (q13)
  refine mj_putFA dX0_init_28 F_X0_16 (by omega) e18 rfl (Nat.le_of_ble_eq_true rfl) rfl rfl (fun h19 q20 o21 => ?_)
  replace q20 : h19 a = .inr (0, [.ref n, .ref (n + 1), .int 0, .ref (n + 2), .int 0, .null, .null, .int 0, .null, .null, .null, .int 0, .int 0, .int 0, .int 0, .null, .int 0, .long 0, .int 0, .null, .null]) := q20
  refine mj_aload_n dX0_init_31 0 rfl ?_
  refine mj_ldc dX0_init_32 K_X0_20 ?_
  refine mj_newJA (N := 48000) dX0_init_34 AC_long (by decide) (by decide) (Nat.le_of_ble_eq_true rfl) (by omega) (Nat.le_of_ble_eq_true rfl) (Nat.le_of_ble_eq_true rfl) (fun h22 q23 o24 => ?_)
  have e25 : h22 a = .inr (0, [.ref n, .ref (n + 1), .int 0, .ref (n + 2), .int 0, .null, .null, .int 0, .null, .null, .null, .int 0, .int 0, .int 0, .int 0, .null, .int 0, .long 0, .int 0, .null, .null]) := (o24 _ (by omega)).trans (q20)
  refine mj_putFA dX0_init_36 F_X0_21 (by omega) e25 rfl (Nat.le_of_ble_eq_true rfl) rfl rfl (fun h26 q27 o28 => ?_)
  replace q27 : h26 a = .inr (0, [.ref n, .ref (n + 1), .int 0, .ref (n + 2), .int 0, .ref (n + 3), .null, .int 0, .null, .null, .null, .int 0, .int 0, .int 0, .int 0, .null, .int 0, .long 0, .int 0, .null, .null]) := q27
  refine mj_aload_n dX0_init_39 0 rfl ?_
  refine mj_sipush (v := 3201) dX0_init_40 (by decide) ?_
  refine mj_newIA (N := 3201) dX0_init_43 AC_int (by decide) (by decide) (Nat.le_of_ble_eq_true rfl) (by omega) (Nat.le_of_ble_eq_true rfl) (Nat.le_of_ble_eq_true rfl) (fun h29 q30 o31 => ?_)
  have e32 : h29 a = .inr (0, [.ref n, .ref (n + 1), .int 0, .ref (n + 2), .int 0, .ref (n + 3), .null, .int 0, .null, .null, .null, .int 0, .int 0, .int 0, .int 0, .null, .int 0, .long 0, .int 0, .null, .null]) := (o31 _ (by omega)).trans (q27)
  refine mj_putFA dX0_init_45 F_X0_24 (by omega) e32 rfl (Nat.le_of_ble_eq_true rfl) rfl rfl (fun h33 q34 o35 => ?_)
  replace q34 : h33 a = .inr (0, [.ref n, .ref (n + 1), .int 0, .ref (n + 2), .int 0, .ref (n + 3), .ref (n + 4), .int 0, .null, .null, .null, .int 0, .int 0, .int 0, .int 0, .null, .int 0, .long 0, .int 0, .null, .null]) := q34
  refine mj_aload_n dX0_init_48 0 rfl ?_
  refine mj_sipush (v := 240) dX0_init_49 (by decide) ?_
  refine mj_newJA (N := 240) dX0_init_52 AC_long (by decide) (by decide) (Nat.le_of_ble_eq_true rfl) (by omega) (Nat.le_of_ble_eq_true rfl) (Nat.le_of_ble_eq_true rfl) (fun h36 q37 o38 => ?_)
  have e39 : h36 a = .inr (0, [.ref n, .ref (n + 1), .int 0, .ref (n + 2), .int 0, .ref (n + 3), .ref (n + 4), .int 0, .null, .null, .null, .int 0, .int 0, .int 0, .int 0, .null, .int 0, .long 0, .int 0, .null, .null]) := (o38 _ (by omega)).trans (q34)
  refine mj_putFA dX0_init_54 F_X0_29 (by omega) e39 rfl (Nat.le_of_ble_eq_true rfl) rfl rfl (fun h40 q41 o42 => ?_)
  replace q41 : h40 a = .inr (0, [.ref n, .ref (n + 1), .int 0, .ref (n + 2), .int 0, .ref (n + 3), .ref (n + 4), .int 0, .ref (n + 5), .null, .null, .int 0, .int 0, .int 0, .int 0, .null, .int 0, .long 0, .int 0, .null, .null]) := q41
  refine mj_aload_n dX0_init_57 0 rfl ?_
  refine mj_sipush (v := 240) dX0_init_58 (by decide) ?_
  refine mj_newJA (N := 240) dX0_init_61 AC_long (by decide) (by decide) (Nat.le_of_ble_eq_true rfl) (by omega) (Nat.le_of_ble_eq_true rfl) (Nat.le_of_ble_eq_true rfl) (fun h43 q44 o45 => ?_)
  have e46 : h43 a = .inr (0, [.ref n, .ref (n + 1), .int 0, .ref (n + 2), .int 0, .ref (n + 3), .ref (n + 4), .int 0, .ref (n + 5), .null, .null, .int 0, .int 0, .int 0, .int 0, .null, .int 0, .long 0, .int 0, .null, .null]) := (o45 _ (by omega)).trans (q41)
  refine mj_putFA dX0_init_63 F_X0_32 (by omega) e46 rfl (Nat.le_of_ble_eq_true rfl) rfl rfl (fun h47 q48 o49 => ?_)
  replace q48 : h47 a = .inr (0, [.ref n, .ref (n + 1), .int 0, .ref (n + 2), .int 0, .ref (n + 3), .ref (n + 4), .int 0, .ref (n + 5), .ref (n + 6), .null, .int 0, .int 0, .int 0, .int 0, .null, .int 0, .long 0, .int 0, .null, .null]) := q48
  refine mj_aload_n dX0_init_66 0 rfl ?_
  refine mj_bipush (v := 124) dX0_init_67 (by decide) ?_
  refine mj_newIA (N := 124) dX0_init_69 AC_int (by decide) (by decide) (Nat.le_of_ble_eq_true rfl) (by omega) (Nat.le_of_ble_eq_true rfl) (Nat.le_of_ble_eq_true rfl) (fun h50 q51 o52 => ?_)
  have e53 : h50 a = .inr (0, [.ref n, .ref (n + 1), .int 0, .ref (n + 2), .int 0, .ref (n + 3), .ref (n + 4), .int 0, .ref (n + 5), .ref (n + 6), .null, .int 0, .int 0, .int 0, .int 0, .null, .int 0, .long 0, .int 0, .null, .null]) := (o52 _ (by omega)).trans (q48)
  refine mj_putFA dX0_init_71 F_X0_35 (by omega) e53 rfl (Nat.le_of_ble_eq_true rfl) rfl rfl (fun h54 q55 o56 => ?_)
  replace q55 : h54 a = .inr (0, [.ref n, .ref (n + 1), .int 0, .ref (n + 2), .int 0, .ref (n + 3), .ref (n + 4), .int 0, .ref (n + 5), .ref (n + 6), .ref (n + 7), .int 0, .int 0, .int 0, .int 0, .null, .int 0, .long 0, .int 0, .null, .null]) := q55
  refine mj_aload_n dX0_init_74 0 rfl ?_
  refine mj_aload_n dX0_init_75 1 rfl ?_
  refine mj_putFA dX0_init_76 F_X0_38 (by omega) q55 rfl (Nat.le_of_ble_eq_true rfl) rfl rfl (fun h57 q58 o59 => ?_)
  replace q58 : h57 a = .inr (0, [.ref n, .ref (n + 1), .int 0, .ref (n + 2), .int 0, .ref (n + 3), .ref (n + 4), .int 0, .ref (n + 5), .ref (n + 6), .ref (n + 7), .int 0, .int 0, .int 0, .int 0, .null, .int 0, .long 0, .int 0, .ref sr, .null]) := q58
  refine mj_aload_n dX0_init_79 0 rfl ?_
  refine mj_newA (fs := [.int 0, .int 0, .int 0, .int 0, .int 0, .int 0, .int 0, .null, .null, .null, .int 0, .null, .null, .null, .null, .null, .null]) tyX4 dX0_init_80 CL_X4 tyX4_ok KL_X0_42 IN_X4 II_X4 (by decide +kernel) (fun _ => rfl) (by omega) (Nat.le_of_ble_eq_true rfl) (Nat.le_of_ble_eq_true rfl) (fun h60 q61 o62 => ?_)
  refine mj_dup dX0_init_83 rfl ?_
  refine mj_iconst (v := 0) dX0_init_84 (by decide) ?_
  refine mj_callI dX0_init_85 rfl rfl M_X4_init (C_X4_init (n + 8) (n + 9) 0 h60 (by omega) (by omega) q61) ML_X0_44 IM_X4_init (As := [.int 0]) rfl rfl (Nat.le_of_ble_eq_true rfl) (Nat.le_of_ble_eq_true rfl) (Nat.le_of_ble_eq_true rfl) (Nat.le_of_ble_eq_true rfl) (fun v2 h63 hp => ?_)
  obtain ⟨rfl, q64, q65, q66, q67, q68, q69, q70, q71, q72, q73, o74⟩ := hp
  replace q64 : h63 (n + 8) = .inr (4, [.int 0, .int 0, .int 0, .int 0, .int 0, .int 0, .int 0, .ref (n + 9), .ref (n + 10), .ref (n + 11), .int 0, .ref (n + 12), .ref (n + 13), .ref (n + 14), .ref (n + 15), .ref (n + 16), .ref (n + 17)]) := q64
  replace q65 : h63 (n + 9) = .inl (1, 8, .inl ((fun _ => 0))) := q65
  replace q66 : h63 (n + 10) = .inl (1, 8, .inl ((fun _ => 0))) := q66
  replace q67 : h63 (n + 11) = .inl (1, 8, .inl ((fun _ => 0))) := q67
  replace q68 : h63 (n + 12) = .inl (1, 4, .inl ((fun _ => 0))) := q68
  replace q69 : h63 (n + 13) = .inl (1, 6, .inl ((fun _ => 0))) := q69
  replace q70 : h63 (n + 14) = .inl (1, 6, .inl ((fun _ => 0))) := q70
  replace q71 : h63 (n + 15) = .inl (1, 6, .inl ((fun _ => 0))) := q71
  replace q72 : h63 (n + 16) = .inl (1, 48, .inl ((fun _ => 0))) := q72
  replace q73 : h63 (n + 17) = .inl (2, 4, .inr (.inl ((fun _ => 0)))) := q73
  have e75 : h63 a = .inr (0, [.ref n, .ref (n + 1), .int 0, .ref (n + 2), .int 0, .ref (n + 3), .ref (n + 4), .int 0, .ref (n + 5), .ref (n + 6), .ref (n + 7), .int 0, .int 0, .int 0, .int 0, .null, .int 0, .long 0, .int 0, .ref sr, .null]) := (o74 _ (by omega) (by omega)).trans ((o62 _ (by omega)).trans (q58))
  refine mj_putA dX0_init_88 F_X0_47 (by omega) e75 rfl (Nat.le_of_ble_eq_true rfl) (fun h76 q77 o78 => ?_)
  replace q77 : h76 a = .inr (0, [.ref n, .ref (n + 1), .int 0, .ref (n + 2), .int 0, .ref (n + 3), .ref (n + 4), .int 0, .ref (n + 5), .ref (n + 6), .ref (n + 7), .int 0, .int 0, .int 0, .int 0, .ref (n + 8), .int 0, .long 0, .int 0, .ref sr, .null]) := q77
  have e79 : h76 n = .inl (1, 16000, .inl ((fun _ => 0))) := (o78 _ (by omega)).trans ((o74 _ (by omega) (by omega)).trans ((o62 _ (by omega)).trans ((o59 _ (by omega)).trans ((o56 _ (by omega)).trans ((o52 _ (by omega)).trans ((o49 _ (by omega)).trans ((o45 _ (by omega)).trans ((o42 _ (by omega)).trans ((o38 _ (by omega)).trans ((o35 _ (by omega)).trans ((o31 _ (by omega)).trans ((o28 _ (by omega)).trans ((o24 _ (by omega)).trans ((o21 _ (by omega)).trans ((o17 _ (by omega)).trans ((o14 _ (by omega)).trans ((o10 _ (by omega)).trans ((o7 _ (by omega)).trans (q2)))))))))))))))))))
  have e80 : h76 (n + 1) = .inl (1, 16000, .inl ((fun _ => 0))) := (o78 _ (by omega)).trans ((o74 _ (by omega) (by omega)).trans ((o62 _ (by omega)).trans ((o59 _ (by omega)).trans ((o56 _ (by omega)).trans ((o52 _ (by omega)).trans ((o49 _ (by omega)).trans ((o45 _ (by omega)).trans ((o42 _ (by omega)).trans ((o38 _ (by omega)).trans ((o35 _ (by omega)).trans ((o31 _ (by omega)).trans ((o28 _ (by omega)).trans ((o24 _ (by omega)).trans ((o21 _ (by omega)).trans ((o17 _ (by omega)).trans ((o14 _ (by omega)).trans (q9)))))))))))))))))
  have e81 : h76 (n + 2) = .inl (2, 26000, .inr (.inl ((fun _ => 0)))) := (o78 _ (by omega)).trans ((o74 _ (by omega) (by omega)).trans ((o62 _ (by omega)).trans ((o59 _ (by omega)).trans ((o56 _ (by omega)).trans ((o52 _ (by omega)).trans ((o49 _ (by omega)).trans ((o45 _ (by omega)).trans ((o42 _ (by omega)).trans ((o38 _ (by omega)).trans ((o35 _ (by omega)).trans ((o31 _ (by omega)).trans ((o28 _ (by omega)).trans ((o24 _ (by omega)).trans ((o21 _ (by omega)).trans (q16)))))))))))))))
  have e82 : h76 (n + 3) = .inl (2, 48000, .inr (.inl ((fun _ => 0)))) := (o78 _ (by omega)).trans ((o74 _ (by omega) (by omega)).trans ((o62 _ (by omega)).trans ((o59 _ (by omega)).trans ((o56 _ (by omega)).trans ((o52 _ (by omega)).trans ((o49 _ (by omega)).trans ((o45 _ (by omega)).trans ((o42 _ (by omega)).trans ((o38 _ (by omega)).trans ((o35 _ (by omega)).trans ((o31 _ (by omega)).trans ((o28 _ (by omega)).trans (q23)))))))))))))
  have e83 : h76 (n + 4) = .inl (1, 3201, .inl ((fun _ => 0))) := (o78 _ (by omega)).trans ((o74 _ (by omega) (by omega)).trans ((o62 _ (by omega)).trans ((o59 _ (by omega)).trans ((o56 _ (by omega)).trans ((o52 _ (by omega)).trans ((o49 _ (by omega)).trans ((o45 _ (by omega)).trans ((o42 _ (by omega)).trans ((o38 _ (by omega)).trans ((o35 _ (by omega)).trans (q30)))))))))))
  have e84 : h76 (n + 5) = .inl (2, 240, .inr (.inl ((fun _ => 0)))) := (o78 _ (by omega)).trans ((o74 _ (by omega) (by omega)).trans ((o62 _ (by omega)).trans ((o59 _ (by omega)).trans ((o56 _ (by omega)).trans ((o52 _ (by omega)).trans ((o49 _ (by omega)).trans ((o45 _ (by omega)).trans ((o42 _ (by omega)).trans (q37)))))))))
  have e85 : h76 (n + 6) = .inl (2, 240, .inr (.inl ((fun _ => 0)))) := (o78 _ (by omega)).trans ((o74 _ (by omega) (by omega)).trans ((o62 _ (by omega)).trans ((o59 _ (by omega)).trans ((o56 _ (by omega)).trans ((o52 _ (by omega)).trans ((o49 _ (by omega)).trans (q44)))))))
  have e86 : h76 (n + 7) = .inl (1, 124, .inl ((fun _ => 0))) := (o78 _ (by omega)).trans ((o74 _ (by omega) (by omega)).trans ((o62 _ (by omega)).trans ((o59 _ (by omega)).trans ((o56 _ (by omega)).trans (q51)))))
  have e87 : h76 (n + 8) = .inr (4, [.int 0, .int 0, .int 0, .int 0, .int 0, .int 0, .int 0, .ref (n + 9), .ref (n + 10), .ref (n + 11), .int 0, .ref (n + 12), .ref (n + 13), .ref (n + 14), .ref (n + 15), .ref (n + 16), .ref (n + 17)]) := (o78 _ (by omega)).trans (q64)
  have e88 : h76 (n + 9) = .inl (1, 8, .inl ((fun _ => 0))) := (o78 _ (by omega)).trans (q65)
  have e89 : h76 (n + 10) = .inl (1, 8, .inl ((fun _ => 0))) := (o78 _ (by omega)).trans (q66)
  have e90 : h76 (n + 11) = .inl (1, 8, .inl ((fun _ => 0))) := (o78 _ (by omega)).trans (q67)
  have e91 : h76 (n + 12) = .inl (1, 4, .inl ((fun _ => 0))) := (o78 _ (by omega)).trans (q68)
  have e92 : h76 (n + 13) = .inl (1, 6, .inl ((fun _ => 0))) := (o78 _ (by omega)).trans (q69)
  have e93 : h76 (n + 14) = .inl (1, 6, .inl ((fun _ => 0))) := (o78 _ (by omega)).trans (q70)
  have e94 : h76 (n + 15) = .inl (1, 6, .inl ((fun _ => 0))) := (o78 _ (by omega)).trans (q71)
  have e95 : h76 (n + 16) = .inl (1, 48, .inl ((fun _ => 0))) := (o78 _ (by omega)).trans (q72)
  have e96 : h76 (n + 17) = .inl (2, 4, .inr (.inl ((fun _ => 0)))) := (o78 _ (by omega)).trans (q73)
  exact mj_vret dX0_init_91 rfl ⟨rfl, q77, e79, e80, e81, e82, e83, e84, e85, e86, e87, e88, e89, e90, e91, e92, e93, e94, e95, e96, fun j hj1 hj2 => ((o78 j (by omega)).trans ((o74 j (by omega) (by omega)).trans ((o62 j (by omega)).trans ((o59 j (by omega)).trans ((o56 j (by omega)).trans ((o52 j (by omega)).trans ((o49 j (by omega)).trans ((o45 j (by omega)).trans ((o42 j (by omega)).trans ((o38 j (by omega)).trans ((o35 j (by omega)).trans ((o31 j (by omega)).trans ((o28 j (by omega)).trans ((o24 j (by omega)).trans ((o21 j (by omega)).trans ((o17 j (by omega)).trans ((o14 j (by omega)).trans ((o10 j (by omega)).trans ((o7 j (by omega)).trans (o3 j (by omega)))))))))))))))))))))⟩ (by omega) (Nat.le_of_ble_eq_true rfl) (Nat.le_of_ble_eq_true rfl)
theorem dX10_init_0 : decode cX10_init 0 = .ok (.aload_n 0, 1) := by decide +kernel
theorem dX10_init_1 : decode cX10_init 1 = .ok (.invokespecial 3, 3) := by decide +kernel
theorem dX10_init_4 : decode cX10_init 4 = .ok (.aload_n 0, 1) := by decide +kernel
theorem dX10_init_5 : decode cX10_init 5 = .ok (.sipush 6100, 3) := by decide +kernel
theorem dX10_init_8 : decode cX10_init 8 = .ok (.newarray .int, 2) := by decide +kernel
theorem dX10_init_10 : decode cX10_init 10 = .ok (.putfield 11, 3) := by decide +kernel
theorem dX10_init_13 : decode cX10_init 13 = .ok (.aload_n 0, 1) := by decide +kernel
theorem dX10_init_14 : decode cX10_init 14 = .ok (.sipush 6100, 3) := by decide +kernel
theorem dX10_init_17 : decode cX10_init 17 = .ok (.newarray .int, 2) := by decide +kernel
theorem dX10_init_19 : decode cX10_init 19 = .ok (.putfield 15, 3) := by decide +kernel
theorem dX10_init_22 : decode cX10_init 22 = .ok (.aload_n 0, 1) := by decide +kernel
theorem dX10_init_23 : decode cX10_init 23 = .ok (.sipush 6100, 3) := by decide +kernel
theorem dX10_init_26 : decode cX10_init 26 = .ok (.newarray .int, 2) := by decide +kernel
theorem dX10_init_28 : decode cX10_init 28 = .ok (.putfield 18, 3) := by decide +kernel
theorem dX10_init_31 : decode cX10_init 31 = .ok (.aload_n 0, 1) := by decide +kernel
theorem dX10_init_32 : decode cX10_init 32 = .ok (.sipush 6100, 3) := by decide +kernel
theorem dX10_init_35 : decode cX10_init 35 = .ok (.newarray .int, 2) := by decide +kernel
theorem dX10_init_37 : decode cX10_init 37 = .ok (.putfield 21, 3) := by decide +kernel
theorem dX10_init_40 : decode cX10_init 40 = .ok (.aload_n 0, 1) := by decide +kernel
theorem dX10_init_41 : decode cX10_init 41 = .ok (.sipush 6100, 3) := by decide +kernel
theorem dX10_init_44 : decode cX10_init 44 = .ok (.newarray .int, 2) := by decide +kernel
theorem dX10_init_46 : decode cX10_init 46 = .ok (.putfield 24, 3) := by decide +kernel
theorem dX10_init_49 : decode cX10_init 49 = .ok (.aload_n 0, 1) := by decide +kernel
theorem dX10_init_50 : decode cX10_init 50 = .ok (.sipush 6100, 3) := by decide +kernel
theorem dX10_init_53 : decode cX10_init 53 = .ok (.newarray .int, 2) := by decide +kernel
theorem dX10_init_55 : decode cX10_init 55 = .ok (.putfield 27, 3) := by decide +kernel
theorem dX10_init_58 : decode cX10_init 58 = .ok (.aload_n 0, 1) := by decide +kernel
theorem dX10_init_59 : decode cX10_init 59 = .ok (.sipush 6100, 3) := by decide +kernel
theorem dX10_init_62 : decode cX10_init 62 = .ok (.newarray .boolean, 2) := by decide +kernel
theorem dX10_init_64 : decode cX10_init 64 = .ok (.putfield 30, 3) := by decide +kernel
theorem dX10_init_67 : decode cX10_init 67 = .ok (.aload_n 0, 1) := by decide +kernel
theorem dX10_init_68 : decode cX10_init 68 = .ok (.sipush 6100, 3) := by decide +kernel
theorem dX10_init_71 : decode cX10_init 71 = .ok (.newarray .long, 2) := by decide +kernel
theorem dX10_init_73 : decode cX10_init 73 = .ok (.putfield 34, 3) := by decide +kernel
theorem dX10_init_76 : decode cX10_init 76 = .ok (.aload_n 0, 1) := by decide +kernel
theorem dX10_init_77 : decode cX10_init 77 = .ok (.sipush 6100, 3) := by decide +kernel
theorem dX10_init_80 : decode cX10_init 80 = .ok (.newarray .long, 2) := by decide +kernel
theorem dX10_init_82 : decode cX10_init 82 = .ok (.putfield 38, 3) := by decide +kernel
theorem dX10_init_85 : decode cX10_init 85 = .ok (.aload_n 0, 1) := by decide +kernel
theorem dX10_init_86 : decode cX10_init 86 = .ok (.bipush 60, 2) := by decide +kernel
theorem dX10_init_88 : decode cX10_init 88 = .ok (.bipush 7, 2) := by decide +kernel
theorem dX10_init_90 : decode cX10_init 90 = .ok (.multianewarray 41 2, 4) := by decide +kernel
theorem dX10_init_94 : decode cX10_init 94 = .ok (.putfield 43, 3) := by decide +kernel
theorem dX10_init_97 : decode cX10_init 97 = .ok (.aload_n 0, 1) := by decide +kernel
theorem dX10_init_98 : decode cX10_init 98 = .ok (.sipush 7320, 3) := by decide +kernel
theorem dX10_init_101 : decode cX10_init 101 = .ok (.newarray .int, 2) := by decide +kernel
theorem dX10_init_103 : decode cX10_init 103 = .ok (.putfield 46, 3) := by decide +kernel
theorem dX10_init_106 : decode cX10_init 106 = .ok (.aload_n 0, 1) := by decide +kernel
theorem dX10_init_107 : decode cX10_init 107 = .ok (.sipush 240, 3) := by decide +kernel
theorem dX10_init_110 : decode cX10_init 110 = .ok (.newarray .int, 2) := by decide +kernel
theorem dX10_init_112 : decode cX10_init 112 = .ok (.putfield 49, 3) := by decide +kernel
theorem dX10_init_115 : decode cX10_init 115 = .ok (.aload_n 0, 1) := by decide +kernel
theorem dX10_init_116 : decode cX10_init 116 = .ok (.sipush 1212, 3) := by decide +kernel
theorem dX10_init_119 : decode cX10_init 119 = .ok (.newarray .int, 2) := by decide +kernel
theorem dX10_init_121 : decode cX10_init 121 = .ok (.putfield 52, 3) := by decide +kernel
theorem dX10_init_124 : decode cX10_init 124 = .ok (.aload_n 0, 1) := by decide +kernel
theorem dX10_init_125 : decode cX10_init 125 = .ok (.bipush 16, 2) := by decide +kernel
theorem dX10_init_127 : decode cX10_init 127 = .ok (.newarray .int, 2) := by decide +kernel
theorem dX10_init_129 : decode cX10_init 129 = .ok (.putfield 55, 3) := by decide +kernel
theorem dX10_init_132 : decode cX10_init 132 = .ok (.aload_n 0, 1) := by decide +kernel
theorem dX10_init_133 : decode cX10_init 133 = .ok (.aload_n 1, 1) := by decide +kernel
theorem dX10_init_134 : decode cX10_init 134 = .ok (.putfield 58, 3) := by decide +kernel
theorem dX10_init_137 : decode cX10_init 137 = .ok (.aload_n 0, 1) := by decide +kernel
theorem dX10_init_138 : decode cX10_init 138 = .ok (.aload_n 1, 1) := by decide +kernel
theorem dX10_init_139 : decode cX10_init 139 = .ok (.getfield 62, 3) := by decide +kernel
theorem dX10_init_142 : decode cX10_init 142 = .ok (.putfield 67, 3) := by decide +kernel
theorem dX10_init_145 : decode cX10_init 145 = .ok (.return_, 1) := by decide +kernel
set_option maxRecDepth 10000 in
set_option maxHeartbeats 4000000 in
/-- Templates -/
theorem C_X10_init (a n : Nat) (cd : Nat) (g0 : Nat) (g1 : Nat) (g2 : Int32) (g3 : Nat) (g4 : Int32) (g5 : Nat) (g6 : Nat) (g7 : Int32) (g8 : Nat) (g9 : Nat) (g10 : Nat) (g11 : Int32) (g12 : Int32) (g13 : Int32) (g14 : Int32) (g15 : Nat) (g16 : Int32) (g17 : Int64) (g18 : Int32) (g19 : Nat) (h : mj_H) (ha : a < n) (hn : n + 74 < 1000000) (e0 : h a = .inr (10, [.null, .null, .null, .null, .null, .null, .null, .null, .null, .int 0, .null, .int 0, .null, .int 0, .null, .int 0, .null, .int 0, .null, .null, .int 0, .null])) (b0 : cd < n) (d0 : cd ≠ a) (o0 : h cd = .inr (0, [.ref g0, .ref g1, .int g2, .ref g3, .int g4, .ref g5, .ref g6, .int g7, .ref g8, .ref g9, .ref g10, .int g11, .int g12, .int g13, .int g14, .ref g15, .int g16, .long g17, .int g18, .ref g19, .null])) : mj_C yX10_init cX10_init 2 none 1 74 64168 [.ref a, .ref cd] h n (fun v h' => v = none ∧ h' a = .inr (10, [.ref n, .ref (n + 1), .ref (n + 2), .ref (n + 3), .ref (n + 4), .ref (n + 5), .ref (n + 6), .ref (n + 7), .ref (n + 8), .int 0, .ref (n + 9), .int 0, .ref (n + 70), .int 0, .ref g3, .int 0, .ref (n + 71), .int 0, .ref (n + 72), .ref (n + 73), .int 0, .ref cd]) ∧ h' n = .inl (1, 6100, .inl ((fun _ => 0))) ∧ h' (n + 1) = .inl (1, 6100, .inl ((fun _ => 0))) ∧ h' (n + 2) = .inl (1, 6100, .inl ((fun _ => 0))) ∧ h' (n + 3) = .inl (1, 6100, .inl ((fun _ => 0))) ∧ h' (n + 4) = .inl (1, 6100, .inl ((fun _ => 0))) ∧ h' (n + 5) = .inl (1, 6100, .inl ((fun _ => 0))) ∧ h' (n + 6) = .inl (3, 6100, .inl ((fun _ => 0))) ∧ h' (n + 7) = .inl (2, 6100, .inr (.inl ((fun _ => 0)))) ∧ h' (n + 8) = .inl (2, 6100, .inr (.inl ((fun _ => 0)))) ∧ h' (n + 9) = .inl (5, 60, .inr (.inr (.inr (.inr (fun i => if i < 60 then some (n + 9 + 1 + i) else none))))) ∧ (∀ i, i < 60 → h' (n + 10 + i) = .inl (1, 7, .inl (fun _ => 0))) ∧ h' (n + 70) = .inl (1, 7320, .inl ((fun _ => 0))) ∧ h' (n + 71) = .inl (1, 240, .inl ((fun _ => 0))) ∧ h' (n + 72) = .inl (1, 1212, .inl ((fun _ => 0))) ∧ h' (n + 73) = .inl (1, 16, .inl ((fun _ => 0))) ∧ ∀ j, j < n → j ≠ a → h' j = h j) := by
  refine mj_C.of (by decide +kernel) (Nat.le_of_ble_eq_true rfl) ?_
  intro D cy ad bs X
  refine mj_aload_n dX10_init_0 0 rfl ?_
  refine mj_objInit dX10_init_1 ML_X10_3 OI_i OI_c (by decide) (Nat.le_of_ble_eq_true rfl) ?_
  refine mj_aload_n dX10_init_4 0 rfl ?_
  refine mj_sipush (v := 6100) dX10_init_5 (by decide) ?_
  refine mj_newIA (N := 6100) dX10_init_8 AC_int (by decide) (by decide) (Nat.le_of_ble_eq_true rfl) (by omega) (Nat.le_of_ble_eq_true rfl) (Nat.le_of_ble_eq_true rfl) (fun h1 q2 o3 => ?_)
  have e4 : h1 a = .inr (10, [.null, .null, .null, .null, .null, .null, .null, .null, .null, .int 0, .null, .int 0, .null, .int 0, .null, .int 0, .null, .int 0, .null, .null, .int 0, .null]) := (o3 _ (by omega)).trans (e0)
  refine mj_putFA dX10_init_10 F_X10_11 (by omega) e4 rfl (Nat.le_of_ble_eq_true rfl) rfl rfl (fun h5 q6 o7 => ?_)
  replace q6 : h5 a = .inr (10, [.ref n, .null, .null, .null, .null, .null, .null, .null, .null, .int 0, .null, .int 0, .null, .int 0, .null, .int 0, .null, .int 0, .null, .null, .int 0, .null]) := q6
  refine mj_aload_n dX10_init_13 0 rfl ?_
  refine mj_sipush (v := 6100) dX10_init_14 (by decide) ?_
  refine mj_newIA (N := 6100) dX10_init_17 AC_int (by decide) (by decide) (Nat.le_of_ble_eq_true rfl) (by omega) (Nat.le_of_ble_eq_true rfl) (Nat.le_of_ble_eq_true rfl) (fun h8 q9 o10 => ?_)
  have e11 : h8 a = .inr (10, [.ref n, .null, .null, .null, .null, .null, .null, .null, .null, .int 0, .null, .int 0, .null, .int 0, .null, .int 0, .null, .int 0, .null, .null, .int 0, .null]) := (o10 _ (by omega)).trans (q6)
  refine mj_putFA dX10_init_19 F_X10_15 (by omega) e11 rfl (Nat.le_of_ble_eq_true rfl) rfl rfl (fun h12 q13 o14 => ?_)
  replace q13 : h12 a = .inr (10, [.ref n, .ref (n + 1), .null, .null, .null, .null, .null, .null, .null, .int 0, .null, .int 0, .null, .int 0, .null, .int 0, .null, .int 0, .null, .null, .int 0, .null]) := q13
  refine mj_aload_n dX10_init_22 0 rfl ?_
  refine mj_sipush (v := 6100) dX10_init_23 (by decide) ?_
  refine mj_newIA (N := 6100) dX10_init_26 AC_int (by decide) (by decide) (Nat.le_of_ble_eq_true rfl) (by omega) (Nat.le_of_ble_eq_true rfl) (Nat.le_of_ble_eq_true rfl) (fun h15 q16 o17 => ?_)
  have e18 : h15 a = .inr (10, [.ref n, .ref (n + 1), .null, .null, .null, .null, .null, .null, .null, .int 0, .null, .int 0, .null, .int 0, .null, .int 0, .null, .int 0, .null, .null, .int 0, .null]) := (o17 _ (by omega)).trans (q13)
  refine mj_putFA dX10_init_28 F_X10_18 (by omega) e18 rfl (Nat.le_of_ble_eq_true rfl) rfl rfl (fun h19 q20 o21 => ?_)
  replace q20 : h19 a = .inr (10, [.ref n, .ref (n + 1), .ref (n + 2), .null, .null, .null, .null, .null, .null, .int 0, .null, .int 0, .null, .int 0, .null, .int 0, .null, .int 0, .null, .null, .int 0, .null]) := q20
  refine mj_aload_n dX10_init_31 0 rfl ?_
  refine mj_sipush (v := 6100) dX10_init_32 (by decide) ?_
  refine mj_newIA (N := 6100) dX10_init_35 AC_int (by decide) (by decide) (Nat.le_of_ble_eq_true rfl) (by omega) (Nat.le_of_ble_eq_true rfl) (Nat.le_of_ble_eq_true rfl) (fun h22 q23 o24 => ?_)
  have e25 : h22 a = .inr (10, [.ref n, .ref (n + 1), .ref (n + 2), .null, .null, .null, .null, .null, .null, .int 0, .null, .int 0, .null, .int 0, .null, .int 0, .null, .int 0, .null, .null, .int 0, .null]) := (o24 _ (by omega)).trans (q20)
  refine mj_putFA dX10_init_37 F_X10_21 (by omega) e25 rfl (Nat.le_of_ble_eq_true rfl) rfl rfl (fun h26 q27 o28 => ?_)
  replace q27 : h26 a = .inr (10, [.ref n, .ref (n + 1), .ref (n + 2), .ref (n + 3), .null, .null, .null, .null, .null, .int 0, .null, .int 0, .null, .int 0, .null, .int 0, .null, .int 0, .null, .null, .int 0, .null]) := q27
  refine mj_aload_n dX10_init_40 0 rfl ?_
  refine mj_sipush (v := 6100) dX10_init_41 (by decide) ?_
  refine mj_newIA (N := 6100) dX10_init_44 AC_int (by decide) (by decide) (Nat.le_of_ble_eq_true rfl) (by omega) (Nat.le_of_ble_eq_true rfl) (Nat.le_of_ble_eq_true rfl) (fun h29 q30 o31 => ?_)
  have e32 : h29 a = .inr (10, [.ref n, .ref (n + 1), .ref (n + 2), .ref (n + 3), .null, .null, .null, .null, .null, .int 0, .null, .int 0, .null, .int 0, .null, .int 0, .null, .int 0, .null, .null, .int 0, .null]) := (o31 _ (by omega)).trans (q27)
  refine mj_putFA dX10_init_46 F_X10_24 (by omega) e32 rfl (Nat.le_of_ble_eq_true rfl) rfl rfl (fun h33 q34 o35 => ?_)
  replace q34 : h33 a = .inr (10, [.ref n, .ref (n + 1), .ref (n + 2), .ref (n + 3), .ref (n + 4), .null, .null, .null, .null, .int 0, .null, .int 0, .null, .int 0, .null, .int 0, .null, .int 0, .null, .null, .int 0, .null]) := q34
  refine mj_aload_n dX10_init_49 0 rfl ?_
  refine mj_sipush (v := 6100) dX10_init_50 (by decide) ?_
  refine mj_newIA (N := 6100) dX10_init_53 AC_int (by decide) (by decide) (Nat.le_of_ble_eq_true rfl) (by omega) (Nat.le_of_ble_eq_true rfl) (Nat.le_of_ble_eq_true rfl) (fun h36 q37 o38 => ?_)
  have e39 : h36 a = .inr (10, [.ref n, .ref (n + 1), .ref (n + 2), .ref (n + 3), .ref (n + 4), .null, .null, .null, .null, .int 0, .null, .int 0, .null, .int 0, .null, .int 0, .null, .int 0, .null, .null, .int 0, .null]) := (o38 _ (by omega)).trans (q34)
  refine mj_putFA dX10_init_55 F_X10_27 (by omega) e39 rfl (Nat.le_of_ble_eq_true rfl) rfl rfl (fun h40 q41 o42 => ?_)
  replace q41 : h40 a = .inr (10, [.ref n, .ref (n + 1), .ref (n + 2), .ref (n + 3), .ref (n + 4), .ref (n + 5), .null, .null, .null, .int 0, .null, .int 0, .null, .int 0, .null, .int 0, .null, .int 0, .null, .null, .int 0, .null]) := q41
  refine mj_aload_n dX10_init_58 0 rfl ?_
  refine mj_sipush (v := 6100) dX10_init_59 (by decide) ?_
  refine mj_newZA (N := 6100) dX10_init_62 AC_boolean (by decide) (by decide) (Nat.le_of_ble_eq_true rfl) (by omega) (Nat.le_of_ble_eq_true rfl) (Nat.le_of_ble_eq_true rfl) (fun h43 q44 o45 => ?_)
  have e46 : h43 a = .inr (10, [.ref n, .ref (n + 1), .ref (n + 2), .ref (n + 3), .ref (n + 4), .ref (n + 5), .null, .null, .null, .int 0, .null, .int 0, .null, .int 0, .null, .int 0, .null, .int 0, .null, .null, .int 0, .null]) := (o45 _ (by omega)).trans (q41)
  refine mj_putFA dX10_init_64 F_X10_30 (by omega) e46 rfl (Nat.le_of_ble_eq_true rfl) rfl rfl (fun h47 q48 o49 => ?_)
  replace q48 : h47 a = .inr (10, [.ref n, .ref (n + 1), .ref (n + 2), .ref (n + 3), .ref (n + 4), .ref (n + 5), .ref (n + 6), .null, .null, .int 0, .null, .int 0, .null, .int 0, .null, .int 0, .null, .int 0, .null, .null, .int 0, .null]) := q48
  refine mj_aload_n dX10_init_67 0 rfl ?_
  refine mj_sipush (v := 6100) dX10_init_68 (by decide) ?_
  refine mj_newJA (N := 6100) dX10_init_71 AC_long (by decide) (by decide) (Nat.le_of_ble_eq_true rfl) (by omega) (Nat.le_of_ble_eq_true rfl) (Nat.le_of_ble_eq_true rfl) (fun h50 q51 o52 => ?_)
  have e53 : h50 a = .inr (10, [.ref n, .ref (n + 1), .ref (n + 2), .ref (n + 3), .ref (n + 4), .ref (n + 5), .ref (n + 6), .null, .null, .int 0, .null, .int 0, .null, .int 0, .null, .int 0, .null, .int 0, .null, .null, .int 0, .null]) := (o52 _ (by omega)).trans (q48)
  refine mj_putFA dX10_init_73 F_X10_34 (by omega) e53 rfl (Nat.le_of_ble_eq_true rfl) rfl rfl (fun h54 q55 o56 => ?_)
  replace q55 : h54 a = .inr (10, [.ref n, .ref (n + 1), .ref (n + 2), .ref (n + 3), .ref (n + 4), .ref (n + 5), .ref (n + 6), .ref (n + 7), .null, .int 0, .null, .int 0, .null, .int 0, .null, .int 0, .null, .int 0, .null, .null, .int 0, .null]) := q55
  refine mj_aload_n dX10_init_76 0 rfl ?_
  refine mj_sipush (v := 6100) dX10_init_77 (by decide) ?_
  refine mj_newJA (N := 6100) dX10_init_80 AC_long (by decide) (by decide) (Nat.le_of_ble_eq_true rfl) (by omega) (Nat.le_of_ble_eq_true rfl) (Nat.le_of_ble_eq_true rfl) (fun h57 q58 o59 => ?_)
  have e60 : h57 a = .inr (10, [.ref n, .ref (n + 1), .ref (n + 2), .ref (n + 3), .ref (n + 4), .ref (n + 5), .ref (n + 6), .ref (n + 7), .null, .int 0, .null, .int 0, .null, .int 0, .null, .int 0, .null, .int 0, .null, .null, .int 0, .null]) := (o59 _ (by omega)).trans (q55)
  refine mj_putFA dX10_init_82 F_X10_38 (by omega) e60 rfl (Nat.le_of_ble_eq_true rfl) rfl rfl (fun h61 q62 o63 => ?_)
  replace q62 : h61 a = .inr (10, [.ref n, .ref (n + 1), .ref (n + 2), .ref (n + 3), .ref (n + 4), .ref (n + 5), .ref (n + 6), .ref (n + 7), .ref (n + 8), .int 0, .null, .int 0, .null, .int 0, .null, .int 0, .null, .int 0, .null, .null, .int 0, .null]) := q62
  refine mj_aload_n dX10_init_85 0 rfl ?_
  refine mj_bipush (v := 60) dX10_init_86 (by decide) ?_
  refine mj_bipush (v := 7) dX10_init_88 (by decide) ?_
  refine mj_mnaA (N := 60) (K := 7) dX10_init_90 (mj_in3 28 (by decide +kernel) rfl) AC_int (by decide) (by decide) (by decide) (by decide) (Nat.le_of_ble_eq_true rfl) (Nat.le_of_ble_eq_true rfl) (by omega) (Nat.le_of_ble_eq_true rfl) (Nat.le_of_ble_eq_true rfl) (fun h64 q65 q66 o67 => ?_)
  replace q66 : ∀ i, i < 60 → h64 (n + 10 + i) = .inl (1, 7, .inl (fun _ => 0)) := q66
  have e68 : h64 a = .inr (10, [.ref n, .ref (n + 1), .ref (n + 2), .ref (n + 3), .ref (n + 4), .ref (n + 5), .ref (n + 6), .ref (n + 7), .ref (n + 8), .int 0, .null, .int 0, .null, .int 0, .null, .int 0, .null, .int 0, .null, .null, .int 0, .null]) := (o67 _ (by omega)).trans (q62)
  refine mj_putFA dX10_init_94 F_X10_43 (by omega) e68 rfl (Nat.le_of_ble_eq_true rfl) rfl rfl (fun h69 q70 o71 => ?_)
  replace q70 : h69 a = .inr (10, [.ref n, .ref (n + 1), .ref (n + 2), .ref (n + 3), .ref (n + 4), .ref (n + 5), .ref (n + 6), .ref (n + 7), .ref (n + 8), .int 0, .ref (n + 9), .int 0, .null, .int 0, .null, .int 0, .null, .int 0, .null, .null, .int 0, .null]) := q70
  refine mj_aload_n dX10_init_97 0 rfl ?_
  refine mj_sipush (v := 7320) dX10_init_98 (by decide) ?_
  refine mj_newIA (N := 7320) dX10_init_101 AC_int (by decide) (by decide) (Nat.le_of_ble_eq_true rfl) (by omega) (Nat.le_of_ble_eq_true rfl) (Nat.le_of_ble_eq_true rfl) (fun h72 q73 o74 => ?_)
  have e75 : h72 a = .inr (10, [.ref n, .ref (n + 1), .ref (n + 2), .ref (n + 3), .ref (n + 4), .ref (n + 5), .ref (n + 6), .ref (n + 7), .ref (n + 8), .int 0, .ref (n + 9), .int 0, .null, .int 0, .null, .int 0, .null, .int 0, .null, .null, .int 0, .null]) := (o74 _ (by omega)).trans (q70)
  refine mj_putFA dX10_init_103 F_X10_46 (by omega) e75 rfl (Nat.le_of_ble_eq_true rfl) rfl rfl (fun h76 q77 o78 => ?_)
  replace q77 : h76 a = .inr (10, [.ref n, .ref (n + 1), .ref (n + 2), .ref (n + 3), .ref (n + 4), .ref (n + 5), .ref (n + 6), .ref (n + 7), .ref (n + 8), .int 0, .ref (n + 9), .int 0, .ref (n + 70), .int 0, .null, .int 0, .null, .int 0, .null, .null, .int 0, .null]) := q77
  refine mj_aload_n dX10_init_106 0 rfl ?_
  refine mj_sipush (v := 240) dX10_init_107 (by decide) ?_
  refine mj_newIA (N := 240) dX10_init_110 AC_int (by decide) (by decide) (Nat.le_of_ble_eq_true rfl) (by omega) (Nat.le_of_ble_eq_true rfl) (Nat.le_of_ble_eq_true rfl) (fun h79 q80 o81 => ?_)
  have e82 : h79 a = .inr (10, [.ref n, .ref (n + 1), .ref (n + 2), .ref (n + 3), .ref (n + 4), .ref (n + 5), .ref (n + 6), .ref (n + 7), .ref (n + 8), .int 0, .ref (n + 9), .int 0, .ref (n + 70), .int 0, .null, .int 0, .null, .int 0, .null, .null, .int 0, .null]) := (o81 _ (by omega)).trans (q77)
  refine mj_putFA dX10_init_112 F_X10_49 (by omega) e82 rfl (Nat.le_of_ble_eq_true rfl) rfl rfl (fun h83 q84 o85 => ?_)
  replace q84 : h83 a = .inr (10, [.ref n, .ref (n + 1), .ref (n + 2), .ref (n + 3), .ref (n + 4), .ref (n + 5), .ref (n + 6), .ref (n + 7), .ref (n + 8), .int 0, .ref (n + 9), .int 0, .ref (n + 70), .int 0, .null, .int 0, .ref (n + 71), .int 0, .null, .null, .int 0, .null]) := q84
  refine mj_aload_n dX10_init_115 0 rfl ?_
  refine mj_sipush (v := 1212) dX10_init_116 (by decide) ?_
  refine mj_newIA (N := 1212) dX10_init_119 AC_int (by decide) (by decide) (Nat.le_of_ble_eq_true rfl) (by omega) (Nat.le_of_ble_eq_true rfl) (Nat.le_of_ble_eq_true rfl) (fun h86 q87 o88 => ?_)
  have e89 : h86 a = .inr (10, [.ref n, .ref (n + 1), .ref (n + 2), .ref (n + 3), .ref (n + 4), .ref (n + 5), .ref (n + 6), .ref (n + 7), .ref (n + 8), .int 0, .ref (n + 9), .int 0, .ref (n + 70), .int 0, .null, .int 0, .ref (n + 71), .int 0, .null, .null, .int 0, .null]) := (o88 _ (by omega)).trans (q84)
  refine mj_putFA dX10_init_121 F_X10_52 (by omega) e89 rfl (Nat.le_of_ble_eq_true rfl) rfl rfl (fun h90 q91 o92 => ?_)
  replace q91 : h90 a = .inr (10, [.ref n, .ref (n + 1), .ref (n + 2), .ref (n + 3), .ref (n + 4), .ref (n + 5), .ref (n + 6), .ref (n + 7), .ref (n + 8), .int 0, .ref (n + 9), .int 0, .ref (n + 70), .int 0, .null, .int 0, .ref (n + 71), .int 0, .ref (n + 72), .null, .int 0, .null]) := q91
  refine mj_aload_n dX10_init_124 0 rfl ?_
  refine mj_bipush (v := 16) dX10_init_125 (by decide) ?_
  refine mj_newIA (N := 16) dX10_init_127 AC_int (by decide) (by decide) (Nat.le_of_ble_eq_true rfl) (by omega) (Nat.le_of_ble_eq_true rfl) (Nat.le_of_ble_eq_true rfl) (fun h93 q94 o95 => ?_)
  have e96 : h93 a = .inr (10, [.ref n, .ref (n + 1), .ref (n + 2), .ref (n + 3), .ref (n + 4), .ref (n + 5), .ref (n + 6), .ref (n + 7), .ref (n + 8), .int 0, .ref (n + 9), .int 0, .ref (n + 70), .int 0, .null, .int 0, .ref (n + 71), .int 0, .ref (n + 72), .null, .int 0, .null]) := (o95 _ (by omega)).trans (q91)
  refine mj_putFA dX10_init_129 F_X10_55 (by omega) e96 rfl (Nat.le_of_ble_eq_true rfl) rfl rfl (fun h97 q98 o99 => ?_)
  replace q98 : h97 a = .inr (10, [.ref n, .ref (n + 1), .ref (n + 2), .ref (n + 3), .ref (n + 4), .ref (n + 5), .ref (n + 6), .ref (n + 7), .ref (n + 8), .int 0, .ref (n + 9), .int 0, .ref (n + 70), .int 0, .null, .int 0, .ref (n + 71), .int 0, .ref (n + 72), .ref (n + 73), .int 0, .null]) := q98
  refine mj_aload_n dX10_init_132 0 rfl ?_
  refine mj_aload_n dX10_init_133 1 rfl ?_
  refine mj_putFA dX10_init_134 F_X10_58 (by omega) q98 rfl (Nat.le_of_ble_eq_true rfl) rfl rfl (fun h100 q101 o102 => ?_)
  replace q101 : h100 a = .inr (10, [.ref n, .ref (n + 1), .ref (n + 2), .ref (n + 3), .ref (n + 4), .ref (n + 5), .ref (n + 6), .ref (n + 7), .ref (n + 8), .int 0, .ref (n + 9), .int 0, .ref (n + 70), .int 0, .null, .int 0, .ref (n + 71), .int 0, .ref (n + 72), .ref (n + 73), .int 0, .ref cd]) := q101
  refine mj_aload_n dX10_init_137 0 rfl ?_
  refine mj_aload_n dX10_init_138 1 rfl ?_
  have e103 : h100 cd = .inr (0, [.ref g0, .ref g1, .int g2, .ref g3, .int g4, .ref g5, .ref g6, .int g7, .ref g8, .ref g9, .ref g10, .int g11, .int g12, .int g13, .int g14, .ref g15, .int g16, .long g17, .int g18, .ref g19, .null]) := (o102 _ (by omega)).trans ((o99 _ (by omega)).trans ((o95 _ (by omega)).trans ((o92 _ (by omega)).trans ((o88 _ (by omega)).trans ((o85 _ (by omega)).trans ((o81 _ (by omega)).trans ((o78 _ (by omega)).trans ((o74 _ (by omega)).trans ((o71 _ (by omega)).trans ((o67 _ (by omega)).trans ((o63 _ (by omega)).trans ((o59 _ (by omega)).trans ((o56 _ (by omega)).trans ((o52 _ (by omega)).trans ((o49 _ (by omega)).trans ((o45 _ (by omega)).trans ((o42 _ (by omega)).trans ((o38 _ (by omega)).trans ((o35 _ (by omega)).trans ((o31 _ (by omega)).trans ((o28 _ (by omega)).trans ((o24 _ (by omega)).trans ((o21 _ (by omega)).trans ((o17 _ (by omega)).trans ((o14 _ (by omega)).trans ((o10 _ (by omega)).trans ((o7 _ (by omega)).trans ((o3 _ (by omega)).trans (o0)))))))))))))))))))))))))))))
  refine mj_get dX10_init_139 F_X10_62 (by omega) e103 rfl ?_
  refine mj_putA dX10_init_142 F_X10_67 (by omega) q101 rfl (Nat.le_of_ble_eq_true rfl) (fun h104 q105 o106 => ?_)
  replace q105 : h104 a = .inr (10, [.ref n, .ref (n + 1), .ref (n + 2), .ref (n + 3), .ref (n + 4), .ref (n + 5), .ref (n + 6), .ref (n + 7), .ref (n + 8), .int 0, .ref (n + 9), .int 0, .ref (n + 70), .int 0, .ref g3, .int 0, .ref (n + 71), .int 0, .ref (n + 72), .ref (n + 73), .int 0, .ref cd]) := q105
  have e107 : h104 n = .inl (1, 6100, .inl ((fun _ => 0))) := (o106 _ (by omega)).trans ((o102 _ (by omega)).trans ((o99 _ (by omega)).trans ((o95 _ (by omega)).trans ((o92 _ (by omega)).trans ((o88 _ (by omega)).trans ((o85 _ (by omega)).trans ((o81 _ (by omega)).trans ((o78 _ (by omega)).trans ((o74 _ (by omega)).trans ((o71 _ (by omega)).trans ((o67 _ (by omega)).trans ((o63 _ (by omega)).trans ((o59 _ (by omega)).trans ((o56 _ (by omega)).trans ((o52 _ (by omega)).trans ((o49 _ (by omega)).trans ((o45 _ (by omega)).trans ((o42 _ (by omega)).trans ((o38 _ (by omega)).trans ((o35 _ (by omega)).trans ((o31 _ (by omega)).trans ((o28 _ (by omega)).trans ((o24 _ (by omega)).trans ((o21 _ (by omega)).trans ((o17 _ (by omega)).trans ((o14 _ (by omega)).trans ((o10 _ (by omega)).trans ((o7 _ (by omega)).trans (q2)))))))))))))))))))))))))))))
  have e108 : h104 (n + 1) = .inl (1, 6100, .inl ((fun _ => 0))) := (o106 _ (by omega)).trans ((o102 _ (by omega)).trans ((o99 _ (by omega)).trans ((o95 _ (by omega)).trans ((o92 _ (by omega)).trans ((o88 _ (by omega)).trans ((o85 _ (by omega)).trans ((o81 _ (by omega)).trans ((o78 _ (by omega)).trans ((o74 _ (by omega)).trans ((o71 _ (by omega)).trans ((o67 _ (by omega)).trans ((o63 _ (by omega)).trans ((o59 _ (by omega)).trans ((o56 _ (by omega)).trans ((o52 _ (by omega)).trans ((o49 _ (by omega)).trans ((o45 _ (by omega)).trans ((o42 _ (by omega)).trans ((o38 _ (by omega)).trans ((o35 _ (by omega)).trans ((o31 _ (by omega)).trans ((o28 _ (by omega)).trans ((o24 _ (by omega)).trans ((o21 _ (by omega)).trans ((o17 _ (by omega)).trans ((o14 _ (by omega)).trans (q9)))))))))))))))))))))))))))
  have e109 : h104 (n + 2) = .inl (1, 6100, .inl ((fun _ => 0))) := (o106 _ (by omega)).trans ((o102 _ (by omega)).trans ((o99 _ (by omega)).trans ((o95 _ (by omega)).trans ((o92 _ (by omega)).trans ((o88 _ (by omega)).trans ((o85 _ (by omega)).trans ((o81 _ (by omega)).trans ((o78 _ (by omega)).trans ((o74 _ (by omega)).trans ((o71 _ (by omega)).trans ((o67 _ (by omega)).trans ((o63 _ (by omega)).trans ((o59 _ (by omega)).trans ((o56 _ (by omega)).trans ((o52 _ (by omega)).trans ((o49 _ (by omega)).trans ((o45 _ (by omega)).trans ((o42 _ (by omega)).trans ((o38 _ (by omega)).trans ((o35 _ (by omega)).trans ((o31 _ (by omega)).trans ((o28 _ (by omega)).trans ((o24 _ (by omega)).trans ((o21 _ (by omega)).trans (q16)))))))))))))))))))))))))
  have e110 : h104 (n + 3) = .inl (1, 6100, .inl ((fun _ => 0))) := (o106 _ (by omega)).trans ((o102 _ (by omega)).trans ((o99 _ (by omega)).trans ((o95 _ (by omega)).trans ((o92 _ (by omega)).trans ((o88 _ (by omega)).trans ((o85 _ (by omega)).trans ((o81 _ (by omega)).trans ((o78 _ (by omega)).trans ((o74 _ (by omega)).trans ((o71 _ (by omega)).trans ((o67 _ (by omega)).trans ((o63 _ (by omega)).trans ((o59 _ (by omega)).trans ((o56 _ (by omega)).trans ((o52 _ (by omega)).trans ((o49 _ (by omega)).trans ((o45 _ (by omega)).trans ((o42 _ (by omega)).trans ((o38 _ (by omega)).trans ((o35 _ (by omega)).trans ((o31 _ (by omega)).trans ((o28 _ (by omega)).trans (q23)))))))))))))))))))))))
  have e111 : h104 (n + 4) = .inl (1, 6100, .inl ((fun _ => 0))) := (o106 _ (by omega)).trans ((o102 _ (by omega)).trans ((o99 _ (by omega)).trans ((o95 _ (by omega)).trans ((o92 _ (by omega)).trans ((o88 _ (by omega)).trans ((o85 _ (by omega)).trans ((o81 _ (by omega)).trans ((o78 _ (by omega)).trans ((o74 _ (by omega)).trans ((o71 _ (by omega)).trans ((o67 _ (by omega)).trans ((o63 _ (by omega)).trans ((o59 _ (by omega)).trans ((o56 _ (by omega)).trans ((o52 _ (by omega)).trans ((o49 _ (by omega)).trans ((o45 _ (by omega)).trans ((o42 _ (by omega)).trans ((o38 _ (by omega)).trans ((o35 _ (by omega)).trans (q30)))))))))))))))))))))
  have e112 : h104 (n + 5) = .inl (1, 6100, .inl ((fun _ => 0))) := (o106 _ (by omega)).trans ((o102 _ (by omega)).trans ((o99 _ (by omega)).trans ((o95 _ (by omega)).trans ((o92 _ (by omega)).trans ((o88 _ (by omega)).trans ((o85 _ (by omega)).trans ((o81 _ (by omega)).trans ((o78 _ (by omega)).trans ((o74 _ (by omega)).trans ((o71 _ (by omega)).trans ((o67 _ (by omega)).trans ((o63 _ (by omega)).trans ((o59 _ (by omega)).trans ((o56 _ (by omega)).trans ((o52 _ (by omega)).trans ((o49 _ (by omega)).trans ((o45 _ (by omega)).trans ((o42 _ (by omega)).trans (q37)))))))))))))))))))
  have e113 : h104 (n + 6) = .inl (3, 6100, .inl ((fun _ => 0))) := (o106 _ (by omega)).trans ((o102 _ (by omega)).trans ((o99 _ (by omega)).trans ((o95 _ (by omega)).trans ((o92 _ (by omega)).trans ((o88 _ (by omega)).trans ((o85 _ (by omega)).trans ((o81 _ (by omega)).trans ((o78 _ (by omega)).trans ((o74 _ (by omega)).trans ((o71 _ (by omega)).trans ((o67 _ (by omega)).trans ((o63 _ (by omega)).trans ((o59 _ (by omega)).trans ((o56 _ (by omega)).trans ((o52 _ (by omega)).trans ((o49 _ (by omega)).trans (q44)))))))))))))))))
  have e114 : h104 (n + 7) = .inl (2, 6100, .inr (.inl ((fun _ => 0)))) := (o106 _ (by omega)).trans ((o102 _ (by omega)).trans ((o99 _ (by omega)).trans ((o95 _ (by omega)).trans ((o92 _ (by omega)).trans ((o88 _ (by omega)).trans ((o85 _ (by omega)).trans ((o81 _ (by omega)).trans ((o78 _ (by omega)).trans ((o74 _ (by omega)).trans ((o71 _ (by omega)).trans ((o67 _ (by omega)).trans ((o63 _ (by omega)).trans ((o59 _ (by omega)).trans ((o56 _ (by omega)).trans (q51)))))))))))))))
  have e115 : h104 (n + 8) = .inl (2, 6100, .inr (.inl ((fun _ => 0)))) := (o106 _ (by omega)).trans ((o102 _ (by omega)).trans ((o99 _ (by omega)).trans ((o95 _ (by omega)).trans ((o92 _ (by omega)).trans ((o88 _ (by omega)).trans ((o85 _ (by omega)).trans ((o81 _ (by omega)).trans ((o78 _ (by omega)).trans ((o74 _ (by omega)).trans ((o71 _ (by omega)).trans ((o67 _ (by omega)).trans ((o63 _ (by omega)).trans (q58)))))))))))))
  have e116 : h104 (n + 9) = .inl (5, 60, .inr (.inr (.inr (.inr (fun i => if i < 60 then some (n + 9 + 1 + i) else none))))) := (o106 _ (by omega)).trans ((o102 _ (by omega)).trans ((o99 _ (by omega)).trans ((o95 _ (by omega)).trans ((o92 _ (by omega)).trans ((o88 _ (by omega)).trans ((o85 _ (by omega)).trans ((o81 _ (by omega)).trans ((o78 _ (by omega)).trans ((o74 _ (by omega)).trans ((o71 _ (by omega)).trans (q65)))))))))))
  have e117 : ∀ i, i < 60 → h104 (n + 10 + i) = .inl (1, 7, .inl (fun _ => 0)) := fun i hi => (o106 _ (by omega)).trans ((o102 _ (by omega)).trans ((o99 _ (by omega)).trans ((o95 _ (by omega)).trans ((o92 _ (by omega)).trans ((o88 _ (by omega)).trans ((o85 _ (by omega)).trans ((o81 _ (by omega)).trans ((o78 _ (by omega)).trans ((o74 _ (by omega)).trans ((o71 _ (by omega)).trans (q66 i hi)))))))))))
  have e118 : h104 (n + 70) = .inl (1, 7320, .inl ((fun _ => 0))) := (o106 _ (by omega)).trans ((o102 _ (by omega)).trans ((o99 _ (by omega)).trans ((o95 _ (by omega)).trans ((o92 _ (by omega)).trans ((o88 _ (by omega)).trans ((o85 _ (by omega)).trans ((o81 _ (by omega)).trans ((o78 _ (by omega)).trans (q73)))))))))
  have e119 : h104 (n + 71) = .inl (1, 240, .inl ((fun _ => 0))) := (o106 _ (by omega)).trans ((o102 _ (by omega)).trans ((o99 _ (by omega)).trans ((o95 _ (by omega)).trans ((o92 _ (by omega)).trans ((o88 _ (by omega)).trans ((o85 _ (by omega)).trans (q80)))))))
  have e120 : h104 (n + 72) = .inl (1, 1212, .inl ((fun _ => 0))) := (o106 _ (by omega)).trans ((o102 _ (by omega)).trans ((o99 _ (by omega)).trans ((o95 _ (by omega)).trans ((o92 _ (by omega)).trans (q87)))))
  have e121 : h104 (n + 73) = .inl (1, 16, .inl ((fun _ => 0))) := (o106 _ (by omega)).trans ((o102 _ (by omega)).trans ((o99 _ (by omega)).trans (q94)))
  exact mj_vret dX10_init_145 rfl ⟨rfl, q105, e107, e108, e109, e110, e111, e112, e113, e114, e115, e116, e117, e118, e119, e120, e121, fun j hj1 hj2 => ((o106 j (by omega)).trans ((o102 j (by omega)).trans ((o99 j (by omega)).trans ((o95 j (by omega)).trans ((o92 j (by omega)).trans ((o88 j (by omega)).trans ((o85 j (by omega)).trans ((o81 j (by omega)).trans ((o78 j (by omega)).trans ((o74 j (by omega)).trans ((o71 j (by omega)).trans ((o67 j (by omega)).trans ((o63 j (by omega)).trans ((o59 j (by omega)).trans ((o56 j (by omega)).trans ((o52 j (by omega)).trans ((o49 j (by omega)).trans ((o45 j (by omega)).trans ((o42 j (by omega)).trans ((o38 j (by omega)).trans ((o35 j (by omega)).trans ((o31 j (by omega)).trans ((o28 j (by omega)).trans ((o24 j (by omega)).trans ((o21 j (by omega)).trans ((o17 j (by omega)).trans ((o14 j (by omega)).trans ((o10 j (by omega)).trans ((o7 j (by omega)).trans (o3 j (by omega)))))))))))))))))))))))))))))))⟩ (by omega) (Nat.le_of_ble_eq_true rfl) (Nat.le_of_ble_eq_true rfl)
