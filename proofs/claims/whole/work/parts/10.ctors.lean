theorem dX9_init_0 : decode cX9_init 0 = .ok (.aload_n 0, 1) := by decide +kernel
theorem dX9_init_1 : decode cX9_init 1 = .ok (.invokespecial 1, 3) := by decide +kernel
theorem dX9_init_4 : decode cX9_init 4 = .ok (.aload_n 0, 1) := by decide +kernel
theorem dX9_init_5 : decode cX9_init 5 = .ok (.sipush 256, 3) := by decide +kernel
theorem dX9_init_8 : decode cX9_init 8 = .ok (.newarray .int, 2) := by decide +kernel
theorem dX9_init_10 : decode cX9_init 10 = .ok (.putfield 9, 3) := by decide +kernel
theorem dX9_init_13 : decode cX9_init 13 = .ok (.aload_n 0, 1) := by decide +kernel
theorem dX9_init_14 : decode cX9_init 14 = .ok (.ldc 13, 2) := by decide +kernel
theorem dX9_init_16 : decode cX9_init 16 = .ok (.newarray .int, 2) := by decide +kernel
theorem dX9_init_18 : decode cX9_init 18 = .ok (.putfield 14, 3) := by decide +kernel
theorem dX9_init_21 : decode cX9_init 21 = .ok (.aload_n 0, 1) := by decide +kernel
theorem dX9_init_22 : decode cX9_init 22 = .ok (.ldc 17, 2) := by decide +kernel
theorem dX9_init_24 : decode cX9_init 24 = .ok (.newarray .int, 2) := by decide +kernel
theorem dX9_init_26 : decode cX9_init 26 = .ok (.putfield 18, 3) := by decide +kernel
theorem dX9_init_29 : decode cX9_init 29 = .ok (.return_, 1) := by decide +kernel
set_option maxRecDepth 4000 in
/-- X9_init -/
theorem C_X9_init (a n : Nat) (h : mj_H) (ha : a < n) (hn : n + 3 < 1000000) (e0 : h a = .inr (9, [.null, .null, .null, .int 0])) : mj_C yX9_init cX9_init 1 none 1 3 131329 [.ref a] h n (fun v h' => v = none ∧ h' a = .inr (9, [.ref n, .ref (n + 1), .ref (n + 2), .int 0]) ∧ h' n = .inl (1, 256, .inl ((fun _ => 0))) ∧ h' (n + 1) = .inl (1, 65536, .inl ((fun _ => 0))) ∧ h' (n + 2) = .inl (1, 65537, .inl ((fun _ => 0))) ∧ ∀ j, j < n → j ≠ a → h' j = h j) := by
  refine mj_C.of (by decide +kernel) (by decide) ?_
  intro D cy ad bs X
  refine mj_aload_n dX9_init_0 0 rfl ?_
  refine mj_objInit dX9_init_1 ML_X9_1 OI_i OI_c (by decide) (by decide) ?_
  refine mj_aload_n dX9_init_4 0 rfl ?_
  refine mj_sipush (v := 256) dX9_init_5 (by decide) ?_
  refine mj_newIA (N := 256) dX9_init_8 AC_int (by decide) (by decide) (Nat.le_of_ble_eq_true rfl) (by omega) (Nat.le_of_ble_eq_true rfl) (Nat.le_of_ble_eq_true rfl) (fun h1 q2 o3 => ?_)
  have e4 : h1 a = .inr (9, [.null, .null, .null, .int 0]) := (o3 _ (by omega)).trans (e0)
  refine mj_putFA dX9_init_10 F_X9_9 (by omega) e4 rfl (by decide) rfl rfl (fun h5 q6 o7 => ?_)
  replace q6 : h5 a = .inr (9, [.ref n, .null, .null, .int 0]) := q6
  refine mj_aload_n dX9_init_13 0 rfl ?_
  refine mj_ldc dX9_init_14 K_X9_13 ?_
  refine mj_newIA (N := 65536) dX9_init_16 AC_int (by decide) (by decide) (Nat.le_of_ble_eq_true rfl) (by omega) (Nat.le_of_ble_eq_true rfl) (Nat.le_of_ble_eq_true rfl) (fun h8 q9 o10 => ?_)
  have e11 : h8 a = .inr (9, [.ref n, .null, .null, .int 0]) := (o10 _ (by omega)).trans (q6)
  refine mj_putFA dX9_init_18 F_X9_14 (by omega) e11 rfl (by decide) rfl rfl (fun h12 q13 o14 => ?_)
  replace q13 : h12 a = .inr (9, [.ref n, .ref (n + 1), .null, .int 0]) := q13
  refine mj_aload_n dX9_init_21 0 rfl ?_
  refine mj_ldc dX9_init_22 K_X9_17 ?_
  refine mj_newIA (N := 65537) dX9_init_24 AC_int (by decide) (by decide) (Nat.le_of_ble_eq_true rfl) (by omega) (Nat.le_of_ble_eq_true rfl) (Nat.le_of_ble_eq_true rfl) (fun h15 q16 o17 => ?_)
  have e18 : h15 a = .inr (9, [.ref n, .ref (n + 1), .null, .int 0]) := (o17 _ (by omega)).trans (q13)
  refine mj_putFA dX9_init_26 F_X9_18 (by omega) e18 rfl (by decide) rfl rfl (fun h19 q20 o21 => ?_)
  replace q20 : h19 a = .inr (9, [.ref n, .ref (n + 1), .ref (n + 2), .int 0]) := q20
  have e22 : h19 n = .inl (1, 256, .inl ((fun _ => 0))) := (o21 _ (by omega)).trans ((o17 _ (by omega)).trans ((o14 _ (by omega)).trans ((o10 _ (by omega)).trans ((o7 _ (by omega)).trans (q2)))))
  have e23 : h19 (n + 1) = .inl (1, 65536, .inl ((fun _ => 0))) := (o21 _ (by omega)).trans ((o17 _ (by omega)).trans ((o14 _ (by omega)).trans (q9)))
  have e24 : h19 (n + 2) = .inl (1, 65537, .inl ((fun _ => 0))) := (o21 _ (by omega)).trans (q16)
  exact mj_vret dX9_init_29 rfl ⟨rfl, q20, e22, e23, e24, fun j hj1 hj2 => ((o21 j (by omega)).trans ((o17 j (by omega)).trans ((o14 j (by omega)).trans ((o10 j (by omega)).trans ((o7 j (by omega)).trans (o3 j (by omega)))))))⟩ (by omega) (Nat.le_of_ble_eq_true rfl) (Nat.le_of_ble_eq_true rfl)
