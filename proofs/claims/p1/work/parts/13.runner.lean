theorem dX7_init_0 : decode cX7_init 0 = .ok (.aload_n 0, 1) := by decide +kernel
theorem dX7_init_1 : decode cX7_init 1 = .ok (.invokespecial 1, 3) := by decide +kernel
theorem dX7_init_4 : decode cX7_init 4 = .ok (.aload_n 0, 1) := by decide +kernel
theorem dX7_init_5 : decode cX7_init 5 = .ok (.bipush 8, 2) := by decide +kernel
theorem dX7_init_7 : decode cX7_init 7 = .ok (.anewarray 9, 3) := by decide +kernel
theorem dX7_init_10 : decode cX7_init 10 = .ok (.putfield 11, 3) := by decide +kernel
theorem dX7_init_13 : decode cX7_init 13 = .ok (.aload_n 0, 1) := by decide +kernel
theorem dX7_init_14 : decode cX7_init 14 = .ok (.aload_n 1, 1) := by decide +kernel
theorem dX7_init_15 : decode cX7_init 15 = .ok (.putfield 15, 3) := by decide +kernel
theorem dX7_init_18 : decode cX7_init 18 = .ok (.aload_n 0, 1) := by decide +kernel
theorem dX7_init_19 : decode cX7_init 19 = .ok (.aload_n 2, 1) := by decide +kernel
theorem dX7_init_20 : decode cX7_init 20 = .ok (.putfield 19, 3) := by decide +kernel
theorem dX7_init_23 : decode cX7_init 23 = .ok (.aload_n 0, 1) := by decide +kernel
theorem dX7_init_24 : decode cX7_init 24 = .ok (.aload_n 3, 1) := by decide +kernel
theorem dX7_init_25 : decode cX7_init 25 = .ok (.putfield 23, 3) := by decide +kernel
theorem dX7_init_28 : decode cX7_init 28 = .ok (.aload_n 0, 1) := by decide +kernel
theorem dX7_init_29 : decode cX7_init 29 = .ok (.aload 4, 2) := by decide +kernel
theorem dX7_init_31 : decode cX7_init 31 = .ok (.putfield 27, 3) := by decide +kernel
theorem dX7_init_34 : decode cX7_init 34 = .ok (.aload_n 0, 1) := by decide +kernel
theorem dX7_init_35 : decode cX7_init 35 = .ok (.aload 5, 2) := by decide +kernel
theorem dX7_init_37 : decode cX7_init 37 = .ok (.putfield 31, 3) := by decide +kernel
theorem dX7_init_40 : decode cX7_init 40 = .ok (.iconst 0, 1) := by decide +kernel
theorem dX7_init_41 : decode cX7_init 41 = .ok (.istore 6, 2) := by decide +kernel
theorem dX7_init_43 : decode cX7_init 43 = .ok (.iload 6, 2) := by decide +kernel
theorem dX7_init_45 : decode cX7_init 45 = .ok (.bipush 8, 2) := by decide +kernel
theorem dX7_init_47 : decode cX7_init 47 = .ok (.if_icmp .ge 25, 3) := by decide +kernel
theorem dX7_init_50 : decode cX7_init 50 = .ok (.aload_n 0, 1) := by decide +kernel
theorem dX7_init_51 : decode cX7_init 51 = .ok (.getfield 11, 3) := by decide +kernel
theorem dX7_init_54 : decode cX7_init 54 = .ok (.iload 6, 2) := by decide +kernel
theorem dX7_init_56 : decode cX7_init 56 = .ok (.new 9, 3) := by decide +kernel
theorem dX7_init_59 : decode cX7_init 59 = .ok (.dup, 1) := by decide +kernel
theorem dX7_init_60 : decode cX7_init 60 = .ok (.iload 6, 2) := by decide +kernel
theorem dX7_init_62 : decode cX7_init 62 = .ok (.invokespecial 35, 3) := by decide +kernel
theorem dX7_init_65 : decode cX7_init 65 = .ok (.aastore, 1) := by decide +kernel
theorem dX7_init_66 : decode cX7_init 66 = .ok (.iinc 6 1, 3) := by decide +kernel
theorem dX7_init_69 : decode cX7_init 69 = .ok (.goto (-26), 3) := by decide +kernel
theorem dX7_init_72 : decode cX7_init 72 = .ok (.return_, 1) := by decide +kernel
/-- a Part of number k at b, its arrays behind it, as new -/
def pt_ok (g : mj_H) (b : Nat) (k : Int32) : Prop := g b = .inr (4, [.int k, .int 0, .int 0, .int 0, .int 0, .int 0, .int 0, .ref (b + 1), .ref (b + 2), .ref (b + 3), .int 0, .ref (b + 4), .ref (b + 5), .ref (b + 6), .ref (b + 7), .ref (b + 8), .ref (b + 9)]) ∧ g (b + 1) = .inl (1, 8, .inl ((fun _ => 0))) ∧ g (b + 2) = .inl (1, 8, .inl ((fun _ => 0))) ∧ g (b + 3) = .inl (1, 8, .inl ((fun _ => 0))) ∧ g (b + 4) = .inl (1, 4, .inl ((fun _ => 0))) ∧ g (b + 5) = .inl (1, 6, .inl ((fun _ => 0))) ∧ g (b + 6) = .inl (1, 6, .inl ((fun _ => 0))) ∧ g (b + 7) = .inl (1, 6, .inl ((fun _ => 0))) ∧ g (b + 8) = .inl (1, 48, .inl ((fun _ => 0))) ∧ g (b + 9) = .inl (2, 4, .inr (.inl ((fun _ => 0))))
theorem pt_ok.kept {g g2 : mj_H} {b : Nat} {k : Int32} (hp : pt_ok g b k) (hk : ∀ j, b ≤ j → j < b + 10 → g2 j = g j) : pt_ok g2 b k := by
  obtain ⟨p0, p1, p2, p3, p4, p5, p6, p7, p8, p9⟩ := hp
  exact ⟨(hk _ (by omega) (by omega)).trans p0, (hk _ (by omega) (by omega)).trans p1, (hk _ (by omega) (by omega)).trans p2, (hk _ (by omega) (by omega)).trans p3, (hk _ (by omega) (by omega)).trans p4, (hk _ (by omega) (by omega)).trans p5, (hk _ (by omega) (by omega)).trans p6, (hk _ (by omega) (by omega)).trans p7, (hk _ (by omega) (by omega)).trans p8, (hk _ (by omega) (by omega)).trans p9⟩
theorem ru_loop (a n : Nat) (xs xt xc xm xp : Nat) (h : mj_H) (ha : a < n) (hn : n + 81 < 1000000) (D : va_G) (cy : Nat → ClassId) (ad : Nat → Nat) (bs : Nat) (X : State → Heap → Prop) : ∀ (k i b : Nat) (g : mj_H) (cl sl : Nat), k + i = 8 → i ≤ 8 → b = n + 1 + 10 * i → cl = 1 + 10 * i → sl = 8 + 115 * i → g a = .inr (7, [.ref xs, .ref xt, .ref xc, .ref xm, .ref xp, .ref n, .int 0, .long 0, .int 0, .int 0, .int 0, .int 0]) → g n = .inl (4, 8, .inr (.inr (.inr (.inr (fun j => if j < i then some (n + 1 + 10 * j) else none))))) → (∀ j, j < i → pt_ok g (n + 1 + 10 * j) (nI j)) → (∀ j, j < n → j ≠ a → g j = h j) → mj_G D cy ad bs X cX7_init 7 yX7_init.cls none yX7_init.name 2 81 928 (n + 81) (fun v h' => v = none ∧ h' a = .inr (7, [.ref xs, .ref xt, .ref xc, .ref xm, .ref xp, .ref n, .int 0, .long 0, .int 0, .int 0, .int 0, .int 0]) ∧ h' n = .inl (4, 8, .inr (.inr (.inr (.inr (fun j => if j < 8 then some (n + 1 + 10 * j) else none))))) ∧ (∀ j, j < 8 → pt_ok h' (n + 1 + 10 * j) (nI j)) ∧ ∀ j, j < n → j ≠ a → h' j = h j) 43 [(6, .int (nI i)), (0, .ref a), (1, .ref xs), (2, .ref xt), (3, .ref xc), (4, .ref xm), (5, .ref xp)] [] g b cl sl := by
  intro k
  induction k with
  | zero =>
    intro i b g cl sl hk hi hb hcl hsl eA rP hpts hfr
    refine mj_iload dX7_init_43 0 rfl ?_
    refine mj_bipush (v := 8) dX7_init_45 (by decide) ?_
    refine mj_icmp_ge 72 dX7_init_47 (by decide) (fun _ => ?_) (fun z => absurd (show nI 8 ≤ nI i from nI_le (by omega) (by omega)) z)
    have hi8 : i = 8 := by omega
    subst hi8
    exact mj_vret dX7_init_72 rfl ⟨rfl, eA, rP, hpts, hfr⟩ (by omega) (by omega) (by omega)
  | succ k ih =>
    intro i b g cl sl hk hi hb hcl hsl eA rP hpts hfr
    refine mj_iload dX7_init_43 0 rfl ?_
    refine mj_bipush (v := 8) dX7_init_45 (by decide) ?_
    refine mj_icmp_ge 72 dX7_init_47 (by decide) (fun z => absurd (show nI 8 ≤ nI i from z) (nI_ge (by omega) (by omega))) (fun _ => ?_)
    refine mj_aload_n dX7_init_50 1 rfl ?_
    refine mj_get dX7_init_51 F_X7_11 (by omega) eA rfl ?_
    refine mj_iload dX7_init_54 0 rfl ?_
    refine mj_newA (fs := [.int 0, .int 0, .int 0, .int 0, .int 0, .int 0, .int 0, .null, .null, .null, .int 0, .null, .null, .null, .null, .null, .null]) tyX4 dX7_init_56 CL_X4 tyX4_ok KL_X7_9 IN_X4 II_X4 (by decide +kernel) (fun _ => rfl) (by omega) (by omega) (by omega) (fun h1 q2 o3 => ?_)
    refine mj_dup dX7_init_59 rfl ?_
    refine mj_iload dX7_init_60 0 rfl ?_
    refine mj_callI dX7_init_62 rfl rfl M_X4_init (C_X4_init b (b + 1) (nI i) h1 (by omega) (by omega) q2) ML_X7_35 IM_X4_init (As := [.int (nI i)]) rfl rfl (by decide) (Nat.le_of_ble_eq_true rfl) (by omega) (by omega) (fun v2 h4 hp => ?_)
    obtain ⟨rfl, p0, p1, p2, p3, p4, p5, p6, p7, p8, p9, po⟩ := hp
    have hpt : pt_ok h4 b (nI i) := ⟨p0, p1, p2, p3, p4, p5, p6, p7, p8, p9⟩
    have e5 : h4 n = .inl (4, 8, .inr (.inr (.inr (.inr (fun j => if j < i then some (n + 1 + 10 * j) else none))))) := (po _ (by omega) (by omega)).trans ((o3 _ (by omega)).trans (rP))
    refine mj_aastA dX7_init_65 (by omega) e5 (vp_in_nI (by omega) (by omega)) (by omega) p0 (fun h6 q4 o4 => ?_)
    rw [nI_clamp (by omega)] at q4
    replace q4 : h6 n = .inl (4, 8, .inr (.inr (.inr (.inr (fun j => if j < i + 1 then some (n + 1 + 10 * j) else none))))) := by
      rw [q4]
      refine congrArg (fun z => (.inl (4, 8, .inr (.inr (.inr (.inr z)))) : va_E)) (funext fun j => ?_)
      by_cases hj : j = i
      · subst hj; rw [mj_up_eq, if_pos (by omega), hb]
      · rw [mj_up_ne _ _ hj]; by_cases hj2 : j < i
        · rw [if_pos hj2, if_pos (by omega)]
        · rw [if_neg hj2, if_neg (by omega)]
    have e7 : h6 a = .inr (7, [.ref xs, .ref xt, .ref xc, .ref xm, .ref xp, .ref n, .int 0, .long 0, .int 0, .int 0, .int 0, .int 0]) := (o4 _ (by omega)).trans ((po _ (by omega) (by omega)).trans ((o3 _ (by omega)).trans (eA)))
    refine mj_iinc (k := 0) (v := nI (i + 1)) (lv2 := [(6, .int (nI (i + 1))), (0, .ref a), (1, .ref xs), (2, .ref xt), (3, .ref xc), (4, .ref xm), (5, .ref xp)]) dX7_init_66 rfl (nI_1 _) (by decide) rfl ?_
    refine mj_goto 43 dX7_init_69 (by decide) ?_
    have hfr2 : ∀ j, j < b → j ≠ n → h6 j = g j := fun j hj1 hj2 => ((o4 j (by omega)).trans ((po j (by omega) (by omega)).trans (o3 j (by omega))))
    exact ih (i + 1) (b + 1 + 9) h6 (cl + 1 + 9) (sl + 17 + 98) (by omega) (by omega) (by omega) (by omega) (by omega) e7 q4 (fun j hj => by
      by_cases hj2 : j = i
      · subst hj2
        rw [← hb]
        exact hpt.kept (fun q hq1 hq2 => o4 q (by omega))
      · exact (hpts j (by omega)).kept (fun q hq1 hq2 => hfr2 q (by omega) (by omega))) (fun j hj1 hj2 => (hfr2 j (by omega) (by omega)).trans (hfr j hj1 hj2))
/-- Runner(store, types, code, templates, plan) -/
theorem C_X7_init (a n : Nat) (xs xt xc xm xp : Nat) (h : mj_H) (ha : a < n) (hn : n + 81 < 1000000) (e0 : h a = .inr (7, [.null, .null, .null, .null, .null, .null, .int 0, .long 0, .int 0, .int 0, .int 0, .int 0])) : mj_C yX7_init cX7_init 7 none 2 81 928 [.ref a, .ref xs, .ref xt, .ref xc, .ref xm, .ref xp] h n (fun v h' => v = none ∧ h' a = .inr (7, [.ref xs, .ref xt, .ref xc, .ref xm, .ref xp, .ref n, .int 0, .long 0, .int 0, .int 0, .int 0, .int 0]) ∧ h' n = .inl (4, 8, .inr (.inr (.inr (.inr (fun j => if j < 8 then some (n + 1 + 10 * j) else none))))) ∧ (∀ j, j < 8 → pt_ok h' (n + 1 + 10 * j) (nI j)) ∧ ∀ j, j < n → j ≠ a → h' j = h j) := by
  refine mj_C.of (by decide +kernel) (Nat.le_of_ble_eq_true rfl) ?_
  intro D cy ad bs X
  refine mj_aload_n dX7_init_0 0 rfl ?_
  refine mj_objInit dX7_init_1 ML_X7_1 OI_i OI_c (by decide) (Nat.le_of_ble_eq_true rfl) ?_
  refine mj_aload_n dX7_init_4 0 rfl ?_
  refine mj_bipush (v := 8) dX7_init_5 (by decide) ?_
  refine mj_anewA (N := 8) dX7_init_7 (mj_in4 144 (by decide +kernel) rfl) (by decide) (by decide) (Nat.le_of_ble_eq_true rfl) (by omega) (Nat.le_of_ble_eq_true rfl) (Nat.le_of_ble_eq_true rfl) (fun h1 q2 o3 => ?_)
  have e4 : h1 a = .inr (7, [.null, .null, .null, .null, .null, .null, .int 0, .long 0, .int 0, .int 0, .int 0, .int 0]) := (o3 _ (by omega)).trans (e0)
  refine mj_putFA dX7_init_10 F_X7_11 (by omega) e4 rfl (Nat.le_of_ble_eq_true rfl) rfl rfl (fun h5 q6 o7 => ?_)
  replace q6 : h5 a = .inr (7, [.null, .null, .null, .null, .null, .ref n, .int 0, .long 0, .int 0, .int 0, .int 0, .int 0]) := q6
  refine mj_aload_n dX7_init_13 0 rfl ?_
  refine mj_aload_n dX7_init_14 1 rfl ?_
  refine mj_putFA dX7_init_15 F_X7_15 (by omega) q6 rfl (Nat.le_of_ble_eq_true rfl) rfl rfl (fun h8 q9 o10 => ?_)
  replace q9 : h8 a = .inr (7, [.ref xs, .null, .null, .null, .null, .ref n, .int 0, .long 0, .int 0, .int 0, .int 0, .int 0]) := q9
  refine mj_aload_n dX7_init_18 0 rfl ?_
  refine mj_aload_n dX7_init_19 2 rfl ?_
  refine mj_putFA dX7_init_20 F_X7_19 (by omega) q9 rfl (Nat.le_of_ble_eq_true rfl) rfl rfl (fun h11 q12 o13 => ?_)
  replace q12 : h11 a = .inr (7, [.ref xs, .ref xt, .null, .null, .null, .ref n, .int 0, .long 0, .int 0, .int 0, .int 0, .int 0]) := q12
  refine mj_aload_n dX7_init_23 0 rfl ?_
  refine mj_aload_n dX7_init_24 3 rfl ?_
  refine mj_putFA dX7_init_25 F_X7_23 (by omega) q12 rfl (Nat.le_of_ble_eq_true rfl) rfl rfl (fun h14 q15 o16 => ?_)
  replace q15 : h14 a = .inr (7, [.ref xs, .ref xt, .ref xc, .null, .null, .ref n, .int 0, .long 0, .int 0, .int 0, .int 0, .int 0]) := q15
  refine mj_aload_n dX7_init_28 0 rfl ?_
  refine mj_aload dX7_init_29 4 rfl ?_
  refine mj_putFA dX7_init_31 F_X7_27 (by omega) q15 rfl (Nat.le_of_ble_eq_true rfl) rfl rfl (fun h17 q18 o19 => ?_)
  replace q18 : h17 a = .inr (7, [.ref xs, .ref xt, .ref xc, .ref xm, .null, .ref n, .int 0, .long 0, .int 0, .int 0, .int 0, .int 0]) := q18
  refine mj_aload_n dX7_init_34 0 rfl ?_
  refine mj_aload dX7_init_35 5 rfl ?_
  refine mj_putFA dX7_init_37 F_X7_31 (by omega) q18 rfl (Nat.le_of_ble_eq_true rfl) rfl rfl (fun h20 q21 o22 => ?_)
  replace q21 : h20 a = .inr (7, [.ref xs, .ref xt, .ref xc, .ref xm, .ref xp, .ref n, .int 0, .long 0, .int 0, .int 0, .int 0, .int 0]) := q21
  refine mj_iconst (v := 0) dX7_init_40 (by decide) ?_
  refine mj_istore (lv2 := [(6, .int 0), (0, .ref a), (1, .ref xs), (2, .ref xt), (3, .ref xc), (4, .ref xm), (5, .ref xp)]) dX7_init_41 (by decide) rfl ?_
  have e23 : h20 n = .inl (4, 8, .inr (.inr (.inr (.inr (fun _ => none))))) := (o22 _ (by omega)).trans ((o19 _ (by omega)).trans ((o16 _ (by omega)).trans ((o13 _ (by omega)).trans ((o10 _ (by omega)).trans ((o7 _ (by omega)).trans (q2))))))
  refine mj_sublv [(6, .int (nI 0)), (0, .ref a), (1, .ref xs), (2, .ref xt), (3, .ref xc), (4, .ref xm), (5, .ref xp)] [0, 1, 2, 3, 4, 5, 6] rfl ?_
  exact ru_loop a n xs xt xc xm xp h ha hn D cy ad bs X 8 0 (n + 1) h20 1 8 rfl (Nat.zero_le _) rfl rfl rfl q21 e23 (fun j hj => absurd hj (Nat.not_lt_zero j)) (fun j hj1 hj2 => ((o22 j (by omega)).trans ((o19 j (by omega)).trans ((o16 j (by omega)).trans ((o13 j (by omega)).trans ((o10 j (by omega)).trans ((o7 j (by omega)).trans (o3 j (by omega)))))))))
