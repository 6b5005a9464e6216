/-! Methods as functions, 15: X7_see, X7_waits, X7_canGoOn, X7_worst, X12_all, X4_renew, X8_clearLog, X7_close, X8_note, X7_finish, X7_judge, X7_fail, X4_pushFrame, X7_launch -/
theorem qa_433 : t_oka 433 1 8 = true := by decide +kernel
theorem qa_435 : t_oka 435 1 64 = true := by decide +kernel
theorem qa_436 : t_oka 436 1 64 = true := by decide +kernel
theorem qf_12_4 : t_okf 12 8 4 0 = true := by decide +kernel
theorem qf_12_5 : t_okf 12 8 5 0 = true := by decide +kernel
theorem qf_864_8 : t_okf 864 7 8 0 = true := by decide +kernel
theorem qq_15 : t_okq 15 5 300 16 1 = true := by decide +kernel
theorem qr_0_8 : t_okr 0 12 8 864 = true := by decide +kernel
theorem qr_12_3 : t_okr 12 8 3 15 = true := by decide +kernel
theorem qr_428_5 : t_okr 428 5 5 433 = true := by decide +kernel
theorem qr_428_7 : t_okr 428 5 7 435 = true := by decide +kernel
theorem qr_428_8 : t_okr 428 5 8 436 = true := by decide +kernel
theorem qr_864_1 : t_okr 864 7 1 316 = true := by decide +kernel
theorem dX7_see_0 : decode cX7_see 0 = .ok (.aload_n 0, 1) := by decide +kernel
theorem dX7_see_1 : decode cX7_see 1 = .ok (.getfield 23, 3) := by decide +kernel
theorem dX7_see_11 : decode cX7_see 11 = .ok (.aload_n 1, 1) := by decide +kernel
theorem dX7_see_12 : decode cX7_see 12 = .ok (.putfield 151, 3) := by decide +kernel
theorem dX7_see_15 : decode cX7_see 15 = .ok (.aload_n 0, 1) := by decide +kernel
theorem dX7_see_16 : decode cX7_see 16 = .ok (.getfield 23, 3) := by decide +kernel
theorem dX7_see_19 : decode cX7_see 19 = .ok (.aload_n 0, 1) := by decide +kernel
theorem dX7_see_20 : decode cX7_see 20 = .ok (.getfield 46, 3) := by decide +kernel
theorem dX7_see_23 : decode cX7_see 23 = .ok (.putfield 155, 3) := by decide +kernel
theorem dX7_see_26 : decode cX7_see 26 = .ok (.aload_n 0, 1) := by decide +kernel
theorem dX7_see_27 : decode cX7_see 27 = .ok (.getfield 23, 3) := by decide +kernel
theorem dX7_see_30 : decode cX7_see 30 = .ok (.aload_n 1, 1) := by decide +kernel
theorem dX7_see_31 : decode cX7_see 31 = .ok (.invokevirtual 158, 3) := by decide +kernel
theorem dX7_see_34 : decode cX7_see 34 = .ok (.putfield 161, 3) := by decide +kernel
theorem dX7_see_37 : decode cX7_see 37 = .ok (.aload_n 0, 1) := by decide +kernel
theorem dX7_see_38 : decode cX7_see 38 = .ok (.getfield 23, 3) := by decide +kernel
theorem dX7_see_4 : decode cX7_see 4 = .ok (.invokevirtual 116, 3) := by decide +kernel
theorem dX7_see_41 : decode cX7_see 41 = .ok (.iconst 0, 1) := by decide +kernel
theorem dX7_see_42 : decode cX7_see 42 = .ok (.putfield 164, 3) := by decide +kernel
theorem dX7_see_45 : decode cX7_see 45 = .ok (.iconst 0, 1) := by decide +kernel
theorem dX7_see_46 : decode cX7_see 46 = .ok (.istore_n 2, 1) := by decide +kernel
theorem dX7_see_47 : decode cX7_see 47 = .ok (.iload_n 2, 1) := by decide +kernel
theorem dX7_see_48 : decode cX7_see 48 = .ok (.aload_n 0, 1) := by decide +kernel
theorem dX7_see_49 : decode cX7_see 49 = .ok (.getfield 42, 3) := by decide +kernel
theorem dX7_see_52 : decode cX7_see 52 = .ok (.if_icmp .ge 37, 3) := by decide +kernel
theorem dX7_see_55 : decode cX7_see 55 = .ok (.aload_n 0, 1) := by decide +kernel
theorem dX7_see_56 : decode cX7_see 56 = .ok (.getfield 11, 3) := by decide +kernel
theorem dX7_see_59 : decode cX7_see 59 = .ok (.iload_n 2, 1) := by decide +kernel
theorem dX7_see_60 : decode cX7_see 60 = .ok (.aaload, 1) := by decide +kernel
theorem dX7_see_61 : decode cX7_see 61 = .ok (.getfield 82, 3) := by decide +kernel
theorem dX7_see_64 : decode cX7_see 64 = .ok (.iconst 2, 1) := by decide +kernel
theorem dX7_see_65 : decode cX7_see 65 = .ok (.if_icmp .ne 18, 3) := by decide +kernel
theorem dX7_see_68 : decode cX7_see 68 = .ok (.aload_n 0, 1) := by decide +kernel
theorem dX7_see_69 : decode cX7_see 69 = .ok (.getfield 23, 3) := by decide +kernel
theorem dX7_see_7 : decode cX7_see 7 = .ok (.aload_n 0, 1) := by decide +kernel
theorem dX7_see_72 : decode cX7_see 72 = .ok (.dup, 1) := by decide +kernel
theorem dX7_see_73 : decode cX7_see 73 = .ok (.getfield 164, 3) := by decide +kernel
theorem dX7_see_76 : decode cX7_see 76 = .ok (.iconst 1, 1) := by decide +kernel
theorem dX7_see_77 : decode cX7_see 77 = .ok (.iload_n 2, 1) := by decide +kernel
theorem dX7_see_78 : decode cX7_see 78 = .ok (.ishl, 1) := by decide +kernel
theorem dX7_see_79 : decode cX7_see 79 = .ok (.ior, 1) := by decide +kernel
theorem dX7_see_8 : decode cX7_see 8 = .ok (.getfield 23, 3) := by decide +kernel
theorem dX7_see_80 : decode cX7_see 80 = .ok (.putfield 164, 3) := by decide +kernel
theorem dX7_see_83 : decode cX7_see 83 = .ok (.iinc 2 1, 3) := by decide +kernel
theorem dX7_see_86 : decode cX7_see 86 = .ok (.goto (-39), 3) := by decide +kernel
theorem dX7_see_89 : decode cX7_see 89 = .ok (.return_, 1) := by decide +kernel
noncomputable def k_X7_see_83 (l2 : Int32) (s : t_S) : Option ((Int32 × t_S) ⊕ (t_S)) :=
 some (.inl ((l2 + 1), s))
set_option maxRecDepth 4000 in
set_option maxHeartbeats 1000000 in
theorem B_X7_see_83 {D : va_G} {cy : Nat → ClassId} {ad : Nat → Nat} {bs : Nat} {X : State → Heap → Prop} (l2 : Int32) (s : t_S) (Q : (Int32 × t_S) ⊕ (t_S) → Prop) (Hb47 : ∀ (y0 : Int32) (y1 : t_S), Q (.inl (y0, y1)) → mj_G D cy ad bs X cX7_see 3 yX7_see.cls none yX7_see.name 2 0 0 1065 (t_P (fun v s' => v = none ∧ Q (.inr (s')))) 47 [(0, .ref 864), (2, .int (y0))] [] (t_m y1) 1065 0 0) (hk : t_hk (k_X7_see_83 l2 s) Q) : mj_G D cy ad bs X cX7_see 3 yX7_see.cls none yX7_see.name 2 0 0 1065 (t_P (fun v s' => v = none ∧ Q (.inr (s')))) 83 [(0, .ref 864), (2, .int l2)] [] (t_m s) 1065 0 0 := by
  refine mj_iinc (k := 1) (v := (l2 + 1)) (lv2 := [(2, .int (l2 + 1)), (0, .ref 864)]) dX7_see_83 rfl rfl (by decide) rfl ?_
  refine mj_goto 47 dX7_see_86 (by decide) ?_
  refine mj_sublv [(0, .ref 864), (2, .int (l2 + 1))] [1, 0] rfl ?_
  exact t_somK hk (fun hf => Hb47 (l2 + 1) s hf)
noncomputable def k_X7_see_47 (l2 : Int32) (s : t_S) : Option ((Int32 × t_S) ⊕ (t_S)) :=
 if (s.1 864 6) ≤ l2 then ((some (s)).map Sum.inr)
 else (if t_ix l2 8 = true then
  if t_isP (866 + 10 * (l2.toNatClampNeg)) = true then
  if (s.1 (866 + 10 * (l2.toNatClampNeg)) 2) = (2 : Int32) then (t_let (t_setI s 334 16 ((s.1 334 16) ||| ((1 : Int32) <<< (l2 &&& 31)))) (fun s1 =>
 k_X7_see_83 l2 s1))
 else (k_X7_see_83 l2 s)
else none
else none)
set_option maxRecDepth 4000 in
set_option maxHeartbeats 1000000 in
theorem B_X7_see_47 {D : va_G} {cy : Nat → ClassId} {ad : Nat → Nat} {bs : Nat} {X : State → Heap → Prop} (l2 : Int32) (s : t_S) (Q : (Int32 × t_S) ⊕ (t_S) → Prop) (Hb47 : ∀ (y0 : Int32) (y1 : t_S), Q (.inl (y0, y1)) → mj_G D cy ad bs X cX7_see 3 yX7_see.cls none yX7_see.name 2 0 0 1065 (t_P (fun v s' => v = none ∧ Q (.inr (s')))) 47 [(0, .ref 864), (2, .int (y0))] [] (t_m y1) 1065 0 0) (hk : t_hk (k_X7_see_47 l2 s) Q) : mj_G D cy ad bs X cX7_see 3 yX7_see.cls none yX7_see.name 2 0 0 1065 (t_P (fun v s' => v = none ∧ Q (.inr (s')))) 47 [(0, .ref 864), (2, .int l2)] [] (t_m s) 1065 0 0 := by
  refine mj_iload_n dX7_see_47 1 rfl ?_
  refine mj_aload_n dX7_see_48 0 rfl ?_
  refine t_getI dX7_see_49 F_X7_42 qf_864_6 ?_
  refine mj_icmp_ge 89 dX7_see_52 (by decide) (fun z => t_posK hk z (fun hk => ?_)) (fun z => t_negK hk z (fun hk => ?_))
  · refine t_mapK hk (fun hk => ?_)
    exact t_somK hk (fun hf => t_vret dX7_see_89 rfl ⟨rfl, hf⟩ (Nat.le_of_ble_eq_true rfl) (Nat.le_of_ble_eq_true rfl))
  · refine mj_aload_n dX7_see_55 0 rfl ?_
    refine t_getR 865 dX7_see_56 F_X7_11 qr_864_5 ?_
    refine mj_iload_n dX7_see_59 1 rfl ?_
    refine t_chkK hk (fun c0 hk => ?_)
    refine t_aaldP dX7_see_60 qq_865 (t_ixv c0) ?_
    refine t_chkK hk (fun c1 hk => ?_)
    refine t_getI dX7_see_61 F_X7_82 (t_pf2 c1) ?_
    refine mj_iconst (v := 2) dX7_see_64 (by decide) ?_
    refine mj_icmp_ne 83 dX7_see_65 (by decide) (fun z => t_negK hk z (fun hk => ?_)) (fun z => t_posK hk z (fun hk => ?_))
    · exact B_X7_see_83 _ _ _ (fun y0 y1 hx => Hb47 y0 y1 hx) hk
    · refine mj_aload_n dX7_see_68 0 rfl ?_
      refine t_getR 334 dX7_see_69 F_X7_23 qr_864_2 ?_
      refine mj_dup dX7_see_72 rfl ?_
      refine t_getI dX7_see_73 F_X7_164 qf_334_16 ?_
      refine mj_iconst (v := 1) dX7_see_76 (by decide) ?_
      refine mj_iload_n dX7_see_77 1 rfl ?_
      refine mj_ishl dX7_see_78 ?_
      refine mj_ior dX7_see_79 ?_
      refine t_putIK dX7_see_80 F_X7_164 qf_334_16 rfl (fun s1 ws1 => t_letE hk ws1 (fun hk => ?_))
      exact B_X7_see_83 _ _ _ (fun y0 y1 hx => Hb47 y0 y1 hx) hk
noncomputable def b_X7_see_47 (x : Int32 × t_S) : Option ((Int32 × t_S) ⊕ (t_S)) := k_X7_see_47 x.1 x.2
set_option maxRecDepth 4000 in
set_option maxHeartbeats 1000000 in
theorem LH_X7_see_47 {D : va_G} {cy : Nat → ClassId} {ad : Nat → Nat} {bs : Nat} {X : State → Heap → Prop} : ∀ (n : Nat) (y0 : Int32) (y1 : t_S) (Q : t_S → Prop) (hk : t_hk (t_loop (b_X7_see_47) n (y0, y1)) Q), mj_G D cy ad bs X cX7_see 3 yX7_see.cls none yX7_see.name 2 0 0 1065 (t_P (fun v s' => v = none ∧ Q (s'))) 47 [(0, .ref 864), (2, .int (y0))] [] (t_m y1) 1065 0 0 := by
  intro n
  induction n with
  | zero => intro y0 y1 Q hk; obtain ⟨r, hr, _⟩ := hk; cases hr
  | succ n ih =>
    intro y0 y1 Q hk
    exact B_X7_see_47 y0 y1 (fun y => t_lq (b_X7_see_47) n Q y) (fun y0' y1' hy => ih y0' y1' Q hy) (t_lp hk)
noncomputable def f_X7_see (x1 : Nat) (s : t_S) : Option (t_S) :=
 (f_X0_clear s).bind (fun r1 =>
 t_let (t_setR r1 334 15 x1) (fun s1 =>
 t_let (t_setJ s1 334 17 (s1.2.1 864 7)) (fun s2 =>
 if t_isP x1 = true then
  (f_X4_topSlot x1 s2).bind (fun r3 =>
 t_let (t_setI s2 334 18 r3) (fun s3 =>
 t_let (t_setI s3 334 16 (0 : Int32)) (fun s4 =>
 t_loop (b_X7_see_47) t_N (0, s4))))
else none)))
set_option maxRecDepth 4000 in
set_option maxHeartbeats 1000000 in
theorem C_X7_see (x1 : Nat) (s : t_S) (r : t_S) (hr : f_X7_see x1 s = some r) : t_C yX7_see cX7_see 3 none 2 [.ref 864, .ref x1] s (fun v s' => v = none ∧ s' = r) := by
  refine t_C.imp (P := fun v s' => v = none ∧ (fun q => q = r) (s')) (t_C.of (by decide +kernel) (Nat.le_of_ble_eq_true rfl) ?_) (fun v s' hp => hp)
  intro D cy ad bs X
  have hk : t_hk (f_X7_see x1 s) (fun q => q = r) := ⟨r, hr, rfl⟩
  show mj_G D cy ad bs X cX7_see 3 yX7_see.cls none yX7_see.name 2 0 0 1065 (t_P (fun v s' => v = none ∧ (fun q => q = r) (s'))) 0 [(0, .ref 864), (1, .ref x1)] [] (t_m s) 1065 0 0
  refine mj_aload_n dX7_see_0 0 rfl ?_
  refine t_getR 334 dX7_see_1 F_X7_23 qr_864_2 ?_
  refine t_bndK hk (fun r1 er1 hk => ?_)
  refine t_callVvE dX7_see_4 M_X0_clear (C_X0_clear _ _ er1) ML_X7_116 IM_X0_clear SE_X0_clear qc_334 rfl (As := []) rfl rfl (Nat.le_of_ble_eq_true rfl) (Nat.le_of_ble_eq_true rfl) (Nat.le_of_ble_eq_true rfl) (Nat.le_of_ble_eq_true rfl) ?_
  refine mj_aload_n dX7_see_7 0 rfl ?_
  refine t_getR 334 dX7_see_8 F_X7_23 qr_864_2 ?_
  refine mj_aload_n dX7_see_11 1 rfl ?_
  refine t_putDK dX7_see_12 F_X7_151 qf_334_15 rfl (fun s1 ws1 => t_letE hk ws1 (fun hk => ?_))
  refine mj_aload_n dX7_see_15 0 rfl ?_
  refine t_getR 334 dX7_see_16 F_X7_23 qr_864_2 ?_
  refine mj_aload_n dX7_see_19 0 rfl ?_
  refine t_getJ dX7_see_20 F_X7_46 qf_864_7 ?_
  refine t_putJK dX7_see_23 F_X7_155 qf_334_17 rfl (fun s2 ws2 => t_letE hk ws2 (fun hk => ?_))
  refine mj_aload_n dX7_see_26 0 rfl ?_
  refine t_getR 334 dX7_see_27 F_X7_23 qr_864_2 ?_
  refine mj_aload_n dX7_see_30 1 rfl ?_
  refine t_chkK hk (fun c1 hk => ?_)
  refine t_bndK hk (fun r3 er3 hk => ?_)
  refine t_callViP dX7_see_31 M_X4_topSlot (C_X4_topSlot _ _ _ er3) ML_X7_158 IM_X4_topSlot SE_X4_topSlot (t_pc c1) rfl (As := []) rfl rfl (Nat.le_of_ble_eq_true rfl) (Nat.le_of_ble_eq_true rfl) (Nat.le_of_ble_eq_true rfl) (Nat.le_of_ble_eq_true rfl) ?_
  refine t_putIK dX7_see_34 F_X7_161 qf_334_18 rfl (fun s3 ws3 => t_letE hk ws3 (fun hk => ?_))
  refine mj_aload_n dX7_see_37 0 rfl ?_
  refine t_getR 334 dX7_see_38 F_X7_23 qr_864_2 ?_
  refine mj_iconst (v := 0) dX7_see_41 (by decide) ?_
  refine t_putIK dX7_see_42 F_X7_164 qf_334_16 rfl (fun s4 ws4 => t_letE hk ws4 (fun hk => ?_))
  refine mj_iconst (v := 0) dX7_see_45 (by decide) ?_
  refine mj_istore_n 2 (lv2 := [(2, .int 0), (0, .ref 864), (1, .ref x1)]) dX7_see_46 rfl (by decide) rfl ?_
  refine mj_sublv [(0, .ref 864), (2, .int 0)] [1, 0] rfl ?_
  exact LH_X7_see_47 _ 0 s4 _ hk

theorem dX7_waits_0 : decode cX7_waits 0 = .ok (.iload_n 0, 1) := by decide +kernel
theorem dX7_waits_1 : decode cX7_waits 1 = .ok (.bipush 10, 2) := by decide +kernel
theorem dX7_waits_12 : decode cX7_waits 12 = .ok (.iload_n 0, 1) := by decide +kernel
theorem dX7_waits_13 : decode cX7_waits 13 = .ok (.bipush 12, 2) := by decide +kernel
theorem dX7_waits_15 : decode cX7_waits 15 = .ok (.if_icmp .eq 9, 3) := by decide +kernel
theorem dX7_waits_18 : decode cX7_waits 18 = .ok (.iload_n 0, 1) := by decide +kernel
theorem dX7_waits_19 : decode cX7_waits 19 = .ok (.bipush 13, 2) := by decide +kernel
theorem dX7_waits_21 : decode cX7_waits 21 = .ok (.if_icmp .ne 7, 3) := by decide +kernel
theorem dX7_waits_24 : decode cX7_waits 24 = .ok (.iconst 1, 1) := by decide +kernel
theorem dX7_waits_25 : decode cX7_waits 25 = .ok (.goto 4, 3) := by decide +kernel
theorem dX7_waits_28 : decode cX7_waits 28 = .ok (.iconst 0, 1) := by decide +kernel
theorem dX7_waits_29 : decode cX7_waits 29 = .ok (.ireturn, 1) := by decide +kernel
theorem dX7_waits_3 : decode cX7_waits 3 = .ok (.if_icmp .eq 21, 3) := by decide +kernel
theorem dX7_waits_6 : decode cX7_waits 6 = .ok (.iload_n 0, 1) := by decide +kernel
theorem dX7_waits_7 : decode cX7_waits 7 = .ok (.bipush 11, 2) := by decide +kernel
theorem dX7_waits_9 : decode cX7_waits 9 = .ok (.if_icmp .eq 15, 3) := by decide +kernel
noncomputable def k_X7_waits_24 (s : t_S) : Int32 :=
 (1 : Int32)
set_option maxRecDepth 4000 in
set_option maxHeartbeats 1000000 in
theorem B_X7_waits_24 {D : va_G} {cy : Nat → ClassId} {ad : Nat → Nat} {bs : Nat} {X : State → Heap → Prop} (s : t_S) (Q : Int32 → Prop) (hk : t_ht (k_X7_waits_24 s) Q) : mj_G D cy ad bs X cX7_waits 1 yX7_waits.cls (some .boolean) yX7_waits.name 0 0 0 1065 (t_P (fun v s' => s' = s ∧ ∃ x, v = some (.int x) ∧ Q (x))) 24 [] [] (t_m s) 1065 0 0 := by
  refine mj_iconst (v := 1) dX7_waits_24 (by decide) ?_
  refine mj_goto 29 dX7_waits_25 (by decide) ?_
  exact t_iret dX7_waits_29 rfl (by decide) ⟨rfl, _, rfl, hk⟩ (Nat.le_of_ble_eq_true rfl) (Nat.le_of_ble_eq_true rfl)
noncomputable def f_X7_waits (x1 : Int32) (s : t_S) : Int32 :=
 if x1 = (10 : Int32) then (k_X7_waits_24 s)
 else (if x1 = (11 : Int32) then (k_X7_waits_24 s)
 else (if x1 = (12 : Int32) then (k_X7_waits_24 s)
 else (if x1 = (13 : Int32) then (k_X7_waits_24 s)
 else ((0 : Int32)))))
set_option maxRecDepth 4000 in
set_option maxHeartbeats 1000000 in
theorem C_X7_waits (x1 : Int32) (s : t_S) : t_C yX7_waits cX7_waits 1 (some .boolean) 0 [.int x1] s (fun v s' => v = some (.int (f_X7_waits x1 s)) ∧ s' = s) := by
  refine t_C.imp (P := fun v s' => s' = s ∧ ∃ x, v = some (.int x) ∧ (fun r => r = f_X7_waits x1 s) (x)) (t_C.of (by decide +kernel) (Nat.le_of_ble_eq_true rfl) ?_) (fun v s' hp => by obtain ⟨rfl, x, rfl, rfl⟩ := hp; exact ⟨rfl, rfl⟩)
  intro D cy ad bs X
  have hk : t_ht (f_X7_waits x1 s) (fun r => r = f_X7_waits x1 s) := rfl
  show mj_G D cy ad bs X cX7_waits 1 yX7_waits.cls (some .boolean) yX7_waits.name 0 0 0 1065 (t_P (fun v s' => s' = s ∧ ∃ x, v = some (.int x) ∧ (fun r => r = f_X7_waits x1 s) (x))) 0 [(0, .int x1)] [] (t_m s) 1065 0 0
  refine mj_iload_n dX7_waits_0 0 rfl ?_
  refine mj_bipush (v := 10) dX7_waits_1 (by decide) ?_
  refine mj_icmp_eq 24 dX7_waits_3 (by decide) (fun z => t_posTK hk z (fun hk => ?_)) (fun z => t_negTK hk z (fun hk => ?_))
  · refine mj_sublv [] [] rfl ?_
    exact B_X7_waits_24 _ _ hk
  · refine mj_iload_n dX7_waits_6 0 rfl ?_
    refine mj_bipush (v := 11) dX7_waits_7 (by decide) ?_
    refine mj_icmp_eq 24 dX7_waits_9 (by decide) (fun z => t_posTK hk z (fun hk => ?_)) (fun z => t_negTK hk z (fun hk => ?_))
    · refine mj_sublv [] [] rfl ?_
      exact B_X7_waits_24 _ _ hk
    · refine mj_iload_n dX7_waits_12 0 rfl ?_
      refine mj_bipush (v := 12) dX7_waits_13 (by decide) ?_
      refine mj_icmp_eq 24 dX7_waits_15 (by decide) (fun z => t_posTK hk z (fun hk => ?_)) (fun z => t_negTK hk z (fun hk => ?_))
      · refine mj_sublv [] [] rfl ?_
        exact B_X7_waits_24 _ _ hk
      · refine mj_iload_n dX7_waits_18 0 rfl ?_
        refine mj_bipush (v := 13) dX7_waits_19 (by decide) ?_
        refine mj_icmp_ne 28 dX7_waits_21 (by decide) (fun z => t_negTK hk z (fun hk => ?_)) (fun z => t_posTK hk z (fun hk => ?_))
        · refine mj_iconst (v := 0) dX7_waits_28 (by decide) ?_
          exact t_iret dX7_waits_29 rfl (by decide) ⟨rfl, _, rfl, hk⟩ (Nat.le_of_ble_eq_true rfl) (Nat.le_of_ble_eq_true rfl)
        · refine mj_sublv [] [] rfl ?_
          exact B_X7_waits_24 _ _ hk

theorem dX7_canGoOn_0 : decode cX7_canGoOn 0 = .ok (.iconst 0, 1) := by decide +kernel
theorem dX7_canGoOn_1 : decode cX7_canGoOn 1 = .ok (.istore_n 1, 1) := by decide +kernel
theorem dX7_canGoOn_10 : decode cX7_canGoOn 10 = .ok (.aload_n 0, 1) := by decide +kernel
theorem dX7_canGoOn_11 : decode cX7_canGoOn 11 = .ok (.getfield 11, 3) := by decide +kernel
theorem dX7_canGoOn_14 : decode cX7_canGoOn 14 = .ok (.iload_n 1, 1) := by decide +kernel
theorem dX7_canGoOn_15 : decode cX7_canGoOn 15 = .ok (.aaload, 1) := by decide +kernel
theorem dX7_canGoOn_16 : decode cX7_canGoOn 16 = .ok (.astore_n 2, 1) := by decide +kernel
theorem dX7_canGoOn_17 : decode cX7_canGoOn 17 = .ok (.aload_n 2, 1) := by decide +kernel
theorem dX7_canGoOn_18 : decode cX7_canGoOn 18 = .ok (.getfield 82, 3) := by decide +kernel
theorem dX7_canGoOn_2 : decode cX7_canGoOn 2 = .ok (.iload_n 1, 1) := by decide +kernel
theorem dX7_canGoOn_21 : decode cX7_canGoOn 21 = .ok (.iconst 1, 1) := by decide +kernel
theorem dX7_canGoOn_22 : decode cX7_canGoOn 22 = .ok (.if_icmp .ne 10, 3) := by decide +kernel
theorem dX7_canGoOn_25 : decode cX7_canGoOn 25 = .ok (.aload_n 2, 1) := by decide +kernel
theorem dX7_canGoOn_26 : decode cX7_canGoOn 26 = .ok (.invokestatic 176, 3) := by decide +kernel
theorem dX7_canGoOn_29 : decode cX7_canGoOn 29 = .ok (.goto 4, 3) := by decide +kernel
theorem dX7_canGoOn_3 : decode cX7_canGoOn 3 = .ok (.aload_n 0, 1) := by decide +kernel
theorem dX7_canGoOn_32 : decode cX7_canGoOn 32 = .ok (.iconst (-1), 1) := by decide +kernel
theorem dX7_canGoOn_33 : decode cX7_canGoOn 33 = .ok (.istore_n 3, 1) := by decide +kernel
theorem dX7_canGoOn_34 : decode cX7_canGoOn 34 = .ok (.iload_n 3, 1) := by decide +kernel
theorem dX7_canGoOn_35 : decode cX7_canGoOn 35 = .ok (.ifCond .lt 38, 3) := by decide +kernel
theorem dX7_canGoOn_38 : decode cX7_canGoOn 38 = .ok (.aload_n 0, 1) := by decide +kernel
theorem dX7_canGoOn_39 : decode cX7_canGoOn 39 = .ok (.getfield 31, 3) := by decide +kernel
theorem dX7_canGoOn_4 : decode cX7_canGoOn 4 = .ok (.getfield 42, 3) := by decide +kernel
theorem dX7_canGoOn_42 : decode cX7_canGoOn 42 = .ok (.getfield 179, 3) := by decide +kernel
theorem dX7_canGoOn_45 : decode cX7_canGoOn 45 = .ok (.iload_n 3, 1) := by decide +kernel
theorem dX7_canGoOn_46 : decode cX7_canGoOn 46 = .ok (.aaload, 1) := by decide +kernel
theorem dX7_canGoOn_47 : decode cX7_canGoOn 47 = .ok (.iconst 0, 1) := by decide +kernel
theorem dX7_canGoOn_48 : decode cX7_canGoOn 48 = .ok (.iaload, 1) := by decide +kernel
theorem dX7_canGoOn_49 : decode cX7_canGoOn 49 = .ok (.invokestatic 183, 3) := by decide +kernel
theorem dX7_canGoOn_52 : decode cX7_canGoOn 52 = .ok (.ifCond .ne 5, 3) := by decide +kernel
theorem dX7_canGoOn_55 : decode cX7_canGoOn 55 = .ok (.iconst 1, 1) := by decide +kernel
theorem dX7_canGoOn_56 : decode cX7_canGoOn 56 = .ok (.ireturn, 1) := by decide +kernel
theorem dX7_canGoOn_57 : decode cX7_canGoOn 57 = .ok (.aload_n 0, 1) := by decide +kernel
theorem dX7_canGoOn_58 : decode cX7_canGoOn 58 = .ok (.aload_n 2, 1) := by decide +kernel
theorem dX7_canGoOn_59 : decode cX7_canGoOn 59 = .ok (.invokevirtual 107, 3) := by decide +kernel
theorem dX7_canGoOn_62 : decode cX7_canGoOn 62 = .ok (.aload_n 0, 1) := by decide +kernel
theorem dX7_canGoOn_63 : decode cX7_canGoOn 63 = .ok (.aload_n 2, 1) := by decide +kernel
theorem dX7_canGoOn_64 : decode cX7_canGoOn 64 = .ok (.iload_n 3, 1) := by decide +kernel
theorem dX7_canGoOn_65 : decode cX7_canGoOn 65 = .ok (.invokevirtual 187, 3) := by decide +kernel
theorem dX7_canGoOn_68 : decode cX7_canGoOn 68 = .ok (.ifCond .eq 5, 3) := by decide +kernel
theorem dX7_canGoOn_7 : decode cX7_canGoOn 7 = .ok (.if_icmp .ge 72, 3) := by decide +kernel
theorem dX7_canGoOn_71 : decode cX7_canGoOn 71 = .ok (.iconst 1, 1) := by decide +kernel
theorem dX7_canGoOn_72 : decode cX7_canGoOn 72 = .ok (.ireturn, 1) := by decide +kernel
theorem dX7_canGoOn_73 : decode cX7_canGoOn 73 = .ok (.iinc 1 1, 3) := by decide +kernel
theorem dX7_canGoOn_76 : decode cX7_canGoOn 76 = .ok (.goto (-74), 3) := by decide +kernel
theorem dX7_canGoOn_79 : decode cX7_canGoOn 79 = .ok (.iconst 0, 1) := by decide +kernel
theorem dX7_canGoOn_80 : decode cX7_canGoOn 80 = .ok (.ireturn, 1) := by decide +kernel
noncomputable def k_X7_canGoOn_73 (l1 : Int32) (s : t_S) : Option ((Int32 × t_S) ⊕ (Int32 × t_S)) :=
 some (.inl ((l1 + 1), s))
set_option maxRecDepth 4000 in
set_option maxHeartbeats 1000000 in
theorem B_X7_canGoOn_73 {D : va_G} {cy : Nat → ClassId} {ad : Nat → Nat} {bs : Nat} {X : State → Heap → Prop} (l1 : Int32) (s : t_S) (Q : (Int32 × t_S) ⊕ (Int32 × t_S) → Prop) (Hb2 : ∀ (y0 : Int32) (y1 : t_S), Q (.inl (y0, y1)) → mj_G D cy ad bs X cX7_canGoOn 4 yX7_canGoOn.cls (some .boolean) yX7_canGoOn.name 508 0 0 1065 (t_P (fun v s' => ∃ x, v = some (.int x) ∧ Q (.inr ((x, s'))))) 2 [(0, .ref 864), (1, .int (y0))] [] (t_m y1) 1065 0 0) (hk : t_hk (k_X7_canGoOn_73 l1 s) Q) : mj_G D cy ad bs X cX7_canGoOn 4 yX7_canGoOn.cls (some .boolean) yX7_canGoOn.name 508 0 0 1065 (t_P (fun v s' => ∃ x, v = some (.int x) ∧ Q (.inr ((x, s'))))) 73 [(0, .ref 864), (1, .int l1)] [] (t_m s) 1065 0 0 := by
  refine mj_iinc (k := 1) (v := (l1 + 1)) (lv2 := [(1, .int (l1 + 1)), (0, .ref 864)]) dX7_canGoOn_73 rfl rfl (by decide) rfl ?_
  refine mj_goto 2 dX7_canGoOn_76 (by decide) ?_
  refine mj_sublv [(0, .ref 864), (1, .int (l1 + 1))] [1, 0] rfl ?_
  exact t_somK hk (fun hf => Hb2 (l1 + 1) s hf)
noncomputable def k_X7_canGoOn_33 (l1 : Int32) (l2 : Nat) (k0 : Int32) (s : t_S) : Option ((Int32 × t_S) ⊕ (Int32 × t_S)) :=
 if k0 < (0 : Int32) then (k_X7_canGoOn_73 l1 s)
 else (if t_ix k0 400 = true then
  if (f_X7_waits (s.1 (445 + 1 * (k0.toNatClampNeg)) ((0 : Int32).toNatClampNeg)) s) = (0 : Int32) then ((some ((1 : Int32), s)).map Sum.inr)
 else ((f_X7_see l2 s).bind (fun r3 =>
 (f_X7_look l2 k0 r3).bind (fun r4 =>
 if r4.1 = (0 : Int32) then (k_X7_canGoOn_73 l1 r4.2)
 else ((some ((1 : Int32), r4.2)).map Sum.inr))))
else none)
set_option maxRecDepth 4000 in
set_option maxHeartbeats 1000000 in
theorem B_X7_canGoOn_33 {D : va_G} {cy : Nat → ClassId} {ad : Nat → Nat} {bs : Nat} {X : State → Heap → Prop} (l1 : Int32) (l2 : Nat) (k0 : Int32) (s : t_S) (Q : (Int32 × t_S) ⊕ (Int32 × t_S) → Prop) (Hb2 : ∀ (y0 : Int32) (y1 : t_S), Q (.inl (y0, y1)) → mj_G D cy ad bs X cX7_canGoOn 4 yX7_canGoOn.cls (some .boolean) yX7_canGoOn.name 508 0 0 1065 (t_P (fun v s' => ∃ x, v = some (.int x) ∧ Q (.inr ((x, s'))))) 2 [(0, .ref 864), (1, .int (y0))] [] (t_m y1) 1065 0 0) (hk : t_hk (k_X7_canGoOn_33 l1 l2 k0 s) Q) : mj_G D cy ad bs X cX7_canGoOn 4 yX7_canGoOn.cls (some .boolean) yX7_canGoOn.name 508 0 0 1065 (t_P (fun v s' => ∃ x, v = some (.int x) ∧ Q (.inr ((x, s'))))) 33 [(0, .ref 864), (1, .int l1), (2, .ref l2)] [.int k0] (t_m s) 1065 0 0 := by
  refine mj_istore_n 3 (lv2 := [(3, .int k0), (0, .ref 864), (1, .int l1), (2, .ref l2)]) dX7_canGoOn_33 rfl (by decide) rfl ?_
  refine mj_iload_n dX7_canGoOn_34 0 rfl ?_
  refine mj_if_lt 73 dX7_canGoOn_35 (by decide) (fun z => t_posK hk z (fun hk => ?_)) (fun z => t_negK hk z (fun hk => ?_))
  · refine mj_sublv [(0, .ref 864), (1, .int l1)] [1, 2] rfl ?_
    exact B_X7_canGoOn_73 _ _ _ (fun y0 y1 hx => Hb2 y0 y1 hx) hk
  · refine mj_aload_n dX7_canGoOn_38 1 rfl ?_
    refine t_getR 428 dX7_canGoOn_39 F_X7_31 qr_864_4 ?_
    refine t_getR 444 dX7_canGoOn_42 F_X7_179 qr_428_17 ?_
    refine mj_iload_n dX7_canGoOn_45 0 rfl ?_
    refine t_chkK hk (fun c0 hk => ?_)
    refine t_aaldI dX7_canGoOn_46 qq_444 (t_ixv c0) ?_
    refine mj_iconst (v := 0) dX7_canGoOn_47 (by decide) ?_
    refine t_iald dX7_canGoOn_48 (t_row445 (t_ixn c0)) (by unfold vp_in; decide) ?_
    refine t_callSiP dX7_canGoOn_49 M_X7_waits (C_X7_waits _ _) ML_X7_183 SM_X7_waits (As := [.int (s.1 (445 + 1 * (k0.toNatClampNeg)) ((0 : Int32).toNatClampNeg))]) rfl rfl (Nat.le_of_ble_eq_true rfl) (Nat.le_of_ble_eq_true rfl) (Nat.le_of_ble_eq_true rfl) (Nat.le_of_ble_eq_true rfl) ?_
    refine mj_if_ne 57 dX7_canGoOn_52 (by decide) (fun z => t_negK hk z (fun hk => ?_)) (fun z => t_posK hk z (fun hk => ?_))
    · refine mj_aload_n dX7_canGoOn_57 1 rfl ?_
      refine mj_aload_n dX7_canGoOn_58 3 rfl ?_
      refine t_bndK hk (fun r3 er3 hk => ?_)
      refine t_callVvE dX7_canGoOn_59 M_X7_see (C_X7_see _ _ _ er3) ML_X7_107 IM_X7_see SE_X7_see qc_864 rfl (As := [.ref l2]) rfl rfl (Nat.le_of_ble_eq_true rfl) (Nat.le_of_ble_eq_true rfl) (Nat.le_of_ble_eq_true rfl) (Nat.le_of_ble_eq_true rfl) ?_
      refine mj_aload_n dX7_canGoOn_62 1 rfl ?_
      refine mj_aload_n dX7_canGoOn_63 3 rfl ?_
      refine mj_iload_n dX7_canGoOn_64 0 rfl ?_
      refine t_bndK hk (fun r4 er4 hk => ?_)
      refine t_callViE dX7_canGoOn_65 M_X7_look (C_X7_look _ _ _ _ er4) ML_X7_187 IM_X7_look SE_X7_look qc_864 rfl (As := [.ref l2, .int k0]) rfl rfl (Nat.le_of_ble_eq_true rfl) (Nat.le_of_ble_eq_true rfl) (Nat.le_of_ble_eq_true rfl) (Nat.le_of_ble_eq_true rfl) ?_
      refine mj_if_eq 73 dX7_canGoOn_68 (by decide) (fun z => t_posK hk z (fun hk => ?_)) (fun z => t_negK hk z (fun hk => ?_))
      · refine mj_sublv [(0, .ref 864), (1, .int l1)] [1, 2] rfl ?_
        exact B_X7_canGoOn_73 _ _ _ (fun y0 y1 hx => Hb2 y0 y1 hx) hk
      · refine t_mapK hk (fun hk => ?_)
        refine mj_iconst (v := 1) dX7_canGoOn_71 (by decide) ?_
        exact t_somK hk (fun hf => t_iret dX7_canGoOn_72 rfl (by decide) ⟨_, rfl, hf⟩ (Nat.le_of_ble_eq_true rfl) (Nat.le_of_ble_eq_true rfl))
    · refine t_mapK hk (fun hk => ?_)
      refine mj_iconst (v := 1) dX7_canGoOn_55 (by decide) ?_
      exact t_somK hk (fun hf => t_iret dX7_canGoOn_56 rfl (by decide) ⟨_, rfl, hf⟩ (Nat.le_of_ble_eq_true rfl) (Nat.le_of_ble_eq_true rfl))
noncomputable def k_X7_canGoOn_2 (l1 : Int32) (s : t_S) : Option ((Int32 × t_S) ⊕ (Int32 × t_S)) :=
 if (s.1 864 6) ≤ l1 then ((some ((0 : Int32), s)).map Sum.inr)
 else (if t_ix l1 8 = true then
  if t_isP (866 + 10 * (l1.toNatClampNeg)) = true then
  if (s.1 (866 + 10 * (l1.toNatClampNeg)) 2) = (1 : Int32) then ((f_X7_nextOf (866 + 10 * (l1.toNatClampNeg)) s).bind (fun r3 =>
 k_X7_canGoOn_33 l1 (866 + 10 * (l1.toNatClampNeg)) r3 s))
 else (k_X7_canGoOn_33 l1 (866 + 10 * (l1.toNatClampNeg)) (-1) s)
else none
else none)
set_option maxRecDepth 4000 in
set_option maxHeartbeats 1000000 in
theorem B_X7_canGoOn_2 {D : va_G} {cy : Nat → ClassId} {ad : Nat → Nat} {bs : Nat} {X : State → Heap → Prop} (l1 : Int32) (s : t_S) (Q : (Int32 × t_S) ⊕ (Int32 × t_S) → Prop) (Hb2 : ∀ (y0 : Int32) (y1 : t_S), Q (.inl (y0, y1)) → mj_G D cy ad bs X cX7_canGoOn 4 yX7_canGoOn.cls (some .boolean) yX7_canGoOn.name 508 0 0 1065 (t_P (fun v s' => ∃ x, v = some (.int x) ∧ Q (.inr ((x, s'))))) 2 [(0, .ref 864), (1, .int (y0))] [] (t_m y1) 1065 0 0) (hk : t_hk (k_X7_canGoOn_2 l1 s) Q) : mj_G D cy ad bs X cX7_canGoOn 4 yX7_canGoOn.cls (some .boolean) yX7_canGoOn.name 508 0 0 1065 (t_P (fun v s' => ∃ x, v = some (.int x) ∧ Q (.inr ((x, s'))))) 2 [(0, .ref 864), (1, .int l1)] [] (t_m s) 1065 0 0 := by
  refine mj_iload_n dX7_canGoOn_2 1 rfl ?_
  refine mj_aload_n dX7_canGoOn_3 0 rfl ?_
  refine t_getI dX7_canGoOn_4 F_X7_42 qf_864_6 ?_
  refine mj_icmp_ge 79 dX7_canGoOn_7 (by decide) (fun z => t_posK hk z (fun hk => ?_)) (fun z => t_negK hk z (fun hk => ?_))
  · refine t_mapK hk (fun hk => ?_)
    refine mj_iconst (v := 0) dX7_canGoOn_79 (by decide) ?_
    exact t_somK hk (fun hf => t_iret dX7_canGoOn_80 rfl (by decide) ⟨_, rfl, hf⟩ (Nat.le_of_ble_eq_true rfl) (Nat.le_of_ble_eq_true rfl))
  · refine mj_aload_n dX7_canGoOn_10 0 rfl ?_
    refine t_getR 865 dX7_canGoOn_11 F_X7_11 qr_864_5 ?_
    refine mj_iload_n dX7_canGoOn_14 1 rfl ?_
    refine t_chkK hk (fun c0 hk => ?_)
    refine t_aaldP dX7_canGoOn_15 qq_865 (t_ixv c0) ?_
    refine mj_astore_n 2 (lv2 := [(2, .ref (866 + 10 * (l1.toNatClampNeg))), (0, .ref 864), (1, .int l1)]) dX7_canGoOn_16 rfl (by decide) rfl ?_
    refine mj_aload_n dX7_canGoOn_17 0 rfl ?_
    refine t_chkK hk (fun c1 hk => ?_)
    refine t_getI dX7_canGoOn_18 F_X7_82 (t_pf2 c1) ?_
    refine mj_iconst (v := 1) dX7_canGoOn_21 (by decide) ?_
    refine mj_icmp_ne 32 dX7_canGoOn_22 (by decide) (fun z => t_negK hk z (fun hk => ?_)) (fun z => t_posK hk z (fun hk => ?_))
    · refine mj_iconst (v := (-1)) dX7_canGoOn_32 (by decide) ?_
      refine mj_sublv [(0, .ref 864), (1, .int l1), (2, .ref (866 + 10 * (l1.toNatClampNeg)))] [1, 2, 0] rfl ?_
      exact B_X7_canGoOn_33 _ _ _ _ _ (fun y0 y1 hx => Hb2 y0 y1 hx) hk
    · refine mj_aload_n dX7_canGoOn_25 0 rfl ?_
      refine t_bndK hk (fun r3 er3 hk => ?_)
      refine t_callSiP dX7_canGoOn_26 M_X7_nextOf (C_X7_nextOf _ _ _ er3) ML_X7_176 SM_X7_nextOf (As := [.ref (866 + 10 * (l1.toNatClampNeg))]) rfl rfl (Nat.le_of_ble_eq_true rfl) (Nat.le_of_ble_eq_true rfl) (Nat.le_of_ble_eq_true rfl) (Nat.le_of_ble_eq_true rfl) ?_
      refine mj_goto 33 dX7_canGoOn_29 (by decide) ?_
      refine mj_sublv [(0, .ref 864), (1, .int l1), (2, .ref (866 + 10 * (l1.toNatClampNeg)))] [1, 2, 0] rfl ?_
      exact B_X7_canGoOn_33 _ _ _ _ _ (fun y0 y1 hx => Hb2 y0 y1 hx) hk
noncomputable def b_X7_canGoOn_2 (x : Int32 × t_S) : Option ((Int32 × t_S) ⊕ (Int32 × t_S)) := k_X7_canGoOn_2 x.1 x.2
set_option maxRecDepth 4000 in
set_option maxHeartbeats 1000000 in
theorem LH_X7_canGoOn_2 {D : va_G} {cy : Nat → ClassId} {ad : Nat → Nat} {bs : Nat} {X : State → Heap → Prop} : ∀ (n : Nat) (y0 : Int32) (y1 : t_S) (Q : Int32 × t_S → Prop) (hk : t_hk (t_loop (b_X7_canGoOn_2) n (y0, y1)) Q), mj_G D cy ad bs X cX7_canGoOn 4 yX7_canGoOn.cls (some .boolean) yX7_canGoOn.name 508 0 0 1065 (t_P (fun v s' => ∃ x, v = some (.int x) ∧ Q ((x, s')))) 2 [(0, .ref 864), (1, .int (y0))] [] (t_m y1) 1065 0 0 := by
  intro n
  induction n with
  | zero => intro y0 y1 Q hk; obtain ⟨r, hr, _⟩ := hk; cases hr
  | succ n ih =>
    intro y0 y1 Q hk
    exact B_X7_canGoOn_2 y0 y1 (fun y => t_lq (b_X7_canGoOn_2) n Q y) (fun y0' y1' hy => ih y0' y1' Q hy) (t_lp hk)
noncomputable def f_X7_canGoOn (s : t_S) : Option (Int32 × t_S) :=
 t_loop (b_X7_canGoOn_2) t_N (0, s)
set_option maxRecDepth 4000 in
set_option maxHeartbeats 1000000 in
theorem C_X7_canGoOn (s : t_S) (r : Int32 × t_S) (hr : f_X7_canGoOn s = some r) : t_C yX7_canGoOn cX7_canGoOn 4 (some .boolean) 508 [.ref 864] s (fun v s' => v = some (.int r.1) ∧ s' = r.2) := by
  refine t_C.imp (P := fun v s' => ∃ x, v = some (.int x) ∧ (fun q => q = r) ((x, s'))) (t_C.of (by decide +kernel) (Nat.le_of_ble_eq_true rfl) ?_) (fun v s' hp => by obtain ⟨x, rfl, rfl⟩ := hp; exact ⟨rfl, rfl⟩)
  intro D cy ad bs X
  have hk : t_hk (f_X7_canGoOn s) (fun q => q = r) := ⟨r, hr, rfl⟩
  show mj_G D cy ad bs X cX7_canGoOn 4 yX7_canGoOn.cls (some .boolean) yX7_canGoOn.name 508 0 0 1065 (t_P (fun v s' => ∃ x, v = some (.int x) ∧ (fun q => q = r) ((x, s')))) 0 [(0, .ref 864)] [] (t_m s) 1065 0 0
  refine mj_iconst (v := 0) dX7_canGoOn_0 (by decide) ?_
  refine mj_istore_n 1 (lv2 := [(1, .int 0), (0, .ref 864)]) dX7_canGoOn_1 rfl (by decide) rfl ?_
  refine mj_sublv [(0, .ref 864), (1, .int 0)] [1, 0] rfl ?_
  exact LH_X7_canGoOn_2 _ 0 s _ hk

theorem dX7_worst_0 : decode cX7_worst 0 = .ok (.iconst 0, 1) := by decide +kernel
theorem dX7_worst_1 : decode cX7_worst 1 = .ok (.istore_n 1, 1) := by decide +kernel
theorem dX7_worst_12 : decode cX7_worst 12 = .ok (.iload_n 1, 1) := by decide +kernel
theorem dX7_worst_13 : decode cX7_worst 13 = .ok (.aload_n 0, 1) := by decide +kernel
theorem dX7_worst_14 : decode cX7_worst 14 = .ok (.getfield 11, 3) := by decide +kernel
theorem dX7_worst_17 : decode cX7_worst 17 = .ok (.iload_n 2, 1) := by decide +kernel
theorem dX7_worst_18 : decode cX7_worst 18 = .ok (.aaload, 1) := by decide +kernel
theorem dX7_worst_19 : decode cX7_worst 19 = .ok (.getfield 167, 3) := by decide +kernel
theorem dX7_worst_2 : decode cX7_worst 2 = .ok (.iconst 0, 1) := by decide +kernel
theorem dX7_worst_22 : decode cX7_worst 22 = .ok (.invokestatic 170, 3) := by decide +kernel
theorem dX7_worst_25 : decode cX7_worst 25 = .ok (.istore_n 1, 1) := by decide +kernel
theorem dX7_worst_26 : decode cX7_worst 26 = .ok (.iinc 2 1, 3) := by decide +kernel
theorem dX7_worst_29 : decode cX7_worst 29 = .ok (.goto (-25), 3) := by decide +kernel
theorem dX7_worst_3 : decode cX7_worst 3 = .ok (.istore_n 2, 1) := by decide +kernel
theorem dX7_worst_32 : decode cX7_worst 32 = .ok (.iload_n 1, 1) := by decide +kernel
theorem dX7_worst_33 : decode cX7_worst 33 = .ok (.ireturn, 1) := by decide +kernel
theorem dX7_worst_4 : decode cX7_worst 4 = .ok (.iload_n 2, 1) := by decide +kernel
theorem dX7_worst_5 : decode cX7_worst 5 = .ok (.aload_n 0, 1) := by decide +kernel
theorem dX7_worst_6 : decode cX7_worst 6 = .ok (.getfield 42, 3) := by decide +kernel
theorem dX7_worst_9 : decode cX7_worst 9 = .ok (.if_icmp .ge 23, 3) := by decide +kernel
noncomputable def k_X7_worst_4 (l1 : Int32) (l2 : Int32) (s : t_S) : Option ((Int32 × Int32) ⊕ (Int32)) :=
 if (s.1 864 6) ≤ l2 then ((some (l1)).map Sum.inr)
 else (if t_ix l2 8 = true then
  if t_isP (866 + 10 * (l2.toNatClampNeg)) = true then
  some (.inl ((if l1 < (s.1 (866 + 10 * (l2.toNatClampNeg)) 3) then (s.1 (866 + 10 * (l2.toNatClampNeg)) 3) else l1), (l2 + 1)))
else none
else none)
set_option maxRecDepth 4000 in
set_option maxHeartbeats 1000000 in
theorem B_X7_worst_4 {D : va_G} {cy : Nat → ClassId} {ad : Nat → Nat} {bs : Nat} {X : State → Heap → Prop} (l1 : Int32) (l2 : Int32) (s : t_S) (Q : (Int32 × Int32) ⊕ (Int32) → Prop) (Hb4 : ∀ (y0 : Int32) (y1 : Int32), Q (.inl (y0, y1)) → mj_G D cy ad bs X cX7_worst 3 yX7_worst.cls (some .int) yX7_worst.name 1 0 0 1065 (t_P (fun v s' => s' = s ∧ ∃ x, v = some (.int x) ∧ Q (.inr (x)))) 4 [(0, .ref 864), (1, .int (y0)), (2, .int (y1))] [] (t_m s) 1065 0 0) (hk : t_hk (k_X7_worst_4 l1 l2 s) Q) : mj_G D cy ad bs X cX7_worst 3 yX7_worst.cls (some .int) yX7_worst.name 1 0 0 1065 (t_P (fun v s' => s' = s ∧ ∃ x, v = some (.int x) ∧ Q (.inr (x)))) 4 [(0, .ref 864), (1, .int l1), (2, .int l2)] [] (t_m s) 1065 0 0 := by
  refine mj_iload_n dX7_worst_4 2 rfl ?_
  refine mj_aload_n dX7_worst_5 0 rfl ?_
  refine t_getI dX7_worst_6 F_X7_42 qf_864_6 ?_
  refine mj_icmp_ge 32 dX7_worst_9 (by decide) (fun z => t_posK hk z (fun hk => ?_)) (fun z => t_negK hk z (fun hk => ?_))
  · refine t_mapK hk (fun hk => ?_)
    refine mj_iload_n dX7_worst_32 1 rfl ?_
    exact t_somK hk (fun hf => t_iret dX7_worst_33 rfl rfl ⟨rfl, _, rfl, hf⟩ (Nat.le_of_ble_eq_true rfl) (Nat.le_of_ble_eq_true rfl))
  · refine mj_iload_n dX7_worst_12 1 rfl ?_
    refine mj_aload_n dX7_worst_13 0 rfl ?_
    refine t_getR 865 dX7_worst_14 F_X7_11 qr_864_5 ?_
    refine mj_iload_n dX7_worst_17 2 rfl ?_
    refine t_chkK hk (fun c0 hk => ?_)
    refine t_aaldP dX7_worst_18 qq_865 (t_ixv c0) ?_
    refine t_chkK hk (fun c1 hk => ?_)
    refine t_getI dX7_worst_19 F_X7_167 (t_pf3 c1) ?_
    refine mj_imax dX7_worst_22 MM_max_X7_170 (Nat.le_of_ble_eq_true rfl) (Nat.le_of_ble_eq_true rfl) (Nat.le_of_ble_eq_true rfl) (Nat.le_of_ble_eq_true rfl) ?_
    refine mj_istore_n 1 (lv2 := [(1, .int (if l1 < (s.1 (866 + 10 * (l2.toNatClampNeg)) 3) then (s.1 (866 + 10 * (l2.toNatClampNeg)) 3) else l1)), (0, .ref 864), (2, .int l2)]) dX7_worst_25 rfl (by decide) rfl ?_
    refine mj_iinc (k := 2) (v := (l2 + 1)) (lv2 := [(2, .int (l2 + 1)), (1, .int (if l1 < (s.1 (866 + 10 * (l2.toNatClampNeg)) 3) then (s.1 (866 + 10 * (l2.toNatClampNeg)) 3) else l1)), (0, .ref 864)]) dX7_worst_26 rfl rfl (by decide) rfl ?_
    refine mj_goto 4 dX7_worst_29 (by decide) ?_
    refine mj_sublv [(0, .ref 864), (1, .int (if l1 < (s.1 (866 + 10 * (l2.toNatClampNeg)) 3) then (s.1 (866 + 10 * (l2.toNatClampNeg)) 3) else l1)), (2, .int (l2 + 1))] [2, 1, 0] rfl ?_
    exact t_somK hk (fun hf => Hb4 (if l1 < (s.1 (866 + 10 * (l2.toNatClampNeg)) 3) then (s.1 (866 + 10 * (l2.toNatClampNeg)) 3) else l1) (l2 + 1) hf)
noncomputable def b_X7_worst_4 (s : t_S) (x : Int32 × Int32) : Option ((Int32 × Int32) ⊕ (Int32)) := k_X7_worst_4 x.1 x.2 s
set_option maxRecDepth 4000 in
set_option maxHeartbeats 1000000 in
theorem LH_X7_worst_4 {D : va_G} {cy : Nat → ClassId} {ad : Nat → Nat} {bs : Nat} {X : State → Heap → Prop} (s : t_S) : ∀ (n : Nat) (y0 : Int32) (y1 : Int32) (Q : Int32 → Prop) (hk : t_hk (t_loop (b_X7_worst_4 s) n (y0, y1)) Q), mj_G D cy ad bs X cX7_worst 3 yX7_worst.cls (some .int) yX7_worst.name 1 0 0 1065 (t_P (fun v s' => s' = s ∧ ∃ x, v = some (.int x) ∧ Q (x))) 4 [(0, .ref 864), (1, .int (y0)), (2, .int (y1))] [] (t_m s) 1065 0 0 := by
  intro n
  induction n with
  | zero => intro y0 y1 Q hk; obtain ⟨r, hr, _⟩ := hk; cases hr
  | succ n ih =>
    intro y0 y1 Q hk
    exact B_X7_worst_4 y0 y1 s (fun y => t_lq (b_X7_worst_4 s) n Q y) (fun y0' y1' hy => ih y0' y1' Q hy) (t_lp hk)
noncomputable def f_X7_worst (s : t_S) : Option (Int32) :=
 t_loop (b_X7_worst_4 s) t_N (0, 0)
set_option maxRecDepth 4000 in
set_option maxHeartbeats 1000000 in
theorem C_X7_worst (s : t_S) (r : Int32) (hr : f_X7_worst s = some r) : t_C yX7_worst cX7_worst 3 (some .int) 1 [.ref 864] s (fun v s' => v = some (.int r) ∧ s' = s) := by
  refine t_C.imp (P := fun v s' => s' = s ∧ ∃ x, v = some (.int x) ∧ (fun q => q = r) (x)) (t_C.of (by decide +kernel) (Nat.le_of_ble_eq_true rfl) ?_) (fun v s' hp => by obtain ⟨rfl, x, rfl, rfl⟩ := hp; exact ⟨rfl, rfl⟩)
  intro D cy ad bs X
  have hk : t_hk (f_X7_worst s) (fun q => q = r) := ⟨r, hr, rfl⟩
  show mj_G D cy ad bs X cX7_worst 3 yX7_worst.cls (some .int) yX7_worst.name 1 0 0 1065 (t_P (fun v s' => s' = s ∧ ∃ x, v = some (.int x) ∧ (fun q => q = r) (x))) 0 [(0, .ref 864)] [] (t_m s) 1065 0 0
  refine mj_iconst (v := 0) dX7_worst_0 (by decide) ?_
  refine mj_istore_n 1 (lv2 := [(1, .int 0), (0, .ref 864)]) dX7_worst_1 rfl (by decide) rfl ?_
  refine mj_iconst (v := 0) dX7_worst_2 (by decide) ?_
  refine mj_istore_n 2 (lv2 := [(2, .int 0), (1, .int 0), (0, .ref 864)]) dX7_worst_3 rfl (by decide) rfl ?_
  refine mj_sublv [(0, .ref 864), (1, .int 0), (2, .int 0)] [2, 1, 0] rfl ?_
  exact LH_X7_worst_4 _ _ 0 0 _ hk

theorem dX12_all_0 : decode cX12_all 0 = .ok (.aload_n 0, 1) := by decide +kernel
theorem dX12_all_1 : decode cX12_all 1 = .ok (.getfield 84, 3) := by decide +kernel
theorem dX12_all_10 : decode cX12_all 10 = .ok (.ldc2_w 211, 3) := by decide +kernel
theorem dX12_all_100 : decode cX12_all 100 = .ok (.invokevirtual 337, 3) := by decide +kernel
theorem dX12_all_103 : decode cX12_all 103 = .ok (.ifCond .eq 7, 3) := by decide +kernel
theorem dX12_all_106 : decode cX12_all 106 = .ok (.lconst 0, 1) := by decide +kernel
theorem dX12_all_107 : decode cX12_all 107 = .ok (.goto 4, 3) := by decide +kernel
theorem dX12_all_110 : decode cX12_all 110 = .ok (.lconst 1, 1) := by decide +kernel
theorem dX12_all_111 : decode cX12_all 111 = .ok (.lreturn, 1) := by decide +kernel
theorem dX12_all_112 : decode cX12_all 112 = .ok (.ldc2_w 211, 3) := by decide +kernel
theorem dX12_all_115 : decode cX12_all 115 = .ok (.lreturn, 1) := by decide +kernel
theorem dX12_all_13 : decode cX12_all 13 = .ok (.lreturn, 1) := by decide +kernel
theorem dX12_all_14 : decode cX12_all 14 = .ok (.iload_n 1, 1) := by decide +kernel
theorem dX12_all_15 : decode cX12_all 15 = .ok (.tableswitch 97 0 5 #[37, 46, 54, 63, 72, 81], 37) := by decide +kernel
theorem dX12_all_4 : decode cX12_all 4 = .ok (.getfield 277, 3) := by decide +kernel
theorem dX12_all_52 : decode cX12_all 52 = .ok (.aload_n 0, 1) := by decide +kernel
theorem dX12_all_53 : decode cX12_all 53 = .ok (.getfield 84, 3) := by decide +kernel
theorem dX12_all_56 : decode cX12_all 56 = .ok (.getfield 325, 3) := by decide +kernel
theorem dX12_all_59 : decode cX12_all 59 = .ok (.i2l, 1) := by decide +kernel
theorem dX12_all_60 : decode cX12_all 60 = .ok (.lreturn, 1) := by decide +kernel
theorem dX12_all_61 : decode cX12_all 61 = .ok (.aload_n 0, 1) := by decide +kernel
theorem dX12_all_62 : decode cX12_all 62 = .ok (.getfield 84, 3) := by decide +kernel
theorem dX12_all_65 : decode cX12_all 65 = .ok (.getfield 280, 3) := by decide +kernel
theorem dX12_all_68 : decode cX12_all 68 = .ok (.lreturn, 1) := by decide +kernel
theorem dX12_all_69 : decode cX12_all 69 = .ok (.aload_n 0, 1) := by decide +kernel
theorem dX12_all_7 : decode cX12_all 7 = .ok (.ifCond .ne 7, 3) := by decide +kernel
theorem dX12_all_70 : decode cX12_all 70 = .ok (.getfield 84, 3) := by decide +kernel
theorem dX12_all_73 : decode cX12_all 73 = .ok (.invokevirtual 328, 3) := by decide +kernel
theorem dX12_all_76 : decode cX12_all 76 = .ok (.i2l, 1) := by decide +kernel
theorem dX12_all_77 : decode cX12_all 77 = .ok (.lreturn, 1) := by decide +kernel
theorem dX12_all_78 : decode cX12_all 78 = .ok (.aload_n 0, 1) := by decide +kernel
theorem dX12_all_79 : decode cX12_all 79 = .ok (.getfield 19, 3) := by decide +kernel
theorem dX12_all_82 : decode cX12_all 82 = .ok (.getfield 331, 3) := by decide +kernel
theorem dX12_all_85 : decode cX12_all 85 = .ok (.i2l, 1) := by decide +kernel
theorem dX12_all_86 : decode cX12_all 86 = .ok (.lreturn, 1) := by decide +kernel
theorem dX12_all_87 : decode cX12_all 87 = .ok (.aload_n 0, 1) := by decide +kernel
theorem dX12_all_88 : decode cX12_all 88 = .ok (.getfield 19, 3) := by decide +kernel
theorem dX12_all_91 : decode cX12_all 91 = .ok (.getfield 334, 3) := by decide +kernel
theorem dX12_all_94 : decode cX12_all 94 = .ok (.i2l, 1) := by decide +kernel
theorem dX12_all_95 : decode cX12_all 95 = .ok (.lreturn, 1) := by decide +kernel
theorem dX12_all_96 : decode cX12_all 96 = .ok (.aload_n 0, 1) := by decide +kernel
theorem dX12_all_97 : decode cX12_all 97 = .ok (.getfield 84, 3) := by decide +kernel
noncomputable def f_X12_all (x1 : Int32) (s : t_S) : Option (Int64 × t_S) :=
 if (s.1 864 8) = (0 : Int32) then (some ((-1 : Int64), s))
 else (if x1.toInt < 0 ∨ 5 < x1.toInt then (some ((-1 : Int64), s))
 else if x1.toInt = 0 then (some (((s.1 864 6).toInt64), s))
 else if x1.toInt = 1 then (some ((s.2.1 864 7), s))
 else if x1.toInt = 2 then ((f_X7_worst s).bind (fun r1 =>
 some (r1.toInt64, s)))
 else if x1.toInt = 3 then (some (((s.1 12 4).toInt64), s))
 else if x1.toInt = 4 then (some (((s.1 12 5).toInt64), s))
 else ((f_X7_canGoOn s).bind (fun r2 =>
 if r2.1 = (0 : Int32) then (some ((1 : Int64), r2.2))
 else (some ((0 : Int64), r2.2)))))
set_option maxRecDepth 4000 in
set_option maxHeartbeats 1000000 in
theorem C_X12_all (x1 : Int32) (s : t_S) (r : Int64 × t_S) (hr : f_X12_all x1 s = some r) : t_C yX12_all cX12_all 2 (some .long) 509 [.ref 0, .int x1] s (fun v s' => v = some (.long r.1) ∧ s' = r.2) := by
  refine t_C.imp (P := fun v s' => ∃ x, v = some (.long x) ∧ (fun q => q = r) ((x, s'))) (t_C.of (by decide +kernel) (Nat.le_of_ble_eq_true rfl) ?_) (fun v s' hp => by obtain ⟨x, rfl, rfl⟩ := hp; exact ⟨rfl, rfl⟩)
  intro D cy ad bs X
  have hk : t_hk (f_X12_all x1 s) (fun q => q = r) := ⟨r, hr, rfl⟩
  show mj_G D cy ad bs X cX12_all 2 yX12_all.cls (some .long) yX12_all.name 509 0 0 1065 (t_P (fun v s' => ∃ x, v = some (.long x) ∧ (fun q => q = r) ((x, s')))) 0 [(0, .ref 0), (1, .int x1)] [] (t_m s) 1065 0 0
  refine mj_aload_n dX12_all_0 0 rfl ?_
  refine t_getR 864 dX12_all_1 F_X12_84 qr_0_8 ?_
  refine t_getI dX12_all_4 F_X12_277 qf_864_8 ?_
  refine mj_if_ne 14 dX12_all_7 (by decide) (fun z => t_negK hk z (fun hk => ?_)) (fun z => t_posK hk z (fun hk => ?_))
  · refine mj_iload_n dX12_all_14 1 rfl ?_
    by_cases hout : x1.toInt < 0 ∨ 5 < x1.toInt
    · replace hk := t_pos hk hout
      refine mj_tableOut 112 dX12_all_15 hout (by decide) ?_
      refine mj_ldc2 dX12_all_112 K_X12_211 ?_
      exact t_somK hk (fun hf => t_lret dX12_all_115 rfl ⟨_, rfl, hf⟩ (Nat.le_of_ble_eq_true rfl) (Nat.le_of_ble_eq_true rfl))
    · replace hk := t_neg hk hout
      have hh1 : ¬ x1.toInt < 0 := fun z => hout (Or.inl z)
      have hh2 : ¬ (5 : Int) < x1.toInt := fun z => hout (Or.inr z)
      by_cases h0 : x1.toInt = 0
      · replace hk := t_pos hk h0
        refine mj_tableIn 52 dX12_all_15 hh1 hh2 (by rw [h0]; rfl) (by decide) ?_
        refine mj_aload_n dX12_all_52 0 rfl ?_
        refine t_getR 864 dX12_all_53 F_X12_84 qr_0_8 ?_
        refine t_getI dX12_all_56 F_X12_325 qf_864_6 ?_
        refine mj_i2l (v := (s.1 864 6).toInt64) dX12_all_59 rfl ?_
        exact t_somK hk (fun hf => t_lret dX12_all_60 rfl ⟨_, rfl, hf⟩ (Nat.le_of_ble_eq_true rfl) (Nat.le_of_ble_eq_true rfl))
      replace hk := t_neg hk h0
      by_cases h1 : x1.toInt = 1
      · replace hk := t_pos hk h1
        refine mj_tableIn 61 dX12_all_15 hh1 hh2 (by rw [h1]; rfl) (by decide) ?_
        refine mj_aload_n dX12_all_61 0 rfl ?_
        refine t_getR 864 dX12_all_62 F_X12_84 qr_0_8 ?_
        refine t_getJ dX12_all_65 F_X12_280 qf_864_7 ?_
        exact t_somK hk (fun hf => t_lret dX12_all_68 rfl ⟨_, rfl, hf⟩ (Nat.le_of_ble_eq_true rfl) (Nat.le_of_ble_eq_true rfl))
      replace hk := t_neg hk h1
      by_cases h2 : x1.toInt = 2
      · replace hk := t_pos hk h2
        refine mj_tableIn 69 dX12_all_15 hh1 hh2 (by rw [h2]; rfl) (by decide) ?_
        refine mj_aload_n dX12_all_69 0 rfl ?_
        refine t_getR 864 dX12_all_70 F_X12_84 qr_0_8 ?_
        refine t_bndK hk (fun r1 er1 hk => ?_)
        refine t_callViP dX12_all_73 M_X7_worst (C_X7_worst _ _ er1) ML_X12_328 IM_X7_worst SE_X7_worst qc_864 rfl (As := []) rfl rfl (Nat.le_of_ble_eq_true rfl) (Nat.le_of_ble_eq_true rfl) (Nat.le_of_ble_eq_true rfl) (Nat.le_of_ble_eq_true rfl) ?_
        refine mj_i2l (v := r1.toInt64) dX12_all_76 rfl ?_
        exact t_somK hk (fun hf => t_lret dX12_all_77 rfl ⟨_, rfl, hf⟩ (Nat.le_of_ble_eq_true rfl) (Nat.le_of_ble_eq_true rfl))
      replace hk := t_neg hk h2
      by_cases h3 : x1.toInt = 3
      · replace hk := t_pos hk h3
        refine mj_tableIn 78 dX12_all_15 hh1 hh2 (by rw [h3]; rfl) (by decide) ?_
        refine mj_aload_n dX12_all_78 0 rfl ?_
        refine t_getR 12 dX12_all_79 F_X12_19 qr_0_1 ?_
        refine t_getI dX12_all_82 F_X12_331 qf_12_4 ?_
        refine mj_i2l (v := (s.1 12 4).toInt64) dX12_all_85 rfl ?_
        exact t_somK hk (fun hf => t_lret dX12_all_86 rfl ⟨_, rfl, hf⟩ (Nat.le_of_ble_eq_true rfl) (Nat.le_of_ble_eq_true rfl))
      replace hk := t_neg hk h3
      by_cases h4 : x1.toInt = 4
      · replace hk := t_pos hk h4
        refine mj_tableIn 87 dX12_all_15 hh1 hh2 (by rw [h4]; rfl) (by decide) ?_
        refine mj_aload_n dX12_all_87 0 rfl ?_
        refine t_getR 12 dX12_all_88 F_X12_19 qr_0_1 ?_
        refine t_getI dX12_all_91 F_X12_334 qf_12_5 ?_
        refine mj_i2l (v := (s.1 12 5).toInt64) dX12_all_94 rfl ?_
        exact t_somK hk (fun hf => t_lret dX12_all_95 rfl ⟨_, rfl, hf⟩ (Nat.le_of_ble_eq_true rfl) (Nat.le_of_ble_eq_true rfl))
      replace hk := t_neg hk h4
      have h5 : x1.toInt = 5 := by omega
      refine mj_tableIn 96 dX12_all_15 hh1 hh2 (by rw [h5]; rfl) (by decide) ?_
      refine mj_aload_n dX12_all_96 0 rfl ?_
      refine t_getR 864 dX12_all_97 F_X12_84 qr_0_8 ?_
      refine t_bndK hk (fun r2 er2 hk => ?_)
      refine t_callViE dX12_all_100 M_X7_canGoOn (C_X7_canGoOn _ _ er2) ML_X12_337 IM_X7_canGoOn SE_X7_canGoOn qc_864 rfl (As := []) rfl rfl (Nat.le_of_ble_eq_true rfl) (Nat.le_of_ble_eq_true rfl) (Nat.le_of_ble_eq_true rfl) (Nat.le_of_ble_eq_true rfl) ?_
      refine mj_if_eq 110 dX12_all_103 (by decide) (fun z => t_posK hk z (fun hk => ?_)) (fun z => t_negK hk z (fun hk => ?_))
      · refine mj_lconst (v := 1) dX12_all_110 (by decide) ?_
        exact t_somK hk (fun hf => t_lret dX12_all_111 rfl ⟨_, rfl, hf⟩ (Nat.le_of_ble_eq_true rfl) (Nat.le_of_ble_eq_true rfl))
      · refine mj_lconst (v := 0) dX12_all_106 (by decide) ?_
        refine mj_goto 111 dX12_all_107 (by decide) ?_
        exact t_somK hk (fun hf => t_lret dX12_all_111 rfl ⟨_, rfl, hf⟩ (Nat.le_of_ble_eq_true rfl) (Nat.le_of_ble_eq_true rfl))
  · refine mj_ldc2 dX12_all_10 K_X12_211 ?_
    exact t_somK hk (fun hf => t_lret dX12_all_13 rfl ⟨_, rfl, hf⟩ (Nat.le_of_ble_eq_true rfl) (Nat.le_of_ble_eq_true rfl))

theorem dX4_renew_0 : decode cX4_renew 0 = .ok (.aload_n 0, 1) := by decide +kernel
theorem dX4_renew_1 : decode cX4_renew 1 = .ok (.iload_n 1, 1) := by decide +kernel
theorem dX4_renew_10 : decode cX4_renew 10 = .ok (.aload_n 0, 1) := by decide +kernel
theorem dX4_renew_11 : decode cX4_renew 11 = .ok (.iconst 0, 1) := by decide +kernel
theorem dX4_renew_12 : decode cX4_renew 12 = .ok (.putfield 50, 3) := by decide +kernel
theorem dX4_renew_15 : decode cX4_renew 15 = .ok (.aload_n 0, 1) := by decide +kernel
theorem dX4_renew_16 : decode cX4_renew 16 = .ok (.iconst 0, 1) := by decide +kernel
theorem dX4_renew_17 : decode cX4_renew 17 = .ok (.putfield 53, 3) := by decide +kernel
theorem dX4_renew_2 : decode cX4_renew 2 = .ok (.putfield 44, 3) := by decide +kernel
theorem dX4_renew_20 : decode cX4_renew 20 = .ok (.aload_n 0, 1) := by decide +kernel
theorem dX4_renew_21 : decode cX4_renew 21 = .ok (.iconst 0, 1) := by decide +kernel
theorem dX4_renew_22 : decode cX4_renew 22 = .ok (.putfield 56, 3) := by decide +kernel
theorem dX4_renew_25 : decode cX4_renew 25 = .ok (.aload_n 0, 1) := by decide +kernel
theorem dX4_renew_26 : decode cX4_renew 26 = .ok (.iconst 0, 1) := by decide +kernel
theorem dX4_renew_27 : decode cX4_renew 27 = .ok (.putfield 59, 3) := by decide +kernel
theorem dX4_renew_30 : decode cX4_renew 30 = .ok (.aload_n 0, 1) := by decide +kernel
theorem dX4_renew_31 : decode cX4_renew 31 = .ok (.iconst 0, 1) := by decide +kernel
theorem dX4_renew_32 : decode cX4_renew 32 = .ok (.putfield 62, 3) := by decide +kernel
theorem dX4_renew_35 : decode cX4_renew 35 = .ok (.aload_n 0, 1) := by decide +kernel
theorem dX4_renew_36 : decode cX4_renew 36 = .ok (.getfield 24, 3) := by decide +kernel
theorem dX4_renew_39 : decode cX4_renew 39 = .ok (.iconst (-1), 1) := by decide +kernel
theorem dX4_renew_40 : decode cX4_renew 40 = .ok (.invokestatic 65, 3) := by decide +kernel
theorem dX4_renew_43 : decode cX4_renew 43 = .ok (.aload_n 0, 1) := by decide +kernel
theorem dX4_renew_44 : decode cX4_renew 44 = .ok (.getfield 27, 3) := by decide +kernel
theorem dX4_renew_47 : decode cX4_renew 47 = .ok (.iconst 0, 1) := by decide +kernel
theorem dX4_renew_48 : decode cX4_renew 48 = .ok (.invokestatic 65, 3) := by decide +kernel
theorem dX4_renew_5 : decode cX4_renew 5 = .ok (.aload_n 0, 1) := by decide +kernel
theorem dX4_renew_51 : decode cX4_renew 51 = .ok (.aload_n 0, 1) := by decide +kernel
theorem dX4_renew_52 : decode cX4_renew 52 = .ok (.getfield 30, 3) := by decide +kernel
theorem dX4_renew_55 : decode cX4_renew 55 = .ok (.iconst 0, 1) := by decide +kernel
theorem dX4_renew_56 : decode cX4_renew 56 = .ok (.invokestatic 65, 3) := by decide +kernel
theorem dX4_renew_59 : decode cX4_renew 59 = .ok (.aload_n 0, 1) := by decide +kernel
theorem dX4_renew_6 : decode cX4_renew 6 = .ok (.iconst 0, 1) := by decide +kernel
theorem dX4_renew_60 : decode cX4_renew 60 = .ok (.getfield 36, 3) := by decide +kernel
theorem dX4_renew_63 : decode cX4_renew 63 = .ok (.ldc2_w 71, 3) := by decide +kernel
theorem dX4_renew_66 : decode cX4_renew 66 = .ok (.invokestatic 73, 3) := by decide +kernel
theorem dX4_renew_69 : decode cX4_renew 69 = .ok (.return_, 1) := by decide +kernel
theorem dX4_renew_7 : decode cX4_renew 7 = .ok (.putfield 47, 3) := by decide +kernel
noncomputable def f_X4_renew (p : Nat) (x1 : Int32) (s : t_S) : Option (t_S) :=
 if t_isP p = true then
  t_let (t_setI s p 1 x1) (fun s1 =>
 t_let (t_setI s1 p 2 (0 : Int32)) (fun s2 =>
 t_let (t_setI s2 p 3 (0 : Int32)) (fun s3 =>
 t_let (t_setI s3 p 4 (0 : Int32)) (fun s4 =>
 t_let (t_setI s4 p 5 (0 : Int32)) (fun s5 =>
 t_let (t_setI s5 p 6 (0 : Int32)) (fun s6 =>
 t_let (t_setI s6 p 10 (0 : Int32)) (fun s7 =>
 (f_J7_fill_53178 (p + 5) (-1 : Int32) s7).bind (fun r2 =>
 (f_J7_fill_53178 (p + 6) (0 : Int32) r2).bind (fun r3 =>
 (f_J7_fill_53178 (p + 7) (0 : Int32) r3).bind (fun r4 =>
 (f_J7_fill_d0a16 (p + 9) (-1 : Int64) r4).bind (fun r5 =>
 some (r5))))))))))))
else none
set_option maxRecDepth 4000 in
set_option maxHeartbeats 1000000 in
theorem C_X4_renew (p : Nat) (x1 : Int32) (s : t_S) (r : t_S) (hr : f_X4_renew p x1 s = some r) : t_C yX4_renew cX4_renew 2 none 1 [.ref p, .int x1] s (fun v s' => v = none ∧ s' = r) := by
  refine t_C.imp (P := fun v s' => v = none ∧ (fun q => q = r) (s')) (t_C.of (by decide +kernel) (Nat.le_of_ble_eq_true rfl) ?_) (fun v s' hp => hp)
  intro D cy ad bs X
  have hk : t_hk (f_X4_renew p x1 s) (fun q => q = r) := ⟨r, hr, rfl⟩
  show mj_G D cy ad bs X cX4_renew 2 yX4_renew.cls none yX4_renew.name 1 0 0 1065 (t_P (fun v s' => v = none ∧ (fun q => q = r) (s'))) 0 [(0, .ref p), (1, .int x1)] [] (t_m s) 1065 0 0
  refine mj_aload_n dX4_renew_0 0 rfl ?_
  refine mj_iload_n dX4_renew_1 1 rfl ?_
  refine t_chkK hk (fun c0 hk => ?_)
  refine t_putIK dX4_renew_2 F_X4_44 (t_pf1 c0) rfl (fun s1 ws1 => t_letE hk ws1 (fun hk => ?_))
  refine mj_aload_n dX4_renew_5 0 rfl ?_
  refine mj_iconst (v := 0) dX4_renew_6 (by decide) ?_
  refine t_putIK dX4_renew_7 F_X4_47 (t_pf2 c0) rfl (fun s2 ws2 => t_letE hk ws2 (fun hk => ?_))
  refine mj_aload_n dX4_renew_10 0 rfl ?_
  refine mj_iconst (v := 0) dX4_renew_11 (by decide) ?_
  refine t_putIK dX4_renew_12 F_X4_50 (t_pf3 c0) rfl (fun s3 ws3 => t_letE hk ws3 (fun hk => ?_))
  refine mj_aload_n dX4_renew_15 0 rfl ?_
  refine mj_iconst (v := 0) dX4_renew_16 (by decide) ?_
  refine t_putIK dX4_renew_17 F_X4_53 (t_pf4 c0) rfl (fun s4 ws4 => t_letE hk ws4 (fun hk => ?_))
  refine mj_aload_n dX4_renew_20 0 rfl ?_
  refine mj_iconst (v := 0) dX4_renew_21 (by decide) ?_
  refine t_putIK dX4_renew_22 F_X4_56 (t_pf5 c0) rfl (fun s5 ws5 => t_letE hk ws5 (fun hk => ?_))
  refine mj_aload_n dX4_renew_25 0 rfl ?_
  refine mj_iconst (v := 0) dX4_renew_26 (by decide) ?_
  refine t_putIK dX4_renew_27 F_X4_59 (t_pf6 c0) rfl (fun s6 ws6 => t_letE hk ws6 (fun hk => ?_))
  refine mj_aload_n dX4_renew_30 0 rfl ?_
  refine mj_iconst (v := 0) dX4_renew_31 (by decide) ?_
  refine t_putIK dX4_renew_32 F_X4_62 (t_pf10 c0) rfl (fun s7 ws7 => t_letE hk ws7 (fun hk => ?_))
  refine mj_aload_n dX4_renew_35 0 rfl ?_
  refine t_getR (p + 5) dX4_renew_36 F_X4_24 (t_pr12 c0) ?_
  refine mj_iconst (v := (-1)) dX4_renew_39 (by decide) ?_
  refine t_bndK hk (fun r2 er2 hk => ?_)
  refine t_callSvE dX4_renew_40 M_J7_fill_53178 (C_J7_fill_53178 _ _ _ _ er2) ML_X4_65 SM_J7_fill_53178 (As := [.ref (p + 5), .int (-1)]) rfl rfl (Nat.le_of_ble_eq_true rfl) (Nat.le_of_ble_eq_true rfl) (Nat.le_of_ble_eq_true rfl) (Nat.le_of_ble_eq_true rfl) ?_
  refine mj_aload_n dX4_renew_43 0 rfl ?_
  refine t_getR (p + 6) dX4_renew_44 F_X4_27 (t_pr13 c0) ?_
  refine mj_iconst (v := 0) dX4_renew_47 (by decide) ?_
  refine t_bndK hk (fun r3 er3 hk => ?_)
  refine t_callSvE dX4_renew_48 M_J7_fill_53178 (C_J7_fill_53178 _ _ _ _ er3) ML_X4_65 SM_J7_fill_53178 (As := [.ref (p + 6), .int 0]) rfl rfl (Nat.le_of_ble_eq_true rfl) (Nat.le_of_ble_eq_true rfl) (Nat.le_of_ble_eq_true rfl) (Nat.le_of_ble_eq_true rfl) ?_
  refine mj_aload_n dX4_renew_51 0 rfl ?_
  refine t_getR (p + 7) dX4_renew_52 F_X4_30 (t_pr14 c0) ?_
  refine mj_iconst (v := 0) dX4_renew_55 (by decide) ?_
  refine t_bndK hk (fun r4 er4 hk => ?_)
  refine t_callSvE dX4_renew_56 M_J7_fill_53178 (C_J7_fill_53178 _ _ _ _ er4) ML_X4_65 SM_J7_fill_53178 (As := [.ref (p + 7), .int 0]) rfl rfl (Nat.le_of_ble_eq_true rfl) (Nat.le_of_ble_eq_true rfl) (Nat.le_of_ble_eq_true rfl) (Nat.le_of_ble_eq_true rfl) ?_
  refine mj_aload_n dX4_renew_59 0 rfl ?_
  refine t_getR (p + 9) dX4_renew_60 F_X4_36 (t_pr16 c0) ?_
  refine mj_ldc2 dX4_renew_63 K_X4_71 ?_
  refine t_bndK hk (fun r5 er5 hk => ?_)
  refine t_callSvE dX4_renew_66 M_J7_fill_d0a16 (C_J7_fill_d0a16 _ _ _ _ er5) ML_X4_73 SM_J7_fill_d0a16 (As := [.ref (p + 9), .long (-1)]) rfl rfl (Nat.le_of_ble_eq_true rfl) (Nat.le_of_ble_eq_true rfl) (Nat.le_of_ble_eq_true rfl) (Nat.le_of_ble_eq_true rfl) ?_
  exact t_somK hk (fun hf => t_vret dX4_renew_69 rfl ⟨rfl, hf⟩ (Nat.le_of_ble_eq_true rfl) (Nat.le_of_ble_eq_true rfl))

theorem dX8_clearLog_0 : decode cX8_clearLog 0 = .ok (.aload_n 0, 1) := by decide +kernel
theorem dX8_clearLog_1 : decode cX8_clearLog 1 = .ok (.iconst 0, 1) := by decide +kernel
theorem dX8_clearLog_10 : decode cX8_clearLog 10 = .ok (.return_, 1) := by decide +kernel
theorem dX8_clearLog_2 : decode cX8_clearLog 2 = .ok (.putfield 74, 3) := by decide +kernel
theorem dX8_clearLog_5 : decode cX8_clearLog 5 = .ok (.aload_n 0, 1) := by decide +kernel
theorem dX8_clearLog_6 : decode cX8_clearLog 6 = .ok (.iconst 0, 1) := by decide +kernel
theorem dX8_clearLog_7 : decode cX8_clearLog 7 = .ok (.putfield 77, 3) := by decide +kernel
noncomputable def f_X8_clearLog (s : t_S) : Option (t_S) :=
 t_let (t_setI s 12 4 (0 : Int32)) (fun s1 =>
 t_let (t_setI s1 12 5 (0 : Int32)) (fun s2 =>
 some (s2)))
set_option maxRecDepth 4000 in
set_option maxHeartbeats 1000000 in
theorem C_X8_clearLog (s : t_S) (r : t_S) (hr : f_X8_clearLog s = some r) : t_C yX8_clearLog cX8_clearLog 1 none 0 [.ref 12] s (fun v s' => v = none ∧ s' = r) := by
  refine t_C.imp (P := fun v s' => v = none ∧ (fun q => q = r) (s')) (t_C.of (by decide +kernel) (Nat.le_of_ble_eq_true rfl) ?_) (fun v s' hp => hp)
  intro D cy ad bs X
  have hk : t_hk (f_X8_clearLog s) (fun q => q = r) := ⟨r, hr, rfl⟩
  show mj_G D cy ad bs X cX8_clearLog 1 yX8_clearLog.cls none yX8_clearLog.name 0 0 0 1065 (t_P (fun v s' => v = none ∧ (fun q => q = r) (s'))) 0 [(0, .ref 12)] [] (t_m s) 1065 0 0
  refine mj_aload_n dX8_clearLog_0 0 rfl ?_
  refine mj_iconst (v := 0) dX8_clearLog_1 (by decide) ?_
  refine t_putIK dX8_clearLog_2 F_X8_74 qf_12_4 rfl (fun s1 ws1 => t_letE hk ws1 (fun hk => ?_))
  refine mj_aload_n dX8_clearLog_5 0 rfl ?_
  refine mj_iconst (v := 0) dX8_clearLog_6 (by decide) ?_
  refine t_putIK dX8_clearLog_7 F_X8_77 qf_12_5 rfl (fun s2 ws2 => t_letE hk ws2 (fun hk => ?_))
  exact t_somK hk (fun hf => t_vret dX8_clearLog_10 rfl ⟨rfl, hf⟩ (Nat.le_of_ble_eq_true rfl) (Nat.le_of_ble_eq_true rfl))

theorem dX7_close_0 : decode cX7_close 0 = .ok (.aload_n 0, 1) := by decide +kernel
theorem dX7_close_1 : decode cX7_close 1 = .ok (.iconst 0, 1) := by decide +kernel
theorem dX7_close_10 : decode cX7_close 10 = .ok (.aload_n 0, 1) := by decide +kernel
theorem dX7_close_11 : decode cX7_close 11 = .ok (.lconst 0, 1) := by decide +kernel
theorem dX7_close_12 : decode cX7_close 12 = .ok (.putfield 46, 3) := by decide +kernel
theorem dX7_close_15 : decode cX7_close 15 = .ok (.aload_n 0, 1) := by decide +kernel
theorem dX7_close_16 : decode cX7_close 16 = .ok (.getfield 15, 3) := by decide +kernel
theorem dX7_close_19 : decode cX7_close 19 = .ok (.invokevirtual 50, 3) := by decide +kernel
theorem dX7_close_2 : decode cX7_close 2 = .ok (.putfield 38, 3) := by decide +kernel
theorem dX7_close_22 : decode cX7_close 22 = .ok (.return_, 1) := by decide +kernel
theorem dX7_close_5 : decode cX7_close 5 = .ok (.aload_n 0, 1) := by decide +kernel
theorem dX7_close_6 : decode cX7_close 6 = .ok (.iconst 0, 1) := by decide +kernel
theorem dX7_close_7 : decode cX7_close 7 = .ok (.putfield 42, 3) := by decide +kernel
noncomputable def f_X7_close (s : t_S) : Option (t_S) :=
 t_let (t_setI s 864 8 (0 : Int32)) (fun s1 =>
 t_let (t_setI s1 864 6 (0 : Int32)) (fun s2 =>
 t_let (t_setJ s2 864 7 (0 : Int64)) (fun s3 =>
 (f_X8_clearLog s3).bind (fun r1 =>
 some (r1)))))
set_option maxRecDepth 4000 in
set_option maxHeartbeats 1000000 in
theorem C_X7_close (s : t_S) (r : t_S) (hr : f_X7_close s = some r) : t_C yX7_close cX7_close 1 none 1 [.ref 864] s (fun v s' => v = none ∧ s' = r) := by
  refine t_C.imp (P := fun v s' => v = none ∧ (fun q => q = r) (s')) (t_C.of (by decide +kernel) (Nat.le_of_ble_eq_true rfl) ?_) (fun v s' hp => hp)
  intro D cy ad bs X
  have hk : t_hk (f_X7_close s) (fun q => q = r) := ⟨r, hr, rfl⟩
  show mj_G D cy ad bs X cX7_close 1 yX7_close.cls none yX7_close.name 1 0 0 1065 (t_P (fun v s' => v = none ∧ (fun q => q = r) (s'))) 0 [(0, .ref 864)] [] (t_m s) 1065 0 0
  refine mj_aload_n dX7_close_0 0 rfl ?_
  refine mj_iconst (v := 0) dX7_close_1 (by decide) ?_
  refine t_putIK dX7_close_2 F_X7_38 qf_864_8 (by decide) (fun s1 ws1 => t_letE hk ws1 (fun hk => ?_))
  refine mj_aload_n dX7_close_5 0 rfl ?_
  refine mj_iconst (v := 0) dX7_close_6 (by decide) ?_
  refine t_putIK dX7_close_7 F_X7_42 qf_864_6 rfl (fun s2 ws2 => t_letE hk ws2 (fun hk => ?_))
  refine mj_aload_n dX7_close_10 0 rfl ?_
  refine mj_lconst (v := 0) dX7_close_11 (by decide) ?_
  refine t_putJK dX7_close_12 F_X7_46 qf_864_7 rfl (fun s3 ws3 => t_letE hk ws3 (fun hk => ?_))
  refine mj_aload_n dX7_close_15 0 rfl ?_
  refine t_getR 12 dX7_close_16 F_X7_15 qr_864_0 ?_
  refine t_bndK hk (fun r1 er1 hk => ?_)
  refine t_callVvE dX7_close_19 M_X8_clearLog (C_X8_clearLog _ _ er1) ML_X7_50 IM_X8_clearLog SE_X8_clearLog qc_12 rfl (As := []) rfl rfl (Nat.le_of_ble_eq_true rfl) (Nat.le_of_ble_eq_true rfl) (Nat.le_of_ble_eq_true rfl) (Nat.le_of_ble_eq_true rfl) ?_
  exact t_somK hk (fun hf => t_vret dX7_close_22 rfl ⟨rfl, hf⟩ (Nat.le_of_ble_eq_true rfl) (Nat.le_of_ble_eq_true rfl))

theorem dX8_note_0 : decode cX8_note 0 = .ok (.aload_n 0, 1) := by decide +kernel
theorem dX8_note_1 : decode cX8_note 1 = .ok (.getfield 74, 3) := by decide +kernel
theorem dX8_note_10 : decode cX8_note 10 = .ok (.aload_n 0, 1) := by decide +kernel
theorem dX8_note_11 : decode cX8_note 11 = .ok (.getfield 22, 3) := by decide +kernel
theorem dX8_note_14 : decode cX8_note 14 = .ok (.aload_n 0, 1) := by decide +kernel
theorem dX8_note_15 : decode cX8_note 15 = .ok (.getfield 74, 3) := by decide +kernel
theorem dX8_note_18 : decode cX8_note 18 = .ok (.aaload, 1) := by decide +kernel
theorem dX8_note_19 : decode cX8_note 19 = .ok (.iconst 0, 1) := by decide +kernel
theorem dX8_note_20 : decode cX8_note 20 = .ok (.iload_n 1, 1) := by decide +kernel
theorem dX8_note_21 : decode cX8_note 21 = .ok (.iastore, 1) := by decide +kernel
theorem dX8_note_22 : decode cX8_note 22 = .ok (.aload_n 0, 1) := by decide +kernel
theorem dX8_note_23 : decode cX8_note 23 = .ok (.getfield 22, 3) := by decide +kernel
theorem dX8_note_26 : decode cX8_note 26 = .ok (.aload_n 0, 1) := by decide +kernel
theorem dX8_note_27 : decode cX8_note 27 = .ok (.getfield 74, 3) := by decide +kernel
theorem dX8_note_30 : decode cX8_note 30 = .ok (.aaload, 1) := by decide +kernel
theorem dX8_note_31 : decode cX8_note 31 = .ok (.iconst 1, 1) := by decide +kernel
theorem dX8_note_32 : decode cX8_note 32 = .ok (.iload_n 2, 1) := by decide +kernel
theorem dX8_note_33 : decode cX8_note 33 = .ok (.iastore, 1) := by decide +kernel
theorem dX8_note_34 : decode cX8_note 34 = .ok (.aload_n 0, 1) := by decide +kernel
theorem dX8_note_35 : decode cX8_note 35 = .ok (.getfield 22, 3) := by decide +kernel
theorem dX8_note_38 : decode cX8_note 38 = .ok (.aload_n 0, 1) := by decide +kernel
theorem dX8_note_39 : decode cX8_note 39 = .ok (.getfield 74, 3) := by decide +kernel
theorem dX8_note_4 : decode cX8_note 4 = .ok (.sipush 300, 3) := by decide +kernel
theorem dX8_note_42 : decode cX8_note 42 = .ok (.aaload, 1) := by decide +kernel
theorem dX8_note_43 : decode cX8_note 43 = .ok (.iconst 2, 1) := by decide +kernel
theorem dX8_note_44 : decode cX8_note 44 = .ok (.iload_n 3, 1) := by decide +kernel
theorem dX8_note_45 : decode cX8_note 45 = .ok (.iastore, 1) := by decide +kernel
theorem dX8_note_46 : decode cX8_note 46 = .ok (.aload_n 0, 1) := by decide +kernel
theorem dX8_note_47 : decode cX8_note 47 = .ok (.getfield 16, 3) := by decide +kernel
theorem dX8_note_50 : decode cX8_note 50 = .ok (.sipush 1248, 3) := by decide +kernel
theorem dX8_note_53 : decode cX8_note 53 = .ok (.aload_n 0, 1) := by decide +kernel
theorem dX8_note_54 : decode cX8_note 54 = .ok (.getfield 74, 3) := by decide +kernel
theorem dX8_note_57 : decode cX8_note 57 = .ok (.iadd, 1) := by decide +kernel
theorem dX8_note_58 : decode cX8_note 58 = .ok (.iconst 0, 1) := by decide +kernel
theorem dX8_note_59 : decode cX8_note 59 = .ok (.iastore, 1) := by decide +kernel
theorem dX8_note_60 : decode cX8_note 60 = .ok (.aload_n 0, 1) := by decide +kernel
theorem dX8_note_61 : decode cX8_note 61 = .ok (.dup, 1) := by decide +kernel
theorem dX8_note_62 : decode cX8_note 62 = .ok (.getfield 74, 3) := by decide +kernel
theorem dX8_note_65 : decode cX8_note 65 = .ok (.iconst 1, 1) := by decide +kernel
theorem dX8_note_66 : decode cX8_note 66 = .ok (.iadd, 1) := by decide +kernel
theorem dX8_note_67 : decode cX8_note 67 = .ok (.putfield 74, 3) := by decide +kernel
theorem dX8_note_7 : decode cX8_note 7 = .ok (.if_icmp .ge 53, 3) := by decide +kernel
theorem dX8_note_70 : decode cX8_note 70 = .ok (.return_, 1) := by decide +kernel
noncomputable def k_X8_note_60 (s : t_S) : Option (t_S) :=
 t_let (t_setI s 12 4 ((s.1 12 4) + (1 : Int32))) (fun s1 =>
 some (s1))
set_option maxRecDepth 4000 in
set_option maxHeartbeats 1000000 in
theorem B_X8_note_60 {D : va_G} {cy : Nat → ClassId} {ad : Nat → Nat} {bs : Nat} {X : State → Heap → Prop} (s : t_S) (Q : t_S → Prop) (hk : t_hk (k_X8_note_60 s) Q) : mj_G D cy ad bs X cX8_note 4 yX8_note.cls none yX8_note.name 0 0 0 1065 (t_P (fun v s' => v = none ∧ Q (s'))) 60 [(0, .ref 12)] [] (t_m s) 1065 0 0 := by
  refine mj_aload_n dX8_note_60 0 rfl ?_
  refine mj_dup dX8_note_61 rfl ?_
  refine t_getI dX8_note_62 F_X8_74 qf_12_4 ?_
  refine mj_iconst (v := 1) dX8_note_65 (by decide) ?_
  refine mj_iadd dX8_note_66 ?_
  refine t_putIK dX8_note_67 F_X8_74 qf_12_4 rfl (fun s1 ws1 => t_letE hk ws1 (fun hk => ?_))
  exact t_somK hk (fun hf => t_vret dX8_note_70 rfl ⟨rfl, hf⟩ (Nat.le_of_ble_eq_true rfl) (Nat.le_of_ble_eq_true rfl))
noncomputable def f_X8_note (x1 : Int32) (x2 : Int32) (x3 : Int32) (s : t_S) : Option (t_S) :=
 if (300 : Int32) ≤ (s.1 12 4) then (k_X8_note_60 s)
 else (if t_ix (s.1 12 4) 300 = true then
  t_let (t_setI s (16 + 1 * ((s.1 12 4).toNatClampNeg)) ((0 : Int32).toNatClampNeg) x1) (fun s1 =>
 if t_ix (s1.1 12 4) 300 = true then
  t_let (t_setI s1 (16 + 1 * ((s1.1 12 4).toNatClampNeg)) ((1 : Int32).toNatClampNeg) x2) (fun s2 =>
 if t_ix (s2.1 12 4) 300 = true then
  t_let (t_setI s2 (16 + 1 * ((s2.1 12 4).toNatClampNeg)) ((2 : Int32).toNatClampNeg) x3) (fun s3 =>
 if t_ix ((1248 : Int32) + (s3.1 12 4)) 1589 = true then
  t_let (t_setI s3 14 (((1248 : Int32) + (s3.1 12 4)).toNatClampNeg) (0 : Int32)) (fun s4 =>
 k_X8_note_60 s4)
else none)
else none)
else none)
else none)
set_option maxRecDepth 4000 in
set_option maxHeartbeats 1000000 in
theorem C_X8_note (x1 : Int32) (x2 : Int32) (x3 : Int32) (s : t_S) (r : t_S) (hr : f_X8_note x1 x2 x3 s = some r) : t_C yX8_note cX8_note 4 none 0 [.ref 12, .int x1, .int x2, .int x3] s (fun v s' => v = none ∧ s' = r) := by
  refine t_C.imp (P := fun v s' => v = none ∧ (fun q => q = r) (s')) (t_C.of (by decide +kernel) (Nat.le_of_ble_eq_true rfl) ?_) (fun v s' hp => hp)
  intro D cy ad bs X
  have hk : t_hk (f_X8_note x1 x2 x3 s) (fun q => q = r) := ⟨r, hr, rfl⟩
  show mj_G D cy ad bs X cX8_note 4 yX8_note.cls none yX8_note.name 0 0 0 1065 (t_P (fun v s' => v = none ∧ (fun q => q = r) (s'))) 0 [(0, .ref 12), (1, .int x1), (2, .int x2), (3, .int x3)] [] (t_m s) 1065 0 0
  refine mj_aload_n dX8_note_0 0 rfl ?_
  refine t_getI dX8_note_1 F_X8_74 qf_12_4 ?_
  refine mj_sipush (v := 300) dX8_note_4 (by decide) ?_
  refine mj_icmp_ge 60 dX8_note_7 (by decide) (fun z => t_posK hk z (fun hk => ?_)) (fun z => t_negK hk z (fun hk => ?_))
  · refine mj_sublv [(0, .ref 12)] [0] rfl ?_
    exact B_X8_note_60 _ _ hk
  · refine mj_aload_n dX8_note_10 0 rfl ?_
    refine t_getR 15 dX8_note_11 F_X8_22 qr_12_3 ?_
    refine mj_aload_n dX8_note_14 0 rfl ?_
    refine t_getI dX8_note_15 F_X8_74 qf_12_4 ?_
    refine t_chkK hk (fun c0 hk => ?_)
    refine t_aaldI dX8_note_18 qq_15 (t_ixv c0) ?_
    refine mj_iconst (v := 0) dX8_note_19 (by decide) ?_
    refine mj_iload_n dX8_note_20 1 rfl ?_
    refine t_iastK dX8_note_21 (t_row16 (t_ixn c0)) (by unfold vp_in; decide) (fun s1 ws1 => t_letE hk ws1 (fun hk => ?_))
    refine mj_aload_n dX8_note_22 0 rfl ?_
    refine t_getR 15 dX8_note_23 F_X8_22 qr_12_3 ?_
    refine mj_aload_n dX8_note_26 0 rfl ?_
    refine t_getI dX8_note_27 F_X8_74 qf_12_4 ?_
    refine t_chkK hk (fun c1 hk => ?_)
    refine t_aaldI dX8_note_30 qq_15 (t_ixv c1) ?_
    refine mj_iconst (v := 1) dX8_note_31 (by decide) ?_
    refine mj_iload_n dX8_note_32 2 rfl ?_
    refine t_iastK dX8_note_33 (t_row16 (t_ixn c1)) (by unfold vp_in; decide) (fun s2 ws2 => t_letE hk ws2 (fun hk => ?_))
    refine mj_aload_n dX8_note_34 0 rfl ?_
    refine t_getR 15 dX8_note_35 F_X8_22 qr_12_3 ?_
    refine mj_aload_n dX8_note_38 0 rfl ?_
    refine t_getI dX8_note_39 F_X8_74 qf_12_4 ?_
    refine t_chkK hk (fun c2 hk => ?_)
    refine t_aaldI dX8_note_42 qq_15 (t_ixv c2) ?_
    refine mj_iconst (v := 2) dX8_note_43 (by decide) ?_
    refine mj_iload_n dX8_note_44 3 rfl ?_
    refine t_iastK dX8_note_45 (t_row16 (t_ixn c2)) (by unfold vp_in; decide) (fun s3 ws3 => t_letE hk ws3 (fun hk => ?_))
    refine mj_aload_n dX8_note_46 0 rfl ?_
    refine t_getR 14 dX8_note_47 F_X8_16 qr_12_1 ?_
    refine mj_sipush (v := 1248) dX8_note_50 (by decide) ?_
    refine mj_aload_n dX8_note_53 0 rfl ?_
    refine t_getI dX8_note_54 F_X8_74 qf_12_4 ?_
    refine mj_iadd dX8_note_57 ?_
    refine mj_iconst (v := 0) dX8_note_58 (by decide) ?_
    refine t_chkK hk (fun c3 hk => ?_)
    refine t_iastK dX8_note_59 qa_14 (t_ixv c3) (fun s4 ws4 => t_letE hk ws4 (fun hk => ?_))
    refine mj_sublv [(0, .ref 12)] [0] rfl ?_
    exact B_X8_note_60 _ _ hk

theorem dX7_finish_0 : decode cX7_finish 0 = .ok (.aload_n 1, 1) := by decide +kernel
theorem dX7_finish_1 : decode cX7_finish 1 = .ok (.iconst 2, 1) := by decide +kernel
theorem dX7_finish_10 : decode cX7_finish 10 = .ok (.aload_n 1, 1) := by decide +kernel
theorem dX7_finish_11 : decode cX7_finish 11 = .ok (.iconst 0, 1) := by decide +kernel
theorem dX7_finish_12 : decode cX7_finish 12 = .ok (.putfield 246, 3) := by decide +kernel
theorem dX7_finish_15 : decode cX7_finish 15 = .ok (.aload_n 1, 1) := by decide +kernel
theorem dX7_finish_16 : decode cX7_finish 16 = .ok (.getfield 249, 3) := by decide +kernel
theorem dX7_finish_19 : decode cX7_finish 19 = .ok (.ldc2_w 252, 3) := by decide +kernel
theorem dX7_finish_2 : decode cX7_finish 2 = .ok (.putfield 82, 3) := by decide +kernel
theorem dX7_finish_22 : decode cX7_finish 22 = .ok (.invokestatic 254, 3) := by decide +kernel
theorem dX7_finish_25 : decode cX7_finish 25 = .ok (.aload_n 0, 1) := by decide +kernel
theorem dX7_finish_26 : decode cX7_finish 26 = .ok (.getfield 15, 3) := by decide +kernel
theorem dX7_finish_29 : decode cX7_finish 29 = .ok (.bipush 6, 2) := by decide +kernel
theorem dX7_finish_31 : decode cX7_finish 31 = .ok (.aload_n 1, 1) := by decide +kernel
theorem dX7_finish_32 : decode cX7_finish 32 = .ok (.getfield 92, 3) := by decide +kernel
theorem dX7_finish_35 : decode cX7_finish 35 = .ok (.iconst 0, 1) := by decide +kernel
theorem dX7_finish_36 : decode cX7_finish 36 = .ok (.invokevirtual 67, 3) := by decide +kernel
theorem dX7_finish_39 : decode cX7_finish 39 = .ok (.return_, 1) := by decide +kernel
theorem dX7_finish_5 : decode cX7_finish 5 = .ok (.aload_n 1, 1) := by decide +kernel
theorem dX7_finish_6 : decode cX7_finish 6 = .ok (.iconst 0, 1) := by decide +kernel
theorem dX7_finish_7 : decode cX7_finish 7 = .ok (.putfield 191, 3) := by decide +kernel
noncomputable def f_X7_finish (x1 : Nat) (s : t_S) : Option (t_S) :=
 if t_isP x1 = true then
  t_let (t_setI s x1 2 (2 : Int32)) (fun s1 =>
 t_let (t_setI s1 x1 6 (0 : Int32)) (fun s2 =>
 t_let (t_setI s2 x1 10 (0 : Int32)) (fun s3 =>
 (f_J7_fill_d0a16 (x1 + 9) (-1 : Int64) s3).bind (fun r2 =>
 (f_X8_note (6 : Int32) (r2.1 x1 0) (0 : Int32) r2).bind (fun r3 =>
 some (r3))))))
else none
set_option maxRecDepth 4000 in
set_option maxHeartbeats 1000000 in
theorem C_X7_finish (x1 : Nat) (s : t_S) (r : t_S) (hr : f_X7_finish x1 s = some r) : t_C yX7_finish cX7_finish 2 none 1 [.ref 864, .ref x1] s (fun v s' => v = none ∧ s' = r) := by
  refine t_C.imp (P := fun v s' => v = none ∧ (fun q => q = r) (s')) (t_C.of (by decide +kernel) (Nat.le_of_ble_eq_true rfl) ?_) (fun v s' hp => hp)
  intro D cy ad bs X
  have hk : t_hk (f_X7_finish x1 s) (fun q => q = r) := ⟨r, hr, rfl⟩
  show mj_G D cy ad bs X cX7_finish 2 yX7_finish.cls none yX7_finish.name 1 0 0 1065 (t_P (fun v s' => v = none ∧ (fun q => q = r) (s'))) 0 [(0, .ref 864), (1, .ref x1)] [] (t_m s) 1065 0 0
  refine mj_aload_n dX7_finish_0 1 rfl ?_
  refine mj_iconst (v := 2) dX7_finish_1 (by decide) ?_
  refine t_chkK hk (fun c0 hk => ?_)
  refine t_putIK dX7_finish_2 F_X7_82 (t_pf2 c0) rfl (fun s1 ws1 => t_letE hk ws1 (fun hk => ?_))
  refine mj_aload_n dX7_finish_5 1 rfl ?_
  refine mj_iconst (v := 0) dX7_finish_6 (by decide) ?_
  refine t_putIK dX7_finish_7 F_X7_191 (t_pf6 c0) rfl (fun s2 ws2 => t_letE hk ws2 (fun hk => ?_))
  refine mj_aload_n dX7_finish_10 1 rfl ?_
  refine mj_iconst (v := 0) dX7_finish_11 (by decide) ?_
  refine t_putIK dX7_finish_12 F_X7_246 (t_pf10 c0) rfl (fun s3 ws3 => t_letE hk ws3 (fun hk => ?_))
  refine mj_aload_n dX7_finish_15 1 rfl ?_
  refine t_getR (x1 + 9) dX7_finish_16 F_X7_249 (t_pr16 c0) ?_
  refine mj_ldc2 dX7_finish_19 K_X7_252 ?_
  refine t_bndK hk (fun r2 er2 hk => ?_)
  refine t_callSvE dX7_finish_22 M_J7_fill_d0a16 (C_J7_fill_d0a16 _ _ _ _ er2) ML_X7_254 SM_J7_fill_d0a16 (As := [.ref (x1 + 9), .long (-1)]) rfl rfl (Nat.le_of_ble_eq_true rfl) (Nat.le_of_ble_eq_true rfl) (Nat.le_of_ble_eq_true rfl) (Nat.le_of_ble_eq_true rfl) ?_
  refine mj_aload_n dX7_finish_25 0 rfl ?_
  refine t_getR 12 dX7_finish_26 F_X7_15 qr_864_0 ?_
  refine mj_bipush (v := 6) dX7_finish_29 (by decide) ?_
  refine mj_aload_n dX7_finish_31 1 rfl ?_
  refine t_getI dX7_finish_32 F_X7_92 (t_pf0 c0) ?_
  refine mj_iconst (v := 0) dX7_finish_35 (by decide) ?_
  refine t_bndK hk (fun r3 er3 hk => ?_)
  refine t_callVvE dX7_finish_36 M_X8_note (C_X8_note _ _ _ _ _ er3) ML_X7_67 IM_X8_note SE_X8_note qc_12 rfl (As := [.int 6, .int (r2.1 x1 0), .int 0]) rfl rfl (Nat.le_of_ble_eq_true rfl) (Nat.le_of_ble_eq_true rfl) (Nat.le_of_ble_eq_true rfl) (Nat.le_of_ble_eq_true rfl) ?_
  exact t_somK hk (fun hf => t_vret dX7_finish_39 rfl ⟨rfl, hf⟩ (Nat.le_of_ble_eq_true rfl) (Nat.le_of_ble_eq_true rfl))

theorem dX7_judge_0 : decode cX7_judge 0 = .ok (.iload_n 2, 1) := by decide +kernel
theorem dX7_judge_1 : decode cX7_judge 1 = .ok (.aload_n 1, 1) := by decide +kernel
theorem dX7_judge_10 : decode cX7_judge 10 = .ok (.iload_n 2, 1) := by decide +kernel
theorem dX7_judge_11 : decode cX7_judge 11 = .ok (.putfield 167, 3) := by decide +kernel
theorem dX7_judge_14 : decode cX7_judge 14 = .ok (.aload_n 0, 1) := by decide +kernel
theorem dX7_judge_15 : decode cX7_judge 15 = .ok (.getfield 15, 3) := by decide +kernel
theorem dX7_judge_18 : decode cX7_judge 18 = .ok (.iconst 4, 1) := by decide +kernel
theorem dX7_judge_19 : decode cX7_judge 19 = .ok (.aload_n 1, 1) := by decide +kernel
theorem dX7_judge_2 : decode cX7_judge 2 = .ok (.getfield 167, 3) := by decide +kernel
theorem dX7_judge_20 : decode cX7_judge 20 = .ok (.getfield 92, 3) := by decide +kernel
theorem dX7_judge_23 : decode cX7_judge 23 = .ok (.iload_n 2, 1) := by decide +kernel
theorem dX7_judge_24 : decode cX7_judge 24 = .ok (.invokevirtual 67, 3) := by decide +kernel
theorem dX7_judge_27 : decode cX7_judge 27 = .ok (.return_, 1) := by decide +kernel
theorem dX7_judge_5 : decode cX7_judge 5 = .ok (.if_icmp .gt 4, 3) := by decide +kernel
theorem dX7_judge_8 : decode cX7_judge 8 = .ok (.return_, 1) := by decide +kernel
theorem dX7_judge_9 : decode cX7_judge 9 = .ok (.aload_n 1, 1) := by decide +kernel
noncomputable def f_X7_judge (x1 : Nat) (x2 : Int32) (s : t_S) : Option (t_S) :=
 if t_isP x1 = true then
  if (s.1 x1 3) < x2 then (t_let (t_setI s x1 3 x2) (fun s1 =>
 (f_X8_note (4 : Int32) (s1.1 x1 0) x2 s1).bind (fun r2 =>
 some (r2))))
 else (some (s))
else none
set_option maxRecDepth 4000 in
set_option maxHeartbeats 1000000 in
theorem C_X7_judge (x1 : Nat) (x2 : Int32) (s : t_S) (r : t_S) (hr : f_X7_judge x1 x2 s = some r) : t_C yX7_judge cX7_judge 3 none 1 [.ref 864, .ref x1, .int x2] s (fun v s' => v = none ∧ s' = r) := by
  refine t_C.imp (P := fun v s' => v = none ∧ (fun q => q = r) (s')) (t_C.of (by decide +kernel) (Nat.le_of_ble_eq_true rfl) ?_) (fun v s' hp => hp)
  intro D cy ad bs X
  have hk : t_hk (f_X7_judge x1 x2 s) (fun q => q = r) := ⟨r, hr, rfl⟩
  show mj_G D cy ad bs X cX7_judge 3 yX7_judge.cls none yX7_judge.name 1 0 0 1065 (t_P (fun v s' => v = none ∧ (fun q => q = r) (s'))) 0 [(0, .ref 864), (1, .ref x1), (2, .int x2)] [] (t_m s) 1065 0 0
  refine mj_iload_n dX7_judge_0 2 rfl ?_
  refine mj_aload_n dX7_judge_1 1 rfl ?_
  refine t_chkK hk (fun c0 hk => ?_)
  refine t_getI dX7_judge_2 F_X7_167 (t_pf3 c0) ?_
  refine mj_icmp_gt 9 dX7_judge_5 (by decide) (fun z => t_posK hk z (fun hk => ?_)) (fun z => t_negK hk z (fun hk => ?_))
  · refine mj_aload_n dX7_judge_9 1 rfl ?_
    refine mj_iload_n dX7_judge_10 2 rfl ?_
    refine t_putIK dX7_judge_11 F_X7_167 (t_pf3 c0) rfl (fun s1 ws1 => t_letE hk ws1 (fun hk => ?_))
    refine mj_aload_n dX7_judge_14 0 rfl ?_
    refine t_getR 12 dX7_judge_15 F_X7_15 qr_864_0 ?_
    refine mj_iconst (v := 4) dX7_judge_18 (by decide) ?_
    refine mj_aload_n dX7_judge_19 1 rfl ?_
    refine t_getI dX7_judge_20 F_X7_92 (t_pf0 c0) ?_
    refine mj_iload_n dX7_judge_23 2 rfl ?_
    refine t_bndK hk (fun r2 er2 hk => ?_)
    refine t_callVvE dX7_judge_24 M_X8_note (C_X8_note _ _ _ _ _ er2) ML_X7_67 IM_X8_note SE_X8_note qc_12 rfl (As := [.int 4, .int (s1.1 x1 0), .int x2]) rfl rfl (Nat.le_of_ble_eq_true rfl) (Nat.le_of_ble_eq_true rfl) (Nat.le_of_ble_eq_true rfl) (Nat.le_of_ble_eq_true rfl) ?_
    exact t_somK hk (fun hf => t_vret dX7_judge_27 rfl ⟨rfl, hf⟩ (Nat.le_of_ble_eq_true rfl) (Nat.le_of_ble_eq_true rfl))
  · exact t_somK hk (fun hf => t_vret dX7_judge_8 rfl ⟨rfl, hf⟩ (Nat.le_of_ble_eq_true rfl) (Nat.le_of_ble_eq_true rfl))

theorem dX7_fail_0 : decode cX7_fail 0 = .ok (.aload_n 1, 1) := by decide +kernel
theorem dX7_fail_1 : decode cX7_fail 1 = .ok (.iload_n 2, 1) := by decide +kernel
theorem dX7_fail_11 : decode cX7_fail 11 = .ok (.aload_n 1, 1) := by decide +kernel
theorem dX7_fail_12 : decode cX7_fail 12 = .ok (.getfield 92, 3) := by decide +kernel
theorem dX7_fail_15 : decode cX7_fail 15 = .ok (.iload_n 2, 1) := by decide +kernel
theorem dX7_fail_16 : decode cX7_fail 16 = .ok (.invokevirtual 67, 3) := by decide +kernel
theorem dX7_fail_19 : decode cX7_fail 19 = .ok (.aload_n 0, 1) := by decide +kernel
theorem dX7_fail_2 : decode cX7_fail 2 = .ok (.putfield 260, 3) := by decide +kernel
theorem dX7_fail_20 : decode cX7_fail 20 = .ok (.aload_n 1, 1) := by decide +kernel
theorem dX7_fail_21 : decode cX7_fail 21 = .ok (.iconst 4, 1) := by decide +kernel
theorem dX7_fail_22 : decode cX7_fail 22 = .ok (.invokevirtual 261, 3) := by decide +kernel
theorem dX7_fail_25 : decode cX7_fail 25 = .ok (.aload_n 0, 1) := by decide +kernel
theorem dX7_fail_26 : decode cX7_fail 26 = .ok (.aload_n 1, 1) := by decide +kernel
theorem dX7_fail_27 : decode cX7_fail 27 = .ok (.invokevirtual 95, 3) := by decide +kernel
theorem dX7_fail_30 : decode cX7_fail 30 = .ok (.return_, 1) := by decide +kernel
theorem dX7_fail_5 : decode cX7_fail 5 = .ok (.aload_n 0, 1) := by decide +kernel
theorem dX7_fail_6 : decode cX7_fail 6 = .ok (.getfield 15, 3) := by decide +kernel
theorem dX7_fail_9 : decode cX7_fail 9 = .ok (.bipush 7, 2) := by decide +kernel
noncomputable def f_X7_fail (x1 : Nat) (x2 : Int32) (s : t_S) : Option (t_S) :=
 if t_isP x1 = true then
  t_let (t_setI s x1 5 x2) (fun s1 =>
 (f_X8_note (7 : Int32) (s1.1 x1 0) x2 s1).bind (fun r2 =>
 (f_X7_judge x1 (4 : Int32) r2).bind (fun r3 =>
 (f_X7_finish x1 r3).bind (fun r4 =>
 some (r4)))))
else none
set_option maxRecDepth 4000 in
set_option maxHeartbeats 1000000 in
theorem C_X7_fail (x1 : Nat) (x2 : Int32) (s : t_S) (r : t_S) (hr : f_X7_fail x1 x2 s = some r) : t_C yX7_fail cX7_fail 3 none 2 [.ref 864, .ref x1, .int x2] s (fun v s' => v = none ∧ s' = r) := by
  refine t_C.imp (P := fun v s' => v = none ∧ (fun q => q = r) (s')) (t_C.of (by decide +kernel) (Nat.le_of_ble_eq_true rfl) ?_) (fun v s' hp => hp)
  intro D cy ad bs X
  have hk : t_hk (f_X7_fail x1 x2 s) (fun q => q = r) := ⟨r, hr, rfl⟩
  show mj_G D cy ad bs X cX7_fail 3 yX7_fail.cls none yX7_fail.name 2 0 0 1065 (t_P (fun v s' => v = none ∧ (fun q => q = r) (s'))) 0 [(0, .ref 864), (1, .ref x1), (2, .int x2)] [] (t_m s) 1065 0 0
  refine mj_aload_n dX7_fail_0 1 rfl ?_
  refine mj_iload_n dX7_fail_1 2 rfl ?_
  refine t_chkK hk (fun c0 hk => ?_)
  refine t_putIK dX7_fail_2 F_X7_260 (t_pf5 c0) rfl (fun s1 ws1 => t_letE hk ws1 (fun hk => ?_))
  refine mj_aload_n dX7_fail_5 0 rfl ?_
  refine t_getR 12 dX7_fail_6 F_X7_15 qr_864_0 ?_
  refine mj_bipush (v := 7) dX7_fail_9 (by decide) ?_
  refine mj_aload_n dX7_fail_11 1 rfl ?_
  refine t_getI dX7_fail_12 F_X7_92 (t_pf0 c0) ?_
  refine mj_iload_n dX7_fail_15 2 rfl ?_
  refine t_bndK hk (fun r2 er2 hk => ?_)
  refine t_callVvE dX7_fail_16 M_X8_note (C_X8_note _ _ _ _ _ er2) ML_X7_67 IM_X8_note SE_X8_note qc_12 rfl (As := [.int 7, .int (s1.1 x1 0), .int x2]) rfl rfl (Nat.le_of_ble_eq_true rfl) (Nat.le_of_ble_eq_true rfl) (Nat.le_of_ble_eq_true rfl) (Nat.le_of_ble_eq_true rfl) ?_
  refine mj_aload_n dX7_fail_19 0 rfl ?_
  refine mj_aload_n dX7_fail_20 1 rfl ?_
  refine mj_iconst (v := 4) dX7_fail_21 (by decide) ?_
  refine t_bndK hk (fun r3 er3 hk => ?_)
  refine t_callVvE dX7_fail_22 M_X7_judge (C_X7_judge _ _ _ _ er3) ML_X7_261 IM_X7_judge SE_X7_judge qc_864 rfl (As := [.ref x1, .int 4]) rfl rfl (Nat.le_of_ble_eq_true rfl) (Nat.le_of_ble_eq_true rfl) (Nat.le_of_ble_eq_true rfl) (Nat.le_of_ble_eq_true rfl) ?_
  refine mj_aload_n dX7_fail_25 0 rfl ?_
  refine mj_aload_n dX7_fail_26 1 rfl ?_
  refine t_bndK hk (fun r4 er4 hk => ?_)
  refine t_callVvE dX7_fail_27 M_X7_finish (C_X7_finish _ _ _ er4) ML_X7_95 IM_X7_finish SE_X7_finish qc_864 rfl (As := [.ref x1]) rfl rfl (Nat.le_of_ble_eq_true rfl) (Nat.le_of_ble_eq_true rfl) (Nat.le_of_ble_eq_true rfl) (Nat.le_of_ble_eq_true rfl) ?_
  exact t_somK hk (fun hf => t_vret dX7_fail_30 rfl ⟨rfl, hf⟩ (Nat.le_of_ble_eq_true rfl) (Nat.le_of_ble_eq_true rfl))

theorem dX4_pushFrame_0 : decode cX4_pushFrame 0 = .ok (.aload_n 0, 1) := by decide +kernel
theorem dX4_pushFrame_1 : decode cX4_pushFrame 1 = .ok (.getfield 59, 3) := by decide +kernel
theorem dX4_pushFrame_10 : decode cX4_pushFrame 10 = .ok (.ireturn, 1) := by decide +kernel
theorem dX4_pushFrame_11 : decode cX4_pushFrame 11 = .ok (.aload_n 0, 1) := by decide +kernel
theorem dX4_pushFrame_12 : decode cX4_pushFrame 12 = .ok (.getfield 9, 3) := by decide +kernel
theorem dX4_pushFrame_15 : decode cX4_pushFrame 15 = .ok (.aload_n 0, 1) := by decide +kernel
theorem dX4_pushFrame_16 : decode cX4_pushFrame 16 = .ok (.getfield 59, 3) := by decide +kernel
theorem dX4_pushFrame_19 : decode cX4_pushFrame 19 = .ok (.iload_n 1, 1) := by decide +kernel
theorem dX4_pushFrame_20 : decode cX4_pushFrame 20 = .ok (.iastore, 1) := by decide +kernel
theorem dX4_pushFrame_21 : decode cX4_pushFrame 21 = .ok (.aload_n 0, 1) := by decide +kernel
theorem dX4_pushFrame_22 : decode cX4_pushFrame 22 = .ok (.getfield 13, 3) := by decide +kernel
theorem dX4_pushFrame_25 : decode cX4_pushFrame 25 = .ok (.aload_n 0, 1) := by decide +kernel
theorem dX4_pushFrame_26 : decode cX4_pushFrame 26 = .ok (.getfield 59, 3) := by decide +kernel
theorem dX4_pushFrame_29 : decode cX4_pushFrame 29 = .ok (.iload_n 2, 1) := by decide +kernel
theorem dX4_pushFrame_30 : decode cX4_pushFrame 30 = .ok (.iastore, 1) := by decide +kernel
theorem dX4_pushFrame_31 : decode cX4_pushFrame 31 = .ok (.aload_n 0, 1) := by decide +kernel
theorem dX4_pushFrame_32 : decode cX4_pushFrame 32 = .ok (.getfield 16, 3) := by decide +kernel
theorem dX4_pushFrame_35 : decode cX4_pushFrame 35 = .ok (.aload_n 0, 1) := by decide +kernel
theorem dX4_pushFrame_36 : decode cX4_pushFrame 36 = .ok (.getfield 59, 3) := by decide +kernel
theorem dX4_pushFrame_39 : decode cX4_pushFrame 39 = .ok (.iconst (-1), 1) := by decide +kernel
theorem dX4_pushFrame_4 : decode cX4_pushFrame 4 = .ok (.bipush 8, 2) := by decide +kernel
theorem dX4_pushFrame_40 : decode cX4_pushFrame 40 = .ok (.iastore, 1) := by decide +kernel
theorem dX4_pushFrame_41 : decode cX4_pushFrame 41 = .ok (.aload_n 0, 1) := by decide +kernel
theorem dX4_pushFrame_42 : decode cX4_pushFrame 42 = .ok (.dup, 1) := by decide +kernel
theorem dX4_pushFrame_43 : decode cX4_pushFrame 43 = .ok (.getfield 59, 3) := by decide +kernel
theorem dX4_pushFrame_46 : decode cX4_pushFrame 46 = .ok (.iconst 1, 1) := by decide +kernel
theorem dX4_pushFrame_47 : decode cX4_pushFrame 47 = .ok (.iadd, 1) := by decide +kernel
theorem dX4_pushFrame_48 : decode cX4_pushFrame 48 = .ok (.putfield 59, 3) := by decide +kernel
theorem dX4_pushFrame_51 : decode cX4_pushFrame 51 = .ok (.iconst 1, 1) := by decide +kernel
theorem dX4_pushFrame_52 : decode cX4_pushFrame 52 = .ok (.ireturn, 1) := by decide +kernel
theorem dX4_pushFrame_6 : decode cX4_pushFrame 6 = .ok (.if_icmp .lt 5, 3) := by decide +kernel
theorem dX4_pushFrame_9 : decode cX4_pushFrame 9 = .ok (.iconst 0, 1) := by decide +kernel
noncomputable def f_X4_pushFrame (p : Nat) (x1 : Int32) (x2 : Int32) (s : t_S) : Option (Int32 × t_S) :=
 if t_isP p = true then
  if (s.1 p 6) < (8 : Int32) then (if t_ix (s.1 p 6) 8 = true then
  t_let (t_setI s (p + 1) ((s.1 p 6).toNatClampNeg) x1) (fun s1 =>
 if t_ix (s1.1 p 6) 8 = true then
  t_let (t_setI s1 (p + 2) ((s1.1 p 6).toNatClampNeg) x2) (fun s2 =>
 if t_ix (s2.1 p 6) 8 = true then
  t_let (t_setI s2 (p + 3) ((s2.1 p 6).toNatClampNeg) (-1 : Int32)) (fun s3 =>
 t_let (t_setI s3 p 6 ((s3.1 p 6) + (1 : Int32))) (fun s4 =>
 some ((1 : Int32), s4)))
else none)
else none)
else none)
 else (some ((0 : Int32), s))
else none
set_option maxRecDepth 4000 in
set_option maxHeartbeats 1000000 in
theorem C_X4_pushFrame (p : Nat) (x1 : Int32) (x2 : Int32) (s : t_S) (r : Int32 × t_S) (hr : f_X4_pushFrame p x1 x2 s = some r) : t_C yX4_pushFrame cX4_pushFrame 3 (some .boolean) 0 [.ref p, .int x1, .int x2] s (fun v s' => v = some (.int r.1) ∧ s' = r.2) := by
  refine t_C.imp (P := fun v s' => ∃ x, v = some (.int x) ∧ (fun q => q = r) ((x, s'))) (t_C.of (by decide +kernel) (Nat.le_of_ble_eq_true rfl) ?_) (fun v s' hp => by obtain ⟨x, rfl, rfl⟩ := hp; exact ⟨rfl, rfl⟩)
  intro D cy ad bs X
  have hk : t_hk (f_X4_pushFrame p x1 x2 s) (fun q => q = r) := ⟨r, hr, rfl⟩
  show mj_G D cy ad bs X cX4_pushFrame 3 yX4_pushFrame.cls (some .boolean) yX4_pushFrame.name 0 0 0 1065 (t_P (fun v s' => ∃ x, v = some (.int x) ∧ (fun q => q = r) ((x, s')))) 0 [(0, .ref p), (1, .int x1), (2, .int x2)] [] (t_m s) 1065 0 0
  refine mj_aload_n dX4_pushFrame_0 0 rfl ?_
  refine t_chkK hk (fun c0 hk => ?_)
  refine t_getI dX4_pushFrame_1 F_X4_59 (t_pf6 c0) ?_
  refine mj_bipush (v := 8) dX4_pushFrame_4 (by decide) ?_
  refine mj_icmp_lt 11 dX4_pushFrame_6 (by decide) (fun z => t_posK hk z (fun hk => ?_)) (fun z => t_negK hk z (fun hk => ?_))
  · refine mj_aload_n dX4_pushFrame_11 0 rfl ?_
    refine t_getR (p + 1) dX4_pushFrame_12 F_X4_9 (t_pr7 c0) ?_
    refine mj_aload_n dX4_pushFrame_15 0 rfl ?_
    refine t_getI dX4_pushFrame_16 F_X4_59 (t_pf6 c0) ?_
    refine mj_iload_n dX4_pushFrame_19 1 rfl ?_
    refine t_chkK hk (fun c1 hk => ?_)
    refine t_iastK dX4_pushFrame_20 (t_pa7 c0) (t_ixv c1) (fun s1 ws1 => t_letE hk ws1 (fun hk => ?_))
    refine mj_aload_n dX4_pushFrame_21 0 rfl ?_
    refine t_getR (p + 2) dX4_pushFrame_22 F_X4_13 (t_pr8 c0) ?_
    refine mj_aload_n dX4_pushFrame_25 0 rfl ?_
    refine t_getI dX4_pushFrame_26 F_X4_59 (t_pf6 c0) ?_
    refine mj_iload_n dX4_pushFrame_29 2 rfl ?_
    refine t_chkK hk (fun c2 hk => ?_)
    refine t_iastK dX4_pushFrame_30 (t_pa8 c0) (t_ixv c2) (fun s2 ws2 => t_letE hk ws2 (fun hk => ?_))
    refine mj_aload_n dX4_pushFrame_31 0 rfl ?_
    refine t_getR (p + 3) dX4_pushFrame_32 F_X4_16 (t_pr9 c0) ?_
    refine mj_aload_n dX4_pushFrame_35 0 rfl ?_
    refine t_getI dX4_pushFrame_36 F_X4_59 (t_pf6 c0) ?_
    refine mj_iconst (v := (-1)) dX4_pushFrame_39 (by decide) ?_
    refine t_chkK hk (fun c3 hk => ?_)
    refine t_iastK dX4_pushFrame_40 (t_pa9 c0) (t_ixv c3) (fun s3 ws3 => t_letE hk ws3 (fun hk => ?_))
    refine mj_aload_n dX4_pushFrame_41 0 rfl ?_
    refine mj_dup dX4_pushFrame_42 rfl ?_
    refine t_getI dX4_pushFrame_43 F_X4_59 (t_pf6 c0) ?_
    refine mj_iconst (v := 1) dX4_pushFrame_46 (by decide) ?_
    refine mj_iadd dX4_pushFrame_47 ?_
    refine t_putIK dX4_pushFrame_48 F_X4_59 (t_pf6 c0) rfl (fun s4 ws4 => t_letE hk ws4 (fun hk => ?_))
    refine mj_iconst (v := 1) dX4_pushFrame_51 (by decide) ?_
    exact t_somK hk (fun hf => t_iret dX4_pushFrame_52 rfl (by decide) ⟨_, rfl, hf⟩ (Nat.le_of_ble_eq_true rfl) (Nat.le_of_ble_eq_true rfl))
  · refine mj_iconst (v := 0) dX4_pushFrame_9 (by decide) ?_
    exact t_somK hk (fun hf => t_iret dX4_pushFrame_10 rfl (by decide) ⟨_, rfl, hf⟩ (Nat.le_of_ble_eq_true rfl) (Nat.le_of_ble_eq_true rfl))

theorem dX7_launch_0 : decode cX7_launch 0 = .ok (.aload_n 1, 1) := by decide +kernel
theorem dX7_launch_1 : decode cX7_launch 1 = .ok (.iconst 1, 1) := by decide +kernel
theorem dX7_launch_11 : decode cX7_launch 11 = .ok (.getfield 85, 3) := by decide +kernel
theorem dX7_launch_14 : decode cX7_launch 14 = .ok (.iload_n 2, 1) := by decide +kernel
theorem dX7_launch_15 : decode cX7_launch 15 = .ok (.iaload, 1) := by decide +kernel
theorem dX7_launch_16 : decode cX7_launch 16 = .ok (.invokevirtual 88, 3) := by decide +kernel
theorem dX7_launch_19 : decode cX7_launch 19 = .ok (.pop, 1) := by decide +kernel
theorem dX7_launch_2 : decode cX7_launch 2 = .ok (.putfield 82, 3) := by decide +kernel
theorem dX7_launch_20 : decode cX7_launch 20 = .ok (.aload_n 0, 1) := by decide +kernel
theorem dX7_launch_21 : decode cX7_launch 21 = .ok (.getfield 15, 3) := by decide +kernel
theorem dX7_launch_24 : decode cX7_launch 24 = .ok (.bipush 9, 2) := by decide +kernel
theorem dX7_launch_26 : decode cX7_launch 26 = .ok (.aload_n 1, 1) := by decide +kernel
theorem dX7_launch_27 : decode cX7_launch 27 = .ok (.getfield 92, 3) := by decide +kernel
theorem dX7_launch_30 : decode cX7_launch 30 = .ok (.iconst 0, 1) := by decide +kernel
theorem dX7_launch_31 : decode cX7_launch 31 = .ok (.invokevirtual 67, 3) := by decide +kernel
theorem dX7_launch_34 : decode cX7_launch 34 = .ok (.aload_n 0, 1) := by decide +kernel
theorem dX7_launch_35 : decode cX7_launch 35 = .ok (.getfield 31, 3) := by decide +kernel
theorem dX7_launch_38 : decode cX7_launch 38 = .ok (.getfield 85, 3) := by decide +kernel
theorem dX7_launch_41 : decode cX7_launch 41 = .ok (.iload_n 2, 1) := by decide +kernel
theorem dX7_launch_42 : decode cX7_launch 42 = .ok (.iaload, 1) := by decide +kernel
theorem dX7_launch_43 : decode cX7_launch 43 = .ok (.ifCond .ge 8, 3) := by decide +kernel
theorem dX7_launch_46 : decode cX7_launch 46 = .ok (.aload_n 0, 1) := by decide +kernel
theorem dX7_launch_47 : decode cX7_launch 47 = .ok (.aload_n 1, 1) := by decide +kernel
theorem dX7_launch_48 : decode cX7_launch 48 = .ok (.invokevirtual 95, 3) := by decide +kernel
theorem dX7_launch_5 : decode cX7_launch 5 = .ok (.aload_n 1, 1) := by decide +kernel
theorem dX7_launch_51 : decode cX7_launch 51 = .ok (.return_, 1) := by decide +kernel
theorem dX7_launch_6 : decode cX7_launch 6 = .ok (.iload_n 2, 1) := by decide +kernel
theorem dX7_launch_7 : decode cX7_launch 7 = .ok (.aload_n 0, 1) := by decide +kernel
theorem dX7_launch_8 : decode cX7_launch 8 = .ok (.getfield 31, 3) := by decide +kernel
noncomputable def f_X7_launch (x1 : Nat) (x2 : Int32) (s : t_S) : Option (t_S) :=
 if t_isP x1 = true then
  t_let (t_setI s x1 2 (1 : Int32)) (fun s1 =>
 if t_ix x2 40 = true then
  (f_X4_pushFrame x1 x2 (s1.1 441 (x2.toNatClampNeg)) s1).bind (fun r3 =>
 (f_X8_note (9 : Int32) (r3.2.1 x1 0) (0 : Int32) r3.2).bind (fun r4 =>
 if (0 : Int32) ≤ (r4.1 441 (x2.toNatClampNeg)) then (some (r4))
 else ((f_X7_finish x1 r4).bind (fun r5 =>
 some (r5)))))
else none)
else none
set_option maxRecDepth 4000 in
set_option maxHeartbeats 1000000 in
theorem C_X7_launch (x1 : Nat) (x2 : Int32) (s : t_S) (r : t_S) (hr : f_X7_launch x1 x2 s = some r) : t_C yX7_launch cX7_launch 3 none 2 [.ref 864, .ref x1, .int x2] s (fun v s' => v = none ∧ s' = r) := by
  refine t_C.imp (P := fun v s' => v = none ∧ (fun q => q = r) (s')) (t_C.of (by decide +kernel) (Nat.le_of_ble_eq_true rfl) ?_) (fun v s' hp => hp)
  intro D cy ad bs X
  have hk : t_hk (f_X7_launch x1 x2 s) (fun q => q = r) := ⟨r, hr, rfl⟩
  show mj_G D cy ad bs X cX7_launch 3 yX7_launch.cls none yX7_launch.name 2 0 0 1065 (t_P (fun v s' => v = none ∧ (fun q => q = r) (s'))) 0 [(0, .ref 864), (1, .ref x1), (2, .int x2)] [] (t_m s) 1065 0 0
  refine mj_aload_n dX7_launch_0 1 rfl ?_
  refine mj_iconst (v := 1) dX7_launch_1 (by decide) ?_
  refine t_chkK hk (fun c0 hk => ?_)
  refine t_putIK dX7_launch_2 F_X7_82 (t_pf2 c0) rfl (fun s1 ws1 => t_letE hk ws1 (fun hk => ?_))
  refine mj_aload_n dX7_launch_5 1 rfl ?_
  refine mj_iload_n dX7_launch_6 2 rfl ?_
  refine mj_aload_n dX7_launch_7 0 rfl ?_
  refine t_getR 428 dX7_launch_8 F_X7_31 qr_864_4 ?_
  refine t_getR 441 dX7_launch_11 F_X7_85 qr_428_14 ?_
  refine mj_iload_n dX7_launch_14 2 rfl ?_
  refine t_chkK hk (fun c1 hk => ?_)
  refine t_iald dX7_launch_15 qa_441 (t_ixv c1) ?_
  refine t_bndK hk (fun r3 er3 hk => ?_)
  refine t_callViE dX7_launch_16 M_X4_pushFrame (C_X4_pushFrame _ _ _ _ _ er3) ML_X7_88 IM_X4_pushFrame SE_X4_pushFrame (t_pc c0) rfl (As := [.int x2, .int (s1.1 441 (x2.toNatClampNeg))]) rfl rfl (Nat.le_of_ble_eq_true rfl) (Nat.le_of_ble_eq_true rfl) (Nat.le_of_ble_eq_true rfl) (Nat.le_of_ble_eq_true rfl) ?_
  refine mj_pop dX7_launch_19 rfl ?_
  refine mj_aload_n dX7_launch_20 0 rfl ?_
  refine t_getR 12 dX7_launch_21 F_X7_15 qr_864_0 ?_
  refine mj_bipush (v := 9) dX7_launch_24 (by decide) ?_
  refine mj_aload_n dX7_launch_26 1 rfl ?_
  refine t_getI dX7_launch_27 F_X7_92 (t_pf0 c0) ?_
  refine mj_iconst (v := 0) dX7_launch_30 (by decide) ?_
  refine t_bndK hk (fun r4 er4 hk => ?_)
  refine t_callVvE dX7_launch_31 M_X8_note (C_X8_note _ _ _ _ _ er4) ML_X7_67 IM_X8_note SE_X8_note qc_12 rfl (As := [.int 9, .int (r3.2.1 x1 0), .int 0]) rfl rfl (Nat.le_of_ble_eq_true rfl) (Nat.le_of_ble_eq_true rfl) (Nat.le_of_ble_eq_true rfl) (Nat.le_of_ble_eq_true rfl) ?_
  refine mj_aload_n dX7_launch_34 0 rfl ?_
  refine t_getR 428 dX7_launch_35 F_X7_31 qr_864_4 ?_
  refine t_getR 441 dX7_launch_38 F_X7_85 qr_428_14 ?_
  refine mj_iload_n dX7_launch_41 2 rfl ?_
  refine t_iald dX7_launch_42 qa_441 (t_ixv c1) ?_
  refine mj_if_ge 51 dX7_launch_43 (by decide) (fun z => t_posK hk z (fun hk => ?_)) (fun z => t_negK hk z (fun hk => ?_))
  · exact t_somK hk (fun hf => t_vret dX7_launch_51 rfl ⟨rfl, hf⟩ (Nat.le_of_ble_eq_true rfl) (Nat.le_of_ble_eq_true rfl))
  · refine mj_aload_n dX7_launch_46 0 rfl ?_
    refine mj_aload_n dX7_launch_47 1 rfl ?_
    refine t_bndK hk (fun r5 er5 hk => ?_)
    refine t_callVvE dX7_launch_48 M_X7_finish (C_X7_finish _ _ _ er5) ML_X7_95 IM_X7_finish SE_X7_finish qc_864 rfl (As := [.ref x1]) rfl rfl (Nat.le_of_ble_eq_true rfl) (Nat.le_of_ble_eq_true rfl) (Nat.le_of_ble_eq_true rfl) (Nat.le_of_ble_eq_true rfl) ?_
    exact t_somK hk (fun hf => t_vret dX7_launch_51 rfl ⟨rfl, hf⟩ (Nat.le_of_ble_eq_true rfl) (Nat.le_of_ble_eq_true rfl))

