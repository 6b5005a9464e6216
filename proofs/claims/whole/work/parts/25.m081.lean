/-! Methods as functions, 81: X13_clock, X13_greatestOf, X13_leastOf, X13_whichPart, X13_code -/
theorem qa_964 : t_oka 964 1 60 = true := by decide +kernel
theorem qa_967 : t_oka 967 1 60 = true := by decide +kernel
theorem qa_980 : t_oka 980 1 40 = true := by decide +kernel
theorem dX13_clock_0 : decode cX13_clock 0 = .ok (.aload_n 0, 1) := by decide +kernel
theorem dX13_clock_1 : decode cX13_clock 1 = .ok (.getfield 645, 3) := by decide +kernel
theorem dX13_clock_10 : decode cX13_clock 10 = .ok (.ldc2_w 1395, 3) := by decide +kernel
theorem dX13_clock_13 : decode cX13_clock 13 = .ok (.invokestatic 371, 3) := by decide +kernel
theorem dX13_clock_16 : decode cX13_clock 16 = .ok (.ifCond .ne 5, 3) := by decide +kernel
theorem dX13_clock_19 : decode cX13_clock 19 = .ok (.iconst (-1), 1) := by decide +kernel
theorem dX13_clock_20 : decode cX13_clock 20 = .ok (.ireturn, 1) := by decide +kernel
theorem dX13_clock_21 : decode cX13_clock 21 = .ok (.aload_n 0, 1) := by decide +kernel
theorem dX13_clock_22 : decode cX13_clock 22 = .ok (.getfield 920, 3) := by decide +kernel
theorem dX13_clock_25 : decode cX13_clock 25 = .ok (.iload_n 1, 1) := by decide +kernel
theorem dX13_clock_26 : decode cX13_clock 26 = .ok (.i2l, 1) := by decide +kernel
theorem dX13_clock_27 : decode cX13_clock 27 = .ok (.ladd, 1) := by decide +kernel
theorem dX13_clock_28 : decode cX13_clock 28 = .ok (.ldc2_w 1485, 3) := by decide +kernel
theorem dX13_clock_31 : decode cX13_clock 31 = .ok (.lcmp, 1) := by decide +kernel
theorem dX13_clock_32 : decode cX13_clock 32 = .ok (.ifCond .le 5, 3) := by decide +kernel
theorem dX13_clock_35 : decode cX13_clock 35 = .ok (.iconst 0, 1) := by decide +kernel
theorem dX13_clock_36 : decode cX13_clock 36 = .ok (.ireturn, 1) := by decide +kernel
theorem dX13_clock_37 : decode cX13_clock 37 = .ok (.aload_n 0, 1) := by decide +kernel
theorem dX13_clock_38 : decode cX13_clock 38 = .ok (.aload_n 0, 1) := by decide +kernel
theorem dX13_clock_39 : decode cX13_clock 39 = .ok (.getfield 920, 3) := by decide +kernel
theorem dX13_clock_4 : decode cX13_clock 4 = .ok (.ifCond .eq 15, 3) := by decide +kernel
theorem dX13_clock_42 : decode cX13_clock 42 = .ok (.iload_n 1, 1) := by decide +kernel
theorem dX13_clock_43 : decode cX13_clock 43 = .ok (.i2l, 1) := by decide +kernel
theorem dX13_clock_44 : decode cX13_clock 44 = .ok (.ladd, 1) := by decide +kernel
theorem dX13_clock_45 : decode cX13_clock 45 = .ok (.putfield 920, 3) := by decide +kernel
theorem dX13_clock_48 : decode cX13_clock 48 = .ok (.iconst 1, 1) := by decide +kernel
theorem dX13_clock_49 : decode cX13_clock 49 = .ok (.ireturn, 1) := by decide +kernel
theorem dX13_clock_7 : decode cX13_clock 7 = .ok (.iload_n 1, 1) := by decide +kernel
theorem dX13_clock_8 : decode cX13_clock 8 = .ok (.i2l, 1) := by decide +kernel
theorem dX13_clock_9 : decode cX13_clock 9 = .ok (.lconst 0, 1) := by decide +kernel
noncomputable def f_X13_clock (x1 : Int32) (s : t_S) : Option (Int32 × t_S) :=
 if (s.1 950 147) = (0 : Int32) then (some ((-1 : Int32), s))
 else (if (f_X13_in x1.toInt64 (0 : Int64) (1000000000 : Int64) s) = (0 : Int32) then (some ((-1 : Int32), s))
 else (if (lg_cmp ((s.2.1 950 148) + x1.toInt64) (1000000000000 : Int64)) ≤ (0 : Int32) then (t_let (t_setJ s 950 148 ((s.2.1 950 148) + x1.toInt64)) (fun s1 =>
 some ((1 : Int32), s1)))
 else (some ((0 : Int32), s))))
set_option maxRecDepth 4000 in
set_option maxHeartbeats 1000000 in
theorem C_X13_clock (x1 : Int32) (s : t_S) (r : Int32 × t_S) (hr : f_X13_clock x1 s = some r) : t_C yX13_clock cX13_clock 2 (some .int) 1 [.ref 950, .int x1] s (fun v s' => v = some (.int r.1) ∧ s' = r.2) := by
  refine t_C.imp (P := fun v s' => ∃ x, v = some (.int x) ∧ (fun q => q = r) ((x, s'))) (t_C.of (by decide +kernel) (Nat.le_of_ble_eq_true rfl) ?_) (fun v s' hp => by obtain ⟨x, rfl, rfl⟩ := hp; exact ⟨rfl, rfl⟩)
  intro D cy ad bs X
  have hk : t_hk (f_X13_clock x1 s) (fun q => q = r) := ⟨r, hr, rfl⟩
  show mj_G D cy ad bs X cX13_clock 2 yX13_clock.cls (some .int) yX13_clock.name 1 0 0 1065 (t_P (fun v s' => ∃ x, v = some (.int x) ∧ (fun q => q = r) ((x, s')))) 0 [(0, .ref 950), (1, .int x1)] [] (t_m s) 1065 0 0
  refine mj_aload_n dX13_clock_0 0 rfl ?_
  refine t_getI dX13_clock_1 F_X13_645 qf_950_147 ?_
  refine mj_if_eq 19 dX13_clock_4 (by decide) (fun z => t_posK hk z (fun hk => ?_)) (fun z => t_negK hk z (fun hk => ?_))
  · refine mj_iconst (v := (-1)) dX13_clock_19 (by decide) ?_
    exact t_somK hk (fun hf => t_iret dX13_clock_20 rfl rfl ⟨_, rfl, hf⟩ (Nat.le_of_ble_eq_true rfl) (Nat.le_of_ble_eq_true rfl))
  · refine mj_iload_n dX13_clock_7 1 rfl ?_
    refine mj_i2l (v := x1.toInt64) dX13_clock_8 rfl ?_
    refine mj_lconst (v := 0) dX13_clock_9 (by decide) ?_
    refine mj_ldc2 dX13_clock_10 K_X13_1395 ?_
    refine t_callSiP dX13_clock_13 M_X13_in (C_X13_in _ _ _ _) ML_X13_371 SM_X13_in (As := [.long x1.toInt64, .long 0, .long 1000000000]) rfl rfl (Nat.le_of_ble_eq_true rfl) (Nat.le_of_ble_eq_true rfl) (Nat.le_of_ble_eq_true rfl) (Nat.le_of_ble_eq_true rfl) ?_
    refine mj_if_ne 21 dX13_clock_16 (by decide) (fun z => t_negK hk z (fun hk => ?_)) (fun z => t_posK hk z (fun hk => ?_))
    · refine mj_aload_n dX13_clock_21 0 rfl ?_
      refine t_getJ dX13_clock_22 F_X13_920 qf_950_148 ?_
      refine mj_iload_n dX13_clock_25 1 rfl ?_
      refine mj_i2l (v := x1.toInt64) dX13_clock_26 rfl ?_
      refine mj_ladd dX13_clock_27 ?_
      refine mj_ldc2 dX13_clock_28 K_X13_1485 ?_
      refine mj_lcmp dX13_clock_31 ?_
      refine mj_if_le 37 dX13_clock_32 (by decide) (fun z => t_posK hk z (fun hk => ?_)) (fun z => t_negK hk z (fun hk => ?_))
      · refine mj_aload_n dX13_clock_37 0 rfl ?_
        refine mj_aload_n dX13_clock_38 0 rfl ?_
        refine t_getJ dX13_clock_39 F_X13_920 qf_950_148 ?_
        refine mj_iload_n dX13_clock_42 1 rfl ?_
        refine mj_i2l (v := x1.toInt64) dX13_clock_43 rfl ?_
        refine mj_ladd dX13_clock_44 ?_
        refine t_putJK dX13_clock_45 F_X13_920 qf_950_148 rfl (fun s1 ws1 => t_letE hk ws1 (fun hk => ?_))
        refine mj_iconst (v := 1) dX13_clock_48 (by decide) ?_
        exact t_somK hk (fun hf => t_iret dX13_clock_49 rfl rfl ⟨_, rfl, hf⟩ (Nat.le_of_ble_eq_true rfl) (Nat.le_of_ble_eq_true rfl))
      · refine mj_iconst (v := 0) dX13_clock_35 (by decide) ?_
        exact t_somK hk (fun hf => t_iret dX13_clock_36 rfl rfl ⟨_, rfl, hf⟩ (Nat.le_of_ble_eq_true rfl) (Nat.le_of_ble_eq_true rfl))
    · refine mj_iconst (v := (-1)) dX13_clock_19 (by decide) ?_
      exact t_somK hk (fun hf => t_iret dX13_clock_20 rfl rfl ⟨_, rfl, hf⟩ (Nat.le_of_ble_eq_true rfl) (Nat.le_of_ble_eq_true rfl))

theorem dX13_greatestOf_0 : decode cX13_greatestOf 0 = .ok (.aload_n 0, 1) := by decide +kernel
theorem dX13_greatestOf_1 : decode cX13_greatestOf 1 = .ok (.getfield 36, 3) := by decide +kernel
theorem dX13_greatestOf_10 : decode cX13_greatestOf 10 = .ok (.laload, 1) := by decide +kernel
theorem dX13_greatestOf_11 : decode cX13_greatestOf 11 = .ok (.lstore_n 2, 1) := by decide +kernel
theorem dX13_greatestOf_12 : decode cX13_greatestOf 12 = .ok (.aload_n 0, 1) := by decide +kernel
theorem dX13_greatestOf_13 : decode cX13_greatestOf 13 = .ok (.getfield 39, 3) := by decide +kernel
theorem dX13_greatestOf_16 : decode cX13_greatestOf 16 = .ok (.iload_n 1, 1) := by decide +kernel
theorem dX13_greatestOf_17 : decode cX13_greatestOf 17 = .ok (.iaload, 1) := by decide +kernel
theorem dX13_greatestOf_18 : decode cX13_greatestOf 18 = .ok (.istore 4, 2) := by decide +kernel
theorem dX13_greatestOf_20 : decode cX13_greatestOf 20 = .ok (.iload 4, 2) := by decide +kernel
theorem dX13_greatestOf_22 : decode cX13_greatestOf 22 = .ok (.ifCond .lt 39, 3) := by decide +kernel
theorem dX13_greatestOf_25 : decode cX13_greatestOf 25 = .ok (.aload_n 0, 1) := by decide +kernel
theorem dX13_greatestOf_26 : decode cX13_greatestOf 26 = .ok (.getfield 36, 3) := by decide +kernel
theorem dX13_greatestOf_29 : decode cX13_greatestOf 29 = .ok (.iload 4, 2) := by decide +kernel
theorem dX13_greatestOf_31 : decode cX13_greatestOf 31 = .ok (.laload, 1) := by decide +kernel
theorem dX13_greatestOf_32 : decode cX13_greatestOf 32 = .ok (.lload_n 2, 1) := by decide +kernel
theorem dX13_greatestOf_33 : decode cX13_greatestOf 33 = .ok (.lcmp, 1) := by decide +kernel
theorem dX13_greatestOf_34 : decode cX13_greatestOf 34 = .ok (.ifCond .le 13, 3) := by decide +kernel
theorem dX13_greatestOf_37 : decode cX13_greatestOf 37 = .ok (.aload_n 0, 1) := by decide +kernel
theorem dX13_greatestOf_38 : decode cX13_greatestOf 38 = .ok (.getfield 36, 3) := by decide +kernel
theorem dX13_greatestOf_4 : decode cX13_greatestOf 4 = .ok (.aload_n 0, 1) := by decide +kernel
theorem dX13_greatestOf_41 : decode cX13_greatestOf 41 = .ok (.iload 4, 2) := by decide +kernel
theorem dX13_greatestOf_43 : decode cX13_greatestOf 43 = .ok (.laload, 1) := by decide +kernel
theorem dX13_greatestOf_44 : decode cX13_greatestOf 44 = .ok (.goto 4, 3) := by decide +kernel
theorem dX13_greatestOf_47 : decode cX13_greatestOf 47 = .ok (.lload_n 2, 1) := by decide +kernel
theorem dX13_greatestOf_48 : decode cX13_greatestOf 48 = .ok (.lstore_n 2, 1) := by decide +kernel
theorem dX13_greatestOf_49 : decode cX13_greatestOf 49 = .ok (.aload_n 0, 1) := by decide +kernel
theorem dX13_greatestOf_5 : decode cX13_greatestOf 5 = .ok (.getfield 39, 3) := by decide +kernel
theorem dX13_greatestOf_50 : decode cX13_greatestOf 50 = .ok (.getfield 42, 3) := by decide +kernel
theorem dX13_greatestOf_53 : decode cX13_greatestOf 53 = .ok (.iload 4, 2) := by decide +kernel
theorem dX13_greatestOf_55 : decode cX13_greatestOf 55 = .ok (.iaload, 1) := by decide +kernel
theorem dX13_greatestOf_56 : decode cX13_greatestOf 56 = .ok (.istore 4, 2) := by decide +kernel
theorem dX13_greatestOf_58 : decode cX13_greatestOf 58 = .ok (.goto (-38), 3) := by decide +kernel
theorem dX13_greatestOf_61 : decode cX13_greatestOf 61 = .ok (.lload_n 2, 1) := by decide +kernel
theorem dX13_greatestOf_62 : decode cX13_greatestOf 62 = .ok (.lreturn, 1) := by decide +kernel
theorem dX13_greatestOf_8 : decode cX13_greatestOf 8 = .ok (.iload_n 1, 1) := by decide +kernel
theorem dX13_greatestOf_9 : decode cX13_greatestOf 9 = .ok (.iaload, 1) := by decide +kernel
noncomputable def k_X13_greatestOf_48 (l4 : Int32) (k0 : Int64) (s : t_S) : Option ((Int64 × Int32) ⊕ (Int64)) :=
 if t_ix l4 13000 = true then
  some (.inl (k0, (s.1 960 (l4.toNatClampNeg))))
else none
set_option maxRecDepth 4000 in
set_option maxHeartbeats 1000000 in
theorem B_X13_greatestOf_48 {D : va_G} {cy : Nat → ClassId} {ad : Nat → Nat} {bs : Nat} {X : State → Heap → Prop} (l4 : Int32) (k0 : Int64) (s : t_S) (Q : (Int64 × Int32) ⊕ (Int64) → Prop) (Hb20 : ∀ (y0 : Int64) (y1 : Int32), Q (.inl (y0, y1)) → mj_G D cy ad bs X cX13_greatestOf 5 yX13_greatestOf.cls (some .long) yX13_greatestOf.name 0 0 0 1065 (t_P (fun v s' => s' = s ∧ ∃ x, v = some (.long x) ∧ Q (.inr (x)))) 20 [(0, .ref 950), (2, .long (y0)), (4, .int (y1))] [] (t_m s) 1065 0 0) (hk : t_hk (k_X13_greatestOf_48 l4 k0 s) Q) : mj_G D cy ad bs X cX13_greatestOf 5 yX13_greatestOf.cls (some .long) yX13_greatestOf.name 0 0 0 1065 (t_P (fun v s' => s' = s ∧ ∃ x, v = some (.long x) ∧ Q (.inr (x)))) 48 [(0, .ref 950), (4, .int l4)] [.long k0] (t_m s) 1065 0 0 := by
  refine mj_lstore_n 2 (lv2 := [(2, .long k0), (0, .ref 950), (4, .int l4)]) dX13_greatestOf_48 rfl (by decide) rfl ?_
  refine mj_aload_n dX13_greatestOf_49 1 rfl ?_
  refine t_getR 960 dX13_greatestOf_50 F_X13_42 qr_950_22 ?_
  refine mj_iload dX13_greatestOf_53 2 rfl ?_
  refine t_chkK hk (fun c0 hk => ?_)
  refine t_iald dX13_greatestOf_55 qa_960 (t_ixv c0) ?_
  refine mj_istore (lv2 := [(4, .int (s.1 960 (l4.toNatClampNeg))), (2, .long k0), (0, .ref 950)]) dX13_greatestOf_56 (by decide) rfl ?_
  refine mj_goto 20 dX13_greatestOf_58 (by decide) ?_
  refine mj_sublv [(0, .ref 950), (2, .long k0), (4, .int (s.1 960 (l4.toNatClampNeg)))] [2, 1, 0] rfl ?_
  exact t_somK hk (fun hf => Hb20 k0 (s.1 960 (l4.toNatClampNeg)) hf)
noncomputable def k_X13_greatestOf_20 (l2 : Int64) (l4 : Int32) (s : t_S) : Option ((Int64 × Int32) ⊕ (Int64)) :=
 if l4 < (0 : Int32) then ((some (l2)).map Sum.inr)
 else (if t_ix l4 13000 = true then
  if (lg_cmp (s.2.1 958 (l4.toNatClampNeg)) l2) ≤ (0 : Int32) then (k_X13_greatestOf_48 l4 l2 s)
 else (k_X13_greatestOf_48 l4 (s.2.1 958 (l4.toNatClampNeg)) s)
else none)
set_option maxRecDepth 4000 in
set_option maxHeartbeats 1000000 in
theorem B_X13_greatestOf_20 {D : va_G} {cy : Nat → ClassId} {ad : Nat → Nat} {bs : Nat} {X : State → Heap → Prop} (l2 : Int64) (l4 : Int32) (s : t_S) (Q : (Int64 × Int32) ⊕ (Int64) → Prop) (Hb20 : ∀ (y0 : Int64) (y1 : Int32), Q (.inl (y0, y1)) → mj_G D cy ad bs X cX13_greatestOf 5 yX13_greatestOf.cls (some .long) yX13_greatestOf.name 0 0 0 1065 (t_P (fun v s' => s' = s ∧ ∃ x, v = some (.long x) ∧ Q (.inr (x)))) 20 [(0, .ref 950), (2, .long (y0)), (4, .int (y1))] [] (t_m s) 1065 0 0) (hk : t_hk (k_X13_greatestOf_20 l2 l4 s) Q) : mj_G D cy ad bs X cX13_greatestOf 5 yX13_greatestOf.cls (some .long) yX13_greatestOf.name 0 0 0 1065 (t_P (fun v s' => s' = s ∧ ∃ x, v = some (.long x) ∧ Q (.inr (x)))) 20 [(0, .ref 950), (2, .long l2), (4, .int l4)] [] (t_m s) 1065 0 0 := by
  refine mj_iload dX13_greatestOf_20 2 rfl ?_
  refine mj_if_lt 61 dX13_greatestOf_22 (by decide) (fun z => t_posK hk z (fun hk => ?_)) (fun z => t_negK hk z (fun hk => ?_))
  · refine t_mapK hk (fun hk => ?_)
    refine mj_lload_n dX13_greatestOf_61 1 rfl ?_
    exact t_somK hk (fun hf => t_lret dX13_greatestOf_62 rfl ⟨rfl, _, rfl, hf⟩ (Nat.le_of_ble_eq_true rfl) (Nat.le_of_ble_eq_true rfl))
  · refine mj_aload_n dX13_greatestOf_25 0 rfl ?_
    refine t_getR 958 dX13_greatestOf_26 F_X13_36 qr_950_20 ?_
    refine mj_iload dX13_greatestOf_29 2 rfl ?_
    refine t_chkK hk (fun c0 hk => ?_)
    refine t_lald dX13_greatestOf_31 qa_958 (t_ixv c0) ?_
    refine mj_lload_n dX13_greatestOf_32 1 rfl ?_
    refine mj_lcmp dX13_greatestOf_33 ?_
    refine mj_if_le 47 dX13_greatestOf_34 (by decide) (fun z => t_posK hk z (fun hk => ?_)) (fun z => t_negK hk z (fun hk => ?_))
    · refine mj_lload_n dX13_greatestOf_47 1 rfl ?_
      refine mj_sublv [(0, .ref 950), (4, .int l4)] [0, 2] rfl ?_
      exact B_X13_greatestOf_48 _ _ _ _ (fun y0 y1 hx => Hb20 y0 y1 hx) hk
    · refine mj_aload_n dX13_greatestOf_37 0 rfl ?_
      refine t_getR 958 dX13_greatestOf_38 F_X13_36 qr_950_20 ?_
      refine mj_iload dX13_greatestOf_41 2 rfl ?_
      refine t_lald dX13_greatestOf_43 qa_958 (t_ixv c0) ?_
      refine mj_goto 48 dX13_greatestOf_44 (by decide) ?_
      refine mj_sublv [(0, .ref 950), (4, .int l4)] [0, 2] rfl ?_
      exact B_X13_greatestOf_48 _ _ _ _ (fun y0 y1 hx => Hb20 y0 y1 hx) hk
noncomputable def b_X13_greatestOf_20 (s : t_S) (x : Int64 × Int32) : Option ((Int64 × Int32) ⊕ (Int64)) := k_X13_greatestOf_20 x.1 x.2 s
set_option maxRecDepth 4000 in
set_option maxHeartbeats 1000000 in
theorem LH_X13_greatestOf_20 {D : va_G} {cy : Nat → ClassId} {ad : Nat → Nat} {bs : Nat} {X : State → Heap → Prop} (s : t_S) : ∀ (n : Nat) (y0 : Int64) (y1 : Int32) (Q : Int64 → Prop) (hk : t_hk (t_loop (b_X13_greatestOf_20 s) n (y0, y1)) Q), mj_G D cy ad bs X cX13_greatestOf 5 yX13_greatestOf.cls (some .long) yX13_greatestOf.name 0 0 0 1065 (t_P (fun v s' => s' = s ∧ ∃ x, v = some (.long x) ∧ Q (x))) 20 [(0, .ref 950), (2, .long (y0)), (4, .int (y1))] [] (t_m s) 1065 0 0 := by
  intro n
  induction n with
  | zero => intro y0 y1 Q hk; obtain ⟨r, hr, _⟩ := hk; cases hr
  | succ n ih =>
    intro y0 y1 Q hk
    exact B_X13_greatestOf_20 y0 y1 s (fun y => t_lq (b_X13_greatestOf_20 s) n Q y) (fun y0' y1' hy => ih y0' y1' Q hy) (t_lp (b := b_X13_greatestOf_20 s) (n := n) (x := (y0, y1)) hk)
noncomputable def f_X13_greatestOf (x1 : Int32) (s : t_S) : Option (Int64) :=
 if t_ix x1 13000 = true then
  if t_ix (s.1 959 (x1.toNatClampNeg)) 13000 = true then
  t_loop (b_X13_greatestOf_20 s) t_N ((s.2.1 958 ((s.1 959 (x1.toNatClampNeg)).toNatClampNeg)), (s.1 959 (x1.toNatClampNeg)))
else none
else none
set_option maxRecDepth 4000 in
set_option maxHeartbeats 1000000 in
theorem C_X13_greatestOf (x1 : Int32) (s : t_S) (r : Int64) (hr : f_X13_greatestOf x1 s = some r) : t_C yX13_greatestOf cX13_greatestOf 5 (some .long) 0 [.ref 950, .int x1] s (fun v s' => v = some (.long r) ∧ s' = s) := by
  refine t_C.imp (P := fun v s' => s' = s ∧ ∃ x, v = some (.long x) ∧ (fun q => q = r) (x)) (t_C.of (by decide +kernel) (Nat.le_of_ble_eq_true rfl) ?_) (fun v s' hp => by obtain ⟨rfl, x, rfl, rfl⟩ := hp; exact ⟨rfl, rfl⟩)
  intro D cy ad bs X
  have hk : t_hk (f_X13_greatestOf x1 s) (fun q => q = r) := ⟨r, hr, rfl⟩
  show mj_G D cy ad bs X cX13_greatestOf 5 yX13_greatestOf.cls (some .long) yX13_greatestOf.name 0 0 0 1065 (t_P (fun v s' => s' = s ∧ ∃ x, v = some (.long x) ∧ (fun q => q = r) (x))) 0 [(0, .ref 950), (1, .int x1)] [] (t_m s) 1065 0 0
  refine mj_aload_n dX13_greatestOf_0 0 rfl ?_
  refine t_getR 958 dX13_greatestOf_1 F_X13_36 qr_950_20 ?_
  refine mj_aload_n dX13_greatestOf_4 0 rfl ?_
  refine t_getR 959 dX13_greatestOf_5 F_X13_39 qr_950_21 ?_
  refine mj_iload_n dX13_greatestOf_8 1 rfl ?_
  refine t_chkK hk (fun c0 hk => ?_)
  refine t_iald dX13_greatestOf_9 qa_959 (t_ixv c0) ?_
  refine t_chkK hk (fun c1 hk => ?_)
  refine t_lald dX13_greatestOf_10 qa_958 (t_ixv c1) ?_
  refine mj_lstore_n 2 (lv2 := [(2, .long (s.2.1 958 ((s.1 959 (x1.toNatClampNeg)).toNatClampNeg))), (0, .ref 950), (1, .int x1)]) dX13_greatestOf_11 rfl (by decide) rfl ?_
  refine mj_aload_n dX13_greatestOf_12 1 rfl ?_
  refine t_getR 959 dX13_greatestOf_13 F_X13_39 qr_950_21 ?_
  refine mj_iload_n dX13_greatestOf_16 2 rfl ?_
  refine t_iald dX13_greatestOf_17 qa_959 (t_ixv c0) ?_
  refine mj_istore (lv2 := [(4, .int (s.1 959 (x1.toNatClampNeg))), (2, .long (s.2.1 958 ((s.1 959 (x1.toNatClampNeg)).toNatClampNeg))), (0, .ref 950), (1, .int x1)]) dX13_greatestOf_18 (by decide) rfl ?_
  refine mj_sublv [(0, .ref 950), (2, .long (s.2.1 958 ((s.1 959 (x1.toNatClampNeg)).toNatClampNeg))), (4, .int (s.1 959 (x1.toNatClampNeg)))] [2, 1, 0] rfl ?_
  exact LH_X13_greatestOf_20 _ _ (s.2.1 958 ((s.1 959 (x1.toNatClampNeg)).toNatClampNeg)) (s.1 959 (x1.toNatClampNeg)) _ hk

theorem dX13_leastOf_0 : decode cX13_leastOf 0 = .ok (.aload_n 0, 1) := by decide +kernel
theorem dX13_leastOf_1 : decode cX13_leastOf 1 = .ok (.getfield 32, 3) := by decide +kernel
theorem dX13_leastOf_10 : decode cX13_leastOf 10 = .ok (.laload, 1) := by decide +kernel
theorem dX13_leastOf_11 : decode cX13_leastOf 11 = .ok (.lstore_n 2, 1) := by decide +kernel
theorem dX13_leastOf_12 : decode cX13_leastOf 12 = .ok (.aload_n 0, 1) := by decide +kernel
theorem dX13_leastOf_13 : decode cX13_leastOf 13 = .ok (.getfield 39, 3) := by decide +kernel
theorem dX13_leastOf_16 : decode cX13_leastOf 16 = .ok (.iload_n 1, 1) := by decide +kernel
theorem dX13_leastOf_17 : decode cX13_leastOf 17 = .ok (.iaload, 1) := by decide +kernel
theorem dX13_leastOf_18 : decode cX13_leastOf 18 = .ok (.istore 4, 2) := by decide +kernel
theorem dX13_leastOf_20 : decode cX13_leastOf 20 = .ok (.iload 4, 2) := by decide +kernel
theorem dX13_leastOf_22 : decode cX13_leastOf 22 = .ok (.ifCond .lt 39, 3) := by decide +kernel
theorem dX13_leastOf_25 : decode cX13_leastOf 25 = .ok (.aload_n 0, 1) := by decide +kernel
theorem dX13_leastOf_26 : decode cX13_leastOf 26 = .ok (.getfield 32, 3) := by decide +kernel
theorem dX13_leastOf_29 : decode cX13_leastOf 29 = .ok (.iload 4, 2) := by decide +kernel
theorem dX13_leastOf_31 : decode cX13_leastOf 31 = .ok (.laload, 1) := by decide +kernel
theorem dX13_leastOf_32 : decode cX13_leastOf 32 = .ok (.lload_n 2, 1) := by decide +kernel
theorem dX13_leastOf_33 : decode cX13_leastOf 33 = .ok (.lcmp, 1) := by decide +kernel
theorem dX13_leastOf_34 : decode cX13_leastOf 34 = .ok (.ifCond .ge 13, 3) := by decide +kernel
theorem dX13_leastOf_37 : decode cX13_leastOf 37 = .ok (.aload_n 0, 1) := by decide +kernel
theorem dX13_leastOf_38 : decode cX13_leastOf 38 = .ok (.getfield 32, 3) := by decide +kernel
theorem dX13_leastOf_4 : decode cX13_leastOf 4 = .ok (.aload_n 0, 1) := by decide +kernel
theorem dX13_leastOf_41 : decode cX13_leastOf 41 = .ok (.iload 4, 2) := by decide +kernel
theorem dX13_leastOf_43 : decode cX13_leastOf 43 = .ok (.laload, 1) := by decide +kernel
theorem dX13_leastOf_44 : decode cX13_leastOf 44 = .ok (.goto 4, 3) := by decide +kernel
theorem dX13_leastOf_47 : decode cX13_leastOf 47 = .ok (.lload_n 2, 1) := by decide +kernel
theorem dX13_leastOf_48 : decode cX13_leastOf 48 = .ok (.lstore_n 2, 1) := by decide +kernel
theorem dX13_leastOf_49 : decode cX13_leastOf 49 = .ok (.aload_n 0, 1) := by decide +kernel
theorem dX13_leastOf_5 : decode cX13_leastOf 5 = .ok (.getfield 39, 3) := by decide +kernel
theorem dX13_leastOf_50 : decode cX13_leastOf 50 = .ok (.getfield 42, 3) := by decide +kernel
theorem dX13_leastOf_53 : decode cX13_leastOf 53 = .ok (.iload 4, 2) := by decide +kernel
theorem dX13_leastOf_55 : decode cX13_leastOf 55 = .ok (.iaload, 1) := by decide +kernel
theorem dX13_leastOf_56 : decode cX13_leastOf 56 = .ok (.istore 4, 2) := by decide +kernel
theorem dX13_leastOf_58 : decode cX13_leastOf 58 = .ok (.goto (-38), 3) := by decide +kernel
theorem dX13_leastOf_61 : decode cX13_leastOf 61 = .ok (.lload_n 2, 1) := by decide +kernel
theorem dX13_leastOf_62 : decode cX13_leastOf 62 = .ok (.lreturn, 1) := by decide +kernel
theorem dX13_leastOf_8 : decode cX13_leastOf 8 = .ok (.iload_n 1, 1) := by decide +kernel
theorem dX13_leastOf_9 : decode cX13_leastOf 9 = .ok (.iaload, 1) := by decide +kernel
noncomputable def k_X13_leastOf_48 (l4 : Int32) (k0 : Int64) (s : t_S) : Option ((Int64 × Int32) ⊕ (Int64)) :=
 if t_ix l4 13000 = true then
  some (.inl (k0, (s.1 960 (l4.toNatClampNeg))))
else none
set_option maxRecDepth 4000 in
set_option maxHeartbeats 1000000 in
theorem B_X13_leastOf_48 {D : va_G} {cy : Nat → ClassId} {ad : Nat → Nat} {bs : Nat} {X : State → Heap → Prop} (l4 : Int32) (k0 : Int64) (s : t_S) (Q : (Int64 × Int32) ⊕ (Int64) → Prop) (Hb20 : ∀ (y0 : Int64) (y1 : Int32), Q (.inl (y0, y1)) → mj_G D cy ad bs X cX13_leastOf 5 yX13_leastOf.cls (some .long) yX13_leastOf.name 0 0 0 1065 (t_P (fun v s' => s' = s ∧ ∃ x, v = some (.long x) ∧ Q (.inr (x)))) 20 [(0, .ref 950), (2, .long (y0)), (4, .int (y1))] [] (t_m s) 1065 0 0) (hk : t_hk (k_X13_leastOf_48 l4 k0 s) Q) : mj_G D cy ad bs X cX13_leastOf 5 yX13_leastOf.cls (some .long) yX13_leastOf.name 0 0 0 1065 (t_P (fun v s' => s' = s ∧ ∃ x, v = some (.long x) ∧ Q (.inr (x)))) 48 [(0, .ref 950), (4, .int l4)] [.long k0] (t_m s) 1065 0 0 := by
  refine mj_lstore_n 2 (lv2 := [(2, .long k0), (0, .ref 950), (4, .int l4)]) dX13_leastOf_48 rfl (by decide) rfl ?_
  refine mj_aload_n dX13_leastOf_49 1 rfl ?_
  refine t_getR 960 dX13_leastOf_50 F_X13_42 qr_950_22 ?_
  refine mj_iload dX13_leastOf_53 2 rfl ?_
  refine t_chkK hk (fun c0 hk => ?_)
  refine t_iald dX13_leastOf_55 qa_960 (t_ixv c0) ?_
  refine mj_istore (lv2 := [(4, .int (s.1 960 (l4.toNatClampNeg))), (2, .long k0), (0, .ref 950)]) dX13_leastOf_56 (by decide) rfl ?_
  refine mj_goto 20 dX13_leastOf_58 (by decide) ?_
  refine mj_sublv [(0, .ref 950), (2, .long k0), (4, .int (s.1 960 (l4.toNatClampNeg)))] [2, 1, 0] rfl ?_
  exact t_somK hk (fun hf => Hb20 k0 (s.1 960 (l4.toNatClampNeg)) hf)
noncomputable def k_X13_leastOf_20 (l2 : Int64) (l4 : Int32) (s : t_S) : Option ((Int64 × Int32) ⊕ (Int64)) :=
 if l4 < (0 : Int32) then ((some (l2)).map Sum.inr)
 else (if t_ix l4 13000 = true then
  if (0 : Int32) ≤ (lg_cmp (s.2.1 957 (l4.toNatClampNeg)) l2) then (k_X13_leastOf_48 l4 l2 s)
 else (k_X13_leastOf_48 l4 (s.2.1 957 (l4.toNatClampNeg)) s)
else none)
set_option maxRecDepth 4000 in
set_option maxHeartbeats 1000000 in
theorem B_X13_leastOf_20 {D : va_G} {cy : Nat → ClassId} {ad : Nat → Nat} {bs : Nat} {X : State → Heap → Prop} (l2 : Int64) (l4 : Int32) (s : t_S) (Q : (Int64 × Int32) ⊕ (Int64) → Prop) (Hb20 : ∀ (y0 : Int64) (y1 : Int32), Q (.inl (y0, y1)) → mj_G D cy ad bs X cX13_leastOf 5 yX13_leastOf.cls (some .long) yX13_leastOf.name 0 0 0 1065 (t_P (fun v s' => s' = s ∧ ∃ x, v = some (.long x) ∧ Q (.inr (x)))) 20 [(0, .ref 950), (2, .long (y0)), (4, .int (y1))] [] (t_m s) 1065 0 0) (hk : t_hk (k_X13_leastOf_20 l2 l4 s) Q) : mj_G D cy ad bs X cX13_leastOf 5 yX13_leastOf.cls (some .long) yX13_leastOf.name 0 0 0 1065 (t_P (fun v s' => s' = s ∧ ∃ x, v = some (.long x) ∧ Q (.inr (x)))) 20 [(0, .ref 950), (2, .long l2), (4, .int l4)] [] (t_m s) 1065 0 0 := by
  refine mj_iload dX13_leastOf_20 2 rfl ?_
  refine mj_if_lt 61 dX13_leastOf_22 (by decide) (fun z => t_posK hk z (fun hk => ?_)) (fun z => t_negK hk z (fun hk => ?_))
  · refine t_mapK hk (fun hk => ?_)
    refine mj_lload_n dX13_leastOf_61 1 rfl ?_
    exact t_somK hk (fun hf => t_lret dX13_leastOf_62 rfl ⟨rfl, _, rfl, hf⟩ (Nat.le_of_ble_eq_true rfl) (Nat.le_of_ble_eq_true rfl))
  · refine mj_aload_n dX13_leastOf_25 0 rfl ?_
    refine t_getR 957 dX13_leastOf_26 F_X13_32 qr_950_19 ?_
    refine mj_iload dX13_leastOf_29 2 rfl ?_
    refine t_chkK hk (fun c0 hk => ?_)
    refine t_lald dX13_leastOf_31 qa_957 (t_ixv c0) ?_
    refine mj_lload_n dX13_leastOf_32 1 rfl ?_
    refine mj_lcmp dX13_leastOf_33 ?_
    refine mj_if_ge 47 dX13_leastOf_34 (by decide) (fun z => t_posK hk z (fun hk => ?_)) (fun z => t_negK hk z (fun hk => ?_))
    · refine mj_lload_n dX13_leastOf_47 1 rfl ?_
      refine mj_sublv [(0, .ref 950), (4, .int l4)] [0, 2] rfl ?_
      exact B_X13_leastOf_48 _ _ _ _ (fun y0 y1 hx => Hb20 y0 y1 hx) hk
    · refine mj_aload_n dX13_leastOf_37 0 rfl ?_
      refine t_getR 957 dX13_leastOf_38 F_X13_32 qr_950_19 ?_
      refine mj_iload dX13_leastOf_41 2 rfl ?_
      refine t_lald dX13_leastOf_43 qa_957 (t_ixv c0) ?_
      refine mj_goto 48 dX13_leastOf_44 (by decide) ?_
      refine mj_sublv [(0, .ref 950), (4, .int l4)] [0, 2] rfl ?_
      exact B_X13_leastOf_48 _ _ _ _ (fun y0 y1 hx => Hb20 y0 y1 hx) hk
noncomputable def b_X13_leastOf_20 (s : t_S) (x : Int64 × Int32) : Option ((Int64 × Int32) ⊕ (Int64)) := k_X13_leastOf_20 x.1 x.2 s
set_option maxRecDepth 4000 in
set_option maxHeartbeats 1000000 in
theorem LH_X13_leastOf_20 {D : va_G} {cy : Nat → ClassId} {ad : Nat → Nat} {bs : Nat} {X : State → Heap → Prop} (s : t_S) : ∀ (n : Nat) (y0 : Int64) (y1 : Int32) (Q : Int64 → Prop) (hk : t_hk (t_loop (b_X13_leastOf_20 s) n (y0, y1)) Q), mj_G D cy ad bs X cX13_leastOf 5 yX13_leastOf.cls (some .long) yX13_leastOf.name 0 0 0 1065 (t_P (fun v s' => s' = s ∧ ∃ x, v = some (.long x) ∧ Q (x))) 20 [(0, .ref 950), (2, .long (y0)), (4, .int (y1))] [] (t_m s) 1065 0 0 := by
  intro n
  induction n with
  | zero => intro y0 y1 Q hk; obtain ⟨r, hr, _⟩ := hk; cases hr
  | succ n ih =>
    intro y0 y1 Q hk
    exact B_X13_leastOf_20 y0 y1 s (fun y => t_lq (b_X13_leastOf_20 s) n Q y) (fun y0' y1' hy => ih y0' y1' Q hy) (t_lp (b := b_X13_leastOf_20 s) (n := n) (x := (y0, y1)) hk)
noncomputable def f_X13_leastOf (x1 : Int32) (s : t_S) : Option (Int64) :=
 if t_ix x1 13000 = true then
  if t_ix (s.1 959 (x1.toNatClampNeg)) 13000 = true then
  t_loop (b_X13_leastOf_20 s) t_N ((s.2.1 957 ((s.1 959 (x1.toNatClampNeg)).toNatClampNeg)), (s.1 959 (x1.toNatClampNeg)))
else none
else none
set_option maxRecDepth 4000 in
set_option maxHeartbeats 1000000 in
theorem C_X13_leastOf (x1 : Int32) (s : t_S) (r : Int64) (hr : f_X13_leastOf x1 s = some r) : t_C yX13_leastOf cX13_leastOf 5 (some .long) 0 [.ref 950, .int x1] s (fun v s' => v = some (.long r) ∧ s' = s) := by
  refine t_C.imp (P := fun v s' => s' = s ∧ ∃ x, v = some (.long x) ∧ (fun q => q = r) (x)) (t_C.of (by decide +kernel) (Nat.le_of_ble_eq_true rfl) ?_) (fun v s' hp => by obtain ⟨rfl, x, rfl, rfl⟩ := hp; exact ⟨rfl, rfl⟩)
  intro D cy ad bs X
  have hk : t_hk (f_X13_leastOf x1 s) (fun q => q = r) := ⟨r, hr, rfl⟩
  show mj_G D cy ad bs X cX13_leastOf 5 yX13_leastOf.cls (some .long) yX13_leastOf.name 0 0 0 1065 (t_P (fun v s' => s' = s ∧ ∃ x, v = some (.long x) ∧ (fun q => q = r) (x))) 0 [(0, .ref 950), (1, .int x1)] [] (t_m s) 1065 0 0
  refine mj_aload_n dX13_leastOf_0 0 rfl ?_
  refine t_getR 957 dX13_leastOf_1 F_X13_32 qr_950_19 ?_
  refine mj_aload_n dX13_leastOf_4 0 rfl ?_
  refine t_getR 959 dX13_leastOf_5 F_X13_39 qr_950_21 ?_
  refine mj_iload_n dX13_leastOf_8 1 rfl ?_
  refine t_chkK hk (fun c0 hk => ?_)
  refine t_iald dX13_leastOf_9 qa_959 (t_ixv c0) ?_
  refine t_chkK hk (fun c1 hk => ?_)
  refine t_lald dX13_leastOf_10 qa_957 (t_ixv c1) ?_
  refine mj_lstore_n 2 (lv2 := [(2, .long (s.2.1 957 ((s.1 959 (x1.toNatClampNeg)).toNatClampNeg))), (0, .ref 950), (1, .int x1)]) dX13_leastOf_11 rfl (by decide) rfl ?_
  refine mj_aload_n dX13_leastOf_12 1 rfl ?_
  refine t_getR 959 dX13_leastOf_13 F_X13_39 qr_950_21 ?_
  refine mj_iload_n dX13_leastOf_16 2 rfl ?_
  refine t_iald dX13_leastOf_17 qa_959 (t_ixv c0) ?_
  refine mj_istore (lv2 := [(4, .int (s.1 959 (x1.toNatClampNeg))), (2, .long (s.2.1 957 ((s.1 959 (x1.toNatClampNeg)).toNatClampNeg))), (0, .ref 950), (1, .int x1)]) dX13_leastOf_18 (by decide) rfl ?_
  refine mj_sublv [(0, .ref 950), (2, .long (s.2.1 957 ((s.1 959 (x1.toNatClampNeg)).toNatClampNeg))), (4, .int (s.1 959 (x1.toNatClampNeg)))] [2, 1, 0] rfl ?_
  exact LH_X13_leastOf_20 _ _ (s.2.1 957 ((s.1 959 (x1.toNatClampNeg)).toNatClampNeg)) (s.1 959 (x1.toNatClampNeg)) _ hk

theorem dX13_whichPart_0 : decode cX13_whichPart 0 = .ok (.iconst 0, 1) := by decide +kernel
theorem dX13_whichPart_1 : decode cX13_whichPart 1 = .ok (.istore 4, 2) := by decide +kernel
theorem dX13_whichPart_11 : decode cX13_whichPart 11 = .ok (.aload_n 0, 1) := by decide +kernel
theorem dX13_whichPart_12 : decode cX13_whichPart 12 = .ok (.getfield 32, 3) := by decide +kernel
theorem dX13_whichPart_15 : decode cX13_whichPart 15 = .ok (.iload 5, 2) := by decide +kernel
theorem dX13_whichPart_17 : decode cX13_whichPart 17 = .ok (.laload, 1) := by decide +kernel
theorem dX13_whichPart_18 : decode cX13_whichPart 18 = .ok (.lload_n 2, 1) := by decide +kernel
theorem dX13_whichPart_19 : decode cX13_whichPart 19 = .ok (.lcmp, 1) := by decide +kernel
theorem dX13_whichPart_20 : decode cX13_whichPart 20 = .ok (.ifCond .eq 18, 3) := by decide +kernel
theorem dX13_whichPart_23 : decode cX13_whichPart 23 = .ok (.iinc 4 1, 3) := by decide +kernel
theorem dX13_whichPart_26 : decode cX13_whichPart 26 = .ok (.aload_n 0, 1) := by decide +kernel
theorem dX13_whichPart_27 : decode cX13_whichPart 27 = .ok (.getfield 42, 3) := by decide +kernel
theorem dX13_whichPart_3 : decode cX13_whichPart 3 = .ok (.aload_n 0, 1) := by decide +kernel
theorem dX13_whichPart_30 : decode cX13_whichPart 30 = .ok (.iload 5, 2) := by decide +kernel
theorem dX13_whichPart_32 : decode cX13_whichPart 32 = .ok (.iaload, 1) := by decide +kernel
theorem dX13_whichPart_33 : decode cX13_whichPart 33 = .ok (.istore 5, 2) := by decide +kernel
theorem dX13_whichPart_35 : decode cX13_whichPart 35 = .ok (.goto (-24), 3) := by decide +kernel
theorem dX13_whichPart_38 : decode cX13_whichPart 38 = .ok (.iload 4, 2) := by decide +kernel
theorem dX13_whichPart_4 : decode cX13_whichPart 4 = .ok (.getfield 39, 3) := by decide +kernel
theorem dX13_whichPart_40 : decode cX13_whichPart 40 = .ok (.ireturn, 1) := by decide +kernel
theorem dX13_whichPart_7 : decode cX13_whichPart 7 = .ok (.iload_n 1, 1) := by decide +kernel
theorem dX13_whichPart_8 : decode cX13_whichPart 8 = .ok (.iaload, 1) := by decide +kernel
theorem dX13_whichPart_9 : decode cX13_whichPart 9 = .ok (.istore 5, 2) := by decide +kernel
noncomputable def k_X13_whichPart_11 (l2 : Int64) (l4 : Int32) (l5 : Int32) (s : t_S) : Option ((Int64 × Int32 × Int32) ⊕ (Int32)) :=
 if t_ix l5 13000 = true then
  if (lg_cmp (s.2.1 957 (l5.toNatClampNeg)) l2) = (0 : Int32) then ((some (l4)).map Sum.inr)
 else (some (.inl (l2, (l4 + 1), (s.1 960 (l5.toNatClampNeg)))))
else none
set_option maxRecDepth 4000 in
set_option maxHeartbeats 1000000 in
theorem B_X13_whichPart_11 {D : va_G} {cy : Nat → ClassId} {ad : Nat → Nat} {bs : Nat} {X : State → Heap → Prop} (l2 : Int64) (l4 : Int32) (l5 : Int32) (s : t_S) (Q : (Int64 × Int32 × Int32) ⊕ (Int32) → Prop) (Hb11 : ∀ (y0 : Int64) (y1 : Int32) (y2 : Int32), Q (.inl (y0, y1, y2)) → mj_G D cy ad bs X cX13_whichPart 6 yX13_whichPart.cls (some .int) yX13_whichPart.name 0 0 0 1065 (t_P (fun v s' => s' = s ∧ ∃ x, v = some (.int x) ∧ Q (.inr (x)))) 11 [(0, .ref 950), (2, .long (y0)), (4, .int (y1)), (5, .int (y2))] [] (t_m s) 1065 0 0) (hk : t_hk (k_X13_whichPart_11 l2 l4 l5 s) Q) : mj_G D cy ad bs X cX13_whichPart 6 yX13_whichPart.cls (some .int) yX13_whichPart.name 0 0 0 1065 (t_P (fun v s' => s' = s ∧ ∃ x, v = some (.int x) ∧ Q (.inr (x)))) 11 [(0, .ref 950), (2, .long l2), (4, .int l4), (5, .int l5)] [] (t_m s) 1065 0 0 := by
  refine mj_aload_n dX13_whichPart_11 0 rfl ?_
  refine t_getR 957 dX13_whichPart_12 F_X13_32 qr_950_19 ?_
  refine mj_iload dX13_whichPart_15 3 rfl ?_
  refine t_chkK hk (fun c0 hk => ?_)
  refine t_lald dX13_whichPart_17 qa_957 (t_ixv c0) ?_
  refine mj_lload_n dX13_whichPart_18 1 rfl ?_
  refine mj_lcmp dX13_whichPart_19 ?_
  refine mj_if_eq 38 dX13_whichPart_20 (by decide) (fun z => t_posK hk z (fun hk => ?_)) (fun z => t_negK hk z (fun hk => ?_))
  · refine t_mapK hk (fun hk => ?_)
    refine mj_iload dX13_whichPart_38 2 rfl ?_
    exact t_somK hk (fun hf => t_iret dX13_whichPart_40 rfl rfl ⟨rfl, _, rfl, hf⟩ (Nat.le_of_ble_eq_true rfl) (Nat.le_of_ble_eq_true rfl))
  · refine mj_iinc (k := 2) (v := (l4 + 1)) (lv2 := [(4, .int (l4 + 1)), (0, .ref 950), (2, .long l2), (5, .int l5)]) dX13_whichPart_23 rfl rfl (by decide) rfl ?_
    refine mj_aload_n dX13_whichPart_26 1 rfl ?_
    refine t_getR 960 dX13_whichPart_27 F_X13_42 qr_950_22 ?_
    refine mj_iload dX13_whichPart_30 3 rfl ?_
    refine t_iald dX13_whichPart_32 qa_960 (t_ixv c0) ?_
    refine mj_istore (lv2 := [(5, .int (s.1 960 (l5.toNatClampNeg))), (4, .int (l4 + 1)), (0, .ref 950), (2, .long l2)]) dX13_whichPart_33 (by decide) rfl ?_
    refine mj_goto 11 dX13_whichPart_35 (by decide) ?_
    refine mj_sublv [(0, .ref 950), (2, .long l2), (4, .int (l4 + 1)), (5, .int (s.1 960 (l5.toNatClampNeg)))] [2, 3, 1, 0] rfl ?_
    exact t_somK hk (fun hf => Hb11 l2 (l4 + 1) (s.1 960 (l5.toNatClampNeg)) hf)
noncomputable def b_X13_whichPart_11 (s : t_S) (x : Int64 × Int32 × Int32) : Option ((Int64 × Int32 × Int32) ⊕ (Int32)) := k_X13_whichPart_11 x.1 x.2.1 x.2.2 s
set_option maxRecDepth 4000 in
set_option maxHeartbeats 1000000 in
theorem LH_X13_whichPart_11 {D : va_G} {cy : Nat → ClassId} {ad : Nat → Nat} {bs : Nat} {X : State → Heap → Prop} (s : t_S) : ∀ (n : Nat) (y0 : Int64) (y1 : Int32) (y2 : Int32) (Q : Int32 → Prop) (hk : t_hk (t_loop (b_X13_whichPart_11 s) n (y0, y1, y2)) Q), mj_G D cy ad bs X cX13_whichPart 6 yX13_whichPart.cls (some .int) yX13_whichPart.name 0 0 0 1065 (t_P (fun v s' => s' = s ∧ ∃ x, v = some (.int x) ∧ Q (x))) 11 [(0, .ref 950), (2, .long (y0)), (4, .int (y1)), (5, .int (y2))] [] (t_m s) 1065 0 0 := by
  intro n
  induction n with
  | zero => intro y0 y1 y2 Q hk; obtain ⟨r, hr, _⟩ := hk; cases hr
  | succ n ih =>
    intro y0 y1 y2 Q hk
    exact B_X13_whichPart_11 y0 y1 y2 s (fun y => t_lq (b_X13_whichPart_11 s) n Q y) (fun y0' y1' y2' hy => ih y0' y1' y2' Q hy) (t_lp (b := b_X13_whichPart_11 s) (n := n) (x := (y0, y1, y2)) hk)
noncomputable def f_X13_whichPart (x1 : Int32) (x2 : Int64) (s : t_S) : Option (Int32) :=
 if t_ix x1 13000 = true then
  t_loop (b_X13_whichPart_11 s) t_N (x2, 0, (s.1 959 (x1.toNatClampNeg)))
else none
set_option maxRecDepth 4000 in
set_option maxHeartbeats 1000000 in
theorem C_X13_whichPart (x1 : Int32) (x2 : Int64) (s : t_S) (r : Int32) (hr : f_X13_whichPart x1 x2 s = some r) : t_C yX13_whichPart cX13_whichPart 6 (some .int) 0 [.ref 950, .int x1, .long x2] s (fun v s' => v = some (.int r) ∧ s' = s) := by
  refine t_C.imp (P := fun v s' => s' = s ∧ ∃ x, v = some (.int x) ∧ (fun q => q = r) (x)) (t_C.of (by decide +kernel) (Nat.le_of_ble_eq_true rfl) ?_) (fun v s' hp => by obtain ⟨rfl, x, rfl, rfl⟩ := hp; exact ⟨rfl, rfl⟩)
  intro D cy ad bs X
  have hk : t_hk (f_X13_whichPart x1 x2 s) (fun q => q = r) := ⟨r, hr, rfl⟩
  show mj_G D cy ad bs X cX13_whichPart 6 yX13_whichPart.cls (some .int) yX13_whichPart.name 0 0 0 1065 (t_P (fun v s' => s' = s ∧ ∃ x, v = some (.int x) ∧ (fun q => q = r) (x))) 0 [(0, .ref 950), (1, .int x1), (2, .long x2)] [] (t_m s) 1065 0 0
  refine mj_iconst (v := 0) dX13_whichPart_0 (by decide) ?_
  refine mj_istore (lv2 := [(4, .int 0), (0, .ref 950), (1, .int x1), (2, .long x2)]) dX13_whichPart_1 (by decide) rfl ?_
  refine mj_aload_n dX13_whichPart_3 1 rfl ?_
  refine t_getR 959 dX13_whichPart_4 F_X13_39 qr_950_21 ?_
  refine mj_iload_n dX13_whichPart_7 2 rfl ?_
  refine t_chkK hk (fun c0 hk => ?_)
  refine t_iald dX13_whichPart_8 qa_959 (t_ixv c0) ?_
  refine mj_istore (lv2 := [(5, .int (s.1 959 (x1.toNatClampNeg))), (4, .int 0), (0, .ref 950), (1, .int x1), (2, .long x2)]) dX13_whichPart_9 (by decide) rfl ?_
  refine mj_sublv [(0, .ref 950), (2, .long x2), (4, .int 0), (5, .int (s.1 959 (x1.toNatClampNeg)))] [2, 4, 1, 0] rfl ?_
  exact LH_X13_whichPart_11 _ _ x2 0 (s.1 959 (x1.toNatClampNeg)) _ hk

theorem dX13_code_0 : decode cX13_code 0 = .ok (.aload_n 0, 1) := by decide +kernel
theorem dX13_code_1 : decode cX13_code 1 = .ok (.iload_n 2, 1) := by decide +kernel
theorem dX13_code_10 : decode cX13_code 10 = .ok (.iload_n 1, 1) := by decide +kernel
theorem dX13_code_100 : decode cX13_code 100 = .ok (.goto 30, 3) := by decide +kernel
theorem dX13_code_103 : decode cX13_code 103 = .ok (.lload 4, 2) := by decide +kernel
theorem dX13_code_105 : decode cX13_code 105 = .ok (.invokestatic 1142, 3) := by decide +kernel
theorem dX13_code_108 : decode cX13_code 108 = .ok (.istore 6, 2) := by decide +kernel
theorem dX13_code_11 : decode cX13_code 11 = .ok (.iconst 1, 1) := by decide +kernel
theorem dX13_code_110 : decode cX13_code 110 = .ok (.aload_n 0, 1) := by decide +kernel
theorem dX13_code_111 : decode cX13_code 111 = .ok (.iload 6, 2) := by decide +kernel
theorem dX13_code_113 : decode cX13_code 113 = .ok (.i2l, 1) := by decide +kernel
theorem dX13_code_114 : decode cX13_code 114 = .ok (.bipush 8, 2) := by decide +kernel
theorem dX13_code_116 : decode cX13_code 116 = .ok (.invokevirtual 1138, 3) := by decide +kernel
theorem dX13_code_119 : decode cX13_code 119 = .ok (.aload_n 0, 1) := by decide +kernel
theorem dX13_code_12 : decode cX13_code 12 = .ok (.iadd, 1) := by decide +kernel
theorem dX13_code_120 : decode cX13_code 120 = .ok (.lload 4, 2) := by decide +kernel
theorem dX13_code_122 : decode cX13_code 122 = .ok (.bipush 8, 2) := by decide +kernel
theorem dX13_code_124 : decode cX13_code 124 = .ok (.iload 6, 2) := by decide +kernel
theorem dX13_code_126 : decode cX13_code 126 = .ok (.imul, 1) := by decide +kernel
theorem dX13_code_127 : decode cX13_code 127 = .ok (.invokevirtual 1138, 3) := by decide +kernel
theorem dX13_code_13 : decode cX13_code 13 = .ok (.laload, 1) := by decide +kernel
theorem dX13_code_130 : decode cX13_code 130 = .ok (.return_, 1) := by decide +kernel
theorem dX13_code_131 : decode cX13_code 131 = .ok (.aload_n 0, 1) := by decide +kernel
theorem dX13_code_132 : decode cX13_code 132 = .ok (.lload 4, 2) := by decide +kernel
theorem dX13_code_134 : decode cX13_code 134 = .ok (.iconst 1, 1) := by decide +kernel
theorem dX13_code_135 : decode cX13_code 135 = .ok (.invokevirtual 1138, 3) := by decide +kernel
theorem dX13_code_138 : decode cX13_code 138 = .ok (.return_, 1) := by decide +kernel
theorem dX13_code_139 : decode cX13_code 139 = .ok (.aload_n 0, 1) := by decide +kernel
theorem dX13_code_14 : decode cX13_code 14 = .ok (.lstore 4, 2) := by decide +kernel
theorem dX13_code_140 : decode cX13_code 140 = .ok (.aload_n 0, 1) := by decide +kernel
theorem dX13_code_141 : decode cX13_code 141 = .ok (.iload_n 3, 1) := by decide +kernel
theorem dX13_code_142 : decode cX13_code 142 = .ok (.lload 4, 2) := by decide +kernel
theorem dX13_code_144 : decode cX13_code 144 = .ok (.invokevirtual 1145, 3) := by decide +kernel
theorem dX13_code_147 : decode cX13_code 147 = .ok (.i2l, 1) := by decide +kernel
theorem dX13_code_148 : decode cX13_code 148 = .ok (.aload_n 0, 1) := by decide +kernel
theorem dX13_code_149 : decode cX13_code 149 = .ok (.iload_n 3, 1) := by decide +kernel
theorem dX13_code_150 : decode cX13_code 150 = .ok (.invokevirtual 830, 3) := by decide +kernel
theorem dX13_code_153 : decode cX13_code 153 = .ok (.iconst 1, 1) := by decide +kernel
theorem dX13_code_154 : decode cX13_code 154 = .ok (.isub, 1) := by decide +kernel
theorem dX13_code_155 : decode cX13_code 155 = .ok (.i2l, 1) := by decide +kernel
theorem dX13_code_156 : decode cX13_code 156 = .ok (.invokestatic 1135, 3) := by decide +kernel
theorem dX13_code_159 : decode cX13_code 159 = .ok (.invokevirtual 1138, 3) := by decide +kernel
theorem dX13_code_16 : decode cX13_code 16 = .ok (.aload_n 0, 1) := by decide +kernel
theorem dX13_code_162 : decode cX13_code 162 = .ok (.return_, 1) := by decide +kernel
theorem dX13_code_163 : decode cX13_code 163 = .ok (.aload_n 0, 1) := by decide +kernel
theorem dX13_code_164 : decode cX13_code 164 = .ok (.lload 4, 2) := by decide +kernel
theorem dX13_code_166 : decode cX13_code 166 = .ok (.aload_n 0, 1) := by decide +kernel
theorem dX13_code_167 : decode cX13_code 167 = .ok (.getfield 32, 3) := by decide +kernel
theorem dX13_code_17 : decode cX13_code 17 = .ok (.getfield 26, 3) := by decide +kernel
theorem dX13_code_170 : decode cX13_code 170 = .ok (.iload_n 3, 1) := by decide +kernel
theorem dX13_code_171 : decode cX13_code 171 = .ok (.laload, 1) := by decide +kernel
theorem dX13_code_172 : decode cX13_code 172 = .ok (.lsub, 1) := by decide +kernel
theorem dX13_code_173 : decode cX13_code 173 = .ok (.aload_n 0, 1) := by decide +kernel
theorem dX13_code_174 : decode cX13_code 174 = .ok (.getfield 36, 3) := by decide +kernel
theorem dX13_code_177 : decode cX13_code 177 = .ok (.iload_n 3, 1) := by decide +kernel
theorem dX13_code_178 : decode cX13_code 178 = .ok (.laload, 1) := by decide +kernel
theorem dX13_code_179 : decode cX13_code 179 = .ok (.aload_n 0, 1) := by decide +kernel
theorem dX13_code_180 : decode cX13_code 180 = .ok (.getfield 32, 3) := by decide +kernel
theorem dX13_code_183 : decode cX13_code 183 = .ok (.iload_n 3, 1) := by decide +kernel
theorem dX13_code_184 : decode cX13_code 184 = .ok (.laload, 1) := by decide +kernel
theorem dX13_code_185 : decode cX13_code 185 = .ok (.lsub, 1) := by decide +kernel
theorem dX13_code_186 : decode cX13_code 186 = .ok (.invokestatic 1135, 3) := by decide +kernel
theorem dX13_code_189 : decode cX13_code 189 = .ok (.invokevirtual 1138, 3) := by decide +kernel
theorem dX13_code_192 : decode cX13_code 192 = .ok (.iconst 0, 1) := by decide +kernel
theorem dX13_code_193 : decode cX13_code 193 = .ok (.istore 6, 2) := by decide +kernel
theorem dX13_code_195 : decode cX13_code 195 = .ok (.iload 6, 2) := by decide +kernel
theorem dX13_code_197 : decode cX13_code 197 = .ok (.lload 4, 2) := by decide +kernel
theorem dX13_code_199 : decode cX13_code 199 = .ok (.l2i, 1) := by decide +kernel
theorem dX13_code_2 : decode cX13_code 2 = .ok (.invokevirtual 1036, 3) := by decide +kernel
theorem dX13_code_20 : decode cX13_code 20 = .ok (.iload_n 3, 1) := by decide +kernel
theorem dX13_code_200 : decode cX13_code 200 = .ok (.if_icmp .ge 26, 3) := by decide +kernel
theorem dX13_code_203 : decode cX13_code 203 = .ok (.aload_n 0, 1) := by decide +kernel
theorem dX13_code_204 : decode cX13_code 204 = .ok (.aload_n 0, 1) := by decide +kernel
theorem dX13_code_205 : decode cX13_code 205 = .ok (.iload_n 1, 1) := by decide +kernel
theorem dX13_code_206 : decode cX13_code 206 = .ok (.iload 6, 2) := by decide +kernel
theorem dX13_code_208 : decode cX13_code 208 = .ok (.invokevirtual 996, 3) := by decide +kernel
theorem dX13_code_21 : decode cX13_code 21 = .ok (.iaload, 1) := by decide +kernel
theorem dX13_code_211 : decode cX13_code 211 = .ok (.bipush 32, 2) := by decide +kernel
theorem dX13_code_213 : decode cX13_code 213 = .ok (.isub, 1) := by decide +kernel
theorem dX13_code_214 : decode cX13_code 214 = .ok (.i2l, 1) := by decide +kernel
theorem dX13_code_215 : decode cX13_code 215 = .ok (.bipush 7, 2) := by decide +kernel
theorem dX13_code_217 : decode cX13_code 217 = .ok (.invokevirtual 1138, 3) := by decide +kernel
theorem dX13_code_22 : decode cX13_code 22 = .ok (.tableswitch 316 1 7 #[42, 109, 141, 117, 316, 205, 252], 42) := by decide +kernel
theorem dX13_code_220 : decode cX13_code 220 = .ok (.iinc 6 1, 3) := by decide +kernel
theorem dX13_code_223 : decode cX13_code 223 = .ok (.goto (-28), 3) := by decide +kernel
theorem dX13_code_226 : decode cX13_code 226 = .ok (.return_, 1) := by decide +kernel
theorem dX13_code_227 : decode cX13_code 227 = .ok (.aload_n 0, 1) := by decide +kernel
theorem dX13_code_228 : decode cX13_code 228 = .ok (.iload_n 3, 1) := by decide +kernel
theorem dX13_code_229 : decode cX13_code 229 = .ok (.lload 4, 2) := by decide +kernel
theorem dX13_code_231 : decode cX13_code 231 = .ok (.invokevirtual 1145, 3) := by decide +kernel
theorem dX13_code_234 : decode cX13_code 234 = .ok (.istore 6, 2) := by decide +kernel
theorem dX13_code_236 : decode cX13_code 236 = .ok (.aload_n 0, 1) := by decide +kernel
theorem dX13_code_237 : decode cX13_code 237 = .ok (.iload 6, 2) := by decide +kernel
theorem dX13_code_239 : decode cX13_code 239 = .ok (.i2l, 1) := by decide +kernel
theorem dX13_code_240 : decode cX13_code 240 = .ok (.aload_n 0, 1) := by decide +kernel
theorem dX13_code_241 : decode cX13_code 241 = .ok (.iload_n 3, 1) := by decide +kernel
theorem dX13_code_242 : decode cX13_code 242 = .ok (.invokevirtual 830, 3) := by decide +kernel
theorem dX13_code_245 : decode cX13_code 245 = .ok (.iconst 1, 1) := by decide +kernel
theorem dX13_code_246 : decode cX13_code 246 = .ok (.isub, 1) := by decide +kernel
theorem dX13_code_247 : decode cX13_code 247 = .ok (.i2l, 1) := by decide +kernel
theorem dX13_code_248 : decode cX13_code 248 = .ok (.invokestatic 1135, 3) := by decide +kernel
theorem dX13_code_251 : decode cX13_code 251 = .ok (.invokevirtual 1138, 3) := by decide +kernel
theorem dX13_code_254 : decode cX13_code 254 = .ok (.aload_n 0, 1) := by decide +kernel
theorem dX13_code_255 : decode cX13_code 255 = .ok (.iload_n 1, 1) := by decide +kernel
theorem dX13_code_256 : decode cX13_code 256 = .ok (.iconst 2, 1) := by decide +kernel
theorem dX13_code_257 : decode cX13_code 257 = .ok (.iadd, 1) := by decide +kernel
theorem dX13_code_258 : decode cX13_code 258 = .ok (.aload_n 0, 1) := by decide +kernel
theorem dX13_code_259 : decode cX13_code 259 = .ok (.getfield 39, 3) := by decide +kernel
theorem dX13_code_262 : decode cX13_code 262 = .ok (.aload_n 0, 1) := by decide +kernel
theorem dX13_code_263 : decode cX13_code 263 = .ok (.iload_n 3, 1) := by decide +kernel
theorem dX13_code_264 : decode cX13_code 264 = .ok (.iload 6, 2) := by decide +kernel
theorem dX13_code_266 : decode cX13_code 266 = .ok (.invokevirtual 974, 3) := by decide +kernel
theorem dX13_code_269 : decode cX13_code 269 = .ok (.iaload, 1) := by decide +kernel
theorem dX13_code_270 : decode cX13_code 270 = .ok (.invokestatic 1148, 3) := by decide +kernel
theorem dX13_code_273 : decode cX13_code 273 = .ok (.return_, 1) := by decide +kernel
theorem dX13_code_274 : decode cX13_code 274 = .ok (.aload_n 0, 1) := by decide +kernel
theorem dX13_code_275 : decode cX13_code 275 = .ok (.lload 4, 2) := by decide +kernel
theorem dX13_code_277 : decode cX13_code 277 = .ok (.aload_n 0, 1) := by decide +kernel
theorem dX13_code_278 : decode cX13_code 278 = .ok (.getfield 32, 3) := by decide +kernel
theorem dX13_code_281 : decode cX13_code 281 = .ok (.iload_n 3, 1) := by decide +kernel
theorem dX13_code_282 : decode cX13_code 282 = .ok (.laload, 1) := by decide +kernel
theorem dX13_code_283 : decode cX13_code 283 = .ok (.lsub, 1) := by decide +kernel
theorem dX13_code_284 : decode cX13_code 284 = .ok (.aload_n 0, 1) := by decide +kernel
theorem dX13_code_285 : decode cX13_code 285 = .ok (.getfield 36, 3) := by decide +kernel
theorem dX13_code_288 : decode cX13_code 288 = .ok (.iload_n 3, 1) := by decide +kernel
theorem dX13_code_289 : decode cX13_code 289 = .ok (.laload, 1) := by decide +kernel
theorem dX13_code_290 : decode cX13_code 290 = .ok (.aload_n 0, 1) := by decide +kernel
theorem dX13_code_291 : decode cX13_code 291 = .ok (.getfield 32, 3) := by decide +kernel
theorem dX13_code_294 : decode cX13_code 294 = .ok (.iload_n 3, 1) := by decide +kernel
theorem dX13_code_295 : decode cX13_code 295 = .ok (.laload, 1) := by decide +kernel
theorem dX13_code_296 : decode cX13_code 296 = .ok (.lsub, 1) := by decide +kernel
theorem dX13_code_297 : decode cX13_code 297 = .ok (.invokestatic 1135, 3) := by decide +kernel
theorem dX13_code_300 : decode cX13_code 300 = .ok (.invokevirtual 1138, 3) := by decide +kernel
theorem dX13_code_303 : decode cX13_code 303 = .ok (.iconst 0, 1) := by decide +kernel
theorem dX13_code_304 : decode cX13_code 304 = .ok (.istore 7, 2) := by decide +kernel
theorem dX13_code_306 : decode cX13_code 306 = .ok (.iload 7, 2) := by decide +kernel
theorem dX13_code_308 : decode cX13_code 308 = .ok (.lload 4, 2) := by decide +kernel
theorem dX13_code_310 : decode cX13_code 310 = .ok (.l2i, 1) := by decide +kernel
theorem dX13_code_311 : decode cX13_code 311 = .ok (.if_icmp .ge 26, 3) := by decide +kernel
theorem dX13_code_314 : decode cX13_code 314 = .ok (.aload_n 0, 1) := by decide +kernel
theorem dX13_code_315 : decode cX13_code 315 = .ok (.aload_n 0, 1) := by decide +kernel
theorem dX13_code_316 : decode cX13_code 316 = .ok (.iload_n 1, 1) := by decide +kernel
theorem dX13_code_317 : decode cX13_code 317 = .ok (.iload 7, 2) := by decide +kernel
theorem dX13_code_319 : decode cX13_code 319 = .ok (.invokevirtual 855, 3) := by decide +kernel
theorem dX13_code_322 : decode cX13_code 322 = .ok (.aload_n 0, 1) := by decide +kernel
theorem dX13_code_323 : decode cX13_code 323 = .ok (.getfield 39, 3) := by decide +kernel
theorem dX13_code_326 : decode cX13_code 326 = .ok (.iload_n 3, 1) := by decide +kernel
theorem dX13_code_327 : decode cX13_code 327 = .ok (.iaload, 1) := by decide +kernel
theorem dX13_code_328 : decode cX13_code 328 = .ok (.invokestatic 1148, 3) := by decide +kernel
theorem dX13_code_331 : decode cX13_code 331 = .ok (.iinc 7 1, 3) := by decide +kernel
theorem dX13_code_334 : decode cX13_code 334 = .ok (.goto (-28), 3) := by decide +kernel
theorem dX13_code_337 : decode cX13_code 337 = .ok (.return_, 1) := by decide +kernel
theorem dX13_code_338 : decode cX13_code 338 = .ok (.aload_n 0, 1) := by decide +kernel
theorem dX13_code_339 : decode cX13_code 339 = .ok (.getfield 39, 3) := by decide +kernel
theorem dX13_code_342 : decode cX13_code 342 = .ok (.iload_n 3, 1) := by decide +kernel
theorem dX13_code_343 : decode cX13_code 343 = .ok (.iaload, 1) := by decide +kernel
theorem dX13_code_344 : decode cX13_code 344 = .ok (.istore 7, 2) := by decide +kernel
theorem dX13_code_346 : decode cX13_code 346 = .ok (.iload 7, 2) := by decide +kernel
theorem dX13_code_348 : decode cX13_code 348 = .ok (.ifCond .lt 52, 3) := by decide +kernel
theorem dX13_code_351 : decode cX13_code 351 = .ok (.aload_n 0, 1) := by decide +kernel
theorem dX13_code_352 : decode cX13_code 352 = .ok (.getfield 36, 3) := by decide +kernel
theorem dX13_code_355 : decode cX13_code 355 = .ok (.iload 7, 2) := by decide +kernel
theorem dX13_code_357 : decode cX13_code 357 = .ok (.laload, 1) := by decide +kernel
theorem dX13_code_358 : decode cX13_code 358 = .ok (.lconst 0, 1) := by decide +kernel
theorem dX13_code_359 : decode cX13_code 359 = .ok (.lcmp, 1) := by decide +kernel
theorem dX13_code_360 : decode cX13_code 360 = .ok (.ifCond .eq 28, 3) := by decide +kernel
theorem dX13_code_363 : decode cX13_code 363 = .ok (.aload_n 0, 1) := by decide +kernel
theorem dX13_code_364 : decode cX13_code 364 = .ok (.aload_n 0, 1) := by decide +kernel
theorem dX13_code_365 : decode cX13_code 365 = .ok (.iload_n 1, 1) := by decide +kernel
theorem dX13_code_366 : decode cX13_code 366 = .ok (.aload_n 0, 1) := by decide +kernel
theorem dX13_code_367 : decode cX13_code 367 = .ok (.getfield 32, 3) := by decide +kernel
theorem dX13_code_370 : decode cX13_code 370 = .ok (.iload 7, 2) := by decide +kernel
theorem dX13_code_372 : decode cX13_code 372 = .ok (.laload, 1) := by decide +kernel
theorem dX13_code_373 : decode cX13_code 373 = .ok (.invokevirtual 966, 3) := by decide +kernel
theorem dX13_code_376 : decode cX13_code 376 = .ok (.ifCond .lt 7, 3) := by decide +kernel
theorem dX13_code_379 : decode cX13_code 379 = .ok (.lconst 1, 1) := by decide +kernel
theorem dX13_code_380 : decode cX13_code 380 = .ok (.goto 4, 3) := by decide +kernel
theorem dX13_code_383 : decode cX13_code 383 = .ok (.lconst 0, 1) := by decide +kernel
theorem dX13_code_384 : decode cX13_code 384 = .ok (.iconst 1, 1) := by decide +kernel
theorem dX13_code_385 : decode cX13_code 385 = .ok (.invokevirtual 1138, 3) := by decide +kernel
theorem dX13_code_388 : decode cX13_code 388 = .ok (.aload_n 0, 1) := by decide +kernel
theorem dX13_code_389 : decode cX13_code 389 = .ok (.getfield 42, 3) := by decide +kernel
theorem dX13_code_392 : decode cX13_code 392 = .ok (.iload 7, 2) := by decide +kernel
theorem dX13_code_394 : decode cX13_code 394 = .ok (.iaload, 1) := by decide +kernel
theorem dX13_code_395 : decode cX13_code 395 = .ok (.istore 7, 2) := by decide +kernel
theorem dX13_code_397 : decode cX13_code 397 = .ok (.goto (-51), 3) := by decide +kernel
theorem dX13_code_400 : decode cX13_code 400 = .ok (.aload_n 0, 1) := by decide +kernel
theorem dX13_code_401 : decode cX13_code 401 = .ok (.getfield 39, 3) := by decide +kernel
theorem dX13_code_404 : decode cX13_code 404 = .ok (.iload_n 3, 1) := by decide +kernel
theorem dX13_code_405 : decode cX13_code 405 = .ok (.iaload, 1) := by decide +kernel
theorem dX13_code_406 : decode cX13_code 406 = .ok (.istore 7, 2) := by decide +kernel
theorem dX13_code_408 : decode cX13_code 408 = .ok (.iload 7, 2) := by decide +kernel
theorem dX13_code_410 : decode cX13_code 410 = .ok (.ifCond .lt 47, 3) := by decide +kernel
theorem dX13_code_413 : decode cX13_code 413 = .ok (.aload_n 0, 1) := by decide +kernel
theorem dX13_code_414 : decode cX13_code 414 = .ok (.iload_n 1, 1) := by decide +kernel
theorem dX13_code_415 : decode cX13_code 415 = .ok (.aload_n 0, 1) := by decide +kernel
theorem dX13_code_416 : decode cX13_code 416 = .ok (.getfield 32, 3) := by decide +kernel
theorem dX13_code_419 : decode cX13_code 419 = .ok (.iload 7, 2) := by decide +kernel
theorem dX13_code_421 : decode cX13_code 421 = .ok (.laload, 1) := by decide +kernel
theorem dX13_code_422 : decode cX13_code 422 = .ok (.invokevirtual 966, 3) := by decide +kernel
theorem dX13_code_425 : decode cX13_code 425 = .ok (.istore 8, 2) := by decide +kernel
theorem dX13_code_427 : decode cX13_code 427 = .ok (.iload 8, 2) := by decide +kernel
theorem dX13_code_429 : decode cX13_code 429 = .ok (.ifCond .lt 16, 3) := by decide +kernel
theorem dX13_code_432 : decode cX13_code 432 = .ok (.aload_n 0, 1) := by decide +kernel
theorem dX13_code_433 : decode cX13_code 433 = .ok (.iload 8, 2) := by decide +kernel
theorem dX13_code_435 : decode cX13_code 435 = .ok (.aload_n 0, 1) := by decide +kernel
theorem dX13_code_436 : decode cX13_code 436 = .ok (.getfield 39, 3) := by decide +kernel
theorem dX13_code_439 : decode cX13_code 439 = .ok (.iload 7, 2) := by decide +kernel
theorem dX13_code_441 : decode cX13_code 441 = .ok (.iaload, 1) := by decide +kernel
theorem dX13_code_442 : decode cX13_code 442 = .ok (.invokestatic 1148, 3) := by decide +kernel
theorem dX13_code_445 : decode cX13_code 445 = .ok (.aload_n 0, 1) := by decide +kernel
theorem dX13_code_446 : decode cX13_code 446 = .ok (.getfield 42, 3) := by decide +kernel
theorem dX13_code_449 : decode cX13_code 449 = .ok (.iload 7, 2) := by decide +kernel
theorem dX13_code_451 : decode cX13_code 451 = .ok (.iaload, 1) := by decide +kernel
theorem dX13_code_452 : decode cX13_code 452 = .ok (.istore 7, 2) := by decide +kernel
theorem dX13_code_454 : decode cX13_code 454 = .ok (.goto (-46), 3) := by decide +kernel
theorem dX13_code_457 : decode cX13_code 457 = .ok (.return_, 1) := by decide +kernel
theorem dX13_code_5 : decode cX13_code 5 = .ok (.istore_n 3, 1) := by decide +kernel
theorem dX13_code_6 : decode cX13_code 6 = .ok (.aload_n 0, 1) := by decide +kernel
theorem dX13_code_64 : decode cX13_code 64 = .ok (.aload_n 0, 1) := by decide +kernel
theorem dX13_code_65 : decode cX13_code 65 = .ok (.getfield 39, 3) := by decide +kernel
theorem dX13_code_68 : decode cX13_code 68 = .ok (.iload_n 3, 1) := by decide +kernel
theorem dX13_code_69 : decode cX13_code 69 = .ok (.iaload, 1) := by decide +kernel
theorem dX13_code_7 : decode cX13_code 7 = .ok (.getfield 182, 3) := by decide +kernel
theorem dX13_code_70 : decode cX13_code 70 = .ok (.ifCond .lt 33, 3) := by decide +kernel
theorem dX13_code_73 : decode cX13_code 73 = .ok (.aload_n 0, 1) := by decide +kernel
theorem dX13_code_74 : decode cX13_code 74 = .ok (.iload_n 3, 1) := by decide +kernel
theorem dX13_code_75 : decode cX13_code 75 = .ok (.invokevirtual 1129, 3) := by decide +kernel
theorem dX13_code_78 : decode cX13_code 78 = .ok (.lstore 6, 2) := by decide +kernel
theorem dX13_code_80 : decode cX13_code 80 = .ok (.aload_n 0, 1) := by decide +kernel
theorem dX13_code_81 : decode cX13_code 81 = .ok (.lload 4, 2) := by decide +kernel
theorem dX13_code_83 : decode cX13_code 83 = .ok (.lload 6, 2) := by decide +kernel
theorem dX13_code_85 : decode cX13_code 85 = .ok (.lsub, 1) := by decide +kernel
theorem dX13_code_86 : decode cX13_code 86 = .ok (.aload_n 0, 1) := by decide +kernel
theorem dX13_code_87 : decode cX13_code 87 = .ok (.iload_n 3, 1) := by decide +kernel
theorem dX13_code_88 : decode cX13_code 88 = .ok (.invokevirtual 1132, 3) := by decide +kernel
theorem dX13_code_91 : decode cX13_code 91 = .ok (.lload 6, 2) := by decide +kernel
theorem dX13_code_93 : decode cX13_code 93 = .ok (.lsub, 1) := by decide +kernel
theorem dX13_code_94 : decode cX13_code 94 = .ok (.invokestatic 1135, 3) := by decide +kernel
theorem dX13_code_97 : decode cX13_code 97 = .ok (.invokevirtual 1138, 3) := by decide +kernel
abbrev RT_X13_code : Type := (Int32 → Int32 → t_S → Option (t_S))
def RH_X13_code (rc : RT_X13_code) (k : Nat) : Prop := (∀ (x2 : Int32) (x3 : Int32) (s : t_S) (r : t_S), rc x2 x3 s = some r → t_C yX13_code cX13_code 9 none (4 + k) [.ref 950, .int x2, .int x3] s (fun v s' => v = none ∧ s' = r))
noncomputable def k_X13_code_445 (rc : RT_X13_code) (l1 : Int32) (l7 : Int32) (s : t_S) : Option ((Int32 × Int32 × t_S) ⊕ (t_S)) :=
 if t_ix l7 13000 = true then
  some (.inl (l1, (s.1 960 (l7.toNatClampNeg)), s))
else none
set_option maxRecDepth 4000 in
set_option maxHeartbeats 1000000 in
theorem B_X13_code_445 {D : va_G} {cy : Nat → ClassId} {ad : Nat → Nat} {bs : Nat} {X : State → Heap → Prop} (rc : RT_X13_code) {k : Nat} (H : RH_X13_code rc k) (l1 : Int32) (l7 : Int32) (s : t_S) (Q : (Int32 × Int32 × t_S) ⊕ (t_S) → Prop) (Hb408 : ∀ (y0 : Int32) (y1 : Int32) (y2 : t_S), Q (.inl (y0, y1, y2)) → mj_G D cy ad bs X cX13_code 9 yX13_code.cls none yX13_code.name (4 + (k + 1)) 0 0 1065 (t_P (fun v s' => v = none ∧ Q (.inr (s')))) 408 [(0, .ref 950), (1, .int (y0)), (7, .int (y1))] [] (t_m y2) 1065 0 0) (hk : t_hk (k_X13_code_445 rc l1 l7 s) Q) : mj_G D cy ad bs X cX13_code 9 yX13_code.cls none yX13_code.name (4 + (k + 1)) 0 0 1065 (t_P (fun v s' => v = none ∧ Q (.inr (s')))) 445 [(0, .ref 950), (1, .int l1), (7, .int l7)] [] (t_m s) 1065 0 0 := by
  refine mj_aload_n dX13_code_445 0 rfl ?_
  refine t_getR 960 dX13_code_446 F_X13_42 qr_950_22 ?_
  refine mj_iload dX13_code_449 2 rfl ?_
  refine t_chkK hk (fun c0 hk => ?_)
  refine t_iald dX13_code_451 qa_960 (t_ixv c0) ?_
  refine mj_istore (lv2 := [(7, .int (s.1 960 (l7.toNatClampNeg))), (0, .ref 950), (1, .int l1)]) dX13_code_452 (by decide) rfl ?_
  refine mj_goto 408 dX13_code_454 (by decide) ?_
  refine mj_sublv [(0, .ref 950), (1, .int l1), (7, .int (s.1 960 (l7.toNatClampNeg)))] [1, 2, 0] rfl ?_
  exact t_somK hk (fun hf => Hb408 l1 (s.1 960 (l7.toNatClampNeg)) s hf)
noncomputable def k_X13_code_408 (rc : RT_X13_code) (l1 : Int32) (l7 : Int32) (s : t_S) : Option ((Int32 × Int32 × t_S) ⊕ (t_S)) :=
 if l7 < (0 : Int32) then ((some (s)).map Sum.inr)
 else (if t_ix l7 13000 = true then
  (f_X13_fieldOf l1 (s.2.1 957 (l7.toNatClampNeg)) s).bind (fun r2 =>
 if r2 < (0 : Int32) then (k_X13_code_445 rc l1 l7 s)
 else ((rc r2 (s.1 959 (l7.toNatClampNeg)) s).bind (fun r3 =>
 k_X13_code_445 rc l1 l7 r3)))
else none)
set_option maxRecDepth 4000 in
set_option maxHeartbeats 1000000 in
theorem B_X13_code_408 {D : va_G} {cy : Nat → ClassId} {ad : Nat → Nat} {bs : Nat} {X : State → Heap → Prop} (rc : RT_X13_code) {k : Nat} (H : RH_X13_code rc k) (l1 : Int32) (l7 : Int32) (s : t_S) (Q : (Int32 × Int32 × t_S) ⊕ (t_S) → Prop) (Hb408 : ∀ (y0 : Int32) (y1 : Int32) (y2 : t_S), Q (.inl (y0, y1, y2)) → mj_G D cy ad bs X cX13_code 9 yX13_code.cls none yX13_code.name (4 + (k + 1)) 0 0 1065 (t_P (fun v s' => v = none ∧ Q (.inr (s')))) 408 [(0, .ref 950), (1, .int (y0)), (7, .int (y1))] [] (t_m y2) 1065 0 0) (hk : t_hk (k_X13_code_408 rc l1 l7 s) Q) : mj_G D cy ad bs X cX13_code 9 yX13_code.cls none yX13_code.name (4 + (k + 1)) 0 0 1065 (t_P (fun v s' => v = none ∧ Q (.inr (s')))) 408 [(0, .ref 950), (1, .int l1), (7, .int l7)] [] (t_m s) 1065 0 0 := by
  refine mj_iload dX13_code_408 2 rfl ?_
  refine mj_if_lt 457 dX13_code_410 (by decide) (fun z => t_posK hk z (fun hk => ?_)) (fun z => t_negK hk z (fun hk => ?_))
  · refine t_mapK hk (fun hk => ?_)
    exact t_somK hk (fun hf => t_vret dX13_code_457 rfl ⟨rfl, hf⟩ (Nat.le_of_ble_eq_true rfl) (Nat.le_of_ble_eq_true rfl))
  · refine mj_aload_n dX13_code_413 0 rfl ?_
    refine mj_iload_n dX13_code_414 1 rfl ?_
    refine mj_aload_n dX13_code_415 0 rfl ?_
    refine t_getR 957 dX13_code_416 F_X13_32 qr_950_19 ?_
    refine mj_iload dX13_code_419 2 rfl ?_
    refine t_chkK hk (fun c0 hk => ?_)
    refine t_lald dX13_code_421 qa_957 (t_ixv c0) ?_
    refine t_bndK hk (fun r2 er2 hk => ?_)
    refine t_callViP dX13_code_422 M_X13_fieldOf (C_X13_fieldOf _ _ _ _ er2) ML_X13_966 IM_X13_fieldOf SE_X13_fieldOf qc_950 rfl (As := [.int l1, .long (s.2.1 957 (l7.toNatClampNeg))]) rfl rfl (by omega) (Nat.le_of_ble_eq_true rfl) (Nat.le_of_ble_eq_true rfl) (Nat.le_of_ble_eq_true rfl) ?_
    refine mj_istore (lv2 := [(8, .int r2), (0, .ref 950), (1, .int l1), (7, .int l7)]) dX13_code_425 (by decide) rfl ?_
    refine mj_iload dX13_code_427 0 rfl ?_
    refine mj_if_lt 445 dX13_code_429 (by decide) (fun z => t_posK hk z (fun hk => ?_)) (fun z => t_negK hk z (fun hk => ?_))
    · refine mj_sublv [(0, .ref 950), (1, .int l1), (7, .int l7)] [1, 2, 3] rfl ?_
      exact B_X13_code_445 rc H _ _ _ _ (fun y0 y1 y2 hx => Hb408 y0 y1 y2 hx) hk
    · refine mj_aload_n dX13_code_432 1 rfl ?_
      refine mj_iload dX13_code_433 0 rfl ?_
      refine mj_aload_n dX13_code_435 1 rfl ?_
      refine t_getR 959 dX13_code_436 F_X13_39 qr_950_21 ?_
      refine mj_iload dX13_code_439 3 rfl ?_
      refine t_iald dX13_code_441 qa_959 (t_ixv c0) ?_
      refine t_bndK hk (fun r3 er3 hk => ?_)
      refine t_callSvE dX13_code_442 M_X13_code (H _ _ _ _ er3) ML_X13_1148 SM_X13_code (As := [.ref 950, .int r2, .int (s.1 959 (l7.toNatClampNeg))]) rfl rfl (by omega) (Nat.le_of_ble_eq_true rfl) (Nat.le_of_ble_eq_true rfl) (Nat.le_of_ble_eq_true rfl) ?_
      refine mj_sublv [(0, .ref 950), (1, .int l1), (7, .int l7)] [1, 2, 3] rfl ?_
      exact B_X13_code_445 rc H _ _ _ _ (fun y0 y1 y2 hx => Hb408 y0 y1 y2 hx) hk
noncomputable def b_X13_code_408 (rc : RT_X13_code) (x : Int32 × Int32 × t_S) : Option ((Int32 × Int32 × t_S) ⊕ (t_S)) := k_X13_code_408 rc x.1 x.2.1 x.2.2
set_option maxRecDepth 4000 in
set_option maxHeartbeats 1000000 in
theorem LH_X13_code_408 {D : va_G} {cy : Nat → ClassId} {ad : Nat → Nat} {bs : Nat} {X : State → Heap → Prop} (rc : RT_X13_code) {k : Nat} (H : RH_X13_code rc k) : ∀ (n : Nat) (y0 : Int32) (y1 : Int32) (y2 : t_S) (Q : t_S → Prop) (hk : t_hk (t_loop (b_X13_code_408 rc) n (y0, y1, y2)) Q), mj_G D cy ad bs X cX13_code 9 yX13_code.cls none yX13_code.name (4 + (k + 1)) 0 0 1065 (t_P (fun v s' => v = none ∧ Q (s'))) 408 [(0, .ref 950), (1, .int (y0)), (7, .int (y1))] [] (t_m y2) 1065 0 0 := by
  intro n
  induction n with
  | zero => intro y0 y1 y2 Q hk; obtain ⟨r, hr, _⟩ := hk; cases hr
  | succ n ih =>
    intro y0 y1 y2 Q hk
    exact B_X13_code_408 rc H y0 y1 y2 (fun y => t_lq (b_X13_code_408 rc) n Q y) (fun y0' y1' y2' hy => ih y0' y1' y2' Q hy) (t_lp (b := b_X13_code_408 rc) (n := n) (x := (y0, y1, y2)) hk)
noncomputable def k_X13_code_388 (rc : RT_X13_code) (l1 : Int32) (l3 : Int32) (l7 : Int32) (s : t_S) : Option ((Int32 × Int32 × Int32 × t_S) ⊕ (t_S)) :=
 if t_ix l7 13000 = true then
  some (.inl (l1, l3, (s.1 960 (l7.toNatClampNeg)), s))
else none
set_option maxRecDepth 4000 in
set_option maxHeartbeats 1000000 in
theorem B_X13_code_388 {D : va_G} {cy : Nat → ClassId} {ad : Nat → Nat} {bs : Nat} {X : State → Heap → Prop} (rc : RT_X13_code) {k : Nat} (H : RH_X13_code rc k) (l1 : Int32) (l3 : Int32) (l7 : Int32) (s : t_S) (Q : (Int32 × Int32 × Int32 × t_S) ⊕ (t_S) → Prop) (Hb346 : ∀ (y0 : Int32) (y1 : Int32) (y2 : Int32) (y3 : t_S), Q (.inl (y0, y1, y2, y3)) → mj_G D cy ad bs X cX13_code 9 yX13_code.cls none yX13_code.name (4 + (k + 1)) 0 0 1065 (t_P (fun v s' => v = none ∧ Q (.inr (s')))) 346 [(0, .ref 950), (1, .int (y0)), (3, .int (y1)), (7, .int (y2))] [] (t_m y3) 1065 0 0) (hk : t_hk (k_X13_code_388 rc l1 l3 l7 s) Q) : mj_G D cy ad bs X cX13_code 9 yX13_code.cls none yX13_code.name (4 + (k + 1)) 0 0 1065 (t_P (fun v s' => v = none ∧ Q (.inr (s')))) 388 [(0, .ref 950), (1, .int l1), (3, .int l3), (7, .int l7)] [] (t_m s) 1065 0 0 := by
  refine mj_aload_n dX13_code_388 0 rfl ?_
  refine t_getR 960 dX13_code_389 F_X13_42 qr_950_22 ?_
  refine mj_iload dX13_code_392 3 rfl ?_
  refine t_chkK hk (fun c0 hk => ?_)
  refine t_iald dX13_code_394 qa_960 (t_ixv c0) ?_
  refine mj_istore (lv2 := [(7, .int (s.1 960 (l7.toNatClampNeg))), (0, .ref 950), (1, .int l1), (3, .int l3)]) dX13_code_395 (by decide) rfl ?_
  refine mj_goto 346 dX13_code_397 (by decide) ?_
  refine mj_sublv [(0, .ref 950), (1, .int l1), (3, .int l3), (7, .int (s.1 960 (l7.toNatClampNeg)))] [1, 2, 3, 0] rfl ?_
  exact t_somK hk (fun hf => Hb346 l1 l3 (s.1 960 (l7.toNatClampNeg)) s hf)
noncomputable def k_X13_code_384 (rc : RT_X13_code) (l1 : Int32) (l3 : Int32) (l7 : Int32) (k0 : Int64) (s : t_S) : Option ((Int32 × Int32 × Int32 × t_S) ⊕ (t_S)) :=
 (f_X13_putBits k0 (1 : Int32) s).bind (fun r1 =>
 k_X13_code_388 rc l1 l3 l7 r1)
set_option maxRecDepth 4000 in
set_option maxHeartbeats 1000000 in
theorem B_X13_code_384 {D : va_G} {cy : Nat → ClassId} {ad : Nat → Nat} {bs : Nat} {X : State → Heap → Prop} (rc : RT_X13_code) {k : Nat} (H : RH_X13_code rc k) (l1 : Int32) (l3 : Int32) (l7 : Int32) (k0 : Int64) (s : t_S) (Q : (Int32 × Int32 × Int32 × t_S) ⊕ (t_S) → Prop) (Hb346 : ∀ (y0 : Int32) (y1 : Int32) (y2 : Int32) (y3 : t_S), Q (.inl (y0, y1, y2, y3)) → mj_G D cy ad bs X cX13_code 9 yX13_code.cls none yX13_code.name (4 + (k + 1)) 0 0 1065 (t_P (fun v s' => v = none ∧ Q (.inr (s')))) 346 [(0, .ref 950), (1, .int (y0)), (3, .int (y1)), (7, .int (y2))] [] (t_m y3) 1065 0 0) (hk : t_hk (k_X13_code_384 rc l1 l3 l7 k0 s) Q) : mj_G D cy ad bs X cX13_code 9 yX13_code.cls none yX13_code.name (4 + (k + 1)) 0 0 1065 (t_P (fun v s' => v = none ∧ Q (.inr (s')))) 384 [(0, .ref 950), (1, .int l1), (3, .int l3), (7, .int l7)] [.long k0, .ref 950] (t_m s) 1065 0 0 := by
  refine mj_iconst (v := 1) dX13_code_384 (by decide) ?_
  refine t_bndK hk (fun r1 er1 hk => ?_)
  refine t_callVvE dX13_code_385 M_X13_putBits (C_X13_putBits _ _ _ _ er1) ML_X13_1138 IM_X13_putBits SE_X13_putBits qc_950 rfl (As := [.long k0, .int 1]) rfl rfl (by omega) (Nat.le_of_ble_eq_true rfl) (Nat.le_of_ble_eq_true rfl) (Nat.le_of_ble_eq_true rfl) ?_
  exact B_X13_code_388 rc H _ _ _ _ _ (fun y0 y1 y2 y3 hx => Hb346 y0 y1 y2 y3 hx) hk
noncomputable def k_X13_code_346 (rc : RT_X13_code) (l1 : Int32) (l3 : Int32) (l7 : Int32) (s : t_S) : Option ((Int32 × Int32 × Int32 × t_S) ⊕ (t_S)) :=
 if l7 < (0 : Int32) then ((if t_ix l3 13000 = true then
  t_loop (b_X13_code_408 rc) t_N (l1, (s.1 959 (l3.toNatClampNeg)), s)
else none).map Sum.inr)
 else (if t_ix l7 13000 = true then
  if (lg_cmp (s.2.1 958 (l7.toNatClampNeg)) (0 : Int64)) = (0 : Int32) then (k_X13_code_388 rc l1 l3 l7 s)
 else ((f_X13_fieldOf l1 (s.2.1 957 (l7.toNatClampNeg)) s).bind (fun r3 =>
 if r3 < (0 : Int32) then (k_X13_code_384 rc l1 l3 l7 0 s)
 else (k_X13_code_384 rc l1 l3 l7 1 s)))
else none)
set_option maxRecDepth 4000 in
set_option maxHeartbeats 1000000 in
theorem B_X13_code_346 {D : va_G} {cy : Nat → ClassId} {ad : Nat → Nat} {bs : Nat} {X : State → Heap → Prop} (rc : RT_X13_code) {k : Nat} (H : RH_X13_code rc k) (l1 : Int32) (l3 : Int32) (l7 : Int32) (s : t_S) (Q : (Int32 × Int32 × Int32 × t_S) ⊕ (t_S) → Prop) (Hb346 : ∀ (y0 : Int32) (y1 : Int32) (y2 : Int32) (y3 : t_S), Q (.inl (y0, y1, y2, y3)) → mj_G D cy ad bs X cX13_code 9 yX13_code.cls none yX13_code.name (4 + (k + 1)) 0 0 1065 (t_P (fun v s' => v = none ∧ Q (.inr (s')))) 346 [(0, .ref 950), (1, .int (y0)), (3, .int (y1)), (7, .int (y2))] [] (t_m y3) 1065 0 0) (hk : t_hk (k_X13_code_346 rc l1 l3 l7 s) Q) : mj_G D cy ad bs X cX13_code 9 yX13_code.cls none yX13_code.name (4 + (k + 1)) 0 0 1065 (t_P (fun v s' => v = none ∧ Q (.inr (s')))) 346 [(0, .ref 950), (1, .int l1), (3, .int l3), (7, .int l7)] [] (t_m s) 1065 0 0 := by
  refine mj_iload dX13_code_346 3 rfl ?_
  refine mj_if_lt 400 dX13_code_348 (by decide) (fun z => t_posK hk z (fun hk => ?_)) (fun z => t_negK hk z (fun hk => ?_))
  · refine t_mapK hk (fun hk => ?_)
    refine mj_aload_n dX13_code_400 0 rfl ?_
    refine t_getR 959 dX13_code_401 F_X13_39 qr_950_21 ?_
    refine mj_iload_n dX13_code_404 2 rfl ?_
    refine t_chkK hk (fun c0 hk => ?_)
    refine t_iald dX13_code_405 qa_959 (t_ixv c0) ?_
    refine mj_istore (lv2 := [(7, .int (s.1 959 (l3.toNatClampNeg))), (0, .ref 950), (1, .int l1), (3, .int l3)]) dX13_code_406 (by decide) rfl ?_
    refine mj_sublv [(0, .ref 950), (1, .int l1), (7, .int (s.1 959 (l3.toNatClampNeg)))] [1, 2, 0] rfl ?_
    exact LH_X13_code_408 rc H _ l1 (s.1 959 (l3.toNatClampNeg)) s _ hk
  · refine mj_aload_n dX13_code_351 0 rfl ?_
    refine t_getR 958 dX13_code_352 F_X13_36 qr_950_20 ?_
    refine mj_iload dX13_code_355 3 rfl ?_
    refine t_chkK hk (fun c1 hk => ?_)
    refine t_lald dX13_code_357 qa_958 (t_ixv c1) ?_
    refine mj_lconst (v := 0) dX13_code_358 (by decide) ?_
    refine mj_lcmp dX13_code_359 ?_
    refine mj_if_eq 388 dX13_code_360 (by decide) (fun z => t_posK hk z (fun hk => ?_)) (fun z => t_negK hk z (fun hk => ?_))
    · exact B_X13_code_388 rc H _ _ _ _ _ (fun y0 y1 y2 y3 hx => Hb346 y0 y1 y2 y3 hx) hk
    · refine mj_aload_n dX13_code_363 0 rfl ?_
      refine mj_aload_n dX13_code_364 0 rfl ?_
      refine mj_iload_n dX13_code_365 1 rfl ?_
      refine mj_aload_n dX13_code_366 0 rfl ?_
      refine t_getR 957 dX13_code_367 F_X13_32 qr_950_19 ?_
      refine mj_iload dX13_code_370 3 rfl ?_
      refine t_lald dX13_code_372 qa_957 (t_ixv c1) ?_
      refine t_bndK hk (fun r3 er3 hk => ?_)
      refine t_callViP dX13_code_373 M_X13_fieldOf (C_X13_fieldOf _ _ _ _ er3) ML_X13_966 IM_X13_fieldOf SE_X13_fieldOf qc_950 rfl (As := [.int l1, .long (s.2.1 957 (l7.toNatClampNeg))]) rfl rfl (by omega) (Nat.le_of_ble_eq_true rfl) (Nat.le_of_ble_eq_true rfl) (Nat.le_of_ble_eq_true rfl) ?_
      refine mj_if_lt 383 dX13_code_376 (by decide) (fun z => t_posK hk z (fun hk => ?_)) (fun z => t_negK hk z (fun hk => ?_))
      · refine mj_lconst (v := 0) dX13_code_383 (by decide) ?_
        exact B_X13_code_384 rc H _ _ _ _ _ _ (fun y0 y1 y2 y3 hx => Hb346 y0 y1 y2 y3 hx) hk
      · refine mj_lconst (v := 1) dX13_code_379 (by decide) ?_
        refine mj_goto 384 dX13_code_380 (by decide) ?_
        exact B_X13_code_384 rc H _ _ _ _ _ _ (fun y0 y1 y2 y3 hx => Hb346 y0 y1 y2 y3 hx) hk
noncomputable def b_X13_code_346 (rc : RT_X13_code) (x : Int32 × Int32 × Int32 × t_S) : Option ((Int32 × Int32 × Int32 × t_S) ⊕ (t_S)) := k_X13_code_346 rc x.1 x.2.1 x.2.2.1 x.2.2.2
set_option maxRecDepth 4000 in
set_option maxHeartbeats 1000000 in
theorem LH_X13_code_346 {D : va_G} {cy : Nat → ClassId} {ad : Nat → Nat} {bs : Nat} {X : State → Heap → Prop} (rc : RT_X13_code) {k : Nat} (H : RH_X13_code rc k) : ∀ (n : Nat) (y0 : Int32) (y1 : Int32) (y2 : Int32) (y3 : t_S) (Q : t_S → Prop) (hk : t_hk (t_loop (b_X13_code_346 rc) n (y0, y1, y2, y3)) Q), mj_G D cy ad bs X cX13_code 9 yX13_code.cls none yX13_code.name (4 + (k + 1)) 0 0 1065 (t_P (fun v s' => v = none ∧ Q (s'))) 346 [(0, .ref 950), (1, .int (y0)), (3, .int (y1)), (7, .int (y2))] [] (t_m y3) 1065 0 0 := by
  intro n
  induction n with
  | zero => intro y0 y1 y2 y3 Q hk; obtain ⟨r, hr, _⟩ := hk; cases hr
  | succ n ih =>
    intro y0 y1 y2 y3 Q hk
    exact B_X13_code_346 rc H y0 y1 y2 y3 (fun y => t_lq (b_X13_code_346 rc) n Q y) (fun y0' y1' y2' y3' hy => ih y0' y1' y2' y3' Q hy) (t_lp (b := b_X13_code_346 rc) (n := n) (x := (y0, y1, y2, y3)) hk)
noncomputable def k_X13_code_195 (rc : RT_X13_code) (l1 : Int32) (l4 : Int64) (l6 : Int32) (s : t_S) : Option ((Int32 × Int64 × Int32 × t_S) ⊕ (t_S)) :=
 if l4.toInt32 ≤ l6 then ((some (s)).map Sum.inr)
 else ((f_X13_signOf l1 l6 s).bind (fun r1 =>
 (f_X13_putBits ((r1 - (32 : Int32)).toInt64) (7 : Int32) s).bind (fun r2 =>
 some (.inl (l1, l4, (l6 + 1), r2)))))
set_option maxRecDepth 4000 in
set_option maxHeartbeats 1000000 in
theorem B_X13_code_195 {D : va_G} {cy : Nat → ClassId} {ad : Nat → Nat} {bs : Nat} {X : State → Heap → Prop} (rc : RT_X13_code) {k : Nat} (H : RH_X13_code rc k) (l1 : Int32) (l4 : Int64) (l6 : Int32) (s : t_S) (Q : (Int32 × Int64 × Int32 × t_S) ⊕ (t_S) → Prop) (Hb195 : ∀ (y0 : Int32) (y1 : Int64) (y2 : Int32) (y3 : t_S), Q (.inl (y0, y1, y2, y3)) → mj_G D cy ad bs X cX13_code 9 yX13_code.cls none yX13_code.name (4 + (k + 1)) 0 0 1065 (t_P (fun v s' => v = none ∧ Q (.inr (s')))) 195 [(0, .ref 950), (1, .int (y0)), (4, .long (y1)), (6, .int (y2))] [] (t_m y3) 1065 0 0) (hk : t_hk (k_X13_code_195 rc l1 l4 l6 s) Q) : mj_G D cy ad bs X cX13_code 9 yX13_code.cls none yX13_code.name (4 + (k + 1)) 0 0 1065 (t_P (fun v s' => v = none ∧ Q (.inr (s')))) 195 [(0, .ref 950), (1, .int l1), (4, .long l4), (6, .int l6)] [] (t_m s) 1065 0 0 := by
  refine mj_iload dX13_code_195 3 rfl ?_
  refine mj_lload dX13_code_197 2 rfl ?_
  refine mj_l2i (v := l4.toInt32) dX13_code_199 rfl ?_
  refine mj_icmp_ge 226 dX13_code_200 (by decide) (fun z => t_posK hk z (fun hk => ?_)) (fun z => t_negK hk z (fun hk => ?_))
  · refine t_mapK hk (fun hk => ?_)
    exact t_somK hk (fun hf => t_vret dX13_code_226 rfl ⟨rfl, hf⟩ (Nat.le_of_ble_eq_true rfl) (Nat.le_of_ble_eq_true rfl))
  · refine mj_aload_n dX13_code_203 0 rfl ?_
    refine mj_aload_n dX13_code_204 0 rfl ?_
    refine mj_iload_n dX13_code_205 1 rfl ?_
    refine mj_iload dX13_code_206 3 rfl ?_
    refine t_bndK hk (fun r1 er1 hk => ?_)
    refine t_callViP dX13_code_208 M_X13_signOf (C_X13_signOf _ _ _ _ er1) ML_X13_996 IM_X13_signOf SE_X13_signOf qc_950 rfl (As := [.int l1, .int l6]) rfl rfl (by omega) (Nat.le_of_ble_eq_true rfl) (Nat.le_of_ble_eq_true rfl) (Nat.le_of_ble_eq_true rfl) ?_
    refine mj_bipush (v := 32) dX13_code_211 (by decide) ?_
    refine mj_isub dX13_code_213 ?_
    refine mj_i2l (v := (r1 - (32 : Int32)).toInt64) dX13_code_214 rfl ?_
    refine mj_bipush (v := 7) dX13_code_215 (by decide) ?_
    refine t_bndK hk (fun r2 er2 hk => ?_)
    refine t_callVvE dX13_code_217 M_X13_putBits (C_X13_putBits _ _ _ _ er2) ML_X13_1138 IM_X13_putBits SE_X13_putBits qc_950 rfl (As := [.long ((r1 - (32 : Int32)).toInt64), .int 7]) rfl rfl (by omega) (Nat.le_of_ble_eq_true rfl) (Nat.le_of_ble_eq_true rfl) (Nat.le_of_ble_eq_true rfl) ?_
    refine mj_iinc (k := 3) (v := (l6 + 1)) (lv2 := [(6, .int (l6 + 1)), (0, .ref 950), (1, .int l1), (4, .long l4)]) dX13_code_220 rfl rfl (by decide) rfl ?_
    refine mj_goto 195 dX13_code_223 (by decide) ?_
    refine mj_sublv [(0, .ref 950), (1, .int l1), (4, .long l4), (6, .int (l6 + 1))] [1, 2, 3, 0] rfl ?_
    exact t_somK hk (fun hf => Hb195 l1 l4 (l6 + 1) r2 hf)
noncomputable def b_X13_code_195 (rc : RT_X13_code) (x : Int32 × Int64 × Int32 × t_S) : Option ((Int32 × Int64 × Int32 × t_S) ⊕ (t_S)) := k_X13_code_195 rc x.1 x.2.1 x.2.2.1 x.2.2.2
set_option maxRecDepth 4000 in
set_option maxHeartbeats 1000000 in
theorem LH_X13_code_195 {D : va_G} {cy : Nat → ClassId} {ad : Nat → Nat} {bs : Nat} {X : State → Heap → Prop} (rc : RT_X13_code) {k : Nat} (H : RH_X13_code rc k) : ∀ (n : Nat) (y0 : Int32) (y1 : Int64) (y2 : Int32) (y3 : t_S) (Q : t_S → Prop) (hk : t_hk (t_loop (b_X13_code_195 rc) n (y0, y1, y2, y3)) Q), mj_G D cy ad bs X cX13_code 9 yX13_code.cls none yX13_code.name (4 + (k + 1)) 0 0 1065 (t_P (fun v s' => v = none ∧ Q (s'))) 195 [(0, .ref 950), (1, .int (y0)), (4, .long (y1)), (6, .int (y2))] [] (t_m y3) 1065 0 0 := by
  intro n
  induction n with
  | zero => intro y0 y1 y2 y3 Q hk; obtain ⟨r, hr, _⟩ := hk; cases hr
  | succ n ih =>
    intro y0 y1 y2 y3 Q hk
    exact B_X13_code_195 rc H y0 y1 y2 y3 (fun y => t_lq (b_X13_code_195 rc) n Q y) (fun y0' y1' y2' y3' hy => ih y0' y1' y2' y3' Q hy) (t_lp (b := b_X13_code_195 rc) (n := n) (x := (y0, y1, y2, y3)) hk)
noncomputable def k_X13_code_306 (rc : RT_X13_code) (l1 : Int32) (l3 : Int32) (l4 : Int64) (l7 : Int32) (s : t_S) : Option ((Int32 × Int32 × Int64 × Int32 × t_S) ⊕ (t_S)) :=
 if l4.toInt32 ≤ l7 then ((some (s)).map Sum.inr)
 else ((f_X13_partOf l1 l7 s).bind (fun r1 =>
 if t_ix l3 13000 = true then
  (rc r1 (s.1 959 (l3.toNatClampNeg)) s).bind (fun r3 =>
 some (.inl (l1, l3, l4, (l7 + 1), r3)))
else none))
set_option maxRecDepth 4000 in
set_option maxHeartbeats 1000000 in
theorem B_X13_code_306 {D : va_G} {cy : Nat → ClassId} {ad : Nat → Nat} {bs : Nat} {X : State → Heap → Prop} (rc : RT_X13_code) {k : Nat} (H : RH_X13_code rc k) (l1 : Int32) (l3 : Int32) (l4 : Int64) (l7 : Int32) (s : t_S) (Q : (Int32 × Int32 × Int64 × Int32 × t_S) ⊕ (t_S) → Prop) (Hb306 : ∀ (y0 : Int32) (y1 : Int32) (y2 : Int64) (y3 : Int32) (y4 : t_S), Q (.inl (y0, y1, y2, y3, y4)) → mj_G D cy ad bs X cX13_code 9 yX13_code.cls none yX13_code.name (4 + (k + 1)) 0 0 1065 (t_P (fun v s' => v = none ∧ Q (.inr (s')))) 306 [(0, .ref 950), (1, .int (y0)), (3, .int (y1)), (4, .long (y2)), (7, .int (y3))] [] (t_m y4) 1065 0 0) (hk : t_hk (k_X13_code_306 rc l1 l3 l4 l7 s) Q) : mj_G D cy ad bs X cX13_code 9 yX13_code.cls none yX13_code.name (4 + (k + 1)) 0 0 1065 (t_P (fun v s' => v = none ∧ Q (.inr (s')))) 306 [(0, .ref 950), (1, .int l1), (3, .int l3), (4, .long l4), (7, .int l7)] [] (t_m s) 1065 0 0 := by
  refine mj_iload dX13_code_306 4 rfl ?_
  refine mj_lload dX13_code_308 3 rfl ?_
  refine mj_l2i (v := l4.toInt32) dX13_code_310 rfl ?_
  refine mj_icmp_ge 337 dX13_code_311 (by decide) (fun z => t_posK hk z (fun hk => ?_)) (fun z => t_negK hk z (fun hk => ?_))
  · refine t_mapK hk (fun hk => ?_)
    exact t_somK hk (fun hf => t_vret dX13_code_337 rfl ⟨rfl, hf⟩ (Nat.le_of_ble_eq_true rfl) (Nat.le_of_ble_eq_true rfl))
  · refine mj_aload_n dX13_code_314 0 rfl ?_
    refine mj_aload_n dX13_code_315 0 rfl ?_
    refine mj_iload_n dX13_code_316 1 rfl ?_
    refine mj_iload dX13_code_317 4 rfl ?_
    refine t_bndK hk (fun r1 er1 hk => ?_)
    refine t_callViP dX13_code_319 M_X13_partOf (C_X13_partOf _ _ _ _ er1) ML_X13_855 IM_X13_partOf SE_X13_partOf qc_950 rfl (As := [.int l1, .int l7]) rfl rfl (by omega) (Nat.le_of_ble_eq_true rfl) (Nat.le_of_ble_eq_true rfl) (Nat.le_of_ble_eq_true rfl) ?_
    refine mj_aload_n dX13_code_322 0 rfl ?_
    refine t_getR 959 dX13_code_323 F_X13_39 qr_950_21 ?_
    refine mj_iload_n dX13_code_326 2 rfl ?_
    refine t_chkK hk (fun c1 hk => ?_)
    refine t_iald dX13_code_327 qa_959 (t_ixv c1) ?_
    refine t_bndK hk (fun r3 er3 hk => ?_)
    refine t_callSvE dX13_code_328 M_X13_code (H _ _ _ _ er3) ML_X13_1148 SM_X13_code (As := [.ref 950, .int r1, .int (s.1 959 (l3.toNatClampNeg))]) rfl rfl (by omega) (Nat.le_of_ble_eq_true rfl) (Nat.le_of_ble_eq_true rfl) (Nat.le_of_ble_eq_true rfl) ?_
    refine mj_iinc (k := 4) (v := (l7 + 1)) (lv2 := [(7, .int (l7 + 1)), (0, .ref 950), (1, .int l1), (3, .int l3), (4, .long l4)]) dX13_code_331 rfl rfl (by decide) rfl ?_
    refine mj_goto 306 dX13_code_334 (by decide) ?_
    refine mj_sublv [(0, .ref 950), (1, .int l1), (3, .int l3), (4, .long l4), (7, .int (l7 + 1))] [1, 2, 3, 4, 0] rfl ?_
    exact t_somK hk (fun hf => Hb306 l1 l3 l4 (l7 + 1) r3 hf)
noncomputable def b_X13_code_306 (rc : RT_X13_code) (x : Int32 × Int32 × Int64 × Int32 × t_S) : Option ((Int32 × Int32 × Int64 × Int32 × t_S) ⊕ (t_S)) := k_X13_code_306 rc x.1 x.2.1 x.2.2.1 x.2.2.2.1 x.2.2.2.2
set_option maxRecDepth 4000 in
set_option maxHeartbeats 1000000 in
theorem LH_X13_code_306 {D : va_G} {cy : Nat → ClassId} {ad : Nat → Nat} {bs : Nat} {X : State → Heap → Prop} (rc : RT_X13_code) {k : Nat} (H : RH_X13_code rc k) : ∀ (n : Nat) (y0 : Int32) (y1 : Int32) (y2 : Int64) (y3 : Int32) (y4 : t_S) (Q : t_S → Prop) (hk : t_hk (t_loop (b_X13_code_306 rc) n (y0, y1, y2, y3, y4)) Q), mj_G D cy ad bs X cX13_code 9 yX13_code.cls none yX13_code.name (4 + (k + 1)) 0 0 1065 (t_P (fun v s' => v = none ∧ Q (s'))) 306 [(0, .ref 950), (1, .int (y0)), (3, .int (y1)), (4, .long (y2)), (7, .int (y3))] [] (t_m y4) 1065 0 0 := by
  intro n
  induction n with
  | zero => intro y0 y1 y2 y3 y4 Q hk; obtain ⟨r, hr, _⟩ := hk; cases hr
  | succ n ih =>
    intro y0 y1 y2 y3 y4 Q hk
    exact B_X13_code_306 rc H y0 y1 y2 y3 y4 (fun y => t_lq (b_X13_code_306 rc) n Q y) (fun y0' y1' y2' y3' y4' hy => ih y0' y1' y2' y3' y4' Q hy) (t_lp (b := b_X13_code_306 rc) (n := n) (x := (y0, y1, y2, y3, y4)) hk)
noncomputable def m_X13_code (rc : RT_X13_code) (x2 : Int32) (x3 : Int32) (s : t_S) : Option (t_S) :=
 (f_X13_meant x3 s).bind (fun r1 =>
 if t_ix (x2 + (1 : Int32)) 626600 = true then
  if t_ix r1 13000 = true then
  if (s.1 955 (r1.toNatClampNeg)).toInt < 1 ∨ 7 < (s.1 955 (r1.toNatClampNeg)).toInt then (t_loop (b_X13_code_346 rc) t_N (x2, r1, (s.1 959 (r1.toNatClampNeg)), s))
 else if (s.1 955 (r1.toNatClampNeg)).toInt = 1 then (if (s.1 959 (r1.toNatClampNeg)) < (0 : Int32) then ((f_X13_bytesFor (s.2.1 1006 ((x2 + (1 : Int32)).toNatClampNeg)) s).bind (fun r4 =>
 (f_X13_putBits r4.toInt64 (8 : Int32) s).bind (fun r5 =>
 (f_X13_putBits (s.2.1 1006 ((x2 + (1 : Int32)).toNatClampNeg)) ((8 : Int32) * r4) r5).bind (fun r6 =>
 some (r6)))))
 else ((f_X13_leastOf r1 s).bind (fun r7 =>
 (f_X13_greatestOf r1 s).bind (fun r8 =>
 (f_X13_bitsFor (r8 - r7) s).bind (fun r9 =>
 (f_X13_putBits ((s.2.1 1006 ((x2 + (1 : Int32)).toNatClampNeg)) - r7) r9 s).bind (fun r10 =>
 some (r10)))))))
 else if (s.1 955 (r1.toNatClampNeg)).toInt = 2 then ((f_X13_putBits (s.2.1 1006 ((x2 + (1 : Int32)).toNatClampNeg)) (1 : Int32) s).bind (fun r11 =>
 some (r11)))
 else if (s.1 955 (r1.toNatClampNeg)).toInt = 3 then ((f_X13_bitsFor ((s.2.1 958 (r1.toNatClampNeg)) - (s.2.1 957 (r1.toNatClampNeg))) s).bind (fun r12 =>
 (f_X13_putBits ((s.2.1 1006 ((x2 + (1 : Int32)).toNatClampNeg)) - (s.2.1 957 (r1.toNatClampNeg))) r12 s).bind (fun r13 =>
 t_loop (b_X13_code_195 rc) t_N (x2, (s.2.1 1006 ((x2 + (1 : Int32)).toNatClampNeg)), 0, r13))))
 else if (s.1 955 (r1.toNatClampNeg)).toInt = 4 then ((f_X13_whichPart r1 (s.2.1 1006 ((x2 + (1 : Int32)).toNatClampNeg)) s).bind (fun r14 =>
 (f_X13_partCount r1 s).bind (fun r15 =>
 (f_X13_bitsFor ((r15 - (1 : Int32)).toInt64) s).bind (fun r16 =>
 (f_X13_putBits r14.toInt64 r16 s).bind (fun r17 =>
 some (r17))))))
 else if (s.1 955 (r1.toNatClampNeg)).toInt = 5 then (t_loop (b_X13_code_346 rc) t_N (x2, r1, (s.1 959 (r1.toNatClampNeg)), s))
 else if (s.1 955 (r1.toNatClampNeg)).toInt = 6 then ((f_X13_whichPart r1 (s.2.1 1006 ((x2 + (1 : Int32)).toNatClampNeg)) s).bind (fun r18 =>
 (f_X13_partCount r1 s).bind (fun r19 =>
 (f_X13_bitsFor ((r19 - (1 : Int32)).toInt64) s).bind (fun r20 =>
 (f_X13_putBits r18.toInt64 r20 s).bind (fun r21 =>
 (f_X13_part r1 r18 r21).bind (fun r22 =>
 if t_ix r22 13000 = true then
  (rc (x2 + (2 : Int32)) (r21.1 959 (r22.toNatClampNeg)) r21).bind (fun r24 =>
 some (r24))
else none))))))
 else ((f_X13_bitsFor ((s.2.1 958 (r1.toNatClampNeg)) - (s.2.1 957 (r1.toNatClampNeg))) s).bind (fun r25 =>
 (f_X13_putBits ((s.2.1 1006 ((x2 + (1 : Int32)).toNatClampNeg)) - (s.2.1 957 (r1.toNatClampNeg))) r25 s).bind (fun r26 =>
 t_loop (b_X13_code_306 rc) t_N (x2, r1, (s.2.1 1006 ((x2 + (1 : Int32)).toNatClampNeg)), 0, r26))))
else none
else none)
set_option maxRecDepth 4000 in
set_option maxHeartbeats 1000000 in
theorem E_X13_code (rc : RT_X13_code) {k : Nat} (H : RH_X13_code rc k) (x2 : Int32) (x3 : Int32) (s : t_S) (r : t_S) (hr : m_X13_code rc x2 x3 s = some r) : t_C yX13_code cX13_code 9 none (4 + (k + 1)) [.ref 950, .int x2, .int x3] s (fun v s' => v = none ∧ s' = r) := by
  refine t_C.imp (P := fun v s' => v = none ∧ (fun q => q = r) (s')) (t_C.of (by decide +kernel) (Nat.le_of_ble_eq_true rfl) ?_) (fun v s' hp => hp)
  intro D cy ad bs X
  have hk : t_hk (m_X13_code rc x2 x3 s) (fun q => q = r) := ⟨r, hr, rfl⟩
  show mj_G D cy ad bs X cX13_code 9 yX13_code.cls none yX13_code.name (4 + (k + 1)) 0 0 1065 (t_P (fun v s' => v = none ∧ (fun q => q = r) (s'))) 0 [(0, .ref 950), (1, .int x2), (2, .int x3)] [] (t_m s) 1065 0 0
  refine mj_aload_n dX13_code_0 0 rfl ?_
  refine mj_iload_n dX13_code_1 2 rfl ?_
  refine t_bndK hk (fun r1 er1 hk => ?_)
  refine t_callViP dX13_code_2 M_X13_meant (C_X13_meant _ _ _ er1) ML_X13_1036 IM_X13_meant SE_X13_meant qc_950 rfl (As := [.int x3]) rfl rfl (by omega) (Nat.le_of_ble_eq_true rfl) (Nat.le_of_ble_eq_true rfl) (Nat.le_of_ble_eq_true rfl) ?_
  refine mj_istore_n 3 (lv2 := [(3, .int r1), (0, .ref 950), (1, .int x2), (2, .int x3)]) dX13_code_5 rfl (by decide) rfl ?_
  refine mj_aload_n dX13_code_6 1 rfl ?_
  refine t_getR 1006 dX13_code_7 F_X13_182 qr_950_95 ?_
  refine mj_iload_n dX13_code_10 2 rfl ?_
  refine mj_iconst (v := 1) dX13_code_11 (by decide) ?_
  refine mj_iadd dX13_code_12 ?_
  refine t_chkK hk (fun c1 hk => ?_)
  refine t_lald dX13_code_13 qa_1006 (t_ixv c1) ?_
  refine mj_lstore (lv2 := [(4, .long (s.2.1 1006 ((x2 + (1 : Int32)).toNatClampNeg))), (3, .int r1), (0, .ref 950), (1, .int x2), (2, .int x3)]) dX13_code_14 (by decide) rfl ?_
  refine mj_aload_n dX13_code_16 2 rfl ?_
  refine t_getR 955 dX13_code_17 F_X13_26 qr_950_17 ?_
  refine mj_iload_n dX13_code_20 1 rfl ?_
  refine t_chkK hk (fun c2 hk => ?_)
  refine t_iald dX13_code_21 qa_955 (t_ixv c2) ?_
  by_cases hout : (s.1 955 (r1.toNatClampNeg)).toInt < 1 ∨ 7 < (s.1 955 (r1.toNatClampNeg)).toInt
  · replace hk := t_pos hk hout
    refine mj_tableOut 338 dX13_code_22 hout (by decide) ?_
    refine mj_aload_n dX13_code_338 2 rfl ?_
    refine t_getR 959 dX13_code_339 F_X13_39 qr_950_21 ?_
    refine mj_iload_n dX13_code_342 1 rfl ?_
    refine t_iald dX13_code_343 qa_959 (t_ixv c2) ?_
    refine mj_istore (lv2 := [(7, .int (s.1 959 (r1.toNatClampNeg))), (4, .long (s.2.1 1006 ((x2 + (1 : Int32)).toNatClampNeg))), (3, .int r1), (0, .ref 950), (1, .int x2), (2, .int x3)]) dX13_code_344 (by decide) rfl ?_
    refine mj_sublv [(0, .ref 950), (1, .int x2), (3, .int r1), (7, .int (s.1 959 (r1.toNatClampNeg)))] [3, 4, 2, 0] rfl ?_
    exact LH_X13_code_346 rc H _ x2 r1 (s.1 959 (r1.toNatClampNeg)) s _ hk
  · replace hk := t_neg hk hout
    have hh1 : ¬ (s.1 955 (r1.toNatClampNeg)).toInt < 1 := fun z => hout (Or.inl z)
    have hh2 : ¬ (7 : Int) < (s.1 955 (r1.toNatClampNeg)).toInt := fun z => hout (Or.inr z)
    by_cases h0 : (s.1 955 (r1.toNatClampNeg)).toInt = 1
    · replace hk := t_pos hk h0
      refine mj_tableIn 64 dX13_code_22 hh1 hh2 (by rw [h0]; rfl) (by decide) ?_
      refine mj_aload_n dX13_code_64 2 rfl ?_
      refine t_getR 959 dX13_code_65 F_X13_39 qr_950_21 ?_
      refine mj_iload_n dX13_code_68 1 rfl ?_
      refine t_iald dX13_code_69 qa_959 (t_ixv c2) ?_
      refine mj_if_lt 103 dX13_code_70 (by decide) (fun z => t_posK hk z (fun hk => ?_)) (fun z => t_negK hk z (fun hk => ?_))
      · refine mj_lload dX13_code_103 0 rfl ?_
        refine t_bndK hk (fun r4 er4 hk => ?_)
        refine t_callSiP dX13_code_105 M_X13_bytesFor (C_X13_bytesFor _ _ _ er4) ML_X13_1142 SM_X13_bytesFor (As := [.long (s.2.1 1006 ((x2 + (1 : Int32)).toNatClampNeg))]) rfl rfl (by omega) (Nat.le_of_ble_eq_true rfl) (Nat.le_of_ble_eq_true rfl) (Nat.le_of_ble_eq_true rfl) ?_
        refine mj_istore (lv2 := [(6, .int r4), (4, .long (s.2.1 1006 ((x2 + (1 : Int32)).toNatClampNeg))), (3, .int r1), (0, .ref 950), (1, .int x2), (2, .int x3)]) dX13_code_108 (by decide) rfl ?_
        refine mj_aload_n dX13_code_110 3 rfl ?_
        refine mj_iload dX13_code_111 0 rfl ?_
        refine mj_i2l (v := r4.toInt64) dX13_code_113 rfl ?_
        refine mj_bipush (v := 8) dX13_code_114 (by decide) ?_
        refine t_bndK hk (fun r5 er5 hk => ?_)
        refine t_callVvE dX13_code_116 M_X13_putBits (C_X13_putBits _ _ _ _ er5) ML_X13_1138 IM_X13_putBits SE_X13_putBits qc_950 rfl (As := [.long r4.toInt64, .int 8]) rfl rfl (by omega) (Nat.le_of_ble_eq_true rfl) (Nat.le_of_ble_eq_true rfl) (Nat.le_of_ble_eq_true rfl) ?_
        refine mj_aload_n dX13_code_119 3 rfl ?_
        refine mj_lload dX13_code_120 1 rfl ?_
        refine mj_bipush (v := 8) dX13_code_122 (by decide) ?_
        refine mj_iload dX13_code_124 0 rfl ?_
        refine mj_imul dX13_code_126 ?_
        refine t_bndK hk (fun r6 er6 hk => ?_)
        refine t_callVvE dX13_code_127 M_X13_putBits (C_X13_putBits _ _ _ _ er6) ML_X13_1138 IM_X13_putBits SE_X13_putBits qc_950 rfl (As := [.long (s.2.1 1006 ((x2 + (1 : Int32)).toNatClampNeg)), .int ((8 : Int32) * r4)]) rfl rfl (by omega) (Nat.le_of_ble_eq_true rfl) (Nat.le_of_ble_eq_true rfl) (Nat.le_of_ble_eq_true rfl) ?_
        exact t_somK hk (fun hf => t_vret dX13_code_130 rfl ⟨rfl, hf⟩ (Nat.le_of_ble_eq_true rfl) (Nat.le_of_ble_eq_true rfl))
      · refine mj_aload_n dX13_code_73 2 rfl ?_
        refine mj_iload_n dX13_code_74 1 rfl ?_
        refine t_bndK hk (fun r7 er7 hk => ?_)
        refine t_callVlP dX13_code_75 M_X13_leastOf (C_X13_leastOf _ _ _ er7) ML_X13_1129 IM_X13_leastOf SE_X13_leastOf qc_950 rfl (As := [.int r1]) rfl rfl (by omega) (Nat.le_of_ble_eq_true rfl) (Nat.le_of_ble_eq_true rfl) (Nat.le_of_ble_eq_true rfl) ?_
        refine mj_lstore (lv2 := [(6, .long r7), (4, .long (s.2.1 1006 ((x2 + (1 : Int32)).toNatClampNeg))), (3, .int r1), (0, .ref 950), (1, .int x2), (2, .int x3)]) dX13_code_78 (by decide) rfl ?_
        refine mj_aload_n dX13_code_80 3 rfl ?_
        refine mj_lload dX13_code_81 1 rfl ?_
        refine mj_lload dX13_code_83 0 rfl ?_
        refine mj_lsub dX13_code_85 ?_
        refine mj_aload_n dX13_code_86 3 rfl ?_
        refine mj_iload_n dX13_code_87 2 rfl ?_
        refine t_bndK hk (fun r8 er8 hk => ?_)
        refine t_callVlP dX13_code_88 M_X13_greatestOf (C_X13_greatestOf _ _ _ er8) ML_X13_1132 IM_X13_greatestOf SE_X13_greatestOf qc_950 rfl (As := [.int r1]) rfl rfl (by omega) (Nat.le_of_ble_eq_true rfl) (Nat.le_of_ble_eq_true rfl) (Nat.le_of_ble_eq_true rfl) ?_
        refine mj_lload dX13_code_91 0 rfl ?_
        refine mj_lsub dX13_code_93 ?_
        refine t_bndK hk (fun r9 er9 hk => ?_)
        refine t_callSiP dX13_code_94 M_X13_bitsFor (C_X13_bitsFor _ _ _ er9) ML_X13_1135 SM_X13_bitsFor (As := [.long (r8 - r7)]) rfl rfl (by omega) (Nat.le_of_ble_eq_true rfl) (Nat.le_of_ble_eq_true rfl) (Nat.le_of_ble_eq_true rfl) ?_
        refine t_bndK hk (fun r10 er10 hk => ?_)
        refine t_callVvE dX13_code_97 M_X13_putBits (C_X13_putBits _ _ _ _ er10) ML_X13_1138 IM_X13_putBits SE_X13_putBits qc_950 rfl (As := [.long ((s.2.1 1006 ((x2 + (1 : Int32)).toNatClampNeg)) - r7), .int r9]) rfl rfl (by omega) (Nat.le_of_ble_eq_true rfl) (Nat.le_of_ble_eq_true rfl) (Nat.le_of_ble_eq_true rfl) ?_
        refine mj_goto 130 dX13_code_100 (by decide) ?_
        exact t_somK hk (fun hf => t_vret dX13_code_130 rfl ⟨rfl, hf⟩ (Nat.le_of_ble_eq_true rfl) (Nat.le_of_ble_eq_true rfl))
    replace hk := t_neg hk h0
    by_cases h1 : (s.1 955 (r1.toNatClampNeg)).toInt = 2
    · replace hk := t_pos hk h1
      refine mj_tableIn 131 dX13_code_22 hh1 hh2 (by rw [h1]; rfl) (by decide) ?_
      refine mj_aload_n dX13_code_131 2 rfl ?_
      refine mj_lload dX13_code_132 0 rfl ?_
      refine mj_iconst (v := 1) dX13_code_134 (by decide) ?_
      refine t_bndK hk (fun r11 er11 hk => ?_)
      refine t_callVvE dX13_code_135 M_X13_putBits (C_X13_putBits _ _ _ _ er11) ML_X13_1138 IM_X13_putBits SE_X13_putBits qc_950 rfl (As := [.long (s.2.1 1006 ((x2 + (1 : Int32)).toNatClampNeg)), .int 1]) rfl rfl (by omega) (Nat.le_of_ble_eq_true rfl) (Nat.le_of_ble_eq_true rfl) (Nat.le_of_ble_eq_true rfl) ?_
      exact t_somK hk (fun hf => t_vret dX13_code_138 rfl ⟨rfl, hf⟩ (Nat.le_of_ble_eq_true rfl) (Nat.le_of_ble_eq_true rfl))
    replace hk := t_neg hk h1
    by_cases h2 : (s.1 955 (r1.toNatClampNeg)).toInt = 3
    · replace hk := t_pos hk h2
      refine mj_tableIn 163 dX13_code_22 hh1 hh2 (by rw [h2]; rfl) (by decide) ?_
      refine mj_aload_n dX13_code_163 2 rfl ?_
      refine mj_lload dX13_code_164 0 rfl ?_
      refine mj_aload_n dX13_code_166 2 rfl ?_
      refine t_getR 957 dX13_code_167 F_X13_32 qr_950_19 ?_
      refine mj_iload_n dX13_code_170 1 rfl ?_
      refine t_lald dX13_code_171 qa_957 (t_ixv c2) ?_
      refine mj_lsub dX13_code_172 ?_
      refine mj_aload_n dX13_code_173 2 rfl ?_
      refine t_getR 958 dX13_code_174 F_X13_36 qr_950_20 ?_
      refine mj_iload_n dX13_code_177 1 rfl ?_
      refine t_lald dX13_code_178 qa_958 (t_ixv c2) ?_
      refine mj_aload_n dX13_code_179 2 rfl ?_
      refine t_getR 957 dX13_code_180 F_X13_32 qr_950_19 ?_
      refine mj_iload_n dX13_code_183 1 rfl ?_
      refine t_lald dX13_code_184 qa_957 (t_ixv c2) ?_
      refine mj_lsub dX13_code_185 ?_
      refine t_bndK hk (fun r12 er12 hk => ?_)
      refine t_callSiP dX13_code_186 M_X13_bitsFor (C_X13_bitsFor _ _ _ er12) ML_X13_1135 SM_X13_bitsFor (As := [.long ((s.2.1 958 (r1.toNatClampNeg)) - (s.2.1 957 (r1.toNatClampNeg)))]) rfl rfl (by omega) (Nat.le_of_ble_eq_true rfl) (Nat.le_of_ble_eq_true rfl) (Nat.le_of_ble_eq_true rfl) ?_
      refine t_bndK hk (fun r13 er13 hk => ?_)
      refine t_callVvE dX13_code_189 M_X13_putBits (C_X13_putBits _ _ _ _ er13) ML_X13_1138 IM_X13_putBits SE_X13_putBits qc_950 rfl (As := [.long ((s.2.1 1006 ((x2 + (1 : Int32)).toNatClampNeg)) - (s.2.1 957 (r1.toNatClampNeg))), .int r12]) rfl rfl (by omega) (Nat.le_of_ble_eq_true rfl) (Nat.le_of_ble_eq_true rfl) (Nat.le_of_ble_eq_true rfl) ?_
      refine mj_iconst (v := 0) dX13_code_192 (by decide) ?_
      refine mj_istore (lv2 := [(6, .int 0), (4, .long (s.2.1 1006 ((x2 + (1 : Int32)).toNatClampNeg))), (3, .int r1), (0, .ref 950), (1, .int x2), (2, .int x3)]) dX13_code_193 (by decide) rfl ?_
      refine mj_sublv [(0, .ref 950), (1, .int x2), (4, .long (s.2.1 1006 ((x2 + (1 : Int32)).toNatClampNeg))), (6, .int 0)] [3, 4, 1, 0] rfl ?_
      exact LH_X13_code_195 rc H _ x2 (s.2.1 1006 ((x2 + (1 : Int32)).toNatClampNeg)) 0 r13 _ hk
    replace hk := t_neg hk h2
    by_cases h3 : (s.1 955 (r1.toNatClampNeg)).toInt = 4
    · replace hk := t_pos hk h3
      refine mj_tableIn 139 dX13_code_22 hh1 hh2 (by rw [h3]; rfl) (by decide) ?_
      refine mj_aload_n dX13_code_139 2 rfl ?_
      refine mj_aload_n dX13_code_140 2 rfl ?_
      refine mj_iload_n dX13_code_141 1 rfl ?_
      refine mj_lload dX13_code_142 0 rfl ?_
      refine t_bndK hk (fun r14 er14 hk => ?_)
      refine t_callViP dX13_code_144 M_X13_whichPart (C_X13_whichPart _ _ _ _ er14) ML_X13_1145 IM_X13_whichPart SE_X13_whichPart qc_950 rfl (As := [.int r1, .long (s.2.1 1006 ((x2 + (1 : Int32)).toNatClampNeg))]) rfl rfl (by omega) (Nat.le_of_ble_eq_true rfl) (Nat.le_of_ble_eq_true rfl) (Nat.le_of_ble_eq_true rfl) ?_
      refine mj_i2l (v := r14.toInt64) dX13_code_147 rfl ?_
      refine mj_aload_n dX13_code_148 2 rfl ?_
      refine mj_iload_n dX13_code_149 1 rfl ?_
      refine t_bndK hk (fun r15 er15 hk => ?_)
      refine t_callViP dX13_code_150 M_X13_partCount (C_X13_partCount _ _ _ er15) ML_X13_830 IM_X13_partCount SE_X13_partCount qc_950 rfl (As := [.int r1]) rfl rfl (by omega) (Nat.le_of_ble_eq_true rfl) (Nat.le_of_ble_eq_true rfl) (Nat.le_of_ble_eq_true rfl) ?_
      refine mj_iconst (v := 1) dX13_code_153 (by decide) ?_
      refine mj_isub dX13_code_154 ?_
      refine mj_i2l (v := (r15 - (1 : Int32)).toInt64) dX13_code_155 rfl ?_
      refine t_bndK hk (fun r16 er16 hk => ?_)
      refine t_callSiP dX13_code_156 M_X13_bitsFor (C_X13_bitsFor _ _ _ er16) ML_X13_1135 SM_X13_bitsFor (As := [.long ((r15 - (1 : Int32)).toInt64)]) rfl rfl (by omega) (Nat.le_of_ble_eq_true rfl) (Nat.le_of_ble_eq_true rfl) (Nat.le_of_ble_eq_true rfl) ?_
      refine t_bndK hk (fun r17 er17 hk => ?_)
      refine t_callVvE dX13_code_159 M_X13_putBits (C_X13_putBits _ _ _ _ er17) ML_X13_1138 IM_X13_putBits SE_X13_putBits qc_950 rfl (As := [.long r14.toInt64, .int r16]) rfl rfl (by omega) (Nat.le_of_ble_eq_true rfl) (Nat.le_of_ble_eq_true rfl) (Nat.le_of_ble_eq_true rfl) ?_
      exact t_somK hk (fun hf => t_vret dX13_code_162 rfl ⟨rfl, hf⟩ (Nat.le_of_ble_eq_true rfl) (Nat.le_of_ble_eq_true rfl))
    replace hk := t_neg hk h3
    by_cases h4 : (s.1 955 (r1.toNatClampNeg)).toInt = 5
    · replace hk := t_pos hk h4
      refine mj_tableIn 338 dX13_code_22 hh1 hh2 (by rw [h4]; rfl) (by decide) ?_
      refine mj_aload_n dX13_code_338 2 rfl ?_
      refine t_getR 959 dX13_code_339 F_X13_39 qr_950_21 ?_
      refine mj_iload_n dX13_code_342 1 rfl ?_
      refine t_iald dX13_code_343 qa_959 (t_ixv c2) ?_
      refine mj_istore (lv2 := [(7, .int (s.1 959 (r1.toNatClampNeg))), (4, .long (s.2.1 1006 ((x2 + (1 : Int32)).toNatClampNeg))), (3, .int r1), (0, .ref 950), (1, .int x2), (2, .int x3)]) dX13_code_344 (by decide) rfl ?_
      refine mj_sublv [(0, .ref 950), (1, .int x2), (3, .int r1), (7, .int (s.1 959 (r1.toNatClampNeg)))] [3, 4, 2, 0] rfl ?_
      exact LH_X13_code_346 rc H _ x2 r1 (s.1 959 (r1.toNatClampNeg)) s _ hk
    replace hk := t_neg hk h4
    by_cases h5 : (s.1 955 (r1.toNatClampNeg)).toInt = 6
    · replace hk := t_pos hk h5
      refine mj_tableIn 227 dX13_code_22 hh1 hh2 (by rw [h5]; rfl) (by decide) ?_
      refine mj_aload_n dX13_code_227 2 rfl ?_
      refine mj_iload_n dX13_code_228 1 rfl ?_
      refine mj_lload dX13_code_229 0 rfl ?_
      refine t_bndK hk (fun r18 er18 hk => ?_)
      refine t_callViP dX13_code_231 M_X13_whichPart (C_X13_whichPart _ _ _ _ er18) ML_X13_1145 IM_X13_whichPart SE_X13_whichPart qc_950 rfl (As := [.int r1, .long (s.2.1 1006 ((x2 + (1 : Int32)).toNatClampNeg))]) rfl rfl (by omega) (Nat.le_of_ble_eq_true rfl) (Nat.le_of_ble_eq_true rfl) (Nat.le_of_ble_eq_true rfl) ?_
      refine mj_istore (lv2 := [(6, .int r18), (4, .long (s.2.1 1006 ((x2 + (1 : Int32)).toNatClampNeg))), (3, .int r1), (0, .ref 950), (1, .int x2), (2, .int x3)]) dX13_code_234 (by decide) rfl ?_
      refine mj_aload_n dX13_code_236 3 rfl ?_
      refine mj_iload dX13_code_237 0 rfl ?_
      refine mj_i2l (v := r18.toInt64) dX13_code_239 rfl ?_
      refine mj_aload_n dX13_code_240 3 rfl ?_
      refine mj_iload_n dX13_code_241 2 rfl ?_
      refine t_bndK hk (fun r19 er19 hk => ?_)
      refine t_callViP dX13_code_242 M_X13_partCount (C_X13_partCount _ _ _ er19) ML_X13_830 IM_X13_partCount SE_X13_partCount qc_950 rfl (As := [.int r1]) rfl rfl (by omega) (Nat.le_of_ble_eq_true rfl) (Nat.le_of_ble_eq_true rfl) (Nat.le_of_ble_eq_true rfl) ?_
      refine mj_iconst (v := 1) dX13_code_245 (by decide) ?_
      refine mj_isub dX13_code_246 ?_
      refine mj_i2l (v := (r19 - (1 : Int32)).toInt64) dX13_code_247 rfl ?_
      refine t_bndK hk (fun r20 er20 hk => ?_)
      refine t_callSiP dX13_code_248 M_X13_bitsFor (C_X13_bitsFor _ _ _ er20) ML_X13_1135 SM_X13_bitsFor (As := [.long ((r19 - (1 : Int32)).toInt64)]) rfl rfl (by omega) (Nat.le_of_ble_eq_true rfl) (Nat.le_of_ble_eq_true rfl) (Nat.le_of_ble_eq_true rfl) ?_
      refine t_bndK hk (fun r21 er21 hk => ?_)
      refine t_callVvE dX13_code_251 M_X13_putBits (C_X13_putBits _ _ _ _ er21) ML_X13_1138 IM_X13_putBits SE_X13_putBits qc_950 rfl (As := [.long r18.toInt64, .int r20]) rfl rfl (by omega) (Nat.le_of_ble_eq_true rfl) (Nat.le_of_ble_eq_true rfl) (Nat.le_of_ble_eq_true rfl) ?_
      refine mj_aload_n dX13_code_254 3 rfl ?_
      refine mj_iload_n dX13_code_255 4 rfl ?_
      refine mj_iconst (v := 2) dX13_code_256 (by decide) ?_
      refine mj_iadd dX13_code_257 ?_
      refine mj_aload_n dX13_code_258 3 rfl ?_
      refine t_getR 959 dX13_code_259 F_X13_39 qr_950_21 ?_
      refine mj_aload_n dX13_code_262 3 rfl ?_
      refine mj_iload_n dX13_code_263 2 rfl ?_
      refine mj_iload dX13_code_264 0 rfl ?_
      refine t_bndK hk (fun r22 er22 hk => ?_)
      refine t_callViP dX13_code_266 M_X13_part (C_X13_part _ _ _ _ er22) ML_X13_974 IM_X13_part SE_X13_part qc_950 rfl (As := [.int r1, .int r18]) rfl rfl (by omega) (Nat.le_of_ble_eq_true rfl) (Nat.le_of_ble_eq_true rfl) (Nat.le_of_ble_eq_true rfl) ?_
      refine t_chkK hk (fun c22 hk => ?_)
      refine t_iald dX13_code_269 qa_959 (t_ixv c22) ?_
      refine t_bndK hk (fun r24 er24 hk => ?_)
      refine t_callSvE dX13_code_270 M_X13_code (H _ _ _ _ er24) ML_X13_1148 SM_X13_code (As := [.ref 950, .int (x2 + (2 : Int32)), .int (r21.1 959 (r22.toNatClampNeg))]) rfl rfl (by omega) (Nat.le_of_ble_eq_true rfl) (Nat.le_of_ble_eq_true rfl) (Nat.le_of_ble_eq_true rfl) ?_
      exact t_somK hk (fun hf => t_vret dX13_code_273 rfl ⟨rfl, hf⟩ (Nat.le_of_ble_eq_true rfl) (Nat.le_of_ble_eq_true rfl))
    replace hk := t_neg hk h5
    have h6 : (s.1 955 (r1.toNatClampNeg)).toInt = 7 := by omega
    refine mj_tableIn 274 dX13_code_22 hh1 hh2 (by rw [h6]; rfl) (by decide) ?_
    refine mj_aload_n dX13_code_274 2 rfl ?_
    refine mj_lload dX13_code_275 0 rfl ?_
    refine mj_aload_n dX13_code_277 2 rfl ?_
    refine t_getR 957 dX13_code_278 F_X13_32 qr_950_19 ?_
    refine mj_iload_n dX13_code_281 1 rfl ?_
    refine t_lald dX13_code_282 qa_957 (t_ixv c2) ?_
    refine mj_lsub dX13_code_283 ?_
    refine mj_aload_n dX13_code_284 2 rfl ?_
    refine t_getR 958 dX13_code_285 F_X13_36 qr_950_20 ?_
    refine mj_iload_n dX13_code_288 1 rfl ?_
    refine t_lald dX13_code_289 qa_958 (t_ixv c2) ?_
    refine mj_aload_n dX13_code_290 2 rfl ?_
    refine t_getR 957 dX13_code_291 F_X13_32 qr_950_19 ?_
    refine mj_iload_n dX13_code_294 1 rfl ?_
    refine t_lald dX13_code_295 qa_957 (t_ixv c2) ?_
    refine mj_lsub dX13_code_296 ?_
    refine t_bndK hk (fun r25 er25 hk => ?_)
    refine t_callSiP dX13_code_297 M_X13_bitsFor (C_X13_bitsFor _ _ _ er25) ML_X13_1135 SM_X13_bitsFor (As := [.long ((s.2.1 958 (r1.toNatClampNeg)) - (s.2.1 957 (r1.toNatClampNeg)))]) rfl rfl (by omega) (Nat.le_of_ble_eq_true rfl) (Nat.le_of_ble_eq_true rfl) (Nat.le_of_ble_eq_true rfl) ?_
    refine t_bndK hk (fun r26 er26 hk => ?_)
    refine t_callVvE dX13_code_300 M_X13_putBits (C_X13_putBits _ _ _ _ er26) ML_X13_1138 IM_X13_putBits SE_X13_putBits qc_950 rfl (As := [.long ((s.2.1 1006 ((x2 + (1 : Int32)).toNatClampNeg)) - (s.2.1 957 (r1.toNatClampNeg))), .int r25]) rfl rfl (by omega) (Nat.le_of_ble_eq_true rfl) (Nat.le_of_ble_eq_true rfl) (Nat.le_of_ble_eq_true rfl) ?_
    refine mj_iconst (v := 0) dX13_code_303 (by decide) ?_
    refine mj_istore (lv2 := [(7, .int 0), (4, .long (s.2.1 1006 ((x2 + (1 : Int32)).toNatClampNeg))), (3, .int r1), (0, .ref 950), (1, .int x2), (2, .int x3)]) dX13_code_304 (by decide) rfl ?_
    refine mj_sublv [(0, .ref 950), (1, .int x2), (3, .int r1), (4, .long (s.2.1 1006 ((x2 + (1 : Int32)).toNatClampNeg))), (7, .int 0)] [3, 4, 2, 1, 0] rfl ?_
    exact LH_X13_code_306 rc H _ x2 r1 (s.2.1 1006 ((x2 + (1 : Int32)).toNatClampNeg)) 0 r26 _ hk
/-- so many calls deep -/
noncomputable def R_X13_code : Nat → RT_X13_code
  | 0 => fun _ _ _ => none
  | k + 1 => fun x2 x3 s => m_X13_code (R_X13_code k) x2 x3 s
theorem RR_X13_code : ∀ k : Nat, RH_X13_code (R_X13_code k) k := by
  intro k
  induction k with
  | zero => exact fun _ _ _ _ h => (by cases h)
  | succ k ih => exact fun x2 x3 s r h => E_X13_code (R_X13_code k) ih x2 x3 s r h
noncomputable def f_X13_code (x2 : Int32) (x3 : Int32) (s : t_S) : Option (t_S) := (R_X13_code 200) x2 x3 s
theorem C_X13_code (x2 : Int32) (x3 : Int32) (s : t_S) (r : t_S) (hr : f_X13_code x2 x3 s = some r) : t_C yX13_code cX13_code 9 none 204 [.ref 950, .int x2, .int x3] s (fun v s' => v = none ∧ s' = r) := (RR_X13_code 200) x2 x3 s r hr

