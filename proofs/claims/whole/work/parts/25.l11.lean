/-! Methods as functions, 11: J13_numberOfTrailingZeros_95d88, J7_fill_d0a16, X11_mark, X11_neededInside, X11_stretchInside, X11_rangesInside, X11_partsInside, X11_treeInside, X11_inside, X11_isItself, X11_leastOfChoice, X11_leastOfRecord -/
theorem qa_330 : t_oka 330 2 2820 = true := by decide +kernel
theorem qa_331 : t_oka 331 2 2820 = true := by decide +kernel
theorem qr_316_17 : t_okr 316 11 17 330 = true := by decide +kernel
theorem qr_316_18 : t_okr 316 11 18 331 = true := by decide +kernel
theorem dJ13_numberOfTrailingZeros_95d88_0 : decode cJ13_numberOfTrailingZeros_95d88 0 = .ok (.lload_n 0, 1) := by decide +kernel
theorem dJ13_numberOfTrailingZeros_95d88_1 : decode cJ13_numberOfTrailingZeros_95d88 1 = .ok (.l2i, 1) := by decide +kernel
theorem dJ13_numberOfTrailingZeros_95d88_10 : decode cJ13_numberOfTrailingZeros_95d88 10 = .ok (.bipush 32, 2) := by decide +kernel
theorem dJ13_numberOfTrailingZeros_95d88_12 : decode cJ13_numberOfTrailingZeros_95d88 12 = .ok (.lushr, 1) := by decide +kernel
theorem dJ13_numberOfTrailingZeros_95d88_13 : decode cJ13_numberOfTrailingZeros_95d88 13 = .ok (.l2i, 1) := by decide +kernel
theorem dJ13_numberOfTrailingZeros_95d88_14 : decode cJ13_numberOfTrailingZeros_95d88 14 = .ok (.invokestatic 311, 3) := by decide +kernel
theorem dJ13_numberOfTrailingZeros_95d88_17 : decode cJ13_numberOfTrailingZeros_95d88 17 = .ok (.iadd, 1) := by decide +kernel
theorem dJ13_numberOfTrailingZeros_95d88_18 : decode cJ13_numberOfTrailingZeros_95d88 18 = .ok (.goto 7, 3) := by decide +kernel
theorem dJ13_numberOfTrailingZeros_95d88_2 : decode cJ13_numberOfTrailingZeros_95d88 2 = .ok (.istore_n 2, 1) := by decide +kernel
theorem dJ13_numberOfTrailingZeros_95d88_21 : decode cJ13_numberOfTrailingZeros_95d88 21 = .ok (.iload_n 2, 1) := by decide +kernel
theorem dJ13_numberOfTrailingZeros_95d88_22 : decode cJ13_numberOfTrailingZeros_95d88 22 = .ok (.invokestatic 311, 3) := by decide +kernel
theorem dJ13_numberOfTrailingZeros_95d88_25 : decode cJ13_numberOfTrailingZeros_95d88 25 = .ok (.ireturn, 1) := by decide +kernel
theorem dJ13_numberOfTrailingZeros_95d88_3 : decode cJ13_numberOfTrailingZeros_95d88 3 = .ok (.iload_n 2, 1) := by decide +kernel
theorem dJ13_numberOfTrailingZeros_95d88_4 : decode cJ13_numberOfTrailingZeros_95d88 4 = .ok (.ifCond .ne 17, 3) := by decide +kernel
theorem dJ13_numberOfTrailingZeros_95d88_7 : decode cJ13_numberOfTrailingZeros_95d88 7 = .ok (.bipush 32, 2) := by decide +kernel
theorem dJ13_numberOfTrailingZeros_95d88_9 : decode cJ13_numberOfTrailingZeros_95d88 9 = .ok (.lload_n 0, 1) := by decide +kernel
noncomputable def f_J13_numberOfTrailingZeros_95d88 (x1 : Int64) (s : t_S) : Int32 :=
 if x1.toInt32 = (0 : Int32) then (((32 : Int32) + (f_J6_numberOfTrailingZeros_0f7a4 (((x1.toUInt64 >>> ((32 : Int32).toInt64.toUInt64 &&& Int64.toUInt64 63)).toInt64).toInt32) s)))
 else ((f_J6_numberOfTrailingZeros_0f7a4 x1.toInt32 s))
set_option maxRecDepth 4000 in
set_option maxHeartbeats 1000000 in
theorem C_J13_numberOfTrailingZeros_95d88 (x1 : Int64) (s : t_S) : t_C yJ13_numberOfTrailingZeros_95d88 cJ13_numberOfTrailingZeros_95d88 3 (some .int) 1 [.long x1] s (fun v s' => v = some (.int (f_J13_numberOfTrailingZeros_95d88 x1 s)) ∧ s' = s) := by
  refine t_C.imp (P := fun v s' => s' = s ∧ ∃ x, v = some (.int x) ∧ (fun r => r = f_J13_numberOfTrailingZeros_95d88 x1 s) (x)) (t_C.of (by decide +kernel) (Nat.le_of_ble_eq_true rfl) ?_) (fun v s' hp => by obtain ⟨rfl, x, rfl, rfl⟩ := hp; exact ⟨rfl, rfl⟩)
  intro D cy ad bs X
  have hk : t_ht (f_J13_numberOfTrailingZeros_95d88 x1 s) (fun r => r = f_J13_numberOfTrailingZeros_95d88 x1 s) := rfl
  show mj_G D cy ad bs X cJ13_numberOfTrailingZeros_95d88 3 yJ13_numberOfTrailingZeros_95d88.cls (some .int) yJ13_numberOfTrailingZeros_95d88.name 1 0 0 1065 (t_P (fun v s' => s' = s ∧ ∃ x, v = some (.int x) ∧ (fun r => r = f_J13_numberOfTrailingZeros_95d88 x1 s) (x))) 0 [(0, .long x1)] [] (t_m s) 1065 0 0
  refine mj_lload_n dJ13_numberOfTrailingZeros_95d88_0 0 rfl ?_
  refine mj_l2i (v := x1.toInt32) dJ13_numberOfTrailingZeros_95d88_1 rfl ?_
  refine mj_istore_n 2 (lv2 := [(2, .int x1.toInt32), (0, .long x1)]) dJ13_numberOfTrailingZeros_95d88_2 rfl (by decide) rfl ?_
  refine mj_iload_n dJ13_numberOfTrailingZeros_95d88_3 0 rfl ?_
  refine mj_if_ne 21 dJ13_numberOfTrailingZeros_95d88_4 (by decide) (fun z => t_negTK hk z (fun hk => ?_)) (fun z => t_posTK hk z (fun hk => ?_))
  · refine mj_iload_n dJ13_numberOfTrailingZeros_95d88_21 0 rfl ?_
    refine t_callSiP dJ13_numberOfTrailingZeros_95d88_22 M_J6_numberOfTrailingZeros_0f7a4 (C_J6_numberOfTrailingZeros_0f7a4 _ _) ML_J13_311 SM_J6_numberOfTrailingZeros_0f7a4 (As := [.int x1.toInt32]) rfl rfl (Nat.le_of_ble_eq_true rfl) (Nat.le_of_ble_eq_true rfl) (Nat.le_of_ble_eq_true rfl) (Nat.le_of_ble_eq_true rfl) ?_
    exact t_iret dJ13_numberOfTrailingZeros_95d88_25 rfl rfl ⟨rfl, _, rfl, hk⟩ (Nat.le_of_ble_eq_true rfl) (Nat.le_of_ble_eq_true rfl)
  · refine mj_bipush (v := 32) dJ13_numberOfTrailingZeros_95d88_7 (by decide) ?_
    refine mj_lload_n dJ13_numberOfTrailingZeros_95d88_9 1 rfl ?_
    refine mj_bipush (v := 32) dJ13_numberOfTrailingZeros_95d88_10 (by decide) ?_
    refine mj_lushr dJ13_numberOfTrailingZeros_95d88_12 rfl ?_
    refine mj_l2i (v := ((x1.toUInt64 >>> ((32 : Int32).toInt64.toUInt64 &&& Int64.toUInt64 63)).toInt64).toInt32) dJ13_numberOfTrailingZeros_95d88_13 rfl ?_
    refine t_callSiP dJ13_numberOfTrailingZeros_95d88_14 M_J6_numberOfTrailingZeros_0f7a4 (C_J6_numberOfTrailingZeros_0f7a4 _ _) ML_J13_311 SM_J6_numberOfTrailingZeros_0f7a4 (As := [.int (((x1.toUInt64 >>> ((32 : Int32).toInt64.toUInt64 &&& Int64.toUInt64 63)).toInt64).toInt32)]) rfl rfl (Nat.le_of_ble_eq_true rfl) (Nat.le_of_ble_eq_true rfl) (Nat.le_of_ble_eq_true rfl) (Nat.le_of_ble_eq_true rfl) ?_
    refine mj_iadd dJ13_numberOfTrailingZeros_95d88_17 ?_
    refine mj_goto 25 dJ13_numberOfTrailingZeros_95d88_18 (by decide) ?_
    exact t_iret dJ13_numberOfTrailingZeros_95d88_25 rfl rfl ⟨rfl, _, rfl, hk⟩ (Nat.le_of_ble_eq_true rfl) (Nat.le_of_ble_eq_true rfl)

theorem dJ7_fill_d0a16_0 : decode cJ7_fill_d0a16 0 = .ok (.iconst 0, 1) := by decide +kernel
theorem dJ7_fill_d0a16_1 : decode cJ7_fill_d0a16 1 = .ok (.istore_n 3, 1) := by decide +kernel
theorem dJ7_fill_d0a16_12 : decode cJ7_fill_d0a16 12 = .ok (.aload_n 0, 1) := by decide +kernel
theorem dJ7_fill_d0a16_13 : decode cJ7_fill_d0a16 13 = .ok (.iload_n 3, 1) := by decide +kernel
theorem dJ7_fill_d0a16_14 : decode cJ7_fill_d0a16 14 = .ok (.lload_n 1, 1) := by decide +kernel
theorem dJ7_fill_d0a16_15 : decode cJ7_fill_d0a16 15 = .ok (.lastore, 1) := by decide +kernel
theorem dJ7_fill_d0a16_16 : decode cJ7_fill_d0a16 16 = .ok (.iinc 3 1, 3) := by decide +kernel
theorem dJ7_fill_d0a16_19 : decode cJ7_fill_d0a16 19 = .ok (.goto (-13), 3) := by decide +kernel
theorem dJ7_fill_d0a16_2 : decode cJ7_fill_d0a16 2 = .ok (.aload_n 0, 1) := by decide +kernel
theorem dJ7_fill_d0a16_22 : decode cJ7_fill_d0a16 22 = .ok (.return_, 1) := by decide +kernel
theorem dJ7_fill_d0a16_3 : decode cJ7_fill_d0a16 3 = .ok (.arraylength, 1) := by decide +kernel
theorem dJ7_fill_d0a16_4 : decode cJ7_fill_d0a16 4 = .ok (.istore 4, 2) := by decide +kernel
theorem dJ7_fill_d0a16_6 : decode cJ7_fill_d0a16 6 = .ok (.iload_n 3, 1) := by decide +kernel
theorem dJ7_fill_d0a16_7 : decode cJ7_fill_d0a16 7 = .ok (.iload 4, 2) := by decide +kernel
theorem dJ7_fill_d0a16_9 : decode cJ7_fill_d0a16 9 = .ok (.if_icmp .ge 13, 3) := by decide +kernel
noncomputable def k_J7_fill_d0a16_6 (l0 : Nat) (l1 : Int64) (l3 : Int32) (l4 : Int32) (s : t_S) : Option ((Nat × Int64 × Int32 × Int32 × t_S) ⊕ (t_S)) :=
 if l4 ≤ l3 then ((some (s)).map Sum.inr)
 else (if t_oka l0 2 (t_ln l0) = true then
  if t_ix l3 (t_ln l0) = true then
  t_let (t_setJ s l0 (l3.toNatClampNeg) l1) (fun s1 =>
 some (.inl (l0, l1, (l3 + 1), l4, s1)))
else none
else none)
set_option maxRecDepth 4000 in
set_option maxHeartbeats 1000000 in
theorem B_J7_fill_d0a16_6 {D : va_G} {cy : Nat → ClassId} {ad : Nat → Nat} {bs : Nat} {X : State → Heap → Prop} (l0 : Nat) (l1 : Int64) (l3 : Int32) (l4 : Int32) (s : t_S) (Q : (Nat × Int64 × Int32 × Int32 × t_S) ⊕ (t_S) → Prop) (Hb6 : ∀ (y0 : Nat) (y1 : Int64) (y2 : Int32) (y3 : Int32) (y4 : t_S), Q (.inl (y0, y1, y2, y3, y4)) → mj_G D cy ad bs X cJ7_fill_d0a16 5 yJ7_fill_d0a16.cls none yJ7_fill_d0a16.name 0 0 0 1065 (t_P (fun v s' => v = none ∧ Q (.inr (s')))) 6 [(0, .ref (y0)), (1, .long (y1)), (3, .int (y2)), (4, .int (y3))] [] (t_m y4) 1065 0 0) (hk : t_hk (k_J7_fill_d0a16_6 l0 l1 l3 l4 s) Q) : mj_G D cy ad bs X cJ7_fill_d0a16 5 yJ7_fill_d0a16.cls none yJ7_fill_d0a16.name 0 0 0 1065 (t_P (fun v s' => v = none ∧ Q (.inr (s')))) 6 [(0, .ref l0), (1, .long l1), (3, .int l3), (4, .int l4)] [] (t_m s) 1065 0 0 := by
  refine mj_iload_n dJ7_fill_d0a16_6 2 rfl ?_
  refine mj_iload dJ7_fill_d0a16_7 3 rfl ?_
  refine mj_icmp_ge 22 dJ7_fill_d0a16_9 (by decide) (fun z => t_posK hk z (fun hk => ?_)) (fun z => t_negK hk z (fun hk => ?_))
  · refine t_mapK hk (fun hk => ?_)
    exact t_somK hk (fun hf => t_vret dJ7_fill_d0a16_22 rfl ⟨rfl, hf⟩ (Nat.le_of_ble_eq_true rfl) (Nat.le_of_ble_eq_true rfl))
  · refine mj_aload_n dJ7_fill_d0a16_12 0 rfl ?_
    refine mj_iload_n dJ7_fill_d0a16_13 2 rfl ?_
    refine mj_lload_n dJ7_fill_d0a16_14 1 rfl ?_
    refine t_chkK hk (fun c0 hk => ?_)
    refine t_chkK hk (fun c1 hk => ?_)
    refine t_lastK dJ7_fill_d0a16_15 c0 (t_ixv c1) (fun s1 ws1 => t_letE hk ws1 (fun hk => ?_))
    refine mj_iinc (k := 2) (v := (l3 + 1)) (lv2 := [(3, .int (l3 + 1)), (0, .ref l0), (1, .long l1), (4, .int l4)]) dJ7_fill_d0a16_16 rfl rfl (by decide) rfl ?_
    refine mj_goto 6 dJ7_fill_d0a16_19 (by decide) ?_
    refine mj_sublv [(0, .ref l0), (1, .long l1), (3, .int (l3 + 1)), (4, .int l4)] [1, 2, 0, 3] rfl ?_
    exact t_somK hk (fun hf => Hb6 l0 l1 (l3 + 1) l4 s1 hf)
noncomputable def b_J7_fill_d0a16_6 (x : Nat × Int64 × Int32 × Int32 × t_S) : Option ((Nat × Int64 × Int32 × Int32 × t_S) ⊕ (t_S)) := k_J7_fill_d0a16_6 x.1 x.2.1 x.2.2.1 x.2.2.2.1 x.2.2.2.2
set_option maxRecDepth 4000 in
set_option maxHeartbeats 1000000 in
theorem LH_J7_fill_d0a16_6 {D : va_G} {cy : Nat → ClassId} {ad : Nat → Nat} {bs : Nat} {X : State → Heap → Prop} : ∀ (n : Nat) (y0 : Nat) (y1 : Int64) (y2 : Int32) (y3 : Int32) (y4 : t_S) (Q : t_S → Prop) (hk : t_hk (t_loop (b_J7_fill_d0a16_6) n (y0, y1, y2, y3, y4)) Q), mj_G D cy ad bs X cJ7_fill_d0a16 5 yJ7_fill_d0a16.cls none yJ7_fill_d0a16.name 0 0 0 1065 (t_P (fun v s' => v = none ∧ Q (s'))) 6 [(0, .ref (y0)), (1, .long (y1)), (3, .int (y2)), (4, .int (y3))] [] (t_m y4) 1065 0 0 := by
  intro n
  induction n with
  | zero => intro y0 y1 y2 y3 y4 Q hk; obtain ⟨r, hr, _⟩ := hk; cases hr
  | succ n ih =>
    intro y0 y1 y2 y3 y4 Q hk
    exact B_J7_fill_d0a16_6 y0 y1 y2 y3 y4 (fun y => t_lq (b_J7_fill_d0a16_6) n Q y) (fun y0' y1' y2' y3' y4' hy => ih y0' y1' y2' y3' y4' Q hy) (t_lp hk)
noncomputable def f_J7_fill_d0a16 (x1 : Nat) (x2 : Int64) (s : t_S) : Option (t_S) :=
 if t_oka x1 2 (t_ln x1) = true then
  t_loop (b_J7_fill_d0a16_6) t_N (x1, x2, 0, (Int32.ofNat (t_ln x1)), s)
else none
set_option maxRecDepth 4000 in
set_option maxHeartbeats 1000000 in
theorem C_J7_fill_d0a16 (x1 : Nat) (x2 : Int64) (s : t_S) (r : t_S) (hr : f_J7_fill_d0a16 x1 x2 s = some r) : t_C yJ7_fill_d0a16 cJ7_fill_d0a16 5 none 0 [.ref x1, .long x2] s (fun v s' => v = none ∧ s' = r) := by
  refine t_C.imp (P := fun v s' => v = none ∧ (fun q => q = r) (s')) (t_C.of (by decide +kernel) (Nat.le_of_ble_eq_true rfl) ?_) (fun v s' hp => hp)
  intro D cy ad bs X
  have hk : t_hk (f_J7_fill_d0a16 x1 x2 s) (fun q => q = r) := ⟨r, hr, rfl⟩
  show mj_G D cy ad bs X cJ7_fill_d0a16 5 yJ7_fill_d0a16.cls none yJ7_fill_d0a16.name 0 0 0 1065 (t_P (fun v s' => v = none ∧ (fun q => q = r) (s'))) 0 [(0, .ref x1), (1, .long x2)] [] (t_m s) 1065 0 0
  refine mj_iconst (v := 0) dJ7_fill_d0a16_0 (by decide) ?_
  refine mj_istore_n 3 (lv2 := [(3, .int 0), (0, .ref x1), (1, .long x2)]) dJ7_fill_d0a16_1 rfl (by decide) rfl ?_
  refine mj_aload_n dJ7_fill_d0a16_2 1 rfl ?_
  refine t_chkK hk (fun c0 hk => ?_)
  refine t_alen2 (v := (Int32.ofNat (t_ln x1))) dJ7_fill_d0a16_3 c0 rfl ?_
  refine mj_istore (lv2 := [(4, .int (Int32.ofNat (t_ln x1))), (3, .int 0), (0, .ref x1), (1, .long x2)]) dJ7_fill_d0a16_4 (by decide) rfl ?_
  refine mj_sublv [(0, .ref x1), (1, .long x2), (3, .int 0), (4, .int (Int32.ofNat (t_ln x1)))] [2, 3, 1, 0] rfl ?_
  exact LH_J7_fill_d0a16_6 _ x1 x2 0 (Int32.ofNat (t_ln x1)) s _ hk

theorem dX11_mark_0 : decode cX11_mark 0 = .ok (.aload_n 0, 1) := by decide +kernel
theorem dX11_mark_1 : decode cX11_mark 1 = .ok (.getfield 51, 3) := by decide +kernel
theorem dX11_mark_11 : decode cX11_mark 11 = .ok (.idiv, 1) := by decide +kernel
theorem dX11_mark_12 : decode cX11_mark 12 = .ok (.iadd, 1) := by decide +kernel
theorem dX11_mark_13 : decode cX11_mark 13 = .ok (.dup2, 1) := by decide +kernel
theorem dX11_mark_14 : decode cX11_mark 14 = .ok (.laload, 1) := by decide +kernel
theorem dX11_mark_15 : decode cX11_mark 15 = .ok (.lconst 1, 1) := by decide +kernel
theorem dX11_mark_16 : decode cX11_mark 16 = .ok (.iload_n 2, 1) := by decide +kernel
theorem dX11_mark_17 : decode cX11_mark 17 = .ok (.bipush 64, 2) := by decide +kernel
theorem dX11_mark_19 : decode cX11_mark 19 = .ok (.irem, 1) := by decide +kernel
theorem dX11_mark_20 : decode cX11_mark 20 = .ok (.lshl, 1) := by decide +kernel
theorem dX11_mark_21 : decode cX11_mark 21 = .ok (.lor, 1) := by decide +kernel
theorem dX11_mark_22 : decode cX11_mark 22 = .ok (.lastore, 1) := by decide +kernel
theorem dX11_mark_23 : decode cX11_mark 23 = .ok (.return_, 1) := by decide +kernel
theorem dX11_mark_4 : decode cX11_mark 4 = .ok (.iload_n 1, 1) := by decide +kernel
theorem dX11_mark_5 : decode cX11_mark 5 = .ok (.bipush 47, 2) := by decide +kernel
theorem dX11_mark_7 : decode cX11_mark 7 = .ok (.imul, 1) := by decide +kernel
theorem dX11_mark_8 : decode cX11_mark 8 = .ok (.iload_n 2, 1) := by decide +kernel
theorem dX11_mark_9 : decode cX11_mark 9 = .ok (.bipush 64, 2) := by decide +kernel
noncomputable def f_X11_mark (x1 : Int32) (x2 : Int32) (s : t_S) : Option (t_S) :=
 if t_ix ((x1 * (47 : Int32)) + (x2 / (64 : Int32))) 2820 = true then
  t_let (t_setJ s 330 (((x1 * (47 : Int32)) + (x2 / (64 : Int32))).toNatClampNeg) ((s.2.1 330 (((x1 * (47 : Int32)) + (x2 / (64 : Int32))).toNatClampNeg)) ||| ((1 : Int64) <<< ((x2 - x2 / (64 : Int32) * (64 : Int32)).toInt64 &&& 63)))) (fun s1 =>
 some (s1))
else none
set_option maxRecDepth 4000 in
set_option maxHeartbeats 1000000 in
theorem C_X11_mark (x1 : Int32) (x2 : Int32) (s : t_S) (r : t_S) (hr : f_X11_mark x1 x2 s = some r) : t_C yX11_mark cX11_mark 3 none 0 [.ref 316, .int x1, .int x2] s (fun v s' => v = none ∧ s' = r) := by
  refine t_C.imp (P := fun v s' => v = none ∧ (fun q => q = r) (s')) (t_C.of (by decide +kernel) (Nat.le_of_ble_eq_true rfl) ?_) (fun v s' hp => hp)
  intro D cy ad bs X
  have hk : t_hk (f_X11_mark x1 x2 s) (fun q => q = r) := ⟨r, hr, rfl⟩
  show mj_G D cy ad bs X cX11_mark 3 yX11_mark.cls none yX11_mark.name 0 0 0 1065 (t_P (fun v s' => v = none ∧ (fun q => q = r) (s'))) 0 [(0, .ref 316), (1, .int x1), (2, .int x2)] [] (t_m s) 1065 0 0
  refine mj_aload_n dX11_mark_0 0 rfl ?_
  refine t_getR 330 dX11_mark_1 F_X11_51 qr_316_17 ?_
  refine mj_iload_n dX11_mark_4 1 rfl ?_
  refine mj_bipush (v := 47) dX11_mark_5 (by decide) ?_
  refine mj_imul dX11_mark_7 ?_
  refine mj_iload_n dX11_mark_8 2 rfl ?_
  refine mj_bipush (v := 64) dX11_mark_9 (by decide) ?_
  refine mj_idiv dX11_mark_11 (by decide) ?_
  refine mj_iadd dX11_mark_12 ?_
  refine mj_dup2 dX11_mark_13 rfl rfl ?_
  refine t_chkK hk (fun c0 hk => ?_)
  refine t_lald dX11_mark_14 qa_330 (t_ixv c0) ?_
  refine mj_lconst (v := 1) dX11_mark_15 (by decide) ?_
  refine mj_iload_n dX11_mark_16 2 rfl ?_
  refine mj_bipush (v := 64) dX11_mark_17 (by decide) ?_
  refine mj_irem dX11_mark_19 (by decide) ?_
  refine mj_lshl dX11_mark_20 rfl ?_
  refine mj_lor dX11_mark_21 ?_
  refine t_lastK dX11_mark_22 qa_330 (t_ixv c0) (fun s1 ws1 => t_letE hk ws1 (fun hk => ?_))
  exact t_somK hk (fun hf => t_vret dX11_mark_23 rfl ⟨rfl, hf⟩ (Nat.le_of_ble_eq_true rfl) (Nat.le_of_ble_eq_true rfl))

theorem dX11_neededInside_0 : decode cX11_neededInside 0 = .ok (.aload_n 0, 1) := by decide +kernel
theorem dX11_neededInside_1 : decode cX11_neededInside 1 = .ok (.getfield 13, 3) := by decide +kernel
theorem dX11_neededInside_10 : decode cX11_neededInside 10 = .ok (.iload 4, 2) := by decide +kernel
theorem dX11_neededInside_12 : decode cX11_neededInside 12 = .ok (.aload_n 0, 1) := by decide +kernel
theorem dX11_neededInside_13 : decode cX11_neededInside 13 = .ok (.getfield 22, 3) := by decide +kernel
theorem dX11_neededInside_16 : decode cX11_neededInside 16 = .ok (.iload_n 2, 1) := by decide +kernel
theorem dX11_neededInside_17 : decode cX11_neededInside 17 = .ok (.iaload, 1) := by decide +kernel
theorem dX11_neededInside_18 : decode cX11_neededInside 18 = .ok (.if_icmp .ge 59, 3) := by decide +kernel
theorem dX11_neededInside_21 : decode cX11_neededInside 21 = .ok (.iload_n 3, 1) := by decide +kernel
theorem dX11_neededInside_22 : decode cX11_neededInside 22 = .ok (.ifCond .lt 55, 3) := by decide +kernel
theorem dX11_neededInside_25 : decode cX11_neededInside 25 = .ok (.aload_n 0, 1) := by decide +kernel
theorem dX11_neededInside_26 : decode cX11_neededInside 26 = .ok (.getfield 22, 3) := by decide +kernel
theorem dX11_neededInside_29 : decode cX11_neededInside 29 = .ok (.iload_n 3, 1) := by decide +kernel
theorem dX11_neededInside_30 : decode cX11_neededInside 30 = .ok (.iaload, 1) := by decide +kernel
theorem dX11_neededInside_31 : decode cX11_neededInside 31 = .ok (.ifCond .ne 33, 3) := by decide +kernel
theorem dX11_neededInside_34 : decode cX11_neededInside 34 = .ok (.aload_n 0, 1) := by decide +kernel
theorem dX11_neededInside_35 : decode cX11_neededInside 35 = .ok (.iload_n 1, 1) := by decide +kernel
theorem dX11_neededInside_36 : decode cX11_neededInside 36 = .ok (.aload_n 0, 1) := by decide +kernel
theorem dX11_neededInside_37 : decode cX11_neededInside 37 = .ok (.getfield 19, 3) := by decide +kernel
theorem dX11_neededInside_4 : decode cX11_neededInside 4 = .ok (.iload_n 2, 1) := by decide +kernel
theorem dX11_neededInside_40 : decode cX11_neededInside 40 = .ok (.iload_n 3, 1) := by decide +kernel
theorem dX11_neededInside_41 : decode cX11_neededInside 41 = .ok (.iaload, 1) := by decide +kernel
theorem dX11_neededInside_42 : decode cX11_neededInside 42 = .ok (.invokevirtual 139, 3) := by decide +kernel
theorem dX11_neededInside_45 : decode cX11_neededInside 45 = .ok (.istore 5, 2) := by decide +kernel
theorem dX11_neededInside_47 : decode cX11_neededInside 47 = .ok (.iload 5, 2) := by decide +kernel
theorem dX11_neededInside_49 : decode cX11_neededInside 49 = .ok (.ifCond .lt 13, 3) := by decide +kernel
theorem dX11_neededInside_5 : decode cX11_neededInside 5 = .ok (.iaload, 1) := by decide +kernel
theorem dX11_neededInside_52 : decode cX11_neededInside 52 = .ok (.aload_n 0, 1) := by decide +kernel
theorem dX11_neededInside_53 : decode cX11_neededInside 53 = .ok (.getfield 22, 3) := by decide +kernel
theorem dX11_neededInside_56 : decode cX11_neededInside 56 = .ok (.iload 5, 2) := by decide +kernel
theorem dX11_neededInside_58 : decode cX11_neededInside 58 = .ok (.iaload, 1) := by decide +kernel
theorem dX11_neededInside_59 : decode cX11_neededInside 59 = .ok (.ifCond .eq 5, 3) := by decide +kernel
theorem dX11_neededInside_6 : decode cX11_neededInside 6 = .ok (.istore_n 3, 1) := by decide +kernel
theorem dX11_neededInside_62 : decode cX11_neededInside 62 = .ok (.iconst 0, 1) := by decide +kernel
theorem dX11_neededInside_63 : decode cX11_neededInside 63 = .ok (.ireturn, 1) := by decide +kernel
theorem dX11_neededInside_64 : decode cX11_neededInside 64 = .ok (.aload_n 0, 1) := by decide +kernel
theorem dX11_neededInside_65 : decode cX11_neededInside 65 = .ok (.getfield 16, 3) := by decide +kernel
theorem dX11_neededInside_68 : decode cX11_neededInside 68 = .ok (.iload_n 3, 1) := by decide +kernel
theorem dX11_neededInside_69 : decode cX11_neededInside 69 = .ok (.iaload, 1) := by decide +kernel
theorem dX11_neededInside_7 : decode cX11_neededInside 7 = .ok (.iconst 0, 1) := by decide +kernel
theorem dX11_neededInside_70 : decode cX11_neededInside 70 = .ok (.istore_n 3, 1) := by decide +kernel
theorem dX11_neededInside_71 : decode cX11_neededInside 71 = .ok (.iinc 4 1, 3) := by decide +kernel
theorem dX11_neededInside_74 : decode cX11_neededInside 74 = .ok (.goto (-64), 3) := by decide +kernel
theorem dX11_neededInside_77 : decode cX11_neededInside 77 = .ok (.iconst 1, 1) := by decide +kernel
theorem dX11_neededInside_78 : decode cX11_neededInside 78 = .ok (.ireturn, 1) := by decide +kernel
theorem dX11_neededInside_8 : decode cX11_neededInside 8 = .ok (.istore 4, 2) := by decide +kernel
noncomputable def k_X11_neededInside_64 (l1 : Int32) (l2 : Int32) (l3 : Int32) (l4 : Int32) (s : t_S) : Option ((Int32 × Int32 × Int32 × Int32) ⊕ (Int32)) :=
 if t_ix l3 3001 = true then
  some (.inl (l1, l2, (s.1 319 (l3.toNatClampNeg)), (l4 + 1)))
else none
set_option maxRecDepth 4000 in
set_option maxHeartbeats 1000000 in
theorem B_X11_neededInside_64 {D : va_G} {cy : Nat → ClassId} {ad : Nat → Nat} {bs : Nat} {X : State → Heap → Prop} (l1 : Int32) (l2 : Int32) (l3 : Int32) (l4 : Int32) (s : t_S) (Q : (Int32 × Int32 × Int32 × Int32) ⊕ (Int32) → Prop) (Hb10 : ∀ (y0 : Int32) (y1 : Int32) (y2 : Int32) (y3 : Int32), Q (.inl (y0, y1, y2, y3)) → mj_G D cy ad bs X cX11_neededInside 6 yX11_neededInside.cls (some .boolean) yX11_neededInside.name 1 0 0 1065 (t_P (fun v s' => s' = s ∧ ∃ x, v = some (.int x) ∧ Q (.inr (x)))) 10 [(0, .ref 316), (1, .int (y0)), (2, .int (y1)), (3, .int (y2)), (4, .int (y3))] [] (t_m s) 1065 0 0) (hk : t_hk (k_X11_neededInside_64 l1 l2 l3 l4 s) Q) : mj_G D cy ad bs X cX11_neededInside 6 yX11_neededInside.cls (some .boolean) yX11_neededInside.name 1 0 0 1065 (t_P (fun v s' => s' = s ∧ ∃ x, v = some (.int x) ∧ Q (.inr (x)))) 64 [(0, .ref 316), (1, .int l1), (2, .int l2), (3, .int l3), (4, .int l4)] [] (t_m s) 1065 0 0 := by
  refine mj_aload_n dX11_neededInside_64 0 rfl ?_
  refine t_getR 319 dX11_neededInside_65 F_X11_16 qr_316_2 ?_
  refine mj_iload_n dX11_neededInside_68 3 rfl ?_
  refine t_chkK hk (fun c0 hk => ?_)
  refine t_iald dX11_neededInside_69 qa_319 (t_ixv c0) ?_
  refine mj_istore_n 3 (lv2 := [(3, .int (s.1 319 (l3.toNatClampNeg))), (0, .ref 316), (1, .int l1), (2, .int l2), (4, .int l4)]) dX11_neededInside_70 rfl (by decide) rfl ?_
  refine mj_iinc (k := 4) (v := (l4 + 1)) (lv2 := [(4, .int (l4 + 1)), (3, .int (s.1 319 (l3.toNatClampNeg))), (0, .ref 316), (1, .int l1), (2, .int l2)]) dX11_neededInside_71 rfl rfl (by decide) rfl ?_
  refine mj_goto 10 dX11_neededInside_74 (by decide) ?_
  refine mj_sublv [(0, .ref 316), (1, .int l1), (2, .int l2), (3, .int (s.1 319 (l3.toNatClampNeg))), (4, .int (l4 + 1))] [2, 3, 4, 1, 0] rfl ?_
  exact t_somK hk (fun hf => Hb10 l1 l2 (s.1 319 (l3.toNatClampNeg)) (l4 + 1) hf)
noncomputable def k_X11_neededInside_10 (l1 : Int32) (l2 : Int32) (l3 : Int32) (l4 : Int32) (s : t_S) : Option ((Int32 × Int32 × Int32 × Int32) ⊕ (Int32)) :=
 if t_ix l2 3001 = true then
  if (s.1 321 (l2.toNatClampNeg)) ≤ l4 then ((some (1 : Int32)).map Sum.inr)
 else (if l3 < (0 : Int32) then ((some (1 : Int32)).map Sum.inr)
 else (if t_ix l3 3001 = true then
  if (s.1 321 (l3.toNatClampNeg)) = (0 : Int32) then ((f_X11_fieldOf l1 (s.1 320 (l3.toNatClampNeg)) s).bind (fun r3 =>
 if r3 < (0 : Int32) then ((some (0 : Int32)).map Sum.inr)
 else (if t_ix r3 3001 = true then
  if (s.1 321 (r3.toNatClampNeg)) = (0 : Int32) then (k_X11_neededInside_64 l1 l2 l3 l4 s)
 else ((some (0 : Int32)).map Sum.inr)
else none)))
 else (k_X11_neededInside_64 l1 l2 l3 l4 s)
else none))
else none
set_option maxRecDepth 4000 in
set_option maxHeartbeats 1000000 in
theorem B_X11_neededInside_10 {D : va_G} {cy : Nat → ClassId} {ad : Nat → Nat} {bs : Nat} {X : State → Heap → Prop} (l1 : Int32) (l2 : Int32) (l3 : Int32) (l4 : Int32) (s : t_S) (Q : (Int32 × Int32 × Int32 × Int32) ⊕ (Int32) → Prop) (Hb10 : ∀ (y0 : Int32) (y1 : Int32) (y2 : Int32) (y3 : Int32), Q (.inl (y0, y1, y2, y3)) → mj_G D cy ad bs X cX11_neededInside 6 yX11_neededInside.cls (some .boolean) yX11_neededInside.name 1 0 0 1065 (t_P (fun v s' => s' = s ∧ ∃ x, v = some (.int x) ∧ Q (.inr (x)))) 10 [(0, .ref 316), (1, .int (y0)), (2, .int (y1)), (3, .int (y2)), (4, .int (y3))] [] (t_m s) 1065 0 0) (hk : t_hk (k_X11_neededInside_10 l1 l2 l3 l4 s) Q) : mj_G D cy ad bs X cX11_neededInside 6 yX11_neededInside.cls (some .boolean) yX11_neededInside.name 1 0 0 1065 (t_P (fun v s' => s' = s ∧ ∃ x, v = some (.int x) ∧ Q (.inr (x)))) 10 [(0, .ref 316), (1, .int l1), (2, .int l2), (3, .int l3), (4, .int l4)] [] (t_m s) 1065 0 0 := by
  refine mj_iload dX11_neededInside_10 4 rfl ?_
  refine mj_aload_n dX11_neededInside_12 0 rfl ?_
  refine t_getR 321 dX11_neededInside_13 F_X11_22 qr_316_4 ?_
  refine mj_iload_n dX11_neededInside_16 2 rfl ?_
  refine t_chkK hk (fun c0 hk => ?_)
  refine t_iald dX11_neededInside_17 qa_321 (t_ixv c0) ?_
  refine mj_icmp_ge 77 dX11_neededInside_18 (by decide) (fun z => t_posK hk z (fun hk => ?_)) (fun z => t_negK hk z (fun hk => ?_))
  · refine t_mapK hk (fun hk => ?_)
    refine mj_iconst (v := 1) dX11_neededInside_77 (by decide) ?_
    exact t_somK hk (fun hf => t_iret dX11_neededInside_78 rfl (by decide) ⟨rfl, _, rfl, hf⟩ (Nat.le_of_ble_eq_true rfl) (Nat.le_of_ble_eq_true rfl))
  · refine mj_iload_n dX11_neededInside_21 3 rfl ?_
    refine mj_if_lt 77 dX11_neededInside_22 (by decide) (fun z => t_posK hk z (fun hk => ?_)) (fun z => t_negK hk z (fun hk => ?_))
    · refine t_mapK hk (fun hk => ?_)
      refine mj_iconst (v := 1) dX11_neededInside_77 (by decide) ?_
      exact t_somK hk (fun hf => t_iret dX11_neededInside_78 rfl (by decide) ⟨rfl, _, rfl, hf⟩ (Nat.le_of_ble_eq_true rfl) (Nat.le_of_ble_eq_true rfl))
    · refine mj_aload_n dX11_neededInside_25 0 rfl ?_
      refine t_getR 321 dX11_neededInside_26 F_X11_22 qr_316_4 ?_
      refine mj_iload_n dX11_neededInside_29 3 rfl ?_
      refine t_chkK hk (fun c1 hk => ?_)
      refine t_iald dX11_neededInside_30 qa_321 (t_ixv c1) ?_
      refine mj_if_ne 64 dX11_neededInside_31 (by decide) (fun z => t_negK hk z (fun hk => ?_)) (fun z => t_posK hk z (fun hk => ?_))
      · exact B_X11_neededInside_64 _ _ _ _ _ _ (fun y0 y1 y2 y3 hx => Hb10 y0 y1 y2 y3 hx) hk
      · refine mj_aload_n dX11_neededInside_34 0 rfl ?_
        refine mj_iload_n dX11_neededInside_35 1 rfl ?_
        refine mj_aload_n dX11_neededInside_36 0 rfl ?_
        refine t_getR 320 dX11_neededInside_37 F_X11_19 qr_316_3 ?_
        refine mj_iload_n dX11_neededInside_40 3 rfl ?_
        refine t_iald dX11_neededInside_41 qa_320 (t_ixv c1) ?_
        refine t_bndK hk (fun r3 er3 hk => ?_)
        refine t_callViP dX11_neededInside_42 M_X11_fieldOf (C_X11_fieldOf _ _ _ _ er3) ML_X11_139 IM_X11_fieldOf SE_X11_fieldOf qc_316 rfl (As := [.int l1, .int (s.1 320 (l3.toNatClampNeg))]) rfl rfl (Nat.le_of_ble_eq_true rfl) (Nat.le_of_ble_eq_true rfl) (Nat.le_of_ble_eq_true rfl) (Nat.le_of_ble_eq_true rfl) ?_
        refine mj_istore (lv2 := [(5, .int r3), (0, .ref 316), (1, .int l1), (2, .int l2), (3, .int l3), (4, .int l4)]) dX11_neededInside_45 (by decide) rfl ?_
        refine mj_iload dX11_neededInside_47 0 rfl ?_
        refine mj_if_lt 62 dX11_neededInside_49 (by decide) (fun z => t_posK hk z (fun hk => ?_)) (fun z => t_negK hk z (fun hk => ?_))
        · refine t_mapK hk (fun hk => ?_)
          refine mj_iconst (v := 0) dX11_neededInside_62 (by decide) ?_
          exact t_somK hk (fun hf => t_iret dX11_neededInside_63 rfl (by decide) ⟨rfl, _, rfl, hf⟩ (Nat.le_of_ble_eq_true rfl) (Nat.le_of_ble_eq_true rfl))
        · refine mj_aload_n dX11_neededInside_52 1 rfl ?_
          refine t_getR 321 dX11_neededInside_53 F_X11_22 qr_316_4 ?_
          refine mj_iload dX11_neededInside_56 0 rfl ?_
          refine t_chkK hk (fun c3 hk => ?_)
          refine t_iald dX11_neededInside_58 qa_321 (t_ixv c3) ?_
          refine mj_if_eq 64 dX11_neededInside_59 (by decide) (fun z => t_posK hk z (fun hk => ?_)) (fun z => t_negK hk z (fun hk => ?_))
          · refine mj_sublv [(0, .ref 316), (1, .int l1), (2, .int l2), (3, .int l3), (4, .int l4)] [1, 2, 3, 4, 5] rfl ?_
            exact B_X11_neededInside_64 _ _ _ _ _ _ (fun y0 y1 y2 y3 hx => Hb10 y0 y1 y2 y3 hx) hk
          · refine t_mapK hk (fun hk => ?_)
            refine mj_iconst (v := 0) dX11_neededInside_62 (by decide) ?_
            exact t_somK hk (fun hf => t_iret dX11_neededInside_63 rfl (by decide) ⟨rfl, _, rfl, hf⟩ (Nat.le_of_ble_eq_true rfl) (Nat.le_of_ble_eq_true rfl))
noncomputable def b_X11_neededInside_10 (s : t_S) (x : Int32 × Int32 × Int32 × Int32) : Option ((Int32 × Int32 × Int32 × Int32) ⊕ (Int32)) := k_X11_neededInside_10 x.1 x.2.1 x.2.2.1 x.2.2.2 s
set_option maxRecDepth 4000 in
set_option maxHeartbeats 1000000 in
theorem LH_X11_neededInside_10 {D : va_G} {cy : Nat → ClassId} {ad : Nat → Nat} {bs : Nat} {X : State → Heap → Prop} (s : t_S) : ∀ (n : Nat) (y0 : Int32) (y1 : Int32) (y2 : Int32) (y3 : Int32) (Q : Int32 → Prop) (hk : t_hk (t_loop (b_X11_neededInside_10 s) n (y0, y1, y2, y3)) Q), mj_G D cy ad bs X cX11_neededInside 6 yX11_neededInside.cls (some .boolean) yX11_neededInside.name 1 0 0 1065 (t_P (fun v s' => s' = s ∧ ∃ x, v = some (.int x) ∧ Q (x))) 10 [(0, .ref 316), (1, .int (y0)), (2, .int (y1)), (3, .int (y2)), (4, .int (y3))] [] (t_m s) 1065 0 0 := by
  intro n
  induction n with
  | zero => intro y0 y1 y2 y3 Q hk; obtain ⟨r, hr, _⟩ := hk; cases hr
  | succ n ih =>
    intro y0 y1 y2 y3 Q hk
    exact B_X11_neededInside_10 y0 y1 y2 y3 s (fun y => t_lq (b_X11_neededInside_10 s) n Q y) (fun y0' y1' y2' y3' hy => ih y0' y1' y2' y3' Q hy) (t_lp hk)
noncomputable def f_X11_neededInside (x1 : Int32) (x2 : Int32) (s : t_S) : Option (Int32) :=
 if t_ix x2 3001 = true then
  t_loop (b_X11_neededInside_10 s) t_N (x1, x2, (s.1 318 (x2.toNatClampNeg)), 0)
else none
set_option maxRecDepth 4000 in
set_option maxHeartbeats 1000000 in
theorem C_X11_neededInside (x1 : Int32) (x2 : Int32) (s : t_S) (r : Int32) (hr : f_X11_neededInside x1 x2 s = some r) : t_C yX11_neededInside cX11_neededInside 6 (some .boolean) 1 [.ref 316, .int x1, .int x2] s (fun v s' => v = some (.int r) ∧ s' = s) := by
  refine t_C.imp (P := fun v s' => s' = s ∧ ∃ x, v = some (.int x) ∧ (fun q => q = r) (x)) (t_C.of (by decide +kernel) (Nat.le_of_ble_eq_true rfl) ?_) (fun v s' hp => by obtain ⟨rfl, x, rfl, rfl⟩ := hp; exact ⟨rfl, rfl⟩)
  intro D cy ad bs X
  have hk : t_hk (f_X11_neededInside x1 x2 s) (fun q => q = r) := ⟨r, hr, rfl⟩
  show mj_G D cy ad bs X cX11_neededInside 6 yX11_neededInside.cls (some .boolean) yX11_neededInside.name 1 0 0 1065 (t_P (fun v s' => s' = s ∧ ∃ x, v = some (.int x) ∧ (fun q => q = r) (x))) 0 [(0, .ref 316), (1, .int x1), (2, .int x2)] [] (t_m s) 1065 0 0
  refine mj_aload_n dX11_neededInside_0 0 rfl ?_
  refine t_getR 318 dX11_neededInside_1 F_X11_13 qr_316_1 ?_
  refine mj_iload_n dX11_neededInside_4 2 rfl ?_
  refine t_chkK hk (fun c0 hk => ?_)
  refine t_iald dX11_neededInside_5 qa_318 (t_ixv c0) ?_
  refine mj_istore_n 3 (lv2 := [(3, .int (s.1 318 (x2.toNatClampNeg))), (0, .ref 316), (1, .int x1), (2, .int x2)]) dX11_neededInside_6 rfl (by decide) rfl ?_
  refine mj_iconst (v := 0) dX11_neededInside_7 (by decide) ?_
  refine mj_istore (lv2 := [(4, .int 0), (3, .int (s.1 318 (x2.toNatClampNeg))), (0, .ref 316), (1, .int x1), (2, .int x2)]) dX11_neededInside_8 (by decide) rfl ?_
  refine mj_sublv [(0, .ref 316), (1, .int x1), (2, .int x2), (3, .int (s.1 318 (x2.toNatClampNeg))), (4, .int 0)] [2, 3, 4, 1, 0] rfl ?_
  exact LH_X11_neededInside_10 _ _ x1 x2 (s.1 318 (x2.toNatClampNeg)) 0 _ hk

theorem dX11_stretchInside_0 : decode cX11_stretchInside 0 = .ok (.aload_n 0, 1) := by decide +kernel
theorem dX11_stretchInside_1 : decode cX11_stretchInside 1 = .ok (.getfield 22, 3) := by decide +kernel
theorem dX11_stretchInside_10 : decode cX11_stretchInside 10 = .ok (.lload_n 1, 1) := by decide +kernel
theorem dX11_stretchInside_100 : decode cX11_stretchInside 100 = .ok (.aload_n 0, 1) := by decide +kernel
theorem dX11_stretchInside_101 : decode cX11_stretchInside 101 = .ok (.getfield 25, 3) := by decide +kernel
theorem dX11_stretchInside_104 : decode cX11_stretchInside 104 = .ok (.iload 11, 2) := by decide +kernel
theorem dX11_stretchInside_106 : decode cX11_stretchInside 106 = .ok (.laload, 1) := by decide +kernel
theorem dX11_stretchInside_107 : decode cX11_stretchInside 107 = .ok (.lload 6, 2) := by decide +kernel
theorem dX11_stretchInside_109 : decode cX11_stretchInside 109 = .ok (.lcmp, 1) := by decide +kernel
theorem dX11_stretchInside_11 : decode cX11_stretchInside 11 = .ok (.aload_n 0, 1) := by decide +kernel
theorem dX11_stretchInside_110 : decode cX11_stretchInside 110 = .ok (.ifCond .gt 25, 3) := by decide +kernel
theorem dX11_stretchInside_113 : decode cX11_stretchInside 113 = .ok (.aload_n 0, 1) := by decide +kernel
theorem dX11_stretchInside_114 : decode cX11_stretchInside 114 = .ok (.getfield 29, 3) := by decide +kernel
theorem dX11_stretchInside_117 : decode cX11_stretchInside 117 = .ok (.iload 11, 2) := by decide +kernel
theorem dX11_stretchInside_119 : decode cX11_stretchInside 119 = .ok (.laload, 1) := by decide +kernel
theorem dX11_stretchInside_12 : decode cX11_stretchInside 12 = .ok (.getfield 25, 3) := by decide +kernel
theorem dX11_stretchInside_120 : decode cX11_stretchInside 120 = .ok (.lload 9, 2) := by decide +kernel
theorem dX11_stretchInside_122 : decode cX11_stretchInside 122 = .ok (.lcmp, 1) := by decide +kernel
theorem dX11_stretchInside_123 : decode cX11_stretchInside 123 = .ok (.ifCond .le 12, 3) := by decide +kernel
theorem dX11_stretchInside_126 : decode cX11_stretchInside 126 = .ok (.aload_n 0, 1) := by decide +kernel
theorem dX11_stretchInside_127 : decode cX11_stretchInside 127 = .ok (.getfield 29, 3) := by decide +kernel
theorem dX11_stretchInside_130 : decode cX11_stretchInside 130 = .ok (.iload 11, 2) := by decide +kernel
theorem dX11_stretchInside_132 : decode cX11_stretchInside 132 = .ok (.laload, 1) := by decide +kernel
theorem dX11_stretchInside_133 : decode cX11_stretchInside 133 = .ok (.lstore 9, 2) := by decide +kernel
theorem dX11_stretchInside_135 : decode cX11_stretchInside 135 = .ok (.aload_n 0, 1) := by decide +kernel
theorem dX11_stretchInside_136 : decode cX11_stretchInside 136 = .ok (.getfield 16, 3) := by decide +kernel
theorem dX11_stretchInside_139 : decode cX11_stretchInside 139 = .ok (.iload 11, 2) := by decide +kernel
theorem dX11_stretchInside_141 : decode cX11_stretchInside 141 = .ok (.iaload, 1) := by decide +kernel
theorem dX11_stretchInside_142 : decode cX11_stretchInside 142 = .ok (.istore 11, 2) := by decide +kernel
theorem dX11_stretchInside_144 : decode cX11_stretchInside 144 = .ok (.iinc 12 1, 3) := by decide +kernel
theorem dX11_stretchInside_147 : decode cX11_stretchInside 147 = .ok (.goto (-64), 3) := by decide +kernel
theorem dX11_stretchInside_15 : decode cX11_stretchInside 15 = .ok (.iload 5, 2) := by decide +kernel
theorem dX11_stretchInside_150 : decode cX11_stretchInside 150 = .ok (.lload 9, 2) := by decide +kernel
theorem dX11_stretchInside_152 : decode cX11_stretchInside 152 = .ok (.lload 6, 2) := by decide +kernel
theorem dX11_stretchInside_154 : decode cX11_stretchInside 154 = .ok (.lcmp, 1) := by decide +kernel
theorem dX11_stretchInside_155 : decode cX11_stretchInside 155 = .ok (.ifCond .ge 5, 3) := by decide +kernel
theorem dX11_stretchInside_158 : decode cX11_stretchInside 158 = .ok (.iconst 0, 1) := by decide +kernel
theorem dX11_stretchInside_159 : decode cX11_stretchInside 159 = .ok (.ireturn, 1) := by decide +kernel
theorem dX11_stretchInside_160 : decode cX11_stretchInside 160 = .ok (.lload 9, 2) := by decide +kernel
theorem dX11_stretchInside_162 : decode cX11_stretchInside 162 = .ok (.lconst 1, 1) := by decide +kernel
theorem dX11_stretchInside_163 : decode cX11_stretchInside 163 = .ok (.ladd, 1) := by decide +kernel
theorem dX11_stretchInside_164 : decode cX11_stretchInside 164 = .ok (.lstore 6, 2) := by decide +kernel
theorem dX11_stretchInside_166 : decode cX11_stretchInside 166 = .ok (.iinc 8 1, 3) := by decide +kernel
theorem dX11_stretchInside_169 : decode cX11_stretchInside 169 = .ok (.goto (-123), 3) := by decide +kernel
theorem dX11_stretchInside_17 : decode cX11_stretchInside 17 = .ok (.laload, 1) := by decide +kernel
theorem dX11_stretchInside_172 : decode cX11_stretchInside 172 = .ok (.lload 6, 2) := by decide +kernel
theorem dX11_stretchInside_174 : decode cX11_stretchInside 174 = .ok (.lload_n 3, 1) := by decide +kernel
theorem dX11_stretchInside_175 : decode cX11_stretchInside 175 = .ok (.lcmp, 1) := by decide +kernel
theorem dX11_stretchInside_176 : decode cX11_stretchInside 176 = .ok (.ifCond .le 7, 3) := by decide +kernel
theorem dX11_stretchInside_179 : decode cX11_stretchInside 179 = .ok (.iconst 1, 1) := by decide +kernel
theorem dX11_stretchInside_18 : decode cX11_stretchInside 18 = .ok (.lcmp, 1) := by decide +kernel
theorem dX11_stretchInside_180 : decode cX11_stretchInside 180 = .ok (.goto 4, 3) := by decide +kernel
theorem dX11_stretchInside_183 : decode cX11_stretchInside 183 = .ok (.iconst 0, 1) := by decide +kernel
theorem dX11_stretchInside_184 : decode cX11_stretchInside 184 = .ok (.ireturn, 1) := by decide +kernel
theorem dX11_stretchInside_19 : decode cX11_stretchInside 19 = .ok (.ifCond .lt 19, 3) := by decide +kernel
theorem dX11_stretchInside_22 : decode cX11_stretchInside 22 = .ok (.lload_n 3, 1) := by decide +kernel
theorem dX11_stretchInside_23 : decode cX11_stretchInside 23 = .ok (.aload_n 0, 1) := by decide +kernel
theorem dX11_stretchInside_24 : decode cX11_stretchInside 24 = .ok (.getfield 29, 3) := by decide +kernel
theorem dX11_stretchInside_27 : decode cX11_stretchInside 27 = .ok (.iload 5, 2) := by decide +kernel
theorem dX11_stretchInside_29 : decode cX11_stretchInside 29 = .ok (.laload, 1) := by decide +kernel
theorem dX11_stretchInside_30 : decode cX11_stretchInside 30 = .ok (.lcmp, 1) := by decide +kernel
theorem dX11_stretchInside_31 : decode cX11_stretchInside 31 = .ok (.ifCond .gt 7, 3) := by decide +kernel
theorem dX11_stretchInside_34 : decode cX11_stretchInside 34 = .ok (.iconst 1, 1) := by decide +kernel
theorem dX11_stretchInside_35 : decode cX11_stretchInside 35 = .ok (.goto 4, 3) := by decide +kernel
theorem dX11_stretchInside_38 : decode cX11_stretchInside 38 = .ok (.iconst 0, 1) := by decide +kernel
theorem dX11_stretchInside_39 : decode cX11_stretchInside 39 = .ok (.ireturn, 1) := by decide +kernel
theorem dX11_stretchInside_4 : decode cX11_stretchInside 4 = .ok (.iload 5, 2) := by decide +kernel
theorem dX11_stretchInside_40 : decode cX11_stretchInside 40 = .ok (.lload_n 1, 1) := by decide +kernel
theorem dX11_stretchInside_41 : decode cX11_stretchInside 41 = .ok (.lstore 6, 2) := by decide +kernel
theorem dX11_stretchInside_43 : decode cX11_stretchInside 43 = .ok (.iconst 0, 1) := by decide +kernel
theorem dX11_stretchInside_44 : decode cX11_stretchInside 44 = .ok (.istore 8, 2) := by decide +kernel
theorem dX11_stretchInside_46 : decode cX11_stretchInside 46 = .ok (.iload 8, 2) := by decide +kernel
theorem dX11_stretchInside_48 : decode cX11_stretchInside 48 = .ok (.aload_n 0, 1) := by decide +kernel
theorem dX11_stretchInside_49 : decode cX11_stretchInside 49 = .ok (.getfield 22, 3) := by decide +kernel
theorem dX11_stretchInside_52 : decode cX11_stretchInside 52 = .ok (.iload 5, 2) := by decide +kernel
theorem dX11_stretchInside_54 : decode cX11_stretchInside 54 = .ok (.iaload, 1) := by decide +kernel
theorem dX11_stretchInside_55 : decode cX11_stretchInside 55 = .ok (.if_icmp .gt 117, 3) := by decide +kernel
theorem dX11_stretchInside_58 : decode cX11_stretchInside 58 = .ok (.lload 6, 2) := by decide +kernel
theorem dX11_stretchInside_6 : decode cX11_stretchInside 6 = .ok (.iaload, 1) := by decide +kernel
theorem dX11_stretchInside_60 : decode cX11_stretchInside 60 = .ok (.lload_n 3, 1) := by decide +kernel
theorem dX11_stretchInside_61 : decode cX11_stretchInside 61 = .ok (.lcmp, 1) := by decide +kernel
theorem dX11_stretchInside_62 : decode cX11_stretchInside 62 = .ok (.ifCond .gt 110, 3) := by decide +kernel
theorem dX11_stretchInside_65 : decode cX11_stretchInside 65 = .ok (.lload 6, 2) := by decide +kernel
theorem dX11_stretchInside_67 : decode cX11_stretchInside 67 = .ok (.lconst 1, 1) := by decide +kernel
theorem dX11_stretchInside_68 : decode cX11_stretchInside 68 = .ok (.lsub, 1) := by decide +kernel
theorem dX11_stretchInside_69 : decode cX11_stretchInside 69 = .ok (.lstore 9, 2) := by decide +kernel
theorem dX11_stretchInside_7 : decode cX11_stretchInside 7 = .ok (.ifCond .ne 33, 3) := by decide +kernel
theorem dX11_stretchInside_71 : decode cX11_stretchInside 71 = .ok (.aload_n 0, 1) := by decide +kernel
theorem dX11_stretchInside_72 : decode cX11_stretchInside 72 = .ok (.getfield 13, 3) := by decide +kernel
theorem dX11_stretchInside_75 : decode cX11_stretchInside 75 = .ok (.iload 5, 2) := by decide +kernel
theorem dX11_stretchInside_77 : decode cX11_stretchInside 77 = .ok (.iaload, 1) := by decide +kernel
theorem dX11_stretchInside_78 : decode cX11_stretchInside 78 = .ok (.istore 11, 2) := by decide +kernel
theorem dX11_stretchInside_80 : decode cX11_stretchInside 80 = .ok (.iconst 0, 1) := by decide +kernel
theorem dX11_stretchInside_81 : decode cX11_stretchInside 81 = .ok (.istore 12, 2) := by decide +kernel
theorem dX11_stretchInside_83 : decode cX11_stretchInside 83 = .ok (.iload 12, 2) := by decide +kernel
theorem dX11_stretchInside_85 : decode cX11_stretchInside 85 = .ok (.aload_n 0, 1) := by decide +kernel
theorem dX11_stretchInside_86 : decode cX11_stretchInside 86 = .ok (.getfield 22, 3) := by decide +kernel
theorem dX11_stretchInside_89 : decode cX11_stretchInside 89 = .ok (.iload 5, 2) := by decide +kernel
theorem dX11_stretchInside_91 : decode cX11_stretchInside 91 = .ok (.iaload, 1) := by decide +kernel
theorem dX11_stretchInside_92 : decode cX11_stretchInside 92 = .ok (.if_icmp .ge 58, 3) := by decide +kernel
theorem dX11_stretchInside_95 : decode cX11_stretchInside 95 = .ok (.iload 11, 2) := by decide +kernel
theorem dX11_stretchInside_97 : decode cX11_stretchInside 97 = .ok (.ifCond .lt 53, 3) := by decide +kernel
noncomputable def k_X11_stretchInside_150 (l3 : Int64) (l5 : Int32) (l6 : Int64) (l8 : Int32) (l9 : Int64) (s : t_S) : Option ((Int64 × Int32 × Int64 × Int32) ⊕ (Int32)) :=
 if (0 : Int32) ≤ (lg_cmp l9 l6) then (some (.inl (l3, l5, (l9 + (1 : Int64)), (l8 + 1))))
 else ((some (0 : Int32)).map Sum.inr)
set_option maxRecDepth 4000 in
set_option maxHeartbeats 1000000 in
theorem B_X11_stretchInside_150 {D : va_G} {cy : Nat → ClassId} {ad : Nat → Nat} {bs : Nat} {X : State → Heap → Prop} (l3 : Int64) (l5 : Int32) (l6 : Int64) (l8 : Int32) (l9 : Int64) (s : t_S) (Q : (Int64 × Int32 × Int64 × Int32) ⊕ (Int32) → Prop) (Hb46 : ∀ (y0 : Int64) (y1 : Int32) (y2 : Int64) (y3 : Int32), Q (.inl (y0, y1, y2, y3)) → mj_G D cy ad bs X cX11_stretchInside 13 yX11_stretchInside.cls (some .boolean) yX11_stretchInside.name 0 0 0 1065 (t_P (fun v s' => s' = s ∧ ∃ x, v = some (.int x) ∧ Q (.inr (x)))) 46 [(0, .ref 316), (3, .long (y0)), (5, .int (y1)), (6, .long (y2)), (8, .int (y3))] [] (t_m s) 1065 0 0) (hk : t_hk (k_X11_stretchInside_150 l3 l5 l6 l8 l9 s) Q) : mj_G D cy ad bs X cX11_stretchInside 13 yX11_stretchInside.cls (some .boolean) yX11_stretchInside.name 0 0 0 1065 (t_P (fun v s' => s' = s ∧ ∃ x, v = some (.int x) ∧ Q (.inr (x)))) 150 [(0, .ref 316), (3, .long l3), (5, .int l5), (6, .long l6), (8, .int l8), (9, .long l9)] [] (t_m s) 1065 0 0 := by
  refine mj_lload dX11_stretchInside_150 5 rfl ?_
  refine mj_lload dX11_stretchInside_152 3 rfl ?_
  refine mj_lcmp dX11_stretchInside_154 ?_
  refine mj_if_ge 160 dX11_stretchInside_155 (by decide) (fun z => t_posK hk z (fun hk => ?_)) (fun z => t_negK hk z (fun hk => ?_))
  · refine mj_lload dX11_stretchInside_160 5 rfl ?_
    refine mj_lconst (v := 1) dX11_stretchInside_162 (by decide) ?_
    refine mj_ladd dX11_stretchInside_163 ?_
    refine mj_lstore (lv2 := [(6, .long (l9 + (1 : Int64))), (0, .ref 316), (3, .long l3), (5, .int l5), (8, .int l8), (9, .long l9)]) dX11_stretchInside_164 (by decide) rfl ?_
    refine mj_iinc (k := 4) (v := (l8 + 1)) (lv2 := [(8, .int (l8 + 1)), (6, .long (l9 + (1 : Int64))), (0, .ref 316), (3, .long l3), (5, .int l5), (9, .long l9)]) dX11_stretchInside_166 rfl rfl (by decide) rfl ?_
    refine mj_goto 46 dX11_stretchInside_169 (by decide) ?_
    refine mj_sublv [(0, .ref 316), (3, .long l3), (5, .int l5), (6, .long (l9 + (1 : Int64))), (8, .int (l8 + 1))] [2, 3, 4, 1, 0] rfl ?_
    exact t_somK hk (fun hf => Hb46 l3 l5 (l9 + (1 : Int64)) (l8 + 1) hf)
  · refine t_mapK hk (fun hk => ?_)
    refine mj_iconst (v := 0) dX11_stretchInside_158 (by decide) ?_
    exact t_somK hk (fun hf => t_iret dX11_stretchInside_159 rfl (by decide) ⟨rfl, _, rfl, hf⟩ (Nat.le_of_ble_eq_true rfl) (Nat.le_of_ble_eq_true rfl))
noncomputable def k_X11_stretchInside_135 (l3 : Int64) (l5 : Int32) (l6 : Int64) (l8 : Int32) (l9 : Int64) (l11 : Int32) (l12 : Int32) (s : t_S) : Option ((Int64 × Int32 × Int64 × Int32 × Int64 × Int32 × Int32) ⊕ ((Int64 × Int32 × Int64 × Int32) ⊕ (Int32))) :=
 if t_ix l11 3001 = true then
  some (.inl (l3, l5, l6, l8, l9, (s.1 319 (l11.toNatClampNeg)), (l12 + 1)))
else none
set_option maxRecDepth 4000 in
set_option maxHeartbeats 1000000 in
theorem B_X11_stretchInside_135 {D : va_G} {cy : Nat → ClassId} {ad : Nat → Nat} {bs : Nat} {X : State → Heap → Prop} (l3 : Int64) (l5 : Int32) (l6 : Int64) (l8 : Int32) (l9 : Int64) (l11 : Int32) (l12 : Int32) (s : t_S) (Q : (Int64 × Int32 × Int64 × Int32 × Int64 × Int32 × Int32) ⊕ ((Int64 × Int32 × Int64 × Int32) ⊕ (Int32)) → Prop) (Hb46 : ∀ (y0 : Int64) (y1 : Int32) (y2 : Int64) (y3 : Int32), Q (.inr (.inl (y0, y1, y2, y3))) → mj_G D cy ad bs X cX11_stretchInside 13 yX11_stretchInside.cls (some .boolean) yX11_stretchInside.name 0 0 0 1065 (t_P (fun v s' => s' = s ∧ ∃ x, v = some (.int x) ∧ Q (.inr (.inr (x))))) 46 [(0, .ref 316), (3, .long (y0)), (5, .int (y1)), (6, .long (y2)), (8, .int (y3))] [] (t_m s) 1065 0 0) (Hb83 : ∀ (y0 : Int64) (y1 : Int32) (y2 : Int64) (y3 : Int32) (y4 : Int64) (y5 : Int32) (y6 : Int32), Q (.inl (y0, y1, y2, y3, y4, y5, y6)) → mj_G D cy ad bs X cX11_stretchInside 13 yX11_stretchInside.cls (some .boolean) yX11_stretchInside.name 0 0 0 1065 (t_P (fun v s' => s' = s ∧ ∃ x, v = some (.int x) ∧ Q (.inr (.inr (x))))) 83 [(0, .ref 316), (3, .long (y0)), (5, .int (y1)), (6, .long (y2)), (8, .int (y3)), (9, .long (y4)), (11, .int (y5)), (12, .int (y6))] [] (t_m s) 1065 0 0) (hk : t_hk (k_X11_stretchInside_135 l3 l5 l6 l8 l9 l11 l12 s) Q) : mj_G D cy ad bs X cX11_stretchInside 13 yX11_stretchInside.cls (some .boolean) yX11_stretchInside.name 0 0 0 1065 (t_P (fun v s' => s' = s ∧ ∃ x, v = some (.int x) ∧ Q (.inr (.inr (x))))) 135 [(0, .ref 316), (3, .long l3), (5, .int l5), (6, .long l6), (8, .int l8), (9, .long l9), (11, .int l11), (12, .int l12)] [] (t_m s) 1065 0 0 := by
  refine mj_aload_n dX11_stretchInside_135 0 rfl ?_
  refine t_getR 319 dX11_stretchInside_136 F_X11_16 qr_316_2 ?_
  refine mj_iload dX11_stretchInside_139 6 rfl ?_
  refine t_chkK hk (fun c0 hk => ?_)
  refine t_iald dX11_stretchInside_141 qa_319 (t_ixv c0) ?_
  refine mj_istore (lv2 := [(11, .int (s.1 319 (l11.toNatClampNeg))), (0, .ref 316), (3, .long l3), (5, .int l5), (6, .long l6), (8, .int l8), (9, .long l9), (12, .int l12)]) dX11_stretchInside_142 (by decide) rfl ?_
  refine mj_iinc (k := 7) (v := (l12 + 1)) (lv2 := [(12, .int (l12 + 1)), (11, .int (s.1 319 (l11.toNatClampNeg))), (0, .ref 316), (3, .long l3), (5, .int l5), (6, .long l6), (8, .int l8), (9, .long l9)]) dX11_stretchInside_144 rfl rfl (by decide) rfl ?_
  refine mj_goto 83 dX11_stretchInside_147 (by decide) ?_
  refine mj_sublv [(0, .ref 316), (3, .long l3), (5, .int l5), (6, .long l6), (8, .int l8), (9, .long l9), (11, .int (s.1 319 (l11.toNatClampNeg))), (12, .int (l12 + 1))] [2, 3, 4, 5, 6, 7, 1, 0] rfl ?_
  exact t_somK hk (fun hf => Hb83 l3 l5 l6 l8 l9 (s.1 319 (l11.toNatClampNeg)) (l12 + 1) hf)
noncomputable def k_X11_stretchInside_83 (l3 : Int64) (l5 : Int32) (l6 : Int64) (l8 : Int32) (l9 : Int64) (l11 : Int32) (l12 : Int32) (s : t_S) : Option ((Int64 × Int32 × Int64 × Int32 × Int64 × Int32 × Int32) ⊕ ((Int64 × Int32 × Int64 × Int32) ⊕ (Int32))) :=
 if t_ix l5 3001 = true then
  if (s.1 321 (l5.toNatClampNeg)) ≤ l12 then ((k_X11_stretchInside_150 l3 l5 l6 l8 l9 s).map Sum.inr)
 else (if l11 < (0 : Int32) then ((k_X11_stretchInside_150 l3 l5 l6 l8 l9 s).map Sum.inr)
 else (if t_ix l11 3001 = true then
  if (0 : Int32) < (lg_cmp (s.2.1 322 (l11.toNatClampNeg)) l6) then (k_X11_stretchInside_135 l3 l5 l6 l8 l9 l11 l12 s)
 else (if (lg_cmp (s.2.1 323 (l11.toNatClampNeg)) l9) ≤ (0 : Int32) then (k_X11_stretchInside_135 l3 l5 l6 l8 l9 l11 l12 s)
 else (k_X11_stretchInside_135 l3 l5 l6 l8 (s.2.1 323 (l11.toNatClampNeg)) l11 l12 s))
else none))
else none
set_option maxRecDepth 4000 in
set_option maxHeartbeats 1000000 in
theorem B_X11_stretchInside_83 {D : va_G} {cy : Nat → ClassId} {ad : Nat → Nat} {bs : Nat} {X : State → Heap → Prop} (l3 : Int64) (l5 : Int32) (l6 : Int64) (l8 : Int32) (l9 : Int64) (l11 : Int32) (l12 : Int32) (s : t_S) (Q : (Int64 × Int32 × Int64 × Int32 × Int64 × Int32 × Int32) ⊕ ((Int64 × Int32 × Int64 × Int32) ⊕ (Int32)) → Prop) (Hb46 : ∀ (y0 : Int64) (y1 : Int32) (y2 : Int64) (y3 : Int32), Q (.inr (.inl (y0, y1, y2, y3))) → mj_G D cy ad bs X cX11_stretchInside 13 yX11_stretchInside.cls (some .boolean) yX11_stretchInside.name 0 0 0 1065 (t_P (fun v s' => s' = s ∧ ∃ x, v = some (.int x) ∧ Q (.inr (.inr (x))))) 46 [(0, .ref 316), (3, .long (y0)), (5, .int (y1)), (6, .long (y2)), (8, .int (y3))] [] (t_m s) 1065 0 0) (Hb83 : ∀ (y0 : Int64) (y1 : Int32) (y2 : Int64) (y3 : Int32) (y4 : Int64) (y5 : Int32) (y6 : Int32), Q (.inl (y0, y1, y2, y3, y4, y5, y6)) → mj_G D cy ad bs X cX11_stretchInside 13 yX11_stretchInside.cls (some .boolean) yX11_stretchInside.name 0 0 0 1065 (t_P (fun v s' => s' = s ∧ ∃ x, v = some (.int x) ∧ Q (.inr (.inr (x))))) 83 [(0, .ref 316), (3, .long (y0)), (5, .int (y1)), (6, .long (y2)), (8, .int (y3)), (9, .long (y4)), (11, .int (y5)), (12, .int (y6))] [] (t_m s) 1065 0 0) (hk : t_hk (k_X11_stretchInside_83 l3 l5 l6 l8 l9 l11 l12 s) Q) : mj_G D cy ad bs X cX11_stretchInside 13 yX11_stretchInside.cls (some .boolean) yX11_stretchInside.name 0 0 0 1065 (t_P (fun v s' => s' = s ∧ ∃ x, v = some (.int x) ∧ Q (.inr (.inr (x))))) 83 [(0, .ref 316), (3, .long l3), (5, .int l5), (6, .long l6), (8, .int l8), (9, .long l9), (11, .int l11), (12, .int l12)] [] (t_m s) 1065 0 0 := by
  refine mj_iload dX11_stretchInside_83 7 rfl ?_
  refine mj_aload_n dX11_stretchInside_85 0 rfl ?_
  refine t_getR 321 dX11_stretchInside_86 F_X11_22 qr_316_4 ?_
  refine mj_iload dX11_stretchInside_89 2 rfl ?_
  refine t_chkK hk (fun c0 hk => ?_)
  refine t_iald dX11_stretchInside_91 qa_321 (t_ixv c0) ?_
  refine mj_icmp_ge 150 dX11_stretchInside_92 (by decide) (fun z => t_posK hk z (fun hk => ?_)) (fun z => t_negK hk z (fun hk => ?_))
  · refine mj_sublv [(0, .ref 316), (3, .long l3), (5, .int l5), (6, .long l6), (8, .int l8), (9, .long l9)] [0, 1, 2, 3, 4, 5] rfl ?_
    refine t_mapK hk (fun hk => ?_)
    exact B_X11_stretchInside_150 _ _ _ _ _ _ _ (fun y0 y1 y2 y3 hx => Hb46 y0 y1 y2 y3 hx) hk
  · refine mj_iload dX11_stretchInside_95 6 rfl ?_
    refine mj_if_lt 150 dX11_stretchInside_97 (by decide) (fun z => t_posK hk z (fun hk => ?_)) (fun z => t_negK hk z (fun hk => ?_))
    · refine mj_sublv [(0, .ref 316), (3, .long l3), (5, .int l5), (6, .long l6), (8, .int l8), (9, .long l9)] [0, 1, 2, 3, 4, 5] rfl ?_
      refine t_mapK hk (fun hk => ?_)
      exact B_X11_stretchInside_150 _ _ _ _ _ _ _ (fun y0 y1 y2 y3 hx => Hb46 y0 y1 y2 y3 hx) hk
    · refine mj_aload_n dX11_stretchInside_100 0 rfl ?_
      refine t_getR 322 dX11_stretchInside_101 F_X11_25 qr_316_5 ?_
      refine mj_iload dX11_stretchInside_104 6 rfl ?_
      refine t_chkK hk (fun c1 hk => ?_)
      refine t_lald dX11_stretchInside_106 qa_322 (t_ixv c1) ?_
      refine mj_lload dX11_stretchInside_107 3 rfl ?_
      refine mj_lcmp dX11_stretchInside_109 ?_
      refine mj_if_gt 135 dX11_stretchInside_110 (by decide) (fun z => t_posK hk z (fun hk => ?_)) (fun z => t_negK hk z (fun hk => ?_))
      · exact B_X11_stretchInside_135 _ _ _ _ _ _ _ _ _ (fun y0 y1 y2 y3 hx => Hb46 y0 y1 y2 y3 hx) (fun y0 y1 y2 y3 y4 y5 y6 hx => Hb83 y0 y1 y2 y3 y4 y5 y6 hx) hk
      · refine mj_aload_n dX11_stretchInside_113 0 rfl ?_
        refine t_getR 323 dX11_stretchInside_114 F_X11_29 qr_316_6 ?_
        refine mj_iload dX11_stretchInside_117 6 rfl ?_
        refine t_lald dX11_stretchInside_119 qa_323 (t_ixv c1) ?_
        refine mj_lload dX11_stretchInside_120 5 rfl ?_
        refine mj_lcmp dX11_stretchInside_122 ?_
        refine mj_if_le 135 dX11_stretchInside_123 (by decide) (fun z => t_posK hk z (fun hk => ?_)) (fun z => t_negK hk z (fun hk => ?_))
        · exact B_X11_stretchInside_135 _ _ _ _ _ _ _ _ _ (fun y0 y1 y2 y3 hx => Hb46 y0 y1 y2 y3 hx) (fun y0 y1 y2 y3 y4 y5 y6 hx => Hb83 y0 y1 y2 y3 y4 y5 y6 hx) hk
        · refine mj_aload_n dX11_stretchInside_126 0 rfl ?_
          refine t_getR 323 dX11_stretchInside_127 F_X11_29 qr_316_6 ?_
          refine mj_iload dX11_stretchInside_130 6 rfl ?_
          refine t_lald dX11_stretchInside_132 qa_323 (t_ixv c1) ?_
          refine mj_lstore (lv2 := [(9, .long (s.2.1 323 (l11.toNatClampNeg))), (0, .ref 316), (3, .long l3), (5, .int l5), (6, .long l6), (8, .int l8), (11, .int l11), (12, .int l12)]) dX11_stretchInside_133 (by decide) rfl ?_
          refine mj_sublv [(0, .ref 316), (3, .long l3), (5, .int l5), (6, .long l6), (8, .int l8), (9, .long (s.2.1 323 (l11.toNatClampNeg))), (11, .int l11), (12, .int l12)] [1, 2, 3, 4, 5, 0, 6, 7] rfl ?_
          exact B_X11_stretchInside_135 _ _ _ _ _ _ _ _ _ (fun y0 y1 y2 y3 hx => Hb46 y0 y1 y2 y3 hx) (fun y0 y1 y2 y3 y4 y5 y6 hx => Hb83 y0 y1 y2 y3 y4 y5 y6 hx) hk
noncomputable def b_X11_stretchInside_83 (s : t_S) (x : Int64 × Int32 × Int64 × Int32 × Int64 × Int32 × Int32) : Option ((Int64 × Int32 × Int64 × Int32 × Int64 × Int32 × Int32) ⊕ ((Int64 × Int32 × Int64 × Int32) ⊕ (Int32))) := k_X11_stretchInside_83 x.1 x.2.1 x.2.2.1 x.2.2.2.1 x.2.2.2.2.1 x.2.2.2.2.2.1 x.2.2.2.2.2.2 s
set_option maxRecDepth 4000 in
set_option maxHeartbeats 1000000 in
theorem LH_X11_stretchInside_83 {D : va_G} {cy : Nat → ClassId} {ad : Nat → Nat} {bs : Nat} {X : State → Heap → Prop} (s : t_S) : ∀ (n : Nat) (y0 : Int64) (y1 : Int32) (y2 : Int64) (y3 : Int32) (y4 : Int64) (y5 : Int32) (y6 : Int32) (Q : (Int64 × Int32 × Int64 × Int32) ⊕ (Int32) → Prop) (Hb46 : ∀ (y0 : Int64) (y1 : Int32) (y2 : Int64) (y3 : Int32), Q (.inl (y0, y1, y2, y3)) → mj_G D cy ad bs X cX11_stretchInside 13 yX11_stretchInside.cls (some .boolean) yX11_stretchInside.name 0 0 0 1065 (t_P (fun v s' => s' = s ∧ ∃ x, v = some (.int x) ∧ Q (.inr (x)))) 46 [(0, .ref 316), (3, .long (y0)), (5, .int (y1)), (6, .long (y2)), (8, .int (y3))] [] (t_m s) 1065 0 0) (hk : t_hk (t_loop (b_X11_stretchInside_83 s) n (y0, y1, y2, y3, y4, y5, y6)) Q), mj_G D cy ad bs X cX11_stretchInside 13 yX11_stretchInside.cls (some .boolean) yX11_stretchInside.name 0 0 0 1065 (t_P (fun v s' => s' = s ∧ ∃ x, v = some (.int x) ∧ Q (.inr (x)))) 83 [(0, .ref 316), (3, .long (y0)), (5, .int (y1)), (6, .long (y2)), (8, .int (y3)), (9, .long (y4)), (11, .int (y5)), (12, .int (y6))] [] (t_m s) 1065 0 0 := by
  intro n
  induction n with
  | zero => intro y0 y1 y2 y3 y4 y5 y6 Q Hb46 hk; obtain ⟨r, hr, _⟩ := hk; cases hr
  | succ n ih =>
    intro y0 y1 y2 y3 y4 y5 y6 Q Hb46 hk
    exact B_X11_stretchInside_83 y0 y1 y2 y3 y4 y5 y6 s (fun y => t_lq (b_X11_stretchInside_83 s) n Q y) (fun y0' y1' y2' y3' hy => Hb46 y0' y1' y2' y3' hy) (fun y0' y1' y2' y3' y4' y5' y6' hy => ih y0' y1' y2' y3' y4' y5' y6' Q Hb46 hy) (t_lp hk)
noncomputable def k_X11_stretchInside_172 (l3 : Int64) (l6 : Int64) (s : t_S) : Option (Int32) :=
 if (lg_cmp l6 l3) ≤ (0 : Int32) then (some (0 : Int32))
 else (some (1 : Int32))
set_option maxRecDepth 4000 in
set_option maxHeartbeats 1000000 in
theorem B_X11_stretchInside_172 {D : va_G} {cy : Nat → ClassId} {ad : Nat → Nat} {bs : Nat} {X : State → Heap → Prop} (l3 : Int64) (l6 : Int64) (s : t_S) (Q : Int32 → Prop) (hk : t_hk (k_X11_stretchInside_172 l3 l6 s) Q) : mj_G D cy ad bs X cX11_stretchInside 13 yX11_stretchInside.cls (some .boolean) yX11_stretchInside.name 0 0 0 1065 (t_P (fun v s' => s' = s ∧ ∃ x, v = some (.int x) ∧ Q (x))) 172 [(3, .long l3), (6, .long l6)] [] (t_m s) 1065 0 0 := by
  refine mj_lload dX11_stretchInside_172 1 rfl ?_
  refine mj_lload_n dX11_stretchInside_174 0 rfl ?_
  refine mj_lcmp dX11_stretchInside_175 ?_
  refine mj_if_le 183 dX11_stretchInside_176 (by decide) (fun z => t_posK hk z (fun hk => ?_)) (fun z => t_negK hk z (fun hk => ?_))
  · refine mj_iconst (v := 0) dX11_stretchInside_183 (by decide) ?_
    exact t_somK hk (fun hf => t_iret dX11_stretchInside_184 rfl (by decide) ⟨rfl, _, rfl, hf⟩ (Nat.le_of_ble_eq_true rfl) (Nat.le_of_ble_eq_true rfl))
  · refine mj_iconst (v := 1) dX11_stretchInside_179 (by decide) ?_
    refine mj_goto 184 dX11_stretchInside_180 (by decide) ?_
    exact t_somK hk (fun hf => t_iret dX11_stretchInside_184 rfl (by decide) ⟨rfl, _, rfl, hf⟩ (Nat.le_of_ble_eq_true rfl) (Nat.le_of_ble_eq_true rfl))
noncomputable def k_X11_stretchInside_46 (l3 : Int64) (l5 : Int32) (l6 : Int64) (l8 : Int32) (s : t_S) : Option ((Int64 × Int32 × Int64 × Int32) ⊕ (Int32)) :=
 if t_ix l5 3001 = true then
  if (s.1 321 (l5.toNatClampNeg)) < l8 then ((k_X11_stretchInside_172 l3 l6 s).map Sum.inr)
 else (if (0 : Int32) < (lg_cmp l6 l3) then ((k_X11_stretchInside_172 l3 l6 s).map Sum.inr)
 else (t_loop (b_X11_stretchInside_83 s) t_N (l3, l5, l6, l8, (l6 - (1 : Int64)), (s.1 318 (l5.toNatClampNeg)), 0)))
else none
set_option maxRecDepth 4000 in
set_option maxHeartbeats 1000000 in
theorem B_X11_stretchInside_46 {D : va_G} {cy : Nat → ClassId} {ad : Nat → Nat} {bs : Nat} {X : State → Heap → Prop} (l3 : Int64) (l5 : Int32) (l6 : Int64) (l8 : Int32) (s : t_S) (Q : (Int64 × Int32 × Int64 × Int32) ⊕ (Int32) → Prop) (Hb46 : ∀ (y0 : Int64) (y1 : Int32) (y2 : Int64) (y3 : Int32), Q (.inl (y0, y1, y2, y3)) → mj_G D cy ad bs X cX11_stretchInside 13 yX11_stretchInside.cls (some .boolean) yX11_stretchInside.name 0 0 0 1065 (t_P (fun v s' => s' = s ∧ ∃ x, v = some (.int x) ∧ Q (.inr (x)))) 46 [(0, .ref 316), (3, .long (y0)), (5, .int (y1)), (6, .long (y2)), (8, .int (y3))] [] (t_m s) 1065 0 0) (hk : t_hk (k_X11_stretchInside_46 l3 l5 l6 l8 s) Q) : mj_G D cy ad bs X cX11_stretchInside 13 yX11_stretchInside.cls (some .boolean) yX11_stretchInside.name 0 0 0 1065 (t_P (fun v s' => s' = s ∧ ∃ x, v = some (.int x) ∧ Q (.inr (x)))) 46 [(0, .ref 316), (3, .long l3), (5, .int l5), (6, .long l6), (8, .int l8)] [] (t_m s) 1065 0 0 := by
  refine mj_iload dX11_stretchInside_46 4 rfl ?_
  refine mj_aload_n dX11_stretchInside_48 0 rfl ?_
  refine t_getR 321 dX11_stretchInside_49 F_X11_22 qr_316_4 ?_
  refine mj_iload dX11_stretchInside_52 2 rfl ?_
  refine t_chkK hk (fun c0 hk => ?_)
  refine t_iald dX11_stretchInside_54 qa_321 (t_ixv c0) ?_
  refine mj_icmp_gt 172 dX11_stretchInside_55 (by decide) (fun z => t_posK hk z (fun hk => ?_)) (fun z => t_negK hk z (fun hk => ?_))
  · refine mj_sublv [(3, .long l3), (6, .long l6)] [1, 3] rfl ?_
    refine t_mapK hk (fun hk => ?_)
    exact B_X11_stretchInside_172 _ _ _ _ hk
  · refine mj_lload dX11_stretchInside_58 3 rfl ?_
    refine mj_lload_n dX11_stretchInside_60 1 rfl ?_
    refine mj_lcmp dX11_stretchInside_61 ?_
    refine mj_if_gt 172 dX11_stretchInside_62 (by decide) (fun z => t_posK hk z (fun hk => ?_)) (fun z => t_negK hk z (fun hk => ?_))
    · refine mj_sublv [(3, .long l3), (6, .long l6)] [1, 3] rfl ?_
      refine t_mapK hk (fun hk => ?_)
      exact B_X11_stretchInside_172 _ _ _ _ hk
    · refine mj_lload dX11_stretchInside_65 3 rfl ?_
      refine mj_lconst (v := 1) dX11_stretchInside_67 (by decide) ?_
      refine mj_lsub dX11_stretchInside_68 ?_
      refine mj_lstore (lv2 := [(9, .long (l6 - (1 : Int64))), (0, .ref 316), (3, .long l3), (5, .int l5), (6, .long l6), (8, .int l8)]) dX11_stretchInside_69 (by decide) rfl ?_
      refine mj_aload_n dX11_stretchInside_71 1 rfl ?_
      refine t_getR 318 dX11_stretchInside_72 F_X11_13 qr_316_1 ?_
      refine mj_iload dX11_stretchInside_75 3 rfl ?_
      refine t_iald dX11_stretchInside_77 qa_318 (t_ixv c0) ?_
      refine mj_istore (lv2 := [(11, .int (s.1 318 (l5.toNatClampNeg))), (9, .long (l6 - (1 : Int64))), (0, .ref 316), (3, .long l3), (5, .int l5), (6, .long l6), (8, .int l8)]) dX11_stretchInside_78 (by decide) rfl ?_
      refine mj_iconst (v := 0) dX11_stretchInside_80 (by decide) ?_
      refine mj_istore (lv2 := [(12, .int 0), (11, .int (s.1 318 (l5.toNatClampNeg))), (9, .long (l6 - (1 : Int64))), (0, .ref 316), (3, .long l3), (5, .int l5), (6, .long l6), (8, .int l8)]) dX11_stretchInside_81 (by decide) rfl ?_
      refine mj_sublv [(0, .ref 316), (3, .long l3), (5, .int l5), (6, .long l6), (8, .int l8), (9, .long (l6 - (1 : Int64))), (11, .int (s.1 318 (l5.toNatClampNeg))), (12, .int 0)] [3, 4, 5, 6, 7, 2, 1, 0] rfl ?_
      exact LH_X11_stretchInside_83 _ _ l3 l5 l6 l8 (l6 - (1 : Int64)) (s.1 318 (l5.toNatClampNeg)) 0 _ (fun y0 y1 y2 y3 hx => Hb46 y0 y1 y2 y3 hx) hk
noncomputable def b_X11_stretchInside_46 (s : t_S) (x : Int64 × Int32 × Int64 × Int32) : Option ((Int64 × Int32 × Int64 × Int32) ⊕ (Int32)) := k_X11_stretchInside_46 x.1 x.2.1 x.2.2.1 x.2.2.2 s
set_option maxRecDepth 4000 in
set_option maxHeartbeats 1000000 in
theorem LH_X11_stretchInside_46 {D : va_G} {cy : Nat → ClassId} {ad : Nat → Nat} {bs : Nat} {X : State → Heap → Prop} (s : t_S) : ∀ (n : Nat) (y0 : Int64) (y1 : Int32) (y2 : Int64) (y3 : Int32) (Q : Int32 → Prop) (hk : t_hk (t_loop (b_X11_stretchInside_46 s) n (y0, y1, y2, y3)) Q), mj_G D cy ad bs X cX11_stretchInside 13 yX11_stretchInside.cls (some .boolean) yX11_stretchInside.name 0 0 0 1065 (t_P (fun v s' => s' = s ∧ ∃ x, v = some (.int x) ∧ Q (x))) 46 [(0, .ref 316), (3, .long (y0)), (5, .int (y1)), (6, .long (y2)), (8, .int (y3))] [] (t_m s) 1065 0 0 := by
  intro n
  induction n with
  | zero => intro y0 y1 y2 y3 Q hk; obtain ⟨r, hr, _⟩ := hk; cases hr
  | succ n ih =>
    intro y0 y1 y2 y3 Q hk
    exact B_X11_stretchInside_46 y0 y1 y2 y3 s (fun y => t_lq (b_X11_stretchInside_46 s) n Q y) (fun y0' y1' y2' y3' hy => ih y0' y1' y2' y3' Q hy) (t_lp hk)
noncomputable def f_X11_stretchInside (x1 : Int64) (x2 : Int64) (x3 : Int32) (s : t_S) : Option (Int32) :=
 if t_ix x3 3001 = true then
  if (s.1 321 (x3.toNatClampNeg)) = (0 : Int32) then (if (lg_cmp x1 (s.2.1 322 (x3.toNatClampNeg))) < (0 : Int32) then (some (0 : Int32))
 else (if (0 : Int32) < (lg_cmp x2 (s.2.1 323 (x3.toNatClampNeg))) then (some (0 : Int32))
 else (some (1 : Int32))))
 else (t_loop (b_X11_stretchInside_46 s) t_N (x2, x3, x1, 0))
else none
set_option maxRecDepth 4000 in
set_option maxHeartbeats 1000000 in
theorem C_X11_stretchInside (x1 : Int64) (x2 : Int64) (x3 : Int32) (s : t_S) (r : Int32) (hr : f_X11_stretchInside x1 x2 x3 s = some r) : t_C yX11_stretchInside cX11_stretchInside 13 (some .boolean) 0 [.ref 316, .long x1, .long x2, .int x3] s (fun v s' => v = some (.int r) ∧ s' = s) := by
  refine t_C.imp (P := fun v s' => s' = s ∧ ∃ x, v = some (.int x) ∧ (fun q => q = r) (x)) (t_C.of (by decide +kernel) (Nat.le_of_ble_eq_true rfl) ?_) (fun v s' hp => by obtain ⟨rfl, x, rfl, rfl⟩ := hp; exact ⟨rfl, rfl⟩)
  intro D cy ad bs X
  have hk : t_hk (f_X11_stretchInside x1 x2 x3 s) (fun q => q = r) := ⟨r, hr, rfl⟩
  show mj_G D cy ad bs X cX11_stretchInside 13 yX11_stretchInside.cls (some .boolean) yX11_stretchInside.name 0 0 0 1065 (t_P (fun v s' => s' = s ∧ ∃ x, v = some (.int x) ∧ (fun q => q = r) (x))) 0 [(0, .ref 316), (1, .long x1), (3, .long x2), (5, .int x3)] [] (t_m s) 1065 0 0
  refine mj_aload_n dX11_stretchInside_0 0 rfl ?_
  refine t_getR 321 dX11_stretchInside_1 F_X11_22 qr_316_4 ?_
  refine mj_iload dX11_stretchInside_4 3 rfl ?_
  refine t_chkK hk (fun c0 hk => ?_)
  refine t_iald dX11_stretchInside_6 qa_321 (t_ixv c0) ?_
  refine mj_if_ne 40 dX11_stretchInside_7 (by decide) (fun z => t_negK hk z (fun hk => ?_)) (fun z => t_posK hk z (fun hk => ?_))
  · refine mj_lload_n dX11_stretchInside_40 1 rfl ?_
    refine mj_lstore (lv2 := [(6, .long x1), (0, .ref 316), (1, .long x1), (3, .long x2), (5, .int x3)]) dX11_stretchInside_41 (by decide) rfl ?_
    refine mj_iconst (v := 0) dX11_stretchInside_43 (by decide) ?_
    refine mj_istore (lv2 := [(8, .int 0), (6, .long x1), (0, .ref 316), (1, .long x1), (3, .long x2), (5, .int x3)]) dX11_stretchInside_44 (by decide) rfl ?_
    refine mj_sublv [(0, .ref 316), (3, .long x2), (5, .int x3), (6, .long x1), (8, .int 0)] [2, 4, 5, 1, 0] rfl ?_
    exact LH_X11_stretchInside_46 _ _ x2 x3 x1 0 _ hk
  · refine mj_lload_n dX11_stretchInside_10 1 rfl ?_
    refine mj_aload_n dX11_stretchInside_11 0 rfl ?_
    refine t_getR 322 dX11_stretchInside_12 F_X11_25 qr_316_5 ?_
    refine mj_iload dX11_stretchInside_15 3 rfl ?_
    refine t_lald dX11_stretchInside_17 qa_322 (t_ixv c0) ?_
    refine mj_lcmp dX11_stretchInside_18 ?_
    refine mj_if_lt 38 dX11_stretchInside_19 (by decide) (fun z => t_posK hk z (fun hk => ?_)) (fun z => t_negK hk z (fun hk => ?_))
    · refine mj_iconst (v := 0) dX11_stretchInside_38 (by decide) ?_
      exact t_somK hk (fun hf => t_iret dX11_stretchInside_39 rfl (by decide) ⟨rfl, _, rfl, hf⟩ (Nat.le_of_ble_eq_true rfl) (Nat.le_of_ble_eq_true rfl))
    · refine mj_lload_n dX11_stretchInside_22 2 rfl ?_
      refine mj_aload_n dX11_stretchInside_23 0 rfl ?_
      refine t_getR 323 dX11_stretchInside_24 F_X11_29 qr_316_6 ?_
      refine mj_iload dX11_stretchInside_27 3 rfl ?_
      refine t_lald dX11_stretchInside_29 qa_323 (t_ixv c0) ?_
      refine mj_lcmp dX11_stretchInside_30 ?_
      refine mj_if_gt 38 dX11_stretchInside_31 (by decide) (fun z => t_posK hk z (fun hk => ?_)) (fun z => t_negK hk z (fun hk => ?_))
      · refine mj_iconst (v := 0) dX11_stretchInside_38 (by decide) ?_
        exact t_somK hk (fun hf => t_iret dX11_stretchInside_39 rfl (by decide) ⟨rfl, _, rfl, hf⟩ (Nat.le_of_ble_eq_true rfl) (Nat.le_of_ble_eq_true rfl))
      · refine mj_iconst (v := 1) dX11_stretchInside_34 (by decide) ?_
        refine mj_goto 39 dX11_stretchInside_35 (by decide) ?_
        exact t_somK hk (fun hf => t_iret dX11_stretchInside_39 rfl (by decide) ⟨rfl, _, rfl, hf⟩ (Nat.le_of_ble_eq_true rfl) (Nat.le_of_ble_eq_true rfl))

theorem dX11_rangesInside_0 : decode cX11_rangesInside 0 = .ok (.aload_n 0, 1) := by decide +kernel
theorem dX11_rangesInside_1 : decode cX11_rangesInside 1 = .ok (.getfield 22, 3) := by decide +kernel
theorem dX11_rangesInside_10 : decode cX11_rangesInside 10 = .ok (.aload_n 0, 1) := by decide +kernel
theorem dX11_rangesInside_11 : decode cX11_rangesInside 11 = .ok (.getfield 25, 3) := by decide +kernel
theorem dX11_rangesInside_14 : decode cX11_rangesInside 14 = .ok (.iload_n 1, 1) := by decide +kernel
theorem dX11_rangesInside_15 : decode cX11_rangesInside 15 = .ok (.laload, 1) := by decide +kernel
theorem dX11_rangesInside_16 : decode cX11_rangesInside 16 = .ok (.aload_n 0, 1) := by decide +kernel
theorem dX11_rangesInside_17 : decode cX11_rangesInside 17 = .ok (.getfield 29, 3) := by decide +kernel
theorem dX11_rangesInside_20 : decode cX11_rangesInside 20 = .ok (.iload_n 1, 1) := by decide +kernel
theorem dX11_rangesInside_21 : decode cX11_rangesInside 21 = .ok (.laload, 1) := by decide +kernel
theorem dX11_rangesInside_22 : decode cX11_rangesInside 22 = .ok (.iload_n 2, 1) := by decide +kernel
theorem dX11_rangesInside_23 : decode cX11_rangesInside 23 = .ok (.invokevirtual 180, 3) := by decide +kernel
theorem dX11_rangesInside_26 : decode cX11_rangesInside 26 = .ok (.ireturn, 1) := by decide +kernel
theorem dX11_rangesInside_27 : decode cX11_rangesInside 27 = .ok (.aload_n 0, 1) := by decide +kernel
theorem dX11_rangesInside_28 : decode cX11_rangesInside 28 = .ok (.getfield 13, 3) := by decide +kernel
theorem dX11_rangesInside_31 : decode cX11_rangesInside 31 = .ok (.iload_n 1, 1) := by decide +kernel
theorem dX11_rangesInside_32 : decode cX11_rangesInside 32 = .ok (.iaload, 1) := by decide +kernel
theorem dX11_rangesInside_33 : decode cX11_rangesInside 33 = .ok (.istore_n 3, 1) := by decide +kernel
theorem dX11_rangesInside_34 : decode cX11_rangesInside 34 = .ok (.iconst 0, 1) := by decide +kernel
theorem dX11_rangesInside_35 : decode cX11_rangesInside 35 = .ok (.istore 4, 2) := by decide +kernel
theorem dX11_rangesInside_37 : decode cX11_rangesInside 37 = .ok (.iload 4, 2) := by decide +kernel
theorem dX11_rangesInside_39 : decode cX11_rangesInside 39 = .ok (.aload_n 0, 1) := by decide +kernel
theorem dX11_rangesInside_4 : decode cX11_rangesInside 4 = .ok (.iload_n 1, 1) := by decide +kernel
theorem dX11_rangesInside_40 : decode cX11_rangesInside 40 = .ok (.getfield 22, 3) := by decide +kernel
theorem dX11_rangesInside_43 : decode cX11_rangesInside 43 = .ok (.iload_n 1, 1) := by decide +kernel
theorem dX11_rangesInside_44 : decode cX11_rangesInside 44 = .ok (.iaload, 1) := by decide +kernel
theorem dX11_rangesInside_45 : decode cX11_rangesInside 45 = .ok (.if_icmp .ge 42, 3) := by decide +kernel
theorem dX11_rangesInside_48 : decode cX11_rangesInside 48 = .ok (.iload_n 3, 1) := by decide +kernel
theorem dX11_rangesInside_49 : decode cX11_rangesInside 49 = .ok (.ifCond .lt 38, 3) := by decide +kernel
theorem dX11_rangesInside_5 : decode cX11_rangesInside 5 = .ok (.iaload, 1) := by decide +kernel
theorem dX11_rangesInside_52 : decode cX11_rangesInside 52 = .ok (.aload_n 0, 1) := by decide +kernel
theorem dX11_rangesInside_53 : decode cX11_rangesInside 53 = .ok (.aload_n 0, 1) := by decide +kernel
theorem dX11_rangesInside_54 : decode cX11_rangesInside 54 = .ok (.getfield 25, 3) := by decide +kernel
theorem dX11_rangesInside_57 : decode cX11_rangesInside 57 = .ok (.iload_n 3, 1) := by decide +kernel
theorem dX11_rangesInside_58 : decode cX11_rangesInside 58 = .ok (.laload, 1) := by decide +kernel
theorem dX11_rangesInside_59 : decode cX11_rangesInside 59 = .ok (.aload_n 0, 1) := by decide +kernel
theorem dX11_rangesInside_6 : decode cX11_rangesInside 6 = .ok (.ifCond .ne 21, 3) := by decide +kernel
theorem dX11_rangesInside_60 : decode cX11_rangesInside 60 = .ok (.getfield 29, 3) := by decide +kernel
theorem dX11_rangesInside_63 : decode cX11_rangesInside 63 = .ok (.iload_n 3, 1) := by decide +kernel
theorem dX11_rangesInside_64 : decode cX11_rangesInside 64 = .ok (.laload, 1) := by decide +kernel
theorem dX11_rangesInside_65 : decode cX11_rangesInside 65 = .ok (.iload_n 2, 1) := by decide +kernel
theorem dX11_rangesInside_66 : decode cX11_rangesInside 66 = .ok (.invokevirtual 180, 3) := by decide +kernel
theorem dX11_rangesInside_69 : decode cX11_rangesInside 69 = .ok (.ifCond .ne 5, 3) := by decide +kernel
theorem dX11_rangesInside_72 : decode cX11_rangesInside 72 = .ok (.iconst 0, 1) := by decide +kernel
theorem dX11_rangesInside_73 : decode cX11_rangesInside 73 = .ok (.ireturn, 1) := by decide +kernel
theorem dX11_rangesInside_74 : decode cX11_rangesInside 74 = .ok (.aload_n 0, 1) := by decide +kernel
theorem dX11_rangesInside_75 : decode cX11_rangesInside 75 = .ok (.getfield 16, 3) := by decide +kernel
theorem dX11_rangesInside_78 : decode cX11_rangesInside 78 = .ok (.iload_n 3, 1) := by decide +kernel
theorem dX11_rangesInside_79 : decode cX11_rangesInside 79 = .ok (.iaload, 1) := by decide +kernel
theorem dX11_rangesInside_80 : decode cX11_rangesInside 80 = .ok (.istore_n 3, 1) := by decide +kernel
theorem dX11_rangesInside_81 : decode cX11_rangesInside 81 = .ok (.iinc 4 1, 3) := by decide +kernel
theorem dX11_rangesInside_84 : decode cX11_rangesInside 84 = .ok (.goto (-47), 3) := by decide +kernel
theorem dX11_rangesInside_87 : decode cX11_rangesInside 87 = .ok (.iconst 1, 1) := by decide +kernel
theorem dX11_rangesInside_88 : decode cX11_rangesInside 88 = .ok (.ireturn, 1) := by decide +kernel
theorem dX11_rangesInside_9 : decode cX11_rangesInside 9 = .ok (.aload_n 0, 1) := by decide +kernel
noncomputable def k_X11_rangesInside_37 (l1 : Int32) (l2 : Int32) (l3 : Int32) (l4 : Int32) (s : t_S) : Option ((Int32 × Int32 × Int32 × Int32) ⊕ (Int32)) :=
 if t_ix l1 3001 = true then
  if (s.1 321 (l1.toNatClampNeg)) ≤ l4 then ((some (1 : Int32)).map Sum.inr)
 else (if l3 < (0 : Int32) then ((some (1 : Int32)).map Sum.inr)
 else (if t_ix l3 3001 = true then
  (f_X11_stretchInside (s.2.1 322 (l3.toNatClampNeg)) (s.2.1 323 (l3.toNatClampNeg)) l2 s).bind (fun r3 =>
 if r3 = (0 : Int32) then ((some (0 : Int32)).map Sum.inr)
 else (some (.inl (l1, l2, (s.1 319 (l3.toNatClampNeg)), (l4 + 1)))))
else none))
else none
set_option maxRecDepth 4000 in
set_option maxHeartbeats 1000000 in
theorem B_X11_rangesInside_37 {D : va_G} {cy : Nat → ClassId} {ad : Nat → Nat} {bs : Nat} {X : State → Heap → Prop} (l1 : Int32) (l2 : Int32) (l3 : Int32) (l4 : Int32) (s : t_S) (Q : (Int32 × Int32 × Int32 × Int32) ⊕ (Int32) → Prop) (Hb37 : ∀ (y0 : Int32) (y1 : Int32) (y2 : Int32) (y3 : Int32), Q (.inl (y0, y1, y2, y3)) → mj_G D cy ad bs X cX11_rangesInside 5 yX11_rangesInside.cls (some .boolean) yX11_rangesInside.name 1 0 0 1065 (t_P (fun v s' => s' = s ∧ ∃ x, v = some (.int x) ∧ Q (.inr (x)))) 37 [(0, .ref 316), (1, .int (y0)), (2, .int (y1)), (3, .int (y2)), (4, .int (y3))] [] (t_m s) 1065 0 0) (hk : t_hk (k_X11_rangesInside_37 l1 l2 l3 l4 s) Q) : mj_G D cy ad bs X cX11_rangesInside 5 yX11_rangesInside.cls (some .boolean) yX11_rangesInside.name 1 0 0 1065 (t_P (fun v s' => s' = s ∧ ∃ x, v = some (.int x) ∧ Q (.inr (x)))) 37 [(0, .ref 316), (1, .int l1), (2, .int l2), (3, .int l3), (4, .int l4)] [] (t_m s) 1065 0 0 := by
  refine mj_iload dX11_rangesInside_37 4 rfl ?_
  refine mj_aload_n dX11_rangesInside_39 0 rfl ?_
  refine t_getR 321 dX11_rangesInside_40 F_X11_22 qr_316_4 ?_
  refine mj_iload_n dX11_rangesInside_43 1 rfl ?_
  refine t_chkK hk (fun c0 hk => ?_)
  refine t_iald dX11_rangesInside_44 qa_321 (t_ixv c0) ?_
  refine mj_icmp_ge 87 dX11_rangesInside_45 (by decide) (fun z => t_posK hk z (fun hk => ?_)) (fun z => t_negK hk z (fun hk => ?_))
  · refine t_mapK hk (fun hk => ?_)
    refine mj_iconst (v := 1) dX11_rangesInside_87 (by decide) ?_
    exact t_somK hk (fun hf => t_iret dX11_rangesInside_88 rfl (by decide) ⟨rfl, _, rfl, hf⟩ (Nat.le_of_ble_eq_true rfl) (Nat.le_of_ble_eq_true rfl))
  · refine mj_iload_n dX11_rangesInside_48 3 rfl ?_
    refine mj_if_lt 87 dX11_rangesInside_49 (by decide) (fun z => t_posK hk z (fun hk => ?_)) (fun z => t_negK hk z (fun hk => ?_))
    · refine t_mapK hk (fun hk => ?_)
      refine mj_iconst (v := 1) dX11_rangesInside_87 (by decide) ?_
      exact t_somK hk (fun hf => t_iret dX11_rangesInside_88 rfl (by decide) ⟨rfl, _, rfl, hf⟩ (Nat.le_of_ble_eq_true rfl) (Nat.le_of_ble_eq_true rfl))
    · refine mj_aload_n dX11_rangesInside_52 0 rfl ?_
      refine mj_aload_n dX11_rangesInside_53 0 rfl ?_
      refine t_getR 322 dX11_rangesInside_54 F_X11_25 qr_316_5 ?_
      refine mj_iload_n dX11_rangesInside_57 3 rfl ?_
      refine t_chkK hk (fun c1 hk => ?_)
      refine t_lald dX11_rangesInside_58 qa_322 (t_ixv c1) ?_
      refine mj_aload_n dX11_rangesInside_59 0 rfl ?_
      refine t_getR 323 dX11_rangesInside_60 F_X11_29 qr_316_6 ?_
      refine mj_iload_n dX11_rangesInside_63 3 rfl ?_
      refine t_lald dX11_rangesInside_64 qa_323 (t_ixv c1) ?_
      refine mj_iload_n dX11_rangesInside_65 2 rfl ?_
      refine t_bndK hk (fun r3 er3 hk => ?_)
      refine t_callViP dX11_rangesInside_66 M_X11_stretchInside (C_X11_stretchInside _ _ _ _ _ er3) ML_X11_180 IM_X11_stretchInside SE_X11_stretchInside qc_316 rfl (As := [.long (s.2.1 322 (l3.toNatClampNeg)), .long (s.2.1 323 (l3.toNatClampNeg)), .int l2]) rfl rfl (Nat.le_of_ble_eq_true rfl) (Nat.le_of_ble_eq_true rfl) (Nat.le_of_ble_eq_true rfl) (Nat.le_of_ble_eq_true rfl) ?_
      refine mj_if_ne 74 dX11_rangesInside_69 (by decide) (fun z => t_negK hk z (fun hk => ?_)) (fun z => t_posK hk z (fun hk => ?_))
      · refine mj_aload_n dX11_rangesInside_74 0 rfl ?_
        refine t_getR 319 dX11_rangesInside_75 F_X11_16 qr_316_2 ?_
        refine mj_iload_n dX11_rangesInside_78 3 rfl ?_
        refine t_iald dX11_rangesInside_79 qa_319 (t_ixv c1) ?_
        refine mj_istore_n 3 (lv2 := [(3, .int (s.1 319 (l3.toNatClampNeg))), (0, .ref 316), (1, .int l1), (2, .int l2), (4, .int l4)]) dX11_rangesInside_80 rfl (by decide) rfl ?_
        refine mj_iinc (k := 4) (v := (l4 + 1)) (lv2 := [(4, .int (l4 + 1)), (3, .int (s.1 319 (l3.toNatClampNeg))), (0, .ref 316), (1, .int l1), (2, .int l2)]) dX11_rangesInside_81 rfl rfl (by decide) rfl ?_
        refine mj_goto 37 dX11_rangesInside_84 (by decide) ?_
        refine mj_sublv [(0, .ref 316), (1, .int l1), (2, .int l2), (3, .int (s.1 319 (l3.toNatClampNeg))), (4, .int (l4 + 1))] [2, 3, 4, 1, 0] rfl ?_
        exact t_somK hk (fun hf => Hb37 l1 l2 (s.1 319 (l3.toNatClampNeg)) (l4 + 1) hf)
      · refine t_mapK hk (fun hk => ?_)
        refine mj_iconst (v := 0) dX11_rangesInside_72 (by decide) ?_
        exact t_somK hk (fun hf => t_iret dX11_rangesInside_73 rfl (by decide) ⟨rfl, _, rfl, hf⟩ (Nat.le_of_ble_eq_true rfl) (Nat.le_of_ble_eq_true rfl))
noncomputable def b_X11_rangesInside_37 (s : t_S) (x : Int32 × Int32 × Int32 × Int32) : Option ((Int32 × Int32 × Int32 × Int32) ⊕ (Int32)) := k_X11_rangesInside_37 x.1 x.2.1 x.2.2.1 x.2.2.2 s
set_option maxRecDepth 4000 in
set_option maxHeartbeats 1000000 in
theorem LH_X11_rangesInside_37 {D : va_G} {cy : Nat → ClassId} {ad : Nat → Nat} {bs : Nat} {X : State → Heap → Prop} (s : t_S) : ∀ (n : Nat) (y0 : Int32) (y1 : Int32) (y2 : Int32) (y3 : Int32) (Q : Int32 → Prop) (hk : t_hk (t_loop (b_X11_rangesInside_37 s) n (y0, y1, y2, y3)) Q), mj_G D cy ad bs X cX11_rangesInside 5 yX11_rangesInside.cls (some .boolean) yX11_rangesInside.name 1 0 0 1065 (t_P (fun v s' => s' = s ∧ ∃ x, v = some (.int x) ∧ Q (x))) 37 [(0, .ref 316), (1, .int (y0)), (2, .int (y1)), (3, .int (y2)), (4, .int (y3))] [] (t_m s) 1065 0 0 := by
  intro n
  induction n with
  | zero => intro y0 y1 y2 y3 Q hk; obtain ⟨r, hr, _⟩ := hk; cases hr
  | succ n ih =>
    intro y0 y1 y2 y3 Q hk
    exact B_X11_rangesInside_37 y0 y1 y2 y3 s (fun y => t_lq (b_X11_rangesInside_37 s) n Q y) (fun y0' y1' y2' y3' hy => ih y0' y1' y2' y3' Q hy) (t_lp hk)
noncomputable def f_X11_rangesInside (x1 : Int32) (x2 : Int32) (s : t_S) : Option (Int32) :=
 if t_ix x1 3001 = true then
  if (s.1 321 (x1.toNatClampNeg)) = (0 : Int32) then ((f_X11_stretchInside (s.2.1 322 (x1.toNatClampNeg)) (s.2.1 323 (x1.toNatClampNeg)) x2 s).bind (fun r2 =>
 if r2 = 0 ∨ r2 = 1 then
  some (r2)
else none))
 else (t_loop (b_X11_rangesInside_37 s) t_N (x1, x2, (s.1 318 (x1.toNatClampNeg)), 0))
else none
set_option maxRecDepth 4000 in
set_option maxHeartbeats 1000000 in
theorem C_X11_rangesInside (x1 : Int32) (x2 : Int32) (s : t_S) (r : Int32) (hr : f_X11_rangesInside x1 x2 s = some r) : t_C yX11_rangesInside cX11_rangesInside 5 (some .boolean) 1 [.ref 316, .int x1, .int x2] s (fun v s' => v = some (.int r) ∧ s' = s) := by
  refine t_C.imp (P := fun v s' => s' = s ∧ ∃ x, v = some (.int x) ∧ (fun q => q = r) (x)) (t_C.of (by decide +kernel) (Nat.le_of_ble_eq_true rfl) ?_) (fun v s' hp => by obtain ⟨rfl, x, rfl, rfl⟩ := hp; exact ⟨rfl, rfl⟩)
  intro D cy ad bs X
  have hk : t_hk (f_X11_rangesInside x1 x2 s) (fun q => q = r) := ⟨r, hr, rfl⟩
  show mj_G D cy ad bs X cX11_rangesInside 5 yX11_rangesInside.cls (some .boolean) yX11_rangesInside.name 1 0 0 1065 (t_P (fun v s' => s' = s ∧ ∃ x, v = some (.int x) ∧ (fun q => q = r) (x))) 0 [(0, .ref 316), (1, .int x1), (2, .int x2)] [] (t_m s) 1065 0 0
  refine mj_aload_n dX11_rangesInside_0 0 rfl ?_
  refine t_getR 321 dX11_rangesInside_1 F_X11_22 qr_316_4 ?_
  refine mj_iload_n dX11_rangesInside_4 1 rfl ?_
  refine t_chkK hk (fun c0 hk => ?_)
  refine t_iald dX11_rangesInside_5 qa_321 (t_ixv c0) ?_
  refine mj_if_ne 27 dX11_rangesInside_6 (by decide) (fun z => t_negK hk z (fun hk => ?_)) (fun z => t_posK hk z (fun hk => ?_))
  · refine mj_aload_n dX11_rangesInside_27 0 rfl ?_
    refine t_getR 318 dX11_rangesInside_28 F_X11_13 qr_316_1 ?_
    refine mj_iload_n dX11_rangesInside_31 1 rfl ?_
    refine t_iald dX11_rangesInside_32 qa_318 (t_ixv c0) ?_
    refine mj_istore_n 3 (lv2 := [(3, .int (s.1 318 (x1.toNatClampNeg))), (0, .ref 316), (1, .int x1), (2, .int x2)]) dX11_rangesInside_33 rfl (by decide) rfl ?_
    refine mj_iconst (v := 0) dX11_rangesInside_34 (by decide) ?_
    refine mj_istore (lv2 := [(4, .int 0), (3, .int (s.1 318 (x1.toNatClampNeg))), (0, .ref 316), (1, .int x1), (2, .int x2)]) dX11_rangesInside_35 (by decide) rfl ?_
    refine mj_sublv [(0, .ref 316), (1, .int x1), (2, .int x2), (3, .int (s.1 318 (x1.toNatClampNeg))), (4, .int 0)] [2, 3, 4, 1, 0] rfl ?_
    exact LH_X11_rangesInside_37 _ _ x1 x2 (s.1 318 (x1.toNatClampNeg)) 0 _ hk
  · refine mj_aload_n dX11_rangesInside_9 0 rfl ?_
    refine mj_aload_n dX11_rangesInside_10 0 rfl ?_
    refine t_getR 322 dX11_rangesInside_11 F_X11_25 qr_316_5 ?_
    refine mj_iload_n dX11_rangesInside_14 1 rfl ?_
    refine t_lald dX11_rangesInside_15 qa_322 (t_ixv c0) ?_
    refine mj_aload_n dX11_rangesInside_16 0 rfl ?_
    refine t_getR 323 dX11_rangesInside_17 F_X11_29 qr_316_6 ?_
    refine mj_iload_n dX11_rangesInside_20 1 rfl ?_
    refine t_lald dX11_rangesInside_21 qa_323 (t_ixv c0) ?_
    refine mj_iload_n dX11_rangesInside_22 2 rfl ?_
    refine t_bndK hk (fun r2 er2 hk => ?_)
    refine t_callViP dX11_rangesInside_23 M_X11_stretchInside (C_X11_stretchInside _ _ _ _ _ er2) ML_X11_180 IM_X11_stretchInside SE_X11_stretchInside qc_316 rfl (As := [.long (s.2.1 322 (x1.toNatClampNeg)), .long (s.2.1 323 (x1.toNatClampNeg)), .int x2]) rfl rfl (Nat.le_of_ble_eq_true rfl) (Nat.le_of_ble_eq_true rfl) (Nat.le_of_ble_eq_true rfl) (Nat.le_of_ble_eq_true rfl) ?_
    refine t_chkK hk (fun c2 hk => ?_)
    exact t_somK hk (fun hf => t_iret dX11_rangesInside_26 rfl (t_zfit c2) ⟨rfl, _, rfl, hf⟩ (Nat.le_of_ble_eq_true rfl) (Nat.le_of_ble_eq_true rfl))

theorem dX11_partsInside_0 : decode cX11_partsInside 0 = .ok (.aload_n 0, 1) := by decide +kernel
theorem dX11_partsInside_1 : decode cX11_partsInside 1 = .ok (.getfield 9, 3) := by decide +kernel
theorem dX11_partsInside_10 : decode cX11_partsInside 10 = .ok (.iload_n 2, 1) := by decide +kernel
theorem dX11_partsInside_101 : decode cX11_partsInside 101 = .ok (.iload_n 1, 1) := by decide +kernel
theorem dX11_partsInside_102 : decode cX11_partsInside 102 = .ok (.laload, 1) := by decide +kernel
theorem dX11_partsInside_103 : decode cX11_partsInside 103 = .ok (.aload_n 0, 1) := by decide +kernel
theorem dX11_partsInside_104 : decode cX11_partsInside 104 = .ok (.getfield 29, 3) := by decide +kernel
theorem dX11_partsInside_107 : decode cX11_partsInside 107 = .ok (.iload_n 2, 1) := by decide +kernel
theorem dX11_partsInside_108 : decode cX11_partsInside 108 = .ok (.laload, 1) := by decide +kernel
theorem dX11_partsInside_109 : decode cX11_partsInside 109 = .ok (.lcmp, 1) := by decide +kernel
theorem dX11_partsInside_11 : decode cX11_partsInside 11 = .ok (.iaload, 1) := by decide +kernel
theorem dX11_partsInside_110 : decode cX11_partsInside 110 = .ok (.ifCond .gt 7, 3) := by decide +kernel
theorem dX11_partsInside_113 : decode cX11_partsInside 113 = .ok (.iload_n 3, 1) := by decide +kernel
theorem dX11_partsInside_114 : decode cX11_partsInside 114 = .ok (.goto 4, 3) := by decide +kernel
theorem dX11_partsInside_117 : decode cX11_partsInside 117 = .ok (.iconst (-1), 1) := by decide +kernel
theorem dX11_partsInside_118 : decode cX11_partsInside 118 = .ok (.ireturn, 1) := by decide +kernel
theorem dX11_partsInside_119 : decode cX11_partsInside 119 = .ok (.iconst 0, 1) := by decide +kernel
theorem dX11_partsInside_12 : decode cX11_partsInside 12 = .ok (.if_icmp .eq 5, 3) := by decide +kernel
theorem dX11_partsInside_120 : decode cX11_partsInside 120 = .ok (.istore 4, 2) := by decide +kernel
theorem dX11_partsInside_122 : decode cX11_partsInside 122 = .ok (.iload 4, 2) := by decide +kernel
theorem dX11_partsInside_124 : decode cX11_partsInside 124 = .ok (.aload_n 0, 1) := by decide +kernel
theorem dX11_partsInside_125 : decode cX11_partsInside 125 = .ok (.getfield 22, 3) := by decide +kernel
theorem dX11_partsInside_128 : decode cX11_partsInside 128 = .ok (.iload_n 1, 1) := by decide +kernel
theorem dX11_partsInside_129 : decode cX11_partsInside 129 = .ok (.iaload, 1) := by decide +kernel
theorem dX11_partsInside_130 : decode cX11_partsInside 130 = .ok (.if_icmp .ge 33, 3) := by decide +kernel
theorem dX11_partsInside_133 : decode cX11_partsInside 133 = .ok (.aload_n 0, 1) := by decide +kernel
theorem dX11_partsInside_134 : decode cX11_partsInside 134 = .ok (.iload_n 2, 1) := by decide +kernel
theorem dX11_partsInside_135 : decode cX11_partsInside 135 = .ok (.aload_n 0, 1) := by decide +kernel
theorem dX11_partsInside_136 : decode cX11_partsInside 136 = .ok (.getfield 35, 3) := by decide +kernel
theorem dX11_partsInside_139 : decode cX11_partsInside 139 = .ok (.aload_n 0, 1) := by decide +kernel
theorem dX11_partsInside_140 : decode cX11_partsInside 140 = .ok (.getfield 13, 3) := by decide +kernel
theorem dX11_partsInside_143 : decode cX11_partsInside 143 = .ok (.iload_n 1, 1) := by decide +kernel
theorem dX11_partsInside_144 : decode cX11_partsInside 144 = .ok (.iaload, 1) := by decide +kernel
theorem dX11_partsInside_145 : decode cX11_partsInside 145 = .ok (.iload 4, 2) := by decide +kernel
theorem dX11_partsInside_147 : decode cX11_partsInside 147 = .ok (.iadd, 1) := by decide +kernel
theorem dX11_partsInside_148 : decode cX11_partsInside 148 = .ok (.iaload, 1) := by decide +kernel
theorem dX11_partsInside_149 : decode cX11_partsInside 149 = .ok (.invokevirtual 130, 3) := by decide +kernel
theorem dX11_partsInside_15 : decode cX11_partsInside 15 = .ok (.iconst (-1), 1) := by decide +kernel
theorem dX11_partsInside_152 : decode cX11_partsInside 152 = .ok (.ifCond .ge 5, 3) := by decide +kernel
theorem dX11_partsInside_155 : decode cX11_partsInside 155 = .ok (.iconst (-1), 1) := by decide +kernel
theorem dX11_partsInside_156 : decode cX11_partsInside 156 = .ok (.ireturn, 1) := by decide +kernel
theorem dX11_partsInside_157 : decode cX11_partsInside 157 = .ok (.iinc 4 1, 3) := by decide +kernel
theorem dX11_partsInside_16 : decode cX11_partsInside 16 = .ok (.ireturn, 1) := by decide +kernel
theorem dX11_partsInside_160 : decode cX11_partsInside 160 = .ok (.goto (-38), 3) := by decide +kernel
theorem dX11_partsInside_163 : decode cX11_partsInside 163 = .ok (.iload_n 3, 1) := by decide +kernel
theorem dX11_partsInside_164 : decode cX11_partsInside 164 = .ok (.ireturn, 1) := by decide +kernel
theorem dX11_partsInside_165 : decode cX11_partsInside 165 = .ok (.aload_n 0, 1) := by decide +kernel
theorem dX11_partsInside_166 : decode cX11_partsInside 166 = .ok (.getfield 29, 3) := by decide +kernel
theorem dX11_partsInside_169 : decode cX11_partsInside 169 = .ok (.iload_n 1, 1) := by decide +kernel
theorem dX11_partsInside_17 : decode cX11_partsInside 17 = .ok (.aload_n 0, 1) := by decide +kernel
theorem dX11_partsInside_170 : decode cX11_partsInside 170 = .ok (.laload, 1) := by decide +kernel
theorem dX11_partsInside_171 : decode cX11_partsInside 171 = .ok (.lconst 0, 1) := by decide +kernel
theorem dX11_partsInside_172 : decode cX11_partsInside 172 = .ok (.lcmp, 1) := by decide +kernel
theorem dX11_partsInside_173 : decode cX11_partsInside 173 = .ok (.ifCond .eq 19, 3) := by decide +kernel
theorem dX11_partsInside_176 : decode cX11_partsInside 176 = .ok (.aload_n 0, 1) := by decide +kernel
theorem dX11_partsInside_177 : decode cX11_partsInside 177 = .ok (.getfield 32, 3) := by decide +kernel
theorem dX11_partsInside_18 : decode cX11_partsInside 18 = .ok (.getfield 9, 3) := by decide +kernel
theorem dX11_partsInside_180 : decode cX11_partsInside 180 = .ok (.aload_n 0, 1) := by decide +kernel
theorem dX11_partsInside_181 : decode cX11_partsInside 181 = .ok (.getfield 13, 3) := by decide +kernel
theorem dX11_partsInside_184 : decode cX11_partsInside 184 = .ok (.iload_n 1, 1) := by decide +kernel
theorem dX11_partsInside_185 : decode cX11_partsInside 185 = .ok (.iaload, 1) := by decide +kernel
theorem dX11_partsInside_186 : decode cX11_partsInside 186 = .ok (.iaload, 1) := by decide +kernel
theorem dX11_partsInside_187 : decode cX11_partsInside 187 = .ok (.ldc 82, 2) := by decide +kernel
theorem dX11_partsInside_189 : decode cX11_partsInside 189 = .ok (.if_icmp .lt 20, 3) := by decide +kernel
theorem dX11_partsInside_192 : decode cX11_partsInside 192 = .ok (.aload_n 0, 1) := by decide +kernel
theorem dX11_partsInside_193 : decode cX11_partsInside 193 = .ok (.getfield 25, 3) := by decide +kernel
theorem dX11_partsInside_196 : decode cX11_partsInside 196 = .ok (.iload_n 2, 1) := by decide +kernel
theorem dX11_partsInside_197 : decode cX11_partsInside 197 = .ok (.laload, 1) := by decide +kernel
theorem dX11_partsInside_198 : decode cX11_partsInside 198 = .ok (.lconst 0, 1) := by decide +kernel
theorem dX11_partsInside_199 : decode cX11_partsInside 199 = .ok (.lcmp, 1) := by decide +kernel
theorem dX11_partsInside_200 : decode cX11_partsInside 200 = .ok (.ifCond .ne 7, 3) := by decide +kernel
theorem dX11_partsInside_203 : decode cX11_partsInside 203 = .ok (.iload_n 3, 1) := by decide +kernel
theorem dX11_partsInside_204 : decode cX11_partsInside 204 = .ok (.goto 4, 3) := by decide +kernel
theorem dX11_partsInside_207 : decode cX11_partsInside 207 = .ok (.iconst (-1), 1) := by decide +kernel
theorem dX11_partsInside_208 : decode cX11_partsInside 208 = .ok (.ireturn, 1) := by decide +kernel
theorem dX11_partsInside_209 : decode cX11_partsInside 209 = .ok (.aload_n 0, 1) := by decide +kernel
theorem dX11_partsInside_21 : decode cX11_partsInside 21 = .ok (.iload_n 1, 1) := by decide +kernel
theorem dX11_partsInside_210 : decode cX11_partsInside 210 = .ok (.getfield 25, 3) := by decide +kernel
theorem dX11_partsInside_213 : decode cX11_partsInside 213 = .ok (.iload_n 1, 1) := by decide +kernel
theorem dX11_partsInside_214 : decode cX11_partsInside 214 = .ok (.laload, 1) := by decide +kernel
theorem dX11_partsInside_215 : decode cX11_partsInside 215 = .ok (.aload_n 0, 1) := by decide +kernel
theorem dX11_partsInside_216 : decode cX11_partsInside 216 = .ok (.getfield 25, 3) := by decide +kernel
theorem dX11_partsInside_219 : decode cX11_partsInside 219 = .ok (.iload_n 2, 1) := by decide +kernel
theorem dX11_partsInside_22 : decode cX11_partsInside 22 = .ok (.iaload, 1) := by decide +kernel
theorem dX11_partsInside_220 : decode cX11_partsInside 220 = .ok (.laload, 1) := by decide +kernel
theorem dX11_partsInside_221 : decode cX11_partsInside 221 = .ok (.lcmp, 1) := by decide +kernel
theorem dX11_partsInside_222 : decode cX11_partsInside 222 = .ok (.ifCond .lt 19, 3) := by decide +kernel
theorem dX11_partsInside_225 : decode cX11_partsInside 225 = .ok (.aload_n 0, 1) := by decide +kernel
theorem dX11_partsInside_226 : decode cX11_partsInside 226 = .ok (.getfield 29, 3) := by decide +kernel
theorem dX11_partsInside_229 : decode cX11_partsInside 229 = .ok (.iload_n 1, 1) := by decide +kernel
theorem dX11_partsInside_23 : decode cX11_partsInside 23 = .ok (.tableswitch 267 1 7 #[41, 56, 58, 96, 238, 259, 142], 41) := by decide +kernel
theorem dX11_partsInside_230 : decode cX11_partsInside 230 = .ok (.laload, 1) := by decide +kernel
theorem dX11_partsInside_231 : decode cX11_partsInside 231 = .ok (.aload_n 0, 1) := by decide +kernel
theorem dX11_partsInside_232 : decode cX11_partsInside 232 = .ok (.getfield 29, 3) := by decide +kernel
theorem dX11_partsInside_235 : decode cX11_partsInside 235 = .ok (.iload_n 2, 1) := by decide +kernel
theorem dX11_partsInside_236 : decode cX11_partsInside 236 = .ok (.laload, 1) := by decide +kernel
theorem dX11_partsInside_237 : decode cX11_partsInside 237 = .ok (.lcmp, 1) := by decide +kernel
theorem dX11_partsInside_238 : decode cX11_partsInside 238 = .ok (.ifCond .le 5, 3) := by decide +kernel
theorem dX11_partsInside_241 : decode cX11_partsInside 241 = .ok (.iconst (-1), 1) := by decide +kernel
theorem dX11_partsInside_242 : decode cX11_partsInside 242 = .ok (.ireturn, 1) := by decide +kernel
theorem dX11_partsInside_243 : decode cX11_partsInside 243 = .ok (.aload_n 0, 1) := by decide +kernel
theorem dX11_partsInside_244 : decode cX11_partsInside 244 = .ok (.aload_n 0, 1) := by decide +kernel
theorem dX11_partsInside_245 : decode cX11_partsInside 245 = .ok (.getfield 13, 3) := by decide +kernel
theorem dX11_partsInside_248 : decode cX11_partsInside 248 = .ok (.iload_n 1, 1) := by decide +kernel
theorem dX11_partsInside_249 : decode cX11_partsInside 249 = .ok (.iaload, 1) := by decide +kernel
theorem dX11_partsInside_250 : decode cX11_partsInside 250 = .ok (.aload_n 0, 1) := by decide +kernel
theorem dX11_partsInside_251 : decode cX11_partsInside 251 = .ok (.getfield 13, 3) := by decide +kernel
theorem dX11_partsInside_254 : decode cX11_partsInside 254 = .ok (.iload_n 2, 1) := by decide +kernel
theorem dX11_partsInside_255 : decode cX11_partsInside 255 = .ok (.iaload, 1) := by decide +kernel
theorem dX11_partsInside_256 : decode cX11_partsInside 256 = .ok (.iload_n 3, 1) := by decide +kernel
theorem dX11_partsInside_257 : decode cX11_partsInside 257 = .ok (.invokevirtual 171, 3) := by decide +kernel
theorem dX11_partsInside_260 : decode cX11_partsInside 260 = .ok (.ireturn, 1) := by decide +kernel
theorem dX11_partsInside_261 : decode cX11_partsInside 261 = .ok (.aload_n 0, 1) := by decide +kernel
theorem dX11_partsInside_262 : decode cX11_partsInside 262 = .ok (.iload_n 1, 1) := by decide +kernel
theorem dX11_partsInside_263 : decode cX11_partsInside 263 = .ok (.iload_n 2, 1) := by decide +kernel
theorem dX11_partsInside_264 : decode cX11_partsInside 264 = .ok (.invokevirtual 174, 3) := by decide +kernel
theorem dX11_partsInside_267 : decode cX11_partsInside 267 = .ok (.ifCond .eq 13, 3) := by decide +kernel
theorem dX11_partsInside_270 : decode cX11_partsInside 270 = .ok (.aload_n 0, 1) := by decide +kernel
theorem dX11_partsInside_271 : decode cX11_partsInside 271 = .ok (.iload_n 1, 1) := by decide +kernel
theorem dX11_partsInside_272 : decode cX11_partsInside 272 = .ok (.iload_n 2, 1) := by decide +kernel
theorem dX11_partsInside_273 : decode cX11_partsInside 273 = .ok (.iload_n 3, 1) := by decide +kernel
theorem dX11_partsInside_274 : decode cX11_partsInside 274 = .ok (.invokevirtual 177, 3) := by decide +kernel
theorem dX11_partsInside_277 : decode cX11_partsInside 277 = .ok (.goto 4, 3) := by decide +kernel
theorem dX11_partsInside_280 : decode cX11_partsInside 280 = .ok (.iconst (-1), 1) := by decide +kernel
theorem dX11_partsInside_281 : decode cX11_partsInside 281 = .ok (.ireturn, 1) := by decide +kernel
theorem dX11_partsInside_282 : decode cX11_partsInside 282 = .ok (.aload_n 0, 1) := by decide +kernel
theorem dX11_partsInside_283 : decode cX11_partsInside 283 = .ok (.iload_n 1, 1) := by decide +kernel
theorem dX11_partsInside_284 : decode cX11_partsInside 284 = .ok (.iload_n 2, 1) := by decide +kernel
theorem dX11_partsInside_285 : decode cX11_partsInside 285 = .ok (.iload_n 3, 1) := by decide +kernel
theorem dX11_partsInside_286 : decode cX11_partsInside 286 = .ok (.invokevirtual 177, 3) := by decide +kernel
theorem dX11_partsInside_289 : decode cX11_partsInside 289 = .ok (.ireturn, 1) := by decide +kernel
theorem dX11_partsInside_290 : decode cX11_partsInside 290 = .ok (.iconst (-1), 1) := by decide +kernel
theorem dX11_partsInside_291 : decode cX11_partsInside 291 = .ok (.ireturn, 1) := by decide +kernel
theorem dX11_partsInside_4 : decode cX11_partsInside 4 = .ok (.iload_n 1, 1) := by decide +kernel
theorem dX11_partsInside_5 : decode cX11_partsInside 5 = .ok (.iaload, 1) := by decide +kernel
theorem dX11_partsInside_6 : decode cX11_partsInside 6 = .ok (.aload_n 0, 1) := by decide +kernel
theorem dX11_partsInside_64 : decode cX11_partsInside 64 = .ok (.aload_n 0, 1) := by decide +kernel
theorem dX11_partsInside_65 : decode cX11_partsInside 65 = .ok (.iload_n 1, 1) := by decide +kernel
theorem dX11_partsInside_66 : decode cX11_partsInside 66 = .ok (.iload_n 2, 1) := by decide +kernel
theorem dX11_partsInside_67 : decode cX11_partsInside 67 = .ok (.invokevirtual 168, 3) := by decide +kernel
theorem dX11_partsInside_7 : decode cX11_partsInside 7 = .ok (.getfield 9, 3) := by decide +kernel
theorem dX11_partsInside_70 : decode cX11_partsInside 70 = .ok (.ifCond .eq 7, 3) := by decide +kernel
theorem dX11_partsInside_73 : decode cX11_partsInside 73 = .ok (.iload_n 3, 1) := by decide +kernel
theorem dX11_partsInside_74 : decode cX11_partsInside 74 = .ok (.goto 4, 3) := by decide +kernel
theorem dX11_partsInside_77 : decode cX11_partsInside 77 = .ok (.iconst (-1), 1) := by decide +kernel
theorem dX11_partsInside_78 : decode cX11_partsInside 78 = .ok (.ireturn, 1) := by decide +kernel
theorem dX11_partsInside_79 : decode cX11_partsInside 79 = .ok (.iload_n 3, 1) := by decide +kernel
theorem dX11_partsInside_80 : decode cX11_partsInside 80 = .ok (.ireturn, 1) := by decide +kernel
theorem dX11_partsInside_81 : decode cX11_partsInside 81 = .ok (.aload_n 0, 1) := by decide +kernel
theorem dX11_partsInside_82 : decode cX11_partsInside 82 = .ok (.getfield 25, 3) := by decide +kernel
theorem dX11_partsInside_85 : decode cX11_partsInside 85 = .ok (.iload_n 2, 1) := by decide +kernel
theorem dX11_partsInside_86 : decode cX11_partsInside 86 = .ok (.laload, 1) := by decide +kernel
theorem dX11_partsInside_87 : decode cX11_partsInside 87 = .ok (.aload_n 0, 1) := by decide +kernel
theorem dX11_partsInside_88 : decode cX11_partsInside 88 = .ok (.getfield 25, 3) := by decide +kernel
theorem dX11_partsInside_91 : decode cX11_partsInside 91 = .ok (.iload_n 1, 1) := by decide +kernel
theorem dX11_partsInside_92 : decode cX11_partsInside 92 = .ok (.laload, 1) := by decide +kernel
theorem dX11_partsInside_93 : decode cX11_partsInside 93 = .ok (.lcmp, 1) := by decide +kernel
theorem dX11_partsInside_94 : decode cX11_partsInside 94 = .ok (.ifCond .gt 23, 3) := by decide +kernel
theorem dX11_partsInside_97 : decode cX11_partsInside 97 = .ok (.aload_n 0, 1) := by decide +kernel
theorem dX11_partsInside_98 : decode cX11_partsInside 98 = .ok (.getfield 29, 3) := by decide +kernel
noncomputable def k_X11_partsInside_192 (l2 : Int32) (l3 : Int32) (s : t_S) : Option (Int32 × t_S) :=
 if t_ix l2 3001 = true then
  if (lg_cmp (s.2.1 322 (l2.toNatClampNeg)) (0 : Int64)) = (0 : Int32) then (some (l3, s))
 else (some ((-1 : Int32), s))
else none
set_option maxRecDepth 4000 in
set_option maxHeartbeats 1000000 in
theorem B_X11_partsInside_192 {D : va_G} {cy : Nat → ClassId} {ad : Nat → Nat} {bs : Nat} {X : State → Heap → Prop} (l2 : Int32) (l3 : Int32) (s : t_S) (Q : Int32 × t_S → Prop) (hk : t_hk (k_X11_partsInside_192 l2 l3 s) Q) : mj_G D cy ad bs X cX11_partsInside 5 yX11_partsInside.cls (some .int) yX11_partsInside.name 2 0 0 1065 (t_P (fun v s' => ∃ x, v = some (.int x) ∧ Q ((x, s')))) 192 [(0, .ref 316), (2, .int l2), (3, .int l3)] [] (t_m s) 1065 0 0 := by
  refine mj_aload_n dX11_partsInside_192 0 rfl ?_
  refine t_getR 322 dX11_partsInside_193 F_X11_25 qr_316_5 ?_
  refine mj_iload_n dX11_partsInside_196 1 rfl ?_
  refine t_chkK hk (fun c0 hk => ?_)
  refine t_lald dX11_partsInside_197 qa_322 (t_ixv c0) ?_
  refine mj_lconst (v := 0) dX11_partsInside_198 (by decide) ?_
  refine mj_lcmp dX11_partsInside_199 ?_
  refine mj_if_ne 207 dX11_partsInside_200 (by decide) (fun z => t_negK hk z (fun hk => ?_)) (fun z => t_posK hk z (fun hk => ?_))
  · refine mj_iconst (v := (-1)) dX11_partsInside_207 (by decide) ?_
    exact t_somK hk (fun hf => t_iret dX11_partsInside_208 rfl rfl ⟨_, rfl, hf⟩ (Nat.le_of_ble_eq_true rfl) (Nat.le_of_ble_eq_true rfl))
  · refine mj_iload_n dX11_partsInside_203 2 rfl ?_
    refine mj_goto 208 dX11_partsInside_204 (by decide) ?_
    exact t_somK hk (fun hf => t_iret dX11_partsInside_208 rfl rfl ⟨_, rfl, hf⟩ (Nat.le_of_ble_eq_true rfl) (Nat.le_of_ble_eq_true rfl))
noncomputable def k_X11_partsInside_122 (l1 : Int32) (l2 : Int32) (l3 : Int32) (l4 : Int32) (s : t_S) : Option ((Int32 × Int32 × Int32 × Int32 × t_S) ⊕ (Int32 × t_S)) :=
 if t_ix l1 3001 = true then
  if (s.1 321 (l1.toNatClampNeg)) ≤ l4 then ((some (l3, s)).map Sum.inr)
 else (if t_ix ((s.1 318 (l1.toNatClampNeg)) + l4) 6002 = true then
  (f_X11_memberOf l2 (s.1 325 (((s.1 318 (l1.toNatClampNeg)) + l4).toNatClampNeg)) s).bind (fun r3 =>
 if (0 : Int32) ≤ r3 then (some (.inl (l1, l2, l3, (l4 + 1), s)))
 else ((some ((-1 : Int32), s)).map Sum.inr))
else none)
else none
set_option maxRecDepth 4000 in
set_option maxHeartbeats 1000000 in
theorem B_X11_partsInside_122 {D : va_G} {cy : Nat → ClassId} {ad : Nat → Nat} {bs : Nat} {X : State → Heap → Prop} (l1 : Int32) (l2 : Int32) (l3 : Int32) (l4 : Int32) (s : t_S) (Q : (Int32 × Int32 × Int32 × Int32 × t_S) ⊕ (Int32 × t_S) → Prop) (Hb122 : ∀ (y0 : Int32) (y1 : Int32) (y2 : Int32) (y3 : Int32) (y4 : t_S), Q (.inl (y0, y1, y2, y3, y4)) → mj_G D cy ad bs X cX11_partsInside 5 yX11_partsInside.cls (some .int) yX11_partsInside.name 2 0 0 1065 (t_P (fun v s' => ∃ x, v = some (.int x) ∧ Q (.inr ((x, s'))))) 122 [(0, .ref 316), (1, .int (y0)), (2, .int (y1)), (3, .int (y2)), (4, .int (y3))] [] (t_m y4) 1065 0 0) (hk : t_hk (k_X11_partsInside_122 l1 l2 l3 l4 s) Q) : mj_G D cy ad bs X cX11_partsInside 5 yX11_partsInside.cls (some .int) yX11_partsInside.name 2 0 0 1065 (t_P (fun v s' => ∃ x, v = some (.int x) ∧ Q (.inr ((x, s'))))) 122 [(0, .ref 316), (1, .int l1), (2, .int l2), (3, .int l3), (4, .int l4)] [] (t_m s) 1065 0 0 := by
  refine mj_iload dX11_partsInside_122 4 rfl ?_
  refine mj_aload_n dX11_partsInside_124 0 rfl ?_
  refine t_getR 321 dX11_partsInside_125 F_X11_22 qr_316_4 ?_
  refine mj_iload_n dX11_partsInside_128 1 rfl ?_
  refine t_chkK hk (fun c0 hk => ?_)
  refine t_iald dX11_partsInside_129 qa_321 (t_ixv c0) ?_
  refine mj_icmp_ge 163 dX11_partsInside_130 (by decide) (fun z => t_posK hk z (fun hk => ?_)) (fun z => t_negK hk z (fun hk => ?_))
  · refine t_mapK hk (fun hk => ?_)
    refine mj_iload_n dX11_partsInside_163 3 rfl ?_
    exact t_somK hk (fun hf => t_iret dX11_partsInside_164 rfl rfl ⟨_, rfl, hf⟩ (Nat.le_of_ble_eq_true rfl) (Nat.le_of_ble_eq_true rfl))
  · refine mj_aload_n dX11_partsInside_133 0 rfl ?_
    refine mj_iload_n dX11_partsInside_134 2 rfl ?_
    refine mj_aload_n dX11_partsInside_135 0 rfl ?_
    refine t_getR 325 dX11_partsInside_136 F_X11_35 qr_316_9 ?_
    refine mj_aload_n dX11_partsInside_139 0 rfl ?_
    refine t_getR 318 dX11_partsInside_140 F_X11_13 qr_316_1 ?_
    refine mj_iload_n dX11_partsInside_143 1 rfl ?_
    refine t_iald dX11_partsInside_144 qa_318 (t_ixv c0) ?_
    refine mj_iload dX11_partsInside_145 4 rfl ?_
    refine mj_iadd dX11_partsInside_147 ?_
    refine t_chkK hk (fun c1 hk => ?_)
    refine t_iald dX11_partsInside_148 qa_325 (t_ixv c1) ?_
    refine t_bndK hk (fun r3 er3 hk => ?_)
    refine t_callViP dX11_partsInside_149 M_X11_memberOf (C_X11_memberOf _ _ _ _ er3) ML_X11_130 IM_X11_memberOf SE_X11_memberOf qc_316 rfl (As := [.int l2, .int (s.1 325 (((s.1 318 (l1.toNatClampNeg)) + l4).toNatClampNeg))]) rfl rfl (Nat.le_of_ble_eq_true rfl) (Nat.le_of_ble_eq_true rfl) (Nat.le_of_ble_eq_true rfl) (Nat.le_of_ble_eq_true rfl) ?_
    refine mj_if_ge 157 dX11_partsInside_152 (by decide) (fun z => t_posK hk z (fun hk => ?_)) (fun z => t_negK hk z (fun hk => ?_))
    · refine mj_iinc (k := 4) (v := (l4 + 1)) (lv2 := [(4, .int (l4 + 1)), (0, .ref 316), (1, .int l1), (2, .int l2), (3, .int l3)]) dX11_partsInside_157 rfl rfl (by decide) rfl ?_
      refine mj_goto 122 dX11_partsInside_160 (by decide) ?_
      refine mj_sublv [(0, .ref 316), (1, .int l1), (2, .int l2), (3, .int l3), (4, .int (l4 + 1))] [1, 2, 3, 4, 0] rfl ?_
      exact t_somK hk (fun hf => Hb122 l1 l2 l3 (l4 + 1) s hf)
    · refine t_mapK hk (fun hk => ?_)
      refine mj_iconst (v := (-1)) dX11_partsInside_155 (by decide) ?_
      exact t_somK hk (fun hf => t_iret dX11_partsInside_156 rfl rfl ⟨_, rfl, hf⟩ (Nat.le_of_ble_eq_true rfl) (Nat.le_of_ble_eq_true rfl))
noncomputable def b_X11_partsInside_122 (x : Int32 × Int32 × Int32 × Int32 × t_S) : Option ((Int32 × Int32 × Int32 × Int32 × t_S) ⊕ (Int32 × t_S)) := k_X11_partsInside_122 x.1 x.2.1 x.2.2.1 x.2.2.2.1 x.2.2.2.2
set_option maxRecDepth 4000 in
set_option maxHeartbeats 1000000 in
theorem LH_X11_partsInside_122 {D : va_G} {cy : Nat → ClassId} {ad : Nat → Nat} {bs : Nat} {X : State → Heap → Prop} : ∀ (n : Nat) (y0 : Int32) (y1 : Int32) (y2 : Int32) (y3 : Int32) (y4 : t_S) (Q : Int32 × t_S → Prop) (hk : t_hk (t_loop (b_X11_partsInside_122) n (y0, y1, y2, y3, y4)) Q), mj_G D cy ad bs X cX11_partsInside 5 yX11_partsInside.cls (some .int) yX11_partsInside.name 2 0 0 1065 (t_P (fun v s' => ∃ x, v = some (.int x) ∧ Q ((x, s')))) 122 [(0, .ref 316), (1, .int (y0)), (2, .int (y1)), (3, .int (y2)), (4, .int (y3))] [] (t_m y4) 1065 0 0 := by
  intro n
  induction n with
  | zero => intro y0 y1 y2 y3 y4 Q hk; obtain ⟨r, hr, _⟩ := hk; cases hr
  | succ n ih =>
    intro y0 y1 y2 y3 y4 Q hk
    exact B_X11_partsInside_122 y0 y1 y2 y3 y4 (fun y => t_lq (b_X11_partsInside_122) n Q y) (fun y0' y1' y2' y3' y4' hy => ih y0' y1' y2' y3' y4' Q hy) (t_lp hk)
noncomputable def f_X11_partsInside (x1 : Int32) (x2 : Int32) (x3 : Int32) (s : t_S) : Option (Int32 × t_S) :=
 if t_ix x1 3001 = true then
  if t_ix x2 3001 = true then
  if (s.1 317 (x1.toNatClampNeg)) = (s.1 317 (x2.toNatClampNeg)) then (if (s.1 317 (x1.toNatClampNeg)).toInt < 1 ∨ 7 < (s.1 317 (x1.toNatClampNeg)).toInt then (some ((-1 : Int32), s))
 else if (s.1 317 (x1.toNatClampNeg)).toInt = 1 then ((f_X11_rangesInside x1 x2 s).bind (fun r3 =>
 if r3 = (0 : Int32) then (some ((-1 : Int32), s))
 else (some (x3, s))))
 else if (s.1 317 (x1.toNatClampNeg)).toInt = 2 then (some (x3, s))
 else if (s.1 317 (x1.toNatClampNeg)).toInt = 3 then (if (0 : Int32) < (lg_cmp (s.2.1 322 (x2.toNatClampNeg)) (s.2.1 322 (x1.toNatClampNeg))) then (some ((-1 : Int32), s))
 else (if (0 : Int32) < (lg_cmp (s.2.1 323 (x1.toNatClampNeg)) (s.2.1 323 (x2.toNatClampNeg))) then (some ((-1 : Int32), s))
 else (some (x3, s))))
 else if (s.1 317 (x1.toNatClampNeg)).toInt = 4 then (t_loop (b_X11_partsInside_122) t_N (x1, x2, x3, 0, s))
 else if (s.1 317 (x1.toNatClampNeg)).toInt = 5 then ((f_X11_neededInside x1 x2 s).bind (fun r4 =>
 if r4 = (0 : Int32) then (some ((-1 : Int32), s))
 else ((f_X11_fieldsInside x1 x2 x3 s).bind (fun r5 =>
 some (r5.1, r5.2)))))
 else if (s.1 317 (x1.toNatClampNeg)).toInt = 6 then ((f_X11_fieldsInside x1 x2 x3 s).bind (fun r6 =>
 some (r6.1, r6.2)))
 else (if (lg_cmp (s.2.1 323 (x1.toNatClampNeg)) (0 : Int64)) = (0 : Int32) then (k_X11_partsInside_192 x2 x3 s)
 else (if t_ix (s.1 318 (x1.toNatClampNeg)) 3001 = true then
  if (s.1 324 ((s.1 318 (x1.toNatClampNeg)).toNatClampNeg)) < (2000000 : Int32) then (if (lg_cmp (s.2.1 322 (x1.toNatClampNeg)) (s.2.1 322 (x2.toNatClampNeg))) < (0 : Int32) then (some ((-1 : Int32), s))
 else (if (lg_cmp (s.2.1 323 (x1.toNatClampNeg)) (s.2.1 323 (x2.toNatClampNeg))) ≤ (0 : Int32) then ((f_X11_pairUp (s.1 318 (x1.toNatClampNeg)) (s.1 318 (x2.toNatClampNeg)) x3 s).bind (fun r8 =>
 some (r8.1, r8.2)))
 else (some ((-1 : Int32), s))))
 else (k_X11_partsInside_192 x2 x3 s)
else none)))
 else (some ((-1 : Int32), s))
else none
else none
set_option maxRecDepth 4000 in
set_option maxHeartbeats 1000000 in
theorem C_X11_partsInside (x1 : Int32) (x2 : Int32) (x3 : Int32) (s : t_S) (r : Int32 × t_S) (hr : f_X11_partsInside x1 x2 x3 s = some r) : t_C yX11_partsInside cX11_partsInside 5 (some .int) 2 [.ref 316, .int x1, .int x2, .int x3] s (fun v s' => v = some (.int r.1) ∧ s' = r.2) := by
  refine t_C.imp (P := fun v s' => ∃ x, v = some (.int x) ∧ (fun q => q = r) ((x, s'))) (t_C.of (by decide +kernel) (Nat.le_of_ble_eq_true rfl) ?_) (fun v s' hp => by obtain ⟨x, rfl, rfl⟩ := hp; exact ⟨rfl, rfl⟩)
  intro D cy ad bs X
  have hk : t_hk (f_X11_partsInside x1 x2 x3 s) (fun q => q = r) := ⟨r, hr, rfl⟩
  show mj_G D cy ad bs X cX11_partsInside 5 yX11_partsInside.cls (some .int) yX11_partsInside.name 2 0 0 1065 (t_P (fun v s' => ∃ x, v = some (.int x) ∧ (fun q => q = r) ((x, s')))) 0 [(0, .ref 316), (1, .int x1), (2, .int x2), (3, .int x3)] [] (t_m s) 1065 0 0
  refine mj_aload_n dX11_partsInside_0 0 rfl ?_
  refine t_getR 317 dX11_partsInside_1 F_X11_9 qr_316_0 ?_
  refine mj_iload_n dX11_partsInside_4 1 rfl ?_
  refine t_chkK hk (fun c0 hk => ?_)
  refine t_iald dX11_partsInside_5 qa_317 (t_ixv c0) ?_
  refine mj_aload_n dX11_partsInside_6 0 rfl ?_
  refine t_getR 317 dX11_partsInside_7 F_X11_9 qr_316_0 ?_
  refine mj_iload_n dX11_partsInside_10 2 rfl ?_
  refine t_chkK hk (fun c1 hk => ?_)
  refine t_iald dX11_partsInside_11 qa_317 (t_ixv c1) ?_
  refine mj_icmp_eq 17 dX11_partsInside_12 (by decide) (fun z => t_posK hk z (fun hk => ?_)) (fun z => t_negK hk z (fun hk => ?_))
  · refine mj_aload_n dX11_partsInside_17 0 rfl ?_
    refine t_getR 317 dX11_partsInside_18 F_X11_9 qr_316_0 ?_
    refine mj_iload_n dX11_partsInside_21 1 rfl ?_
    refine t_iald dX11_partsInside_22 qa_317 (t_ixv c0) ?_
    by_cases hout : (s.1 317 (x1.toNatClampNeg)).toInt < 1 ∨ 7 < (s.1 317 (x1.toNatClampNeg)).toInt
    · replace hk := t_pos hk hout
      refine mj_tableOut 290 dX11_partsInside_23 hout (by decide) ?_
      refine mj_iconst (v := (-1)) dX11_partsInside_290 (by decide) ?_
      exact t_somK hk (fun hf => t_iret dX11_partsInside_291 rfl rfl ⟨_, rfl, hf⟩ (Nat.le_of_ble_eq_true rfl) (Nat.le_of_ble_eq_true rfl))
    · replace hk := t_neg hk hout
      have hh1 : ¬ (s.1 317 (x1.toNatClampNeg)).toInt < 1 := fun z => hout (Or.inl z)
      have hh2 : ¬ (7 : Int) < (s.1 317 (x1.toNatClampNeg)).toInt := fun z => hout (Or.inr z)
      by_cases h0 : (s.1 317 (x1.toNatClampNeg)).toInt = 1
      · replace hk := t_pos hk h0
        refine mj_tableIn 64 dX11_partsInside_23 hh1 hh2 (by rw [h0]; rfl) (by decide) ?_
        refine mj_aload_n dX11_partsInside_64 0 rfl ?_
        refine mj_iload_n dX11_partsInside_65 1 rfl ?_
        refine mj_iload_n dX11_partsInside_66 2 rfl ?_
        refine t_bndK hk (fun r3 er3 hk => ?_)
        refine t_callViP dX11_partsInside_67 M_X11_rangesInside (C_X11_rangesInside _ _ _ _ er3) ML_X11_168 IM_X11_rangesInside SE_X11_rangesInside qc_316 rfl (As := [.int x1, .int x2]) rfl rfl (Nat.le_of_ble_eq_true rfl) (Nat.le_of_ble_eq_true rfl) (Nat.le_of_ble_eq_true rfl) (Nat.le_of_ble_eq_true rfl) ?_
        refine mj_if_eq 77 dX11_partsInside_70 (by decide) (fun z => t_posK hk z (fun hk => ?_)) (fun z => t_negK hk z (fun hk => ?_))
        · refine mj_iconst (v := (-1)) dX11_partsInside_77 (by decide) ?_
          exact t_somK hk (fun hf => t_iret dX11_partsInside_78 rfl rfl ⟨_, rfl, hf⟩ (Nat.le_of_ble_eq_true rfl) (Nat.le_of_ble_eq_true rfl))
        · refine mj_iload_n dX11_partsInside_73 3 rfl ?_
          refine mj_goto 78 dX11_partsInside_74 (by decide) ?_
          exact t_somK hk (fun hf => t_iret dX11_partsInside_78 rfl rfl ⟨_, rfl, hf⟩ (Nat.le_of_ble_eq_true rfl) (Nat.le_of_ble_eq_true rfl))
      replace hk := t_neg hk h0
      by_cases h1 : (s.1 317 (x1.toNatClampNeg)).toInt = 2
      · replace hk := t_pos hk h1
        refine mj_tableIn 79 dX11_partsInside_23 hh1 hh2 (by rw [h1]; rfl) (by decide) ?_
        refine mj_iload_n dX11_partsInside_79 3 rfl ?_
        exact t_somK hk (fun hf => t_iret dX11_partsInside_80 rfl rfl ⟨_, rfl, hf⟩ (Nat.le_of_ble_eq_true rfl) (Nat.le_of_ble_eq_true rfl))
      replace hk := t_neg hk h1
      by_cases h2 : (s.1 317 (x1.toNatClampNeg)).toInt = 3
      · replace hk := t_pos hk h2
        refine mj_tableIn 81 dX11_partsInside_23 hh1 hh2 (by rw [h2]; rfl) (by decide) ?_
        refine mj_aload_n dX11_partsInside_81 0 rfl ?_
        refine t_getR 322 dX11_partsInside_82 F_X11_25 qr_316_5 ?_
        refine mj_iload_n dX11_partsInside_85 2 rfl ?_
        refine t_lald dX11_partsInside_86 qa_322 (t_ixv c1) ?_
        refine mj_aload_n dX11_partsInside_87 0 rfl ?_
        refine t_getR 322 dX11_partsInside_88 F_X11_25 qr_316_5 ?_
        refine mj_iload_n dX11_partsInside_91 1 rfl ?_
        refine t_lald dX11_partsInside_92 qa_322 (t_ixv c0) ?_
        refine mj_lcmp dX11_partsInside_93 ?_
        refine mj_if_gt 117 dX11_partsInside_94 (by decide) (fun z => t_posK hk z (fun hk => ?_)) (fun z => t_negK hk z (fun hk => ?_))
        · refine mj_iconst (v := (-1)) dX11_partsInside_117 (by decide) ?_
          exact t_somK hk (fun hf => t_iret dX11_partsInside_118 rfl rfl ⟨_, rfl, hf⟩ (Nat.le_of_ble_eq_true rfl) (Nat.le_of_ble_eq_true rfl))
        · refine mj_aload_n dX11_partsInside_97 0 rfl ?_
          refine t_getR 323 dX11_partsInside_98 F_X11_29 qr_316_6 ?_
          refine mj_iload_n dX11_partsInside_101 1 rfl ?_
          refine t_lald dX11_partsInside_102 qa_323 (t_ixv c0) ?_
          refine mj_aload_n dX11_partsInside_103 0 rfl ?_
          refine t_getR 323 dX11_partsInside_104 F_X11_29 qr_316_6 ?_
          refine mj_iload_n dX11_partsInside_107 2 rfl ?_
          refine t_lald dX11_partsInside_108 qa_323 (t_ixv c1) ?_
          refine mj_lcmp dX11_partsInside_109 ?_
          refine mj_if_gt 117 dX11_partsInside_110 (by decide) (fun z => t_posK hk z (fun hk => ?_)) (fun z => t_negK hk z (fun hk => ?_))
          · refine mj_iconst (v := (-1)) dX11_partsInside_117 (by decide) ?_
            exact t_somK hk (fun hf => t_iret dX11_partsInside_118 rfl rfl ⟨_, rfl, hf⟩ (Nat.le_of_ble_eq_true rfl) (Nat.le_of_ble_eq_true rfl))
          · refine mj_iload_n dX11_partsInside_113 3 rfl ?_
            refine mj_goto 118 dX11_partsInside_114 (by decide) ?_
            exact t_somK hk (fun hf => t_iret dX11_partsInside_118 rfl rfl ⟨_, rfl, hf⟩ (Nat.le_of_ble_eq_true rfl) (Nat.le_of_ble_eq_true rfl))
      replace hk := t_neg hk h2
      by_cases h3 : (s.1 317 (x1.toNatClampNeg)).toInt = 4
      · replace hk := t_pos hk h3
        refine mj_tableIn 119 dX11_partsInside_23 hh1 hh2 (by rw [h3]; rfl) (by decide) ?_
        refine mj_iconst (v := 0) dX11_partsInside_119 (by decide) ?_
        refine mj_istore (lv2 := [(4, .int 0), (0, .ref 316), (1, .int x1), (2, .int x2), (3, .int x3)]) dX11_partsInside_120 (by decide) rfl ?_
        refine mj_sublv [(0, .ref 316), (1, .int x1), (2, .int x2), (3, .int x3), (4, .int 0)] [1, 2, 3, 4, 0] rfl ?_
        exact LH_X11_partsInside_122 _ x1 x2 x3 0 s _ hk
      replace hk := t_neg hk h3
      by_cases h4 : (s.1 317 (x1.toNatClampNeg)).toInt = 5
      · replace hk := t_pos hk h4
        refine mj_tableIn 261 dX11_partsInside_23 hh1 hh2 (by rw [h4]; rfl) (by decide) ?_
        refine mj_aload_n dX11_partsInside_261 0 rfl ?_
        refine mj_iload_n dX11_partsInside_262 1 rfl ?_
        refine mj_iload_n dX11_partsInside_263 2 rfl ?_
        refine t_bndK hk (fun r4 er4 hk => ?_)
        refine t_callViP dX11_partsInside_264 M_X11_neededInside (C_X11_neededInside _ _ _ _ er4) ML_X11_174 IM_X11_neededInside SE_X11_neededInside qc_316 rfl (As := [.int x1, .int x2]) rfl rfl (Nat.le_of_ble_eq_true rfl) (Nat.le_of_ble_eq_true rfl) (Nat.le_of_ble_eq_true rfl) (Nat.le_of_ble_eq_true rfl) ?_
        refine mj_if_eq 280 dX11_partsInside_267 (by decide) (fun z => t_posK hk z (fun hk => ?_)) (fun z => t_negK hk z (fun hk => ?_))
        · refine mj_iconst (v := (-1)) dX11_partsInside_280 (by decide) ?_
          exact t_somK hk (fun hf => t_iret dX11_partsInside_281 rfl rfl ⟨_, rfl, hf⟩ (Nat.le_of_ble_eq_true rfl) (Nat.le_of_ble_eq_true rfl))
        · refine mj_aload_n dX11_partsInside_270 0 rfl ?_
          refine mj_iload_n dX11_partsInside_271 1 rfl ?_
          refine mj_iload_n dX11_partsInside_272 2 rfl ?_
          refine mj_iload_n dX11_partsInside_273 3 rfl ?_
          refine t_bndK hk (fun r5 er5 hk => ?_)
          refine t_callViE dX11_partsInside_274 M_X11_fieldsInside (C_X11_fieldsInside _ _ _ _ _ er5) ML_X11_177 IM_X11_fieldsInside SE_X11_fieldsInside qc_316 rfl (As := [.int x1, .int x2, .int x3]) rfl rfl (Nat.le_of_ble_eq_true rfl) (Nat.le_of_ble_eq_true rfl) (Nat.le_of_ble_eq_true rfl) (Nat.le_of_ble_eq_true rfl) ?_
          refine mj_goto 281 dX11_partsInside_277 (by decide) ?_
          exact t_somK hk (fun hf => t_iret dX11_partsInside_281 rfl rfl ⟨_, rfl, hf⟩ (Nat.le_of_ble_eq_true rfl) (Nat.le_of_ble_eq_true rfl))
      replace hk := t_neg hk h4
      by_cases h5 : (s.1 317 (x1.toNatClampNeg)).toInt = 6
      · replace hk := t_pos hk h5
        refine mj_tableIn 282 dX11_partsInside_23 hh1 hh2 (by rw [h5]; rfl) (by decide) ?_
        refine mj_aload_n dX11_partsInside_282 0 rfl ?_
        refine mj_iload_n dX11_partsInside_283 1 rfl ?_
        refine mj_iload_n dX11_partsInside_284 2 rfl ?_
        refine mj_iload_n dX11_partsInside_285 3 rfl ?_
        refine t_bndK hk (fun r6 er6 hk => ?_)
        refine t_callViE dX11_partsInside_286 M_X11_fieldsInside (C_X11_fieldsInside _ _ _ _ _ er6) ML_X11_177 IM_X11_fieldsInside SE_X11_fieldsInside qc_316 rfl (As := [.int x1, .int x2, .int x3]) rfl rfl (Nat.le_of_ble_eq_true rfl) (Nat.le_of_ble_eq_true rfl) (Nat.le_of_ble_eq_true rfl) (Nat.le_of_ble_eq_true rfl) ?_
        exact t_somK hk (fun hf => t_iret dX11_partsInside_289 rfl rfl ⟨_, rfl, hf⟩ (Nat.le_of_ble_eq_true rfl) (Nat.le_of_ble_eq_true rfl))
      replace hk := t_neg hk h5
      have h6 : (s.1 317 (x1.toNatClampNeg)).toInt = 7 := by omega
      refine mj_tableIn 165 dX11_partsInside_23 hh1 hh2 (by rw [h6]; rfl) (by decide) ?_
      refine mj_aload_n dX11_partsInside_165 0 rfl ?_
      refine t_getR 323 dX11_partsInside_166 F_X11_29 qr_316_6 ?_
      refine mj_iload_n dX11_partsInside_169 1 rfl ?_
      refine t_lald dX11_partsInside_170 qa_323 (t_ixv c0) ?_
      refine mj_lconst (v := 0) dX11_partsInside_171 (by decide) ?_
      refine mj_lcmp dX11_partsInside_172 ?_
      refine mj_if_eq 192 dX11_partsInside_173 (by decide) (fun z => t_posK hk z (fun hk => ?_)) (fun z => t_negK hk z (fun hk => ?_))
      · refine mj_sublv [(0, .ref 316), (2, .int x2), (3, .int x3)] [0, 2, 3] rfl ?_
        exact B_X11_partsInside_192 _ _ _ _ hk
      · refine mj_aload_n dX11_partsInside_176 0 rfl ?_
        refine t_getR 324 dX11_partsInside_177 F_X11_32 qr_316_7 ?_
        refine mj_aload_n dX11_partsInside_180 0 rfl ?_
        refine t_getR 318 dX11_partsInside_181 F_X11_13 qr_316_1 ?_
        refine mj_iload_n dX11_partsInside_184 1 rfl ?_
        refine t_iald dX11_partsInside_185 qa_318 (t_ixv c0) ?_
        refine t_chkK hk (fun c6 hk => ?_)
        refine t_iald dX11_partsInside_186 qa_324 (t_ixv c6) ?_
        refine mj_ldc dX11_partsInside_187 K_X11_82 ?_
        refine mj_icmp_lt 209 dX11_partsInside_189 (by decide) (fun z => t_posK hk z (fun hk => ?_)) (fun z => t_negK hk z (fun hk => ?_))
        · refine mj_aload_n dX11_partsInside_209 0 rfl ?_
          refine t_getR 322 dX11_partsInside_210 F_X11_25 qr_316_5 ?_
          refine mj_iload_n dX11_partsInside_213 1 rfl ?_
          refine t_lald dX11_partsInside_214 qa_322 (t_ixv c0) ?_
          refine mj_aload_n dX11_partsInside_215 0 rfl ?_
          refine t_getR 322 dX11_partsInside_216 F_X11_25 qr_316_5 ?_
          refine mj_iload_n dX11_partsInside_219 2 rfl ?_
          refine t_lald dX11_partsInside_220 qa_322 (t_ixv c1) ?_
          refine mj_lcmp dX11_partsInside_221 ?_
          refine mj_if_lt 241 dX11_partsInside_222 (by decide) (fun z => t_posK hk z (fun hk => ?_)) (fun z => t_negK hk z (fun hk => ?_))
          · refine mj_iconst (v := (-1)) dX11_partsInside_241 (by decide) ?_
            exact t_somK hk (fun hf => t_iret dX11_partsInside_242 rfl rfl ⟨_, rfl, hf⟩ (Nat.le_of_ble_eq_true rfl) (Nat.le_of_ble_eq_true rfl))
          · refine mj_aload_n dX11_partsInside_225 0 rfl ?_
            refine t_getR 323 dX11_partsInside_226 F_X11_29 qr_316_6 ?_
            refine mj_iload_n dX11_partsInside_229 1 rfl ?_
            refine t_lald dX11_partsInside_230 qa_323 (t_ixv c0) ?_
            refine mj_aload_n dX11_partsInside_231 0 rfl ?_
            refine t_getR 323 dX11_partsInside_232 F_X11_29 qr_316_6 ?_
            refine mj_iload_n dX11_partsInside_235 2 rfl ?_
            refine t_lald dX11_partsInside_236 qa_323 (t_ixv c1) ?_
            refine mj_lcmp dX11_partsInside_237 ?_
            refine mj_if_le 243 dX11_partsInside_238 (by decide) (fun z => t_posK hk z (fun hk => ?_)) (fun z => t_negK hk z (fun hk => ?_))
            · refine mj_aload_n dX11_partsInside_243 0 rfl ?_
              refine mj_aload_n dX11_partsInside_244 0 rfl ?_
              refine t_getR 318 dX11_partsInside_245 F_X11_13 qr_316_1 ?_
              refine mj_iload_n dX11_partsInside_248 1 rfl ?_
              refine t_iald dX11_partsInside_249 qa_318 (t_ixv c0) ?_
              refine mj_aload_n dX11_partsInside_250 0 rfl ?_
              refine t_getR 318 dX11_partsInside_251 F_X11_13 qr_316_1 ?_
              refine mj_iload_n dX11_partsInside_254 2 rfl ?_
              refine t_iald dX11_partsInside_255 qa_318 (t_ixv c1) ?_
              refine mj_iload_n dX11_partsInside_256 3 rfl ?_
              refine t_bndK hk (fun r8 er8 hk => ?_)
              refine t_callViE dX11_partsInside_257 M_X11_pairUp (C_X11_pairUp _ _ _ _ _ er8) ML_X11_171 IM_X11_pairUp SE_X11_pairUp qc_316 rfl (As := [.int (s.1 318 (x1.toNatClampNeg)), .int (s.1 318 (x2.toNatClampNeg)), .int x3]) rfl rfl (Nat.le_of_ble_eq_true rfl) (Nat.le_of_ble_eq_true rfl) (Nat.le_of_ble_eq_true rfl) (Nat.le_of_ble_eq_true rfl) ?_
              exact t_somK hk (fun hf => t_iret dX11_partsInside_260 rfl rfl ⟨_, rfl, hf⟩ (Nat.le_of_ble_eq_true rfl) (Nat.le_of_ble_eq_true rfl))
            · refine mj_iconst (v := (-1)) dX11_partsInside_241 (by decide) ?_
              exact t_somK hk (fun hf => t_iret dX11_partsInside_242 rfl rfl ⟨_, rfl, hf⟩ (Nat.le_of_ble_eq_true rfl) (Nat.le_of_ble_eq_true rfl))
        · refine mj_sublv [(0, .ref 316), (2, .int x2), (3, .int x3)] [0, 2, 3] rfl ?_
          exact B_X11_partsInside_192 _ _ _ _ hk
  · refine mj_iconst (v := (-1)) dX11_partsInside_15 (by decide) ?_
    exact t_somK hk (fun hf => t_iret dX11_partsInside_16 rfl rfl ⟨_, rfl, hf⟩ (Nat.le_of_ble_eq_true rfl) (Nat.le_of_ble_eq_true rfl))

theorem dX11_treeInside_0 : decode cX11_treeInside 0 = .ok (.aload_n 0, 1) := by decide +kernel
theorem dX11_treeInside_1 : decode cX11_treeInside 1 = .ok (.getfield 57, 3) := by decide +kernel
theorem dX11_treeInside_101 : decode cX11_treeInside 101 = .ok (.if_icmp .ge 17, 3) := by decide +kernel
theorem dX11_treeInside_104 : decode cX11_treeInside 104 = .ok (.aload_n 0, 1) := by decide +kernel
theorem dX11_treeInside_105 : decode cX11_treeInside 105 = .ok (.iload 5, 2) := by decide +kernel
theorem dX11_treeInside_107 : decode cX11_treeInside 107 = .ok (.aload_n 0, 1) := by decide +kernel
theorem dX11_treeInside_108 : decode cX11_treeInside 108 = .ok (.iload 6, 2) := by decide +kernel
theorem dX11_treeInside_11 : decode cX11_treeInside 11 = .ok (.iconst 1, 1) := by decide +kernel
theorem dX11_treeInside_110 : decode cX11_treeInside 110 = .ok (.invokevirtual 111, 3) := by decide +kernel
theorem dX11_treeInside_113 : decode cX11_treeInside 113 = .ok (.iload_n 3, 1) := by decide +kernel
theorem dX11_treeInside_114 : decode cX11_treeInside 114 = .ok (.invokevirtual 164, 3) := by decide +kernel
theorem dX11_treeInside_117 : decode cX11_treeInside 117 = .ok (.istore_n 3, 1) := by decide +kernel
theorem dX11_treeInside_118 : decode cX11_treeInside 118 = .ok (.iload_n 3, 1) := by decide +kernel
theorem dX11_treeInside_119 : decode cX11_treeInside 119 = .ok (.ifCond .ge 5, 3) := by decide +kernel
theorem dX11_treeInside_12 : decode cX11_treeInside 12 = .ok (.iload_n 2, 1) := by decide +kernel
theorem dX11_treeInside_122 : decode cX11_treeInside 122 = .ok (.iconst 0, 1) := by decide +kernel
theorem dX11_treeInside_123 : decode cX11_treeInside 123 = .ok (.ireturn, 1) := by decide +kernel
theorem dX11_treeInside_124 : decode cX11_treeInside 124 = .ok (.iinc 4 1, 3) := by decide +kernel
theorem dX11_treeInside_127 : decode cX11_treeInside 127 = .ok (.goto (-108), 3) := by decide +kernel
theorem dX11_treeInside_13 : decode cX11_treeInside 13 = .ok (.iastore, 1) := by decide +kernel
theorem dX11_treeInside_130 : decode cX11_treeInside 130 = .ok (.iconst 1, 1) := by decide +kernel
theorem dX11_treeInside_131 : decode cX11_treeInside 131 = .ok (.ireturn, 1) := by decide +kernel
theorem dX11_treeInside_14 : decode cX11_treeInside 14 = .ok (.iconst 1, 1) := by decide +kernel
theorem dX11_treeInside_15 : decode cX11_treeInside 15 = .ok (.istore_n 3, 1) := by decide +kernel
theorem dX11_treeInside_16 : decode cX11_treeInside 16 = .ok (.iconst 0, 1) := by decide +kernel
theorem dX11_treeInside_17 : decode cX11_treeInside 17 = .ok (.istore 4, 2) := by decide +kernel
theorem dX11_treeInside_19 : decode cX11_treeInside 19 = .ok (.iload_n 3, 1) := by decide +kernel
theorem dX11_treeInside_20 : decode cX11_treeInside 20 = .ok (.ifCond .le 110, 3) := by decide +kernel
theorem dX11_treeInside_23 : decode cX11_treeInside 23 = .ok (.iload 4, 2) := by decide +kernel
theorem dX11_treeInside_25 : decode cX11_treeInside 25 = .ok (.sipush 3001, 3) := by decide +kernel
theorem dX11_treeInside_28 : decode cX11_treeInside 28 = .ok (.if_icmp .ge 102, 3) := by decide +kernel
theorem dX11_treeInside_31 : decode cX11_treeInside 31 = .ok (.iinc 3 (-1), 3) := by decide +kernel
theorem dX11_treeInside_34 : decode cX11_treeInside 34 = .ok (.aload_n 0, 1) := by decide +kernel
theorem dX11_treeInside_35 : decode cX11_treeInside 35 = .ok (.getfield 57, 3) := by decide +kernel
theorem dX11_treeInside_38 : decode cX11_treeInside 38 = .ok (.iconst 2, 1) := by decide +kernel
theorem dX11_treeInside_39 : decode cX11_treeInside 39 = .ok (.iload_n 3, 1) := by decide +kernel
theorem dX11_treeInside_4 : decode cX11_treeInside 4 = .ok (.iconst 0, 1) := by decide +kernel
theorem dX11_treeInside_40 : decode cX11_treeInside 40 = .ok (.imul, 1) := by decide +kernel
theorem dX11_treeInside_41 : decode cX11_treeInside 41 = .ok (.iaload, 1) := by decide +kernel
theorem dX11_treeInside_42 : decode cX11_treeInside 42 = .ok (.istore 5, 2) := by decide +kernel
theorem dX11_treeInside_44 : decode cX11_treeInside 44 = .ok (.aload_n 0, 1) := by decide +kernel
theorem dX11_treeInside_45 : decode cX11_treeInside 45 = .ok (.getfield 57, 3) := by decide +kernel
theorem dX11_treeInside_48 : decode cX11_treeInside 48 = .ok (.iconst 2, 1) := by decide +kernel
theorem dX11_treeInside_49 : decode cX11_treeInside 49 = .ok (.iload_n 3, 1) := by decide +kernel
theorem dX11_treeInside_5 : decode cX11_treeInside 5 = .ok (.iload_n 1, 1) := by decide +kernel
theorem dX11_treeInside_50 : decode cX11_treeInside 50 = .ok (.imul, 1) := by decide +kernel
theorem dX11_treeInside_51 : decode cX11_treeInside 51 = .ok (.iconst 1, 1) := by decide +kernel
theorem dX11_treeInside_52 : decode cX11_treeInside 52 = .ok (.iadd, 1) := by decide +kernel
theorem dX11_treeInside_53 : decode cX11_treeInside 53 = .ok (.iaload, 1) := by decide +kernel
theorem dX11_treeInside_54 : decode cX11_treeInside 54 = .ok (.istore 6, 2) := by decide +kernel
theorem dX11_treeInside_56 : decode cX11_treeInside 56 = .ok (.aload_n 0, 1) := by decide +kernel
theorem dX11_treeInside_57 : decode cX11_treeInside 57 = .ok (.getfield 9, 3) := by decide +kernel
theorem dX11_treeInside_6 : decode cX11_treeInside 6 = .ok (.iastore, 1) := by decide +kernel
theorem dX11_treeInside_60 : decode cX11_treeInside 60 = .ok (.iload 5, 2) := by decide +kernel
theorem dX11_treeInside_62 : decode cX11_treeInside 62 = .ok (.iaload, 1) := by decide +kernel
theorem dX11_treeInside_63 : decode cX11_treeInside 63 = .ok (.bipush 8, 2) := by decide +kernel
theorem dX11_treeInside_65 : decode cX11_treeInside 65 = .ok (.if_icmp .ne 27, 3) := by decide +kernel
theorem dX11_treeInside_68 : decode cX11_treeInside 68 = .ok (.aload_n 0, 1) := by decide +kernel
theorem dX11_treeInside_69 : decode cX11_treeInside 69 = .ok (.aload_n 0, 1) := by decide +kernel
theorem dX11_treeInside_7 : decode cX11_treeInside 7 = .ok (.aload_n 0, 1) := by decide +kernel
theorem dX11_treeInside_70 : decode cX11_treeInside 70 = .ok (.aload_n 0, 1) := by decide +kernel
theorem dX11_treeInside_71 : decode cX11_treeInside 71 = .ok (.getfield 22, 3) := by decide +kernel
theorem dX11_treeInside_74 : decode cX11_treeInside 74 = .ok (.iload 5, 2) := by decide +kernel
theorem dX11_treeInside_76 : decode cX11_treeInside 76 = .ok (.iaload, 1) := by decide +kernel
theorem dX11_treeInside_77 : decode cX11_treeInside 77 = .ok (.invokevirtual 75, 3) := by decide +kernel
theorem dX11_treeInside_8 : decode cX11_treeInside 8 = .ok (.getfield 57, 3) := by decide +kernel
theorem dX11_treeInside_80 : decode cX11_treeInside 80 = .ok (.aload_n 0, 1) := by decide +kernel
theorem dX11_treeInside_81 : decode cX11_treeInside 81 = .ok (.iload 6, 2) := by decide +kernel
theorem dX11_treeInside_83 : decode cX11_treeInside 83 = .ok (.invokevirtual 111, 3) := by decide +kernel
theorem dX11_treeInside_86 : decode cX11_treeInside 86 = .ok (.invokevirtual 148, 3) := by decide +kernel
theorem dX11_treeInside_89 : decode cX11_treeInside 89 = .ok (.goto 29, 3) := by decide +kernel
theorem dX11_treeInside_92 : decode cX11_treeInside 92 = .ok (.aload_n 0, 1) := by decide +kernel
theorem dX11_treeInside_93 : decode cX11_treeInside 93 = .ok (.getfield 32, 3) := by decide +kernel
theorem dX11_treeInside_96 : decode cX11_treeInside 96 = .ok (.iload 5, 2) := by decide +kernel
theorem dX11_treeInside_98 : decode cX11_treeInside 98 = .ok (.iaload, 1) := by decide +kernel
theorem dX11_treeInside_99 : decode cX11_treeInside 99 = .ok (.ldc 82, 2) := by decide +kernel
noncomputable def k_X11_treeInside_118 (l3 : Int32) (l4 : Int32) (s : t_S) : Option ((Int32 × Int32 × t_S) ⊕ (Int32 × t_S)) :=
 if (0 : Int32) ≤ l3 then (some (.inl (l3, (l4 + 1), s)))
 else ((some ((0 : Int32), s)).map Sum.inr)
set_option maxRecDepth 4000 in
set_option maxHeartbeats 1000000 in
theorem B_X11_treeInside_118 {D : va_G} {cy : Nat → ClassId} {ad : Nat → Nat} {bs : Nat} {X : State → Heap → Prop} (l3 : Int32) (l4 : Int32) (s : t_S) (Q : (Int32 × Int32 × t_S) ⊕ (Int32 × t_S) → Prop) (Hb19 : ∀ (y0 : Int32) (y1 : Int32) (y2 : t_S), Q (.inl (y0, y1, y2)) → mj_G D cy ad bs X cX11_treeInside 7 yX11_treeInside.cls (some .boolean) yX11_treeInside.name 3 0 0 1065 (t_P (fun v s' => ∃ x, v = some (.int x) ∧ Q (.inr ((x, s'))))) 19 [(0, .ref 316), (3, .int (y0)), (4, .int (y1))] [] (t_m y2) 1065 0 0) (hk : t_hk (k_X11_treeInside_118 l3 l4 s) Q) : mj_G D cy ad bs X cX11_treeInside 7 yX11_treeInside.cls (some .boolean) yX11_treeInside.name 3 0 0 1065 (t_P (fun v s' => ∃ x, v = some (.int x) ∧ Q (.inr ((x, s'))))) 118 [(0, .ref 316), (3, .int l3), (4, .int l4)] [] (t_m s) 1065 0 0 := by
  refine mj_iload_n dX11_treeInside_118 1 rfl ?_
  refine mj_if_ge 124 dX11_treeInside_119 (by decide) (fun z => t_posK hk z (fun hk => ?_)) (fun z => t_negK hk z (fun hk => ?_))
  · refine mj_iinc (k := 2) (v := (l4 + 1)) (lv2 := [(4, .int (l4 + 1)), (0, .ref 316), (3, .int l3)]) dX11_treeInside_124 rfl rfl (by decide) rfl ?_
    refine mj_goto 19 dX11_treeInside_127 (by decide) ?_
    refine mj_sublv [(0, .ref 316), (3, .int l3), (4, .int (l4 + 1))] [1, 2, 0] rfl ?_
    exact t_somK hk (fun hf => Hb19 l3 (l4 + 1) s hf)
  · refine t_mapK hk (fun hk => ?_)
    refine mj_iconst (v := 0) dX11_treeInside_122 (by decide) ?_
    exact t_somK hk (fun hf => t_iret dX11_treeInside_123 rfl (by decide) ⟨_, rfl, hf⟩ (Nat.le_of_ble_eq_true rfl) (Nat.le_of_ble_eq_true rfl))
noncomputable def k_X11_treeInside_19 (l3 : Int32) (l4 : Int32) (s : t_S) : Option ((Int32 × Int32 × t_S) ⊕ (Int32 × t_S)) :=
 if l3 ≤ (0 : Int32) then ((some ((1 : Int32), s)).map Sum.inr)
 else (if (3001 : Int32) ≤ l4 then ((some ((1 : Int32), s)).map Sum.inr)
 else (if t_ix ((2 : Int32) * (l3 + (-1))) 1000 = true then
  if t_ix (((2 : Int32) * (l3 + (-1))) + (1 : Int32)) 1000 = true then
  if t_ix (s.1 332 (((2 : Int32) * (l3 + (-1))).toNatClampNeg)) 3001 = true then
  if (s.1 317 ((s.1 332 (((2 : Int32) * (l3 + (-1))).toNatClampNeg)).toNatClampNeg)) = (8 : Int32) then ((f_X11_lastNamed (s.1 321 ((s.1 332 (((2 : Int32) * (l3 + (-1))).toNatClampNeg)).toNatClampNeg)) s).bind (fun r6 =>
 (f_X11_resolve (s.1 332 ((((2 : Int32) * (l3 + (-1))) + (1 : Int32)).toNatClampNeg)) s).bind (fun r7 =>
 (f_X11_mark r6 r7 s).bind (fun r8 =>
 k_X11_treeInside_118 (l3 + (-1)) l4 r8))))
 else (if (2000000 : Int32) ≤ (s.1 324 ((s.1 332 (((2 : Int32) * (l3 + (-1))).toNatClampNeg)).toNatClampNeg)) then (k_X11_treeInside_118 (l3 + (-1)) l4 s)
 else ((f_X11_resolve (s.1 332 ((((2 : Int32) * (l3 + (-1))) + (1 : Int32)).toNatClampNeg)) s).bind (fun r4 =>
 (f_X11_partsInside (s.1 332 (((2 : Int32) * (l3 + (-1))).toNatClampNeg)) r4 (l3 + (-1)) s).bind (fun r5 =>
 k_X11_treeInside_118 r5.1 l4 r5.2))))
else none
else none
else none))
set_option maxRecDepth 4000 in
set_option maxHeartbeats 1000000 in
theorem B_X11_treeInside_19 {D : va_G} {cy : Nat → ClassId} {ad : Nat → Nat} {bs : Nat} {X : State → Heap → Prop} (l3 : Int32) (l4 : Int32) (s : t_S) (Q : (Int32 × Int32 × t_S) ⊕ (Int32 × t_S) → Prop) (Hb19 : ∀ (y0 : Int32) (y1 : Int32) (y2 : t_S), Q (.inl (y0, y1, y2)) → mj_G D cy ad bs X cX11_treeInside 7 yX11_treeInside.cls (some .boolean) yX11_treeInside.name 3 0 0 1065 (t_P (fun v s' => ∃ x, v = some (.int x) ∧ Q (.inr ((x, s'))))) 19 [(0, .ref 316), (3, .int (y0)), (4, .int (y1))] [] (t_m y2) 1065 0 0) (hk : t_hk (k_X11_treeInside_19 l3 l4 s) Q) : mj_G D cy ad bs X cX11_treeInside 7 yX11_treeInside.cls (some .boolean) yX11_treeInside.name 3 0 0 1065 (t_P (fun v s' => ∃ x, v = some (.int x) ∧ Q (.inr ((x, s'))))) 19 [(0, .ref 316), (3, .int l3), (4, .int l4)] [] (t_m s) 1065 0 0 := by
  refine mj_iload_n dX11_treeInside_19 1 rfl ?_
  refine mj_if_le 130 dX11_treeInside_20 (by decide) (fun z => t_posK hk z (fun hk => ?_)) (fun z => t_negK hk z (fun hk => ?_))
  · refine t_mapK hk (fun hk => ?_)
    refine mj_iconst (v := 1) dX11_treeInside_130 (by decide) ?_
    exact t_somK hk (fun hf => t_iret dX11_treeInside_131 rfl (by decide) ⟨_, rfl, hf⟩ (Nat.le_of_ble_eq_true rfl) (Nat.le_of_ble_eq_true rfl))
  · refine mj_iload dX11_treeInside_23 2 rfl ?_
    refine mj_sipush (v := 3001) dX11_treeInside_25 (by decide) ?_
    refine mj_icmp_ge 130 dX11_treeInside_28 (by decide) (fun z => t_posK hk z (fun hk => ?_)) (fun z => t_negK hk z (fun hk => ?_))
    · refine t_mapK hk (fun hk => ?_)
      refine mj_iconst (v := 1) dX11_treeInside_130 (by decide) ?_
      exact t_somK hk (fun hf => t_iret dX11_treeInside_131 rfl (by decide) ⟨_, rfl, hf⟩ (Nat.le_of_ble_eq_true rfl) (Nat.le_of_ble_eq_true rfl))
    · refine mj_iinc (k := 1) (v := (l3 + (-1))) (lv2 := [(3, .int (l3 + (-1))), (0, .ref 316), (4, .int l4)]) dX11_treeInside_31 rfl rfl (by decide) rfl ?_
      refine mj_aload_n dX11_treeInside_34 1 rfl ?_
      refine t_getR 332 dX11_treeInside_35 F_X11_57 qr_316_19 ?_
      refine mj_iconst (v := 2) dX11_treeInside_38 (by decide) ?_
      refine mj_iload_n dX11_treeInside_39 0 rfl ?_
      refine mj_imul dX11_treeInside_40 ?_
      refine t_chkK hk (fun c0 hk => ?_)
      refine t_iald dX11_treeInside_41 qa_332 (t_ixv c0) ?_
      refine mj_istore (lv2 := [(5, .int (s.1 332 (((2 : Int32) * (l3 + (-1))).toNatClampNeg))), (3, .int (l3 + (-1))), (0, .ref 316), (4, .int l4)]) dX11_treeInside_42 (by decide) rfl ?_
      refine mj_aload_n dX11_treeInside_44 2 rfl ?_
      refine t_getR 332 dX11_treeInside_45 F_X11_57 qr_316_19 ?_
      refine mj_iconst (v := 2) dX11_treeInside_48 (by decide) ?_
      refine mj_iload_n dX11_treeInside_49 1 rfl ?_
      refine mj_imul dX11_treeInside_50 ?_
      refine mj_iconst (v := 1) dX11_treeInside_51 (by decide) ?_
      refine mj_iadd dX11_treeInside_52 ?_
      refine t_chkK hk (fun c1 hk => ?_)
      refine t_iald dX11_treeInside_53 qa_332 (t_ixv c1) ?_
      refine mj_istore (lv2 := [(6, .int (s.1 332 ((((2 : Int32) * (l3 + (-1))) + (1 : Int32)).toNatClampNeg))), (5, .int (s.1 332 (((2 : Int32) * (l3 + (-1))).toNatClampNeg))), (3, .int (l3 + (-1))), (0, .ref 316), (4, .int l4)]) dX11_treeInside_54 (by decide) rfl ?_
      refine mj_aload_n dX11_treeInside_56 3 rfl ?_
      refine t_getR 317 dX11_treeInside_57 F_X11_9 qr_316_0 ?_
      refine mj_iload dX11_treeInside_60 1 rfl ?_
      refine t_chkK hk (fun c2 hk => ?_)
      refine t_iald dX11_treeInside_62 qa_317 (t_ixv c2) ?_
      refine mj_bipush (v := 8) dX11_treeInside_63 (by decide) ?_
      refine mj_icmp_ne 92 dX11_treeInside_65 (by decide) (fun z => t_negK hk z (fun hk => ?_)) (fun z => t_posK hk z (fun hk => ?_))
      · refine mj_aload_n dX11_treeInside_92 3 rfl ?_
        refine t_getR 324 dX11_treeInside_93 F_X11_32 qr_316_7 ?_
        refine mj_iload dX11_treeInside_96 1 rfl ?_
        refine t_iald dX11_treeInside_98 qa_324 (t_ixv c2) ?_
        refine mj_ldc dX11_treeInside_99 K_X11_82 ?_
        refine mj_icmp_ge 118 dX11_treeInside_101 (by decide) (fun z => t_posK hk z (fun hk => ?_)) (fun z => t_negK hk z (fun hk => ?_))
        · refine mj_sublv [(0, .ref 316), (3, .int (l3 + (-1))), (4, .int l4)] [3, 2, 4] rfl ?_
          exact B_X11_treeInside_118 _ _ _ _ (fun y0 y1 y2 hx => Hb19 y0 y1 y2 hx) hk
        · refine mj_aload_n dX11_treeInside_104 3 rfl ?_
          refine mj_iload dX11_treeInside_105 1 rfl ?_
          refine mj_aload_n dX11_treeInside_107 3 rfl ?_
          refine mj_iload dX11_treeInside_108 0 rfl ?_
          refine t_bndK hk (fun r4 er4 hk => ?_)
          refine t_callViP dX11_treeInside_110 M_X11_resolve (C_X11_resolve _ _ _ er4) ML_X11_111 IM_X11_resolve SE_X11_resolve qc_316 rfl (As := [.int (s.1 332 ((((2 : Int32) * (l3 + (-1))) + (1 : Int32)).toNatClampNeg))]) rfl rfl (Nat.le_of_ble_eq_true rfl) (Nat.le_of_ble_eq_true rfl) (Nat.le_of_ble_eq_true rfl) (Nat.le_of_ble_eq_true rfl) ?_
          refine mj_iload_n dX11_treeInside_113 2 rfl ?_
          refine t_bndK hk (fun r5 er5 hk => ?_)
          refine t_callViE dX11_treeInside_114 M_X11_partsInside (C_X11_partsInside _ _ _ _ _ er5) ML_X11_164 IM_X11_partsInside SE_X11_partsInside qc_316 rfl (As := [.int (s.1 332 (((2 : Int32) * (l3 + (-1))).toNatClampNeg)), .int r4, .int (l3 + (-1))]) rfl rfl (Nat.le_of_ble_eq_true rfl) (Nat.le_of_ble_eq_true rfl) (Nat.le_of_ble_eq_true rfl) (Nat.le_of_ble_eq_true rfl) ?_
          refine mj_istore_n 3 (lv2 := [(3, .int r5.1), (6, .int (s.1 332 ((((2 : Int32) * (l3 + (-1))) + (1 : Int32)).toNatClampNeg))), (5, .int (s.1 332 (((2 : Int32) * (l3 + (-1))).toNatClampNeg))), (0, .ref 316), (4, .int l4)]) dX11_treeInside_117 rfl (by decide) rfl ?_
          refine mj_sublv [(0, .ref 316), (3, .int r5.1), (4, .int l4)] [3, 0, 4] rfl ?_
          exact B_X11_treeInside_118 _ _ _ _ (fun y0 y1 y2 hx => Hb19 y0 y1 y2 hx) hk
      · refine mj_aload_n dX11_treeInside_68 3 rfl ?_
        refine mj_aload_n dX11_treeInside_69 3 rfl ?_
        refine mj_aload_n dX11_treeInside_70 3 rfl ?_
        refine t_getR 321 dX11_treeInside_71 F_X11_22 qr_316_4 ?_
        refine mj_iload dX11_treeInside_74 1 rfl ?_
        refine t_iald dX11_treeInside_76 qa_321 (t_ixv c2) ?_
        refine t_bndK hk (fun r6 er6 hk => ?_)
        refine t_callViP dX11_treeInside_77 M_X11_lastNamed (C_X11_lastNamed _ _ _ er6) ML_X11_75 IM_X11_lastNamed SE_X11_lastNamed qc_316 rfl (As := [.int (s.1 321 ((s.1 332 (((2 : Int32) * (l3 + (-1))).toNatClampNeg)).toNatClampNeg))]) rfl rfl (Nat.le_of_ble_eq_true rfl) (Nat.le_of_ble_eq_true rfl) (Nat.le_of_ble_eq_true rfl) (Nat.le_of_ble_eq_true rfl) ?_
        refine mj_aload_n dX11_treeInside_80 3 rfl ?_
        refine mj_iload dX11_treeInside_81 0 rfl ?_
        refine t_bndK hk (fun r7 er7 hk => ?_)
        refine t_callViP dX11_treeInside_83 M_X11_resolve (C_X11_resolve _ _ _ er7) ML_X11_111 IM_X11_resolve SE_X11_resolve qc_316 rfl (As := [.int (s.1 332 ((((2 : Int32) * (l3 + (-1))) + (1 : Int32)).toNatClampNeg))]) rfl rfl (Nat.le_of_ble_eq_true rfl) (Nat.le_of_ble_eq_true rfl) (Nat.le_of_ble_eq_true rfl) (Nat.le_of_ble_eq_true rfl) ?_
        refine t_bndK hk (fun r8 er8 hk => ?_)
        refine t_callVvE dX11_treeInside_86 M_X11_mark (C_X11_mark _ _ _ _ er8) ML_X11_148 IM_X11_mark SE_X11_mark qc_316 rfl (As := [.int r6, .int r7]) rfl rfl (Nat.le_of_ble_eq_true rfl) (Nat.le_of_ble_eq_true rfl) (Nat.le_of_ble_eq_true rfl) (Nat.le_of_ble_eq_true rfl) ?_
        refine mj_goto 118 dX11_treeInside_89 (by decide) ?_
        refine mj_sublv [(0, .ref 316), (3, .int (l3 + (-1))), (4, .int l4)] [3, 2, 4] rfl ?_
        exact B_X11_treeInside_118 _ _ _ _ (fun y0 y1 y2 hx => Hb19 y0 y1 y2 hx) hk
noncomputable def b_X11_treeInside_19 (x : Int32 × Int32 × t_S) : Option ((Int32 × Int32 × t_S) ⊕ (Int32 × t_S)) := k_X11_treeInside_19 x.1 x.2.1 x.2.2
set_option maxRecDepth 4000 in
set_option maxHeartbeats 1000000 in
theorem LH_X11_treeInside_19 {D : va_G} {cy : Nat → ClassId} {ad : Nat → Nat} {bs : Nat} {X : State → Heap → Prop} : ∀ (n : Nat) (y0 : Int32) (y1 : Int32) (y2 : t_S) (Q : Int32 × t_S → Prop) (hk : t_hk (t_loop (b_X11_treeInside_19) n (y0, y1, y2)) Q), mj_G D cy ad bs X cX11_treeInside 7 yX11_treeInside.cls (some .boolean) yX11_treeInside.name 3 0 0 1065 (t_P (fun v s' => ∃ x, v = some (.int x) ∧ Q ((x, s')))) 19 [(0, .ref 316), (3, .int (y0)), (4, .int (y1))] [] (t_m y2) 1065 0 0 := by
  intro n
  induction n with
  | zero => intro y0 y1 y2 Q hk; obtain ⟨r, hr, _⟩ := hk; cases hr
  | succ n ih =>
    intro y0 y1 y2 Q hk
    exact B_X11_treeInside_19 y0 y1 y2 (fun y => t_lq (b_X11_treeInside_19) n Q y) (fun y0' y1' y2' hy => ih y0' y1' y2' Q hy) (t_lp hk)
noncomputable def f_X11_treeInside (x1 : Int32) (x2 : Int32) (s : t_S) : Option (Int32 × t_S) :=
 t_let (t_setI s 332 ((0 : Int32).toNatClampNeg) x1) (fun s1 =>
 t_let (t_setI s1 332 ((1 : Int32).toNatClampNeg) x2) (fun s2 =>
 t_loop (b_X11_treeInside_19) t_N (1, 0, s2)))
set_option maxRecDepth 4000 in
set_option maxHeartbeats 1000000 in
theorem C_X11_treeInside (x1 : Int32) (x2 : Int32) (s : t_S) (r : Int32 × t_S) (hr : f_X11_treeInside x1 x2 s = some r) : t_C yX11_treeInside cX11_treeInside 7 (some .boolean) 3 [.ref 316, .int x1, .int x2] s (fun v s' => v = some (.int r.1) ∧ s' = r.2) := by
  refine t_C.imp (P := fun v s' => ∃ x, v = some (.int x) ∧ (fun q => q = r) ((x, s'))) (t_C.of (by decide +kernel) (Nat.le_of_ble_eq_true rfl) ?_) (fun v s' hp => by obtain ⟨x, rfl, rfl⟩ := hp; exact ⟨rfl, rfl⟩)
  intro D cy ad bs X
  have hk : t_hk (f_X11_treeInside x1 x2 s) (fun q => q = r) := ⟨r, hr, rfl⟩
  show mj_G D cy ad bs X cX11_treeInside 7 yX11_treeInside.cls (some .boolean) yX11_treeInside.name 3 0 0 1065 (t_P (fun v s' => ∃ x, v = some (.int x) ∧ (fun q => q = r) ((x, s')))) 0 [(0, .ref 316), (1, .int x1), (2, .int x2)] [] (t_m s) 1065 0 0
  refine mj_aload_n dX11_treeInside_0 0 rfl ?_
  refine t_getR 332 dX11_treeInside_1 F_X11_57 qr_316_19 ?_
  refine mj_iconst (v := 0) dX11_treeInside_4 (by decide) ?_
  refine mj_iload_n dX11_treeInside_5 1 rfl ?_
  refine t_iastK dX11_treeInside_6 qa_332 (by unfold vp_in; decide) (fun s1 ws1 => t_letE hk ws1 (fun hk => ?_))
  refine mj_aload_n dX11_treeInside_7 0 rfl ?_
  refine t_getR 332 dX11_treeInside_8 F_X11_57 qr_316_19 ?_
  refine mj_iconst (v := 1) dX11_treeInside_11 (by decide) ?_
  refine mj_iload_n dX11_treeInside_12 2 rfl ?_
  refine t_iastK dX11_treeInside_13 qa_332 (by unfold vp_in; decide) (fun s2 ws2 => t_letE hk ws2 (fun hk => ?_))
  refine mj_iconst (v := 1) dX11_treeInside_14 (by decide) ?_
  refine mj_istore_n 3 (lv2 := [(3, .int 1), (0, .ref 316), (1, .int x1), (2, .int x2)]) dX11_treeInside_15 rfl (by decide) rfl ?_
  refine mj_iconst (v := 0) dX11_treeInside_16 (by decide) ?_
  refine mj_istore (lv2 := [(4, .int 0), (3, .int 1), (0, .ref 316), (1, .int x1), (2, .int x2)]) dX11_treeInside_17 (by decide) rfl ?_
  refine mj_sublv [(0, .ref 316), (3, .int 1), (4, .int 0)] [2, 1, 0] rfl ?_
  exact LH_X11_treeInside_19 _ 1 0 s2 _ hk

theorem dX11_inside_0 : decode cX11_inside 0 = .ok (.aload_n 0, 1) := by decide +kernel
theorem dX11_inside_1 : decode cX11_inside 1 = .ok (.getfield 51, 3) := by decide +kernel
theorem dX11_inside_101 : decode cX11_inside 101 = .ok (.imul, 1) := by decide +kernel
theorem dX11_inside_102 : decode cX11_inside 102 = .ok (.lload 6, 2) := by decide +kernel
theorem dX11_inside_104 : decode cX11_inside 104 = .ok (.invokestatic 155, 3) := by decide +kernel
theorem dX11_inside_107 : decode cX11_inside 107 = .ok (.iadd, 1) := by decide +kernel
theorem dX11_inside_108 : decode cX11_inside 108 = .ok (.istore 8, 2) := by decide +kernel
theorem dX11_inside_110 : decode cX11_inside 110 = .ok (.aload_n 0, 1) := by decide +kernel
theorem dX11_inside_111 : decode cX11_inside 111 = .ok (.getfield 54, 3) := by decide +kernel
theorem dX11_inside_114 : decode cX11_inside 114 = .ok (.iload 5, 2) := by decide +kernel
theorem dX11_inside_116 : decode cX11_inside 116 = .ok (.dup2, 1) := by decide +kernel
theorem dX11_inside_117 : decode cX11_inside 117 = .ok (.laload, 1) := by decide +kernel
theorem dX11_inside_118 : decode cX11_inside 118 = .ok (.lload 6, 2) := by decide +kernel
theorem dX11_inside_12 : decode cX11_inside 12 = .ok (.lconst 0, 1) := by decide +kernel
theorem dX11_inside_120 : decode cX11_inside 120 = .ok (.lload 6, 2) := by decide +kernel
theorem dX11_inside_122 : decode cX11_inside 122 = .ok (.lneg, 1) := by decide +kernel
theorem dX11_inside_123 : decode cX11_inside 123 = .ok (.land, 1) := by decide +kernel
theorem dX11_inside_124 : decode cX11_inside 124 = .ok (.lor, 1) := by decide +kernel
theorem dX11_inside_125 : decode cX11_inside 125 = .ok (.lastore, 1) := by decide +kernel
theorem dX11_inside_126 : decode cX11_inside 126 = .ok (.aload_n 0, 1) := by decide +kernel
theorem dX11_inside_127 : decode cX11_inside 127 = .ok (.aload_n 0, 1) := by decide +kernel
theorem dX11_inside_128 : decode cX11_inside 128 = .ok (.getfield 38, 3) := by decide +kernel
theorem dX11_inside_13 : decode cX11_inside 13 = .ok (.invokestatic 145, 3) := by decide +kernel
theorem dX11_inside_131 : decode cX11_inside 131 = .ok (.iload 5, 2) := by decide +kernel
theorem dX11_inside_133 : decode cX11_inside 133 = .ok (.bipush 47, 2) := by decide +kernel
theorem dX11_inside_135 : decode cX11_inside 135 = .ok (.idiv, 1) := by decide +kernel
theorem dX11_inside_136 : decode cX11_inside 136 = .ok (.iaload, 1) := by decide +kernel
theorem dX11_inside_137 : decode cX11_inside 137 = .ok (.iload 8, 2) := by decide +kernel
theorem dX11_inside_139 : decode cX11_inside 139 = .ok (.invokevirtual 160, 3) := by decide +kernel
theorem dX11_inside_142 : decode cX11_inside 142 = .ok (.ifCond .ne 5, 3) := by decide +kernel
theorem dX11_inside_145 : decode cX11_inside 145 = .ok (.iconst 0, 1) := by decide +kernel
theorem dX11_inside_146 : decode cX11_inside 146 = .ok (.ireturn, 1) := by decide +kernel
theorem dX11_inside_147 : decode cX11_inside 147 = .ok (.iinc 5 1, 3) := by decide +kernel
theorem dX11_inside_150 : decode cX11_inside 150 = .ok (.goto (-94), 3) := by decide +kernel
theorem dX11_inside_153 : decode cX11_inside 153 = .ok (.iinc 4 1, 3) := by decide +kernel
theorem dX11_inside_156 : decode cX11_inside 156 = .ok (.goto (-116), 3) := by decide +kernel
theorem dX11_inside_159 : decode cX11_inside 159 = .ok (.iconst 1, 1) := by decide +kernel
theorem dX11_inside_16 : decode cX11_inside 16 = .ok (.aload_n 0, 1) := by decide +kernel
theorem dX11_inside_160 : decode cX11_inside 160 = .ok (.ireturn, 1) := by decide +kernel
theorem dX11_inside_17 : decode cX11_inside 17 = .ok (.aload_n 0, 1) := by decide +kernel
theorem dX11_inside_18 : decode cX11_inside 18 = .ok (.iload_n 1, 1) := by decide +kernel
theorem dX11_inside_19 : decode cX11_inside 19 = .ok (.invokevirtual 75, 3) := by decide +kernel
theorem dX11_inside_22 : decode cX11_inside 22 = .ok (.aload_n 0, 1) := by decide +kernel
theorem dX11_inside_23 : decode cX11_inside 23 = .ok (.aload_n 0, 1) := by decide +kernel
theorem dX11_inside_24 : decode cX11_inside 24 = .ok (.getfield 38, 3) := by decide +kernel
theorem dX11_inside_27 : decode cX11_inside 27 = .ok (.iload_n 2, 1) := by decide +kernel
theorem dX11_inside_28 : decode cX11_inside 28 = .ok (.iaload, 1) := by decide +kernel
theorem dX11_inside_29 : decode cX11_inside 29 = .ok (.invokevirtual 111, 3) := by decide +kernel
theorem dX11_inside_32 : decode cX11_inside 32 = .ok (.invokevirtual 148, 3) := by decide +kernel
theorem dX11_inside_35 : decode cX11_inside 35 = .ok (.iconst 1, 1) := by decide +kernel
theorem dX11_inside_36 : decode cX11_inside 36 = .ok (.istore_n 3, 1) := by decide +kernel
theorem dX11_inside_37 : decode cX11_inside 37 = .ok (.iconst 0, 1) := by decide +kernel
theorem dX11_inside_38 : decode cX11_inside 38 = .ok (.istore 4, 2) := by decide +kernel
theorem dX11_inside_4 : decode cX11_inside 4 = .ok (.lconst 0, 1) := by decide +kernel
theorem dX11_inside_40 : decode cX11_inside 40 = .ok (.iload_n 3, 1) := by decide +kernel
theorem dX11_inside_41 : decode cX11_inside 41 = .ok (.ifCond .eq 118, 3) := by decide +kernel
theorem dX11_inside_44 : decode cX11_inside 44 = .ok (.iload 4, 2) := by decide +kernel
theorem dX11_inside_46 : decode cX11_inside 46 = .ok (.ldc 152, 2) := by decide +kernel
theorem dX11_inside_48 : decode cX11_inside 48 = .ok (.if_icmp .ge 111, 3) := by decide +kernel
theorem dX11_inside_5 : decode cX11_inside 5 = .ok (.invokestatic 145, 3) := by decide +kernel
theorem dX11_inside_51 : decode cX11_inside 51 = .ok (.iconst 0, 1) := by decide +kernel
theorem dX11_inside_52 : decode cX11_inside 52 = .ok (.istore_n 3, 1) := by decide +kernel
theorem dX11_inside_53 : decode cX11_inside 53 = .ok (.iconst 0, 1) := by decide +kernel
theorem dX11_inside_54 : decode cX11_inside 54 = .ok (.istore 5, 2) := by decide +kernel
theorem dX11_inside_56 : decode cX11_inside 56 = .ok (.iload 5, 2) := by decide +kernel
theorem dX11_inside_58 : decode cX11_inside 58 = .ok (.sipush 2820, 3) := by decide +kernel
theorem dX11_inside_61 : decode cX11_inside 61 = .ok (.if_icmp .ge 92, 3) := by decide +kernel
theorem dX11_inside_64 : decode cX11_inside 64 = .ok (.aload_n 0, 1) := by decide +kernel
theorem dX11_inside_65 : decode cX11_inside 65 = .ok (.getfield 51, 3) := by decide +kernel
theorem dX11_inside_68 : decode cX11_inside 68 = .ok (.iload 5, 2) := by decide +kernel
theorem dX11_inside_70 : decode cX11_inside 70 = .ok (.laload, 1) := by decide +kernel
theorem dX11_inside_71 : decode cX11_inside 71 = .ok (.aload_n 0, 1) := by decide +kernel
theorem dX11_inside_72 : decode cX11_inside 72 = .ok (.getfield 54, 3) := by decide +kernel
theorem dX11_inside_75 : decode cX11_inside 75 = .ok (.iload 5, 2) := by decide +kernel
theorem dX11_inside_77 : decode cX11_inside 77 = .ok (.laload, 1) := by decide +kernel
theorem dX11_inside_78 : decode cX11_inside 78 = .ok (.ldc2_w 153, 3) := by decide +kernel
theorem dX11_inside_8 : decode cX11_inside 8 = .ok (.aload_n 0, 1) := by decide +kernel
theorem dX11_inside_81 : decode cX11_inside 81 = .ok (.lxor, 1) := by decide +kernel
theorem dX11_inside_82 : decode cX11_inside 82 = .ok (.land, 1) := by decide +kernel
theorem dX11_inside_83 : decode cX11_inside 83 = .ok (.lstore 6, 2) := by decide +kernel
theorem dX11_inside_85 : decode cX11_inside 85 = .ok (.lload 6, 2) := by decide +kernel
theorem dX11_inside_87 : decode cX11_inside 87 = .ok (.lconst 0, 1) := by decide +kernel
theorem dX11_inside_88 : decode cX11_inside 88 = .ok (.lcmp, 1) := by decide +kernel
theorem dX11_inside_89 : decode cX11_inside 89 = .ok (.ifCond .eq 58, 3) := by decide +kernel
theorem dX11_inside_9 : decode cX11_inside 9 = .ok (.getfield 54, 3) := by decide +kernel
theorem dX11_inside_92 : decode cX11_inside 92 = .ok (.iconst 1, 1) := by decide +kernel
theorem dX11_inside_93 : decode cX11_inside 93 = .ok (.istore_n 3, 1) := by decide +kernel
theorem dX11_inside_94 : decode cX11_inside 94 = .ok (.iload 5, 2) := by decide +kernel
theorem dX11_inside_96 : decode cX11_inside 96 = .ok (.bipush 47, 2) := by decide +kernel
theorem dX11_inside_98 : decode cX11_inside 98 = .ok (.irem, 1) := by decide +kernel
theorem dX11_inside_99 : decode cX11_inside 99 = .ok (.bipush 64, 2) := by decide +kernel
noncomputable def k_X11_inside_147 (l3 : Int32) (l4 : Int32) (l5 : Int32) (s : t_S) : Option ((Int32 × Int32 × Int32 × t_S) ⊕ ((Int32 × Int32 × t_S) ⊕ (Int32 × t_S))) :=
 some (.inl (l3, l4, (l5 + 1), s))
set_option maxRecDepth 4000 in
set_option maxHeartbeats 1000000 in
theorem B_X11_inside_147 {D : va_G} {cy : Nat → ClassId} {ad : Nat → Nat} {bs : Nat} {X : State → Heap → Prop} (l3 : Int32) (l4 : Int32) (l5 : Int32) (s : t_S) (Q : (Int32 × Int32 × Int32 × t_S) ⊕ ((Int32 × Int32 × t_S) ⊕ (Int32 × t_S)) → Prop) (Hb40 : ∀ (y0 : Int32) (y1 : Int32) (y2 : t_S), Q (.inr (.inl (y0, y1, y2))) → mj_G D cy ad bs X cX11_inside 9 yX11_inside.cls (some .boolean) yX11_inside.name 4 0 0 1065 (t_P (fun v s' => ∃ x, v = some (.int x) ∧ Q (.inr (.inr ((x, s')))))) 40 [(0, .ref 316), (3, .int (y0)), (4, .int (y1))] [] (t_m y2) 1065 0 0) (Hb56 : ∀ (y0 : Int32) (y1 : Int32) (y2 : Int32) (y3 : t_S), Q (.inl (y0, y1, y2, y3)) → mj_G D cy ad bs X cX11_inside 9 yX11_inside.cls (some .boolean) yX11_inside.name 4 0 0 1065 (t_P (fun v s' => ∃ x, v = some (.int x) ∧ Q (.inr (.inr ((x, s')))))) 56 [(0, .ref 316), (3, .int (y0)), (4, .int (y1)), (5, .int (y2))] [] (t_m y3) 1065 0 0) (hk : t_hk (k_X11_inside_147 l3 l4 l5 s) Q) : mj_G D cy ad bs X cX11_inside 9 yX11_inside.cls (some .boolean) yX11_inside.name 4 0 0 1065 (t_P (fun v s' => ∃ x, v = some (.int x) ∧ Q (.inr (.inr ((x, s')))))) 147 [(0, .ref 316), (3, .int l3), (4, .int l4), (5, .int l5)] [] (t_m s) 1065 0 0 := by
  refine mj_iinc (k := 3) (v := (l5 + 1)) (lv2 := [(5, .int (l5 + 1)), (0, .ref 316), (3, .int l3), (4, .int l4)]) dX11_inside_147 rfl rfl (by decide) rfl ?_
  refine mj_goto 56 dX11_inside_150 (by decide) ?_
  refine mj_sublv [(0, .ref 316), (3, .int l3), (4, .int l4), (5, .int (l5 + 1))] [1, 2, 3, 0] rfl ?_
  exact t_somK hk (fun hf => Hb56 l3 l4 (l5 + 1) s hf)
noncomputable def k_X11_inside_56 (l3 : Int32) (l4 : Int32) (l5 : Int32) (s : t_S) : Option ((Int32 × Int32 × Int32 × t_S) ⊕ ((Int32 × Int32 × t_S) ⊕ (Int32 × t_S))) :=
 if (2820 : Int32) ≤ l5 then ((some (.inl (l3, (l4 + 1), s))).map Sum.inr)
 else (if t_ix l5 2820 = true then
  if (lg_cmp ((s.2.1 330 (l5.toNatClampNeg)) &&& ((s.2.1 331 (l5.toNatClampNeg)) ^^^ (-1 : Int64))) (0 : Int64)) = (0 : Int32) then (k_X11_inside_147 l3 l4 l5 s)
 else (t_let (t_setJ s 331 (l5.toNatClampNeg) ((s.2.1 331 (l5.toNatClampNeg)) ||| (((s.2.1 330 (l5.toNatClampNeg)) &&& ((s.2.1 331 (l5.toNatClampNeg)) ^^^ (-1 : Int64))) &&& (-((s.2.1 330 (l5.toNatClampNeg)) &&& ((s.2.1 331 (l5.toNatClampNeg)) ^^^ (-1 : Int64))))))) (fun s1 =>
 if t_ix (l5 / (47 : Int32)) 60 = true then
  (f_X11_treeInside (s1.1 326 ((l5 / (47 : Int32)).toNatClampNeg)) (((l5 - l5 / (47 : Int32) * (47 : Int32)) * (64 : Int32)) + (f_J13_numberOfTrailingZeros_95d88 ((s.2.1 330 (l5.toNatClampNeg)) &&& ((s.2.1 331 (l5.toNatClampNeg)) ^^^ (-1 : Int64))) s)) s1).bind (fun r4 =>
 if r4.1 = (0 : Int32) then (((some ((0 : Int32), r4.2)).map Sum.inr).map Sum.inr)
 else (k_X11_inside_147 1 l4 l5 r4.2))
else none))
else none)
set_option maxRecDepth 4000 in
set_option maxHeartbeats 1000000 in
theorem B_X11_inside_56 {D : va_G} {cy : Nat → ClassId} {ad : Nat → Nat} {bs : Nat} {X : State → Heap → Prop} (l3 : Int32) (l4 : Int32) (l5 : Int32) (s : t_S) (Q : (Int32 × Int32 × Int32 × t_S) ⊕ ((Int32 × Int32 × t_S) ⊕ (Int32 × t_S)) → Prop) (Hb40 : ∀ (y0 : Int32) (y1 : Int32) (y2 : t_S), Q (.inr (.inl (y0, y1, y2))) → mj_G D cy ad bs X cX11_inside 9 yX11_inside.cls (some .boolean) yX11_inside.name 4 0 0 1065 (t_P (fun v s' => ∃ x, v = some (.int x) ∧ Q (.inr (.inr ((x, s')))))) 40 [(0, .ref 316), (3, .int (y0)), (4, .int (y1))] [] (t_m y2) 1065 0 0) (Hb56 : ∀ (y0 : Int32) (y1 : Int32) (y2 : Int32) (y3 : t_S), Q (.inl (y0, y1, y2, y3)) → mj_G D cy ad bs X cX11_inside 9 yX11_inside.cls (some .boolean) yX11_inside.name 4 0 0 1065 (t_P (fun v s' => ∃ x, v = some (.int x) ∧ Q (.inr (.inr ((x, s')))))) 56 [(0, .ref 316), (3, .int (y0)), (4, .int (y1)), (5, .int (y2))] [] (t_m y3) 1065 0 0) (hk : t_hk (k_X11_inside_56 l3 l4 l5 s) Q) : mj_G D cy ad bs X cX11_inside 9 yX11_inside.cls (some .boolean) yX11_inside.name 4 0 0 1065 (t_P (fun v s' => ∃ x, v = some (.int x) ∧ Q (.inr (.inr ((x, s')))))) 56 [(0, .ref 316), (3, .int l3), (4, .int l4), (5, .int l5)] [] (t_m s) 1065 0 0 := by
  refine mj_iload dX11_inside_56 3 rfl ?_
  refine mj_sipush (v := 2820) dX11_inside_58 (by decide) ?_
  refine mj_icmp_ge 153 dX11_inside_61 (by decide) (fun z => t_posK hk z (fun hk => ?_)) (fun z => t_negK hk z (fun hk => ?_))
  · refine t_mapK hk (fun hk => ?_)
    refine mj_iinc (k := 2) (v := (l4 + 1)) (lv2 := [(4, .int (l4 + 1)), (0, .ref 316), (3, .int l3), (5, .int l5)]) dX11_inside_153 rfl rfl (by decide) rfl ?_
    refine mj_goto 40 dX11_inside_156 (by decide) ?_
    refine mj_sublv [(0, .ref 316), (3, .int l3), (4, .int (l4 + 1))] [1, 2, 0] rfl ?_
    exact t_somK hk (fun hf => Hb40 l3 (l4 + 1) s hf)
  · refine mj_aload_n dX11_inside_64 0 rfl ?_
    refine t_getR 330 dX11_inside_65 F_X11_51 qr_316_17 ?_
    refine mj_iload dX11_inside_68 3 rfl ?_
    refine t_chkK hk (fun c0 hk => ?_)
    refine t_lald dX11_inside_70 qa_330 (t_ixv c0) ?_
    refine mj_aload_n dX11_inside_71 0 rfl ?_
    refine t_getR 331 dX11_inside_72 F_X11_54 qr_316_18 ?_
    refine mj_iload dX11_inside_75 3 rfl ?_
    refine t_lald dX11_inside_77 qa_331 (t_ixv c0) ?_
    refine mj_ldc2 dX11_inside_78 K_X11_153 ?_
    refine mj_lxor dX11_inside_81 ?_
    refine mj_land dX11_inside_82 ?_
    refine mj_lstore (lv2 := [(6, .long ((s.2.1 330 (l5.toNatClampNeg)) &&& ((s.2.1 331 (l5.toNatClampNeg)) ^^^ (-1 : Int64)))), (0, .ref 316), (3, .int l3), (4, .int l4), (5, .int l5)]) dX11_inside_83 (by decide) rfl ?_
    refine mj_lload dX11_inside_85 0 rfl ?_
    refine mj_lconst (v := 0) dX11_inside_87 (by decide) ?_
    refine mj_lcmp dX11_inside_88 ?_
    refine mj_if_eq 147 dX11_inside_89 (by decide) (fun z => t_posK hk z (fun hk => ?_)) (fun z => t_negK hk z (fun hk => ?_))
    · refine mj_sublv [(0, .ref 316), (3, .int l3), (4, .int l4), (5, .int l5)] [1, 2, 3, 4] rfl ?_
      exact B_X11_inside_147 _ _ _ _ _ (fun y0 y1 y2 hx => Hb40 y0 y1 y2 hx) (fun y0 y1 y2 y3 hx => Hb56 y0 y1 y2 y3 hx) hk
    · refine mj_iconst (v := 1) dX11_inside_92 (by decide) ?_
      refine mj_istore_n 3 (lv2 := [(3, .int 1), (6, .long ((s.2.1 330 (l5.toNatClampNeg)) &&& ((s.2.1 331 (l5.toNatClampNeg)) ^^^ (-1 : Int64)))), (0, .ref 316), (4, .int l4), (5, .int l5)]) dX11_inside_93 rfl (by decide) rfl ?_
      refine mj_iload dX11_inside_94 4 rfl ?_
      refine mj_bipush (v := 47) dX11_inside_96 (by decide) ?_
      refine mj_irem dX11_inside_98 (by decide) ?_
      refine mj_bipush (v := 64) dX11_inside_99 (by decide) ?_
      refine mj_imul dX11_inside_101 ?_
      refine mj_lload dX11_inside_102 1 rfl ?_
      refine t_callSiP dX11_inside_104 M_J13_numberOfTrailingZeros_95d88 (C_J13_numberOfTrailingZeros_95d88 _ _) ML_X11_155 SM_J13_numberOfTrailingZeros_95d88 (As := [.long ((s.2.1 330 (l5.toNatClampNeg)) &&& ((s.2.1 331 (l5.toNatClampNeg)) ^^^ (-1 : Int64)))]) rfl rfl (Nat.le_of_ble_eq_true rfl) (Nat.le_of_ble_eq_true rfl) (Nat.le_of_ble_eq_true rfl) (Nat.le_of_ble_eq_true rfl) ?_
      refine mj_iadd dX11_inside_107 ?_
      refine mj_istore (lv2 := [(8, .int (((l5 - l5 / (47 : Int32) * (47 : Int32)) * (64 : Int32)) + (f_J13_numberOfTrailingZeros_95d88 ((s.2.1 330 (l5.toNatClampNeg)) &&& ((s.2.1 331 (l5.toNatClampNeg)) ^^^ (-1 : Int64))) s))), (3, .int 1), (6, .long ((s.2.1 330 (l5.toNatClampNeg)) &&& ((s.2.1 331 (l5.toNatClampNeg)) ^^^ (-1 : Int64)))), (0, .ref 316), (4, .int l4), (5, .int l5)]) dX11_inside_108 (by decide) rfl ?_
      refine mj_aload_n dX11_inside_110 3 rfl ?_
      refine t_getR 331 dX11_inside_111 F_X11_54 qr_316_18 ?_
      refine mj_iload dX11_inside_114 5 rfl ?_
      refine mj_dup2 dX11_inside_116 rfl rfl ?_
      refine t_lald dX11_inside_117 qa_331 (t_ixv c0) ?_
      refine mj_lload dX11_inside_118 2 rfl ?_
      refine mj_lload dX11_inside_120 2 rfl ?_
      refine mj_lneg dX11_inside_122 ?_
      refine mj_land dX11_inside_123 ?_
      refine mj_lor dX11_inside_124 ?_
      refine t_lastK dX11_inside_125 qa_331 (t_ixv c0) (fun s1 ws1 => t_letE hk ws1 (fun hk => ?_))
      refine mj_aload_n dX11_inside_126 3 rfl ?_
      refine mj_aload_n dX11_inside_127 3 rfl ?_
      refine t_getR 326 dX11_inside_128 F_X11_38 qr_316_11 ?_
      refine mj_iload dX11_inside_131 5 rfl ?_
      refine mj_bipush (v := 47) dX11_inside_133 (by decide) ?_
      refine mj_idiv dX11_inside_135 (by decide) ?_
      refine t_chkK hk (fun c2 hk => ?_)
      refine t_iald dX11_inside_136 qa_326 (t_ixv c2) ?_
      refine mj_iload dX11_inside_137 0 rfl ?_
      refine t_bndK hk (fun r4 er4 hk => ?_)
      refine t_callViE dX11_inside_139 M_X11_treeInside (C_X11_treeInside _ _ _ _ er4) ML_X11_160 IM_X11_treeInside SE_X11_treeInside qc_316 rfl (As := [.int (s1.1 326 ((l5 / (47 : Int32)).toNatClampNeg)), .int (((l5 - l5 / (47 : Int32) * (47 : Int32)) * (64 : Int32)) + (f_J13_numberOfTrailingZeros_95d88 ((s.2.1 330 (l5.toNatClampNeg)) &&& ((s.2.1 331 (l5.toNatClampNeg)) ^^^ (-1 : Int64))) s))]) rfl rfl (Nat.le_of_ble_eq_true rfl) (Nat.le_of_ble_eq_true rfl) (Nat.le_of_ble_eq_true rfl) (Nat.le_of_ble_eq_true rfl) ?_
      refine mj_if_ne 147 dX11_inside_142 (by decide) (fun z => t_negK hk z (fun hk => ?_)) (fun z => t_posK hk z (fun hk => ?_))
      · refine mj_sublv [(0, .ref 316), (3, .int 1), (4, .int l4), (5, .int l5)] [3, 1, 4, 5] rfl ?_
        exact B_X11_inside_147 _ _ _ _ _ (fun y0 y1 y2 hx => Hb40 y0 y1 y2 hx) (fun y0 y1 y2 y3 hx => Hb56 y0 y1 y2 y3 hx) hk
      · refine t_mapK hk (fun hk => ?_)
        refine t_mapK hk (fun hk => ?_)
        refine mj_iconst (v := 0) dX11_inside_145 (by decide) ?_
        exact t_somK hk (fun hf => t_iret dX11_inside_146 rfl (by decide) ⟨_, rfl, hf⟩ (Nat.le_of_ble_eq_true rfl) (Nat.le_of_ble_eq_true rfl))
noncomputable def b_X11_inside_56 (x : Int32 × Int32 × Int32 × t_S) : Option ((Int32 × Int32 × Int32 × t_S) ⊕ ((Int32 × Int32 × t_S) ⊕ (Int32 × t_S))) := k_X11_inside_56 x.1 x.2.1 x.2.2.1 x.2.2.2
set_option maxRecDepth 4000 in
set_option maxHeartbeats 1000000 in
theorem LH_X11_inside_56 {D : va_G} {cy : Nat → ClassId} {ad : Nat → Nat} {bs : Nat} {X : State → Heap → Prop} : ∀ (n : Nat) (y0 : Int32) (y1 : Int32) (y2 : Int32) (y3 : t_S) (Q : (Int32 × Int32 × t_S) ⊕ (Int32 × t_S) → Prop) (Hb40 : ∀ (y0 : Int32) (y1 : Int32) (y2 : t_S), Q (.inl (y0, y1, y2)) → mj_G D cy ad bs X cX11_inside 9 yX11_inside.cls (some .boolean) yX11_inside.name 4 0 0 1065 (t_P (fun v s' => ∃ x, v = some (.int x) ∧ Q (.inr ((x, s'))))) 40 [(0, .ref 316), (3, .int (y0)), (4, .int (y1))] [] (t_m y2) 1065 0 0) (hk : t_hk (t_loop (b_X11_inside_56) n (y0, y1, y2, y3)) Q), mj_G D cy ad bs X cX11_inside 9 yX11_inside.cls (some .boolean) yX11_inside.name 4 0 0 1065 (t_P (fun v s' => ∃ x, v = some (.int x) ∧ Q (.inr ((x, s'))))) 56 [(0, .ref 316), (3, .int (y0)), (4, .int (y1)), (5, .int (y2))] [] (t_m y3) 1065 0 0 := by
  intro n
  induction n with
  | zero => intro y0 y1 y2 y3 Q Hb40 hk; obtain ⟨r, hr, _⟩ := hk; cases hr
  | succ n ih =>
    intro y0 y1 y2 y3 Q Hb40 hk
    exact B_X11_inside_56 y0 y1 y2 y3 (fun y => t_lq (b_X11_inside_56) n Q y) (fun y0' y1' y2' hy => Hb40 y0' y1' y2' hy) (fun y0' y1' y2' y3' hy => ih y0' y1' y2' y3' Q Hb40 hy) (t_lp hk)
noncomputable def k_X11_inside_40 (l3 : Int32) (l4 : Int32) (s : t_S) : Option ((Int32 × Int32 × t_S) ⊕ (Int32 × t_S)) :=
 if l3 = (0 : Int32) then ((some ((1 : Int32), s)).map Sum.inr)
 else (if (180480 : Int32) ≤ l4 then ((some ((1 : Int32), s)).map Sum.inr)
 else (t_loop (b_X11_inside_56) t_N (0, l4, 0, s)))
set_option maxRecDepth 4000 in
set_option maxHeartbeats 1000000 in
theorem B_X11_inside_40 {D : va_G} {cy : Nat → ClassId} {ad : Nat → Nat} {bs : Nat} {X : State → Heap → Prop} (l3 : Int32) (l4 : Int32) (s : t_S) (Q : (Int32 × Int32 × t_S) ⊕ (Int32 × t_S) → Prop) (Hb40 : ∀ (y0 : Int32) (y1 : Int32) (y2 : t_S), Q (.inl (y0, y1, y2)) → mj_G D cy ad bs X cX11_inside 9 yX11_inside.cls (some .boolean) yX11_inside.name 4 0 0 1065 (t_P (fun v s' => ∃ x, v = some (.int x) ∧ Q (.inr ((x, s'))))) 40 [(0, .ref 316), (3, .int (y0)), (4, .int (y1))] [] (t_m y2) 1065 0 0) (hk : t_hk (k_X11_inside_40 l3 l4 s) Q) : mj_G D cy ad bs X cX11_inside 9 yX11_inside.cls (some .boolean) yX11_inside.name 4 0 0 1065 (t_P (fun v s' => ∃ x, v = some (.int x) ∧ Q (.inr ((x, s'))))) 40 [(0, .ref 316), (3, .int l3), (4, .int l4)] [] (t_m s) 1065 0 0 := by
  refine mj_iload_n dX11_inside_40 1 rfl ?_
  refine mj_if_eq 159 dX11_inside_41 (by decide) (fun z => t_posK hk z (fun hk => ?_)) (fun z => t_negK hk z (fun hk => ?_))
  · refine t_mapK hk (fun hk => ?_)
    refine mj_iconst (v := 1) dX11_inside_159 (by decide) ?_
    exact t_somK hk (fun hf => t_iret dX11_inside_160 rfl (by decide) ⟨_, rfl, hf⟩ (Nat.le_of_ble_eq_true rfl) (Nat.le_of_ble_eq_true rfl))
  · refine mj_iload dX11_inside_44 2 rfl ?_
    refine mj_ldc dX11_inside_46 K_X11_152 ?_
    refine mj_icmp_ge 159 dX11_inside_48 (by decide) (fun z => t_posK hk z (fun hk => ?_)) (fun z => t_negK hk z (fun hk => ?_))
    · refine t_mapK hk (fun hk => ?_)
      refine mj_iconst (v := 1) dX11_inside_159 (by decide) ?_
      exact t_somK hk (fun hf => t_iret dX11_inside_160 rfl (by decide) ⟨_, rfl, hf⟩ (Nat.le_of_ble_eq_true rfl) (Nat.le_of_ble_eq_true rfl))
    · refine mj_iconst (v := 0) dX11_inside_51 (by decide) ?_
      refine mj_istore_n 3 (lv2 := [(3, .int 0), (0, .ref 316), (4, .int l4)]) dX11_inside_52 rfl (by decide) rfl ?_
      refine mj_iconst (v := 0) dX11_inside_53 (by decide) ?_
      refine mj_istore (lv2 := [(5, .int 0), (3, .int 0), (0, .ref 316), (4, .int l4)]) dX11_inside_54 (by decide) rfl ?_
      refine mj_sublv [(0, .ref 316), (3, .int 0), (4, .int l4), (5, .int 0)] [2, 1, 3, 0] rfl ?_
      exact LH_X11_inside_56 _ 0 l4 0 s _ (fun y0 y1 y2 hx => Hb40 y0 y1 y2 hx) hk
noncomputable def b_X11_inside_40 (x : Int32 × Int32 × t_S) : Option ((Int32 × Int32 × t_S) ⊕ (Int32 × t_S)) := k_X11_inside_40 x.1 x.2.1 x.2.2
set_option maxRecDepth 4000 in
set_option maxHeartbeats 1000000 in
theorem LH_X11_inside_40 {D : va_G} {cy : Nat → ClassId} {ad : Nat → Nat} {bs : Nat} {X : State → Heap → Prop} : ∀ (n : Nat) (y0 : Int32) (y1 : Int32) (y2 : t_S) (Q : Int32 × t_S → Prop) (hk : t_hk (t_loop (b_X11_inside_40) n (y0, y1, y2)) Q), mj_G D cy ad bs X cX11_inside 9 yX11_inside.cls (some .boolean) yX11_inside.name 4 0 0 1065 (t_P (fun v s' => ∃ x, v = some (.int x) ∧ Q ((x, s')))) 40 [(0, .ref 316), (3, .int (y0)), (4, .int (y1))] [] (t_m y2) 1065 0 0 := by
  intro n
  induction n with
  | zero => intro y0 y1 y2 Q hk; obtain ⟨r, hr, _⟩ := hk; cases hr
  | succ n ih =>
    intro y0 y1 y2 Q hk
    exact B_X11_inside_40 y0 y1 y2 (fun y => t_lq (b_X11_inside_40) n Q y) (fun y0' y1' y2' hy => ih y0' y1' y2' Q hy) (t_lp hk)
noncomputable def f_X11_inside (x1 : Int32) (x2 : Int32) (s : t_S) : Option (Int32 × t_S) :=
 (f_J7_fill_d0a16 330 (0 : Int64) s).bind (fun r1 =>
 (f_J7_fill_d0a16 331 (0 : Int64) r1).bind (fun r2 =>
 (f_X11_lastNamed x1 r2).bind (fun r3 =>
 if t_ix x2 60 = true then
  (f_X11_resolve (r2.1 326 (x2.toNatClampNeg)) r2).bind (fun r5 =>
 (f_X11_mark r3 r5 r2).bind (fun r6 =>
 t_loop (b_X11_inside_40) t_N (1, 0, r6)))
else none)))
set_option maxRecDepth 4000 in
set_option maxHeartbeats 1000000 in
theorem C_X11_inside (x1 : Int32) (x2 : Int32) (s : t_S) (r : Int32 × t_S) (hr : f_X11_inside x1 x2 s = some r) : t_C yX11_inside cX11_inside 9 (some .boolean) 4 [.ref 316, .int x1, .int x2] s (fun v s' => v = some (.int r.1) ∧ s' = r.2) := by
  refine t_C.imp (P := fun v s' => ∃ x, v = some (.int x) ∧ (fun q => q = r) ((x, s'))) (t_C.of (by decide +kernel) (Nat.le_of_ble_eq_true rfl) ?_) (fun v s' hp => by obtain ⟨x, rfl, rfl⟩ := hp; exact ⟨rfl, rfl⟩)
  intro D cy ad bs X
  have hk : t_hk (f_X11_inside x1 x2 s) (fun q => q = r) := ⟨r, hr, rfl⟩
  show mj_G D cy ad bs X cX11_inside 9 yX11_inside.cls (some .boolean) yX11_inside.name 4 0 0 1065 (t_P (fun v s' => ∃ x, v = some (.int x) ∧ (fun q => q = r) ((x, s')))) 0 [(0, .ref 316), (1, .int x1), (2, .int x2)] [] (t_m s) 1065 0 0
  refine mj_aload_n dX11_inside_0 0 rfl ?_
  refine t_getR 330 dX11_inside_1 F_X11_51 qr_316_17 ?_
  refine mj_lconst (v := 0) dX11_inside_4 (by decide) ?_
  refine t_bndK hk (fun r1 er1 hk => ?_)
  refine t_callSvE dX11_inside_5 M_J7_fill_d0a16 (C_J7_fill_d0a16 _ _ _ _ er1) ML_X11_145 SM_J7_fill_d0a16 (As := [.ref 330, .long 0]) rfl rfl (Nat.le_of_ble_eq_true rfl) (Nat.le_of_ble_eq_true rfl) (Nat.le_of_ble_eq_true rfl) (Nat.le_of_ble_eq_true rfl) ?_
  refine mj_aload_n dX11_inside_8 0 rfl ?_
  refine t_getR 331 dX11_inside_9 F_X11_54 qr_316_18 ?_
  refine mj_lconst (v := 0) dX11_inside_12 (by decide) ?_
  refine t_bndK hk (fun r2 er2 hk => ?_)
  refine t_callSvE dX11_inside_13 M_J7_fill_d0a16 (C_J7_fill_d0a16 _ _ _ _ er2) ML_X11_145 SM_J7_fill_d0a16 (As := [.ref 331, .long 0]) rfl rfl (Nat.le_of_ble_eq_true rfl) (Nat.le_of_ble_eq_true rfl) (Nat.le_of_ble_eq_true rfl) (Nat.le_of_ble_eq_true rfl) ?_
  refine mj_aload_n dX11_inside_16 0 rfl ?_
  refine mj_aload_n dX11_inside_17 0 rfl ?_
  refine mj_iload_n dX11_inside_18 1 rfl ?_
  refine t_bndK hk (fun r3 er3 hk => ?_)
  refine t_callViP dX11_inside_19 M_X11_lastNamed (C_X11_lastNamed _ _ _ er3) ML_X11_75 IM_X11_lastNamed SE_X11_lastNamed qc_316 rfl (As := [.int x1]) rfl rfl (Nat.le_of_ble_eq_true rfl) (Nat.le_of_ble_eq_true rfl) (Nat.le_of_ble_eq_true rfl) (Nat.le_of_ble_eq_true rfl) ?_
  refine mj_aload_n dX11_inside_22 0 rfl ?_
  refine mj_aload_n dX11_inside_23 0 rfl ?_
  refine t_getR 326 dX11_inside_24 F_X11_38 qr_316_11 ?_
  refine mj_iload_n dX11_inside_27 2 rfl ?_
  refine t_chkK hk (fun c3 hk => ?_)
  refine t_iald dX11_inside_28 qa_326 (t_ixv c3) ?_
  refine t_bndK hk (fun r5 er5 hk => ?_)
  refine t_callViP dX11_inside_29 M_X11_resolve (C_X11_resolve _ _ _ er5) ML_X11_111 IM_X11_resolve SE_X11_resolve qc_316 rfl (As := [.int (r2.1 326 (x2.toNatClampNeg))]) rfl rfl (Nat.le_of_ble_eq_true rfl) (Nat.le_of_ble_eq_true rfl) (Nat.le_of_ble_eq_true rfl) (Nat.le_of_ble_eq_true rfl) ?_
  refine t_bndK hk (fun r6 er6 hk => ?_)
  refine t_callVvE dX11_inside_32 M_X11_mark (C_X11_mark _ _ _ _ er6) ML_X11_148 IM_X11_mark SE_X11_mark qc_316 rfl (As := [.int r3, .int r5]) rfl rfl (Nat.le_of_ble_eq_true rfl) (Nat.le_of_ble_eq_true rfl) (Nat.le_of_ble_eq_true rfl) (Nat.le_of_ble_eq_true rfl) ?_
  refine mj_iconst (v := 1) dX11_inside_35 (by decide) ?_
  refine mj_istore_n 3 (lv2 := [(3, .int 1), (0, .ref 316), (1, .int x1), (2, .int x2)]) dX11_inside_36 rfl (by decide) rfl ?_
  refine mj_iconst (v := 0) dX11_inside_37 (by decide) ?_
  refine mj_istore (lv2 := [(4, .int 0), (3, .int 1), (0, .ref 316), (1, .int x1), (2, .int x2)]) dX11_inside_38 (by decide) rfl ?_
  refine mj_sublv [(0, .ref 316), (3, .int 1), (4, .int 0)] [2, 1, 0] rfl ?_
  exact LH_X11_inside_40 _ 1 0 r6 _ hk

theorem dX11_isItself_0 : decode cX11_isItself 0 = .ok (.iload_n 1, 1) := by decide +kernel
theorem dX11_isItself_1 : decode cX11_isItself 1 = .ok (.istore_n 2, 1) := by decide +kernel
theorem dX11_isItself_10 : decode cX11_isItself 10 = .ok (.aload_n 0, 1) := by decide +kernel
theorem dX11_isItself_11 : decode cX11_isItself 11 = .ok (.getfield 9, 3) := by decide +kernel
theorem dX11_isItself_14 : decode cX11_isItself 14 = .ok (.aload_n 0, 1) := by decide +kernel
theorem dX11_isItself_15 : decode cX11_isItself 15 = .ok (.getfield 38, 3) := by decide +kernel
theorem dX11_isItself_18 : decode cX11_isItself 18 = .ok (.iload_n 2, 1) := by decide +kernel
theorem dX11_isItself_19 : decode cX11_isItself 19 = .ok (.iaload, 1) := by decide +kernel
theorem dX11_isItself_2 : decode cX11_isItself 2 = .ok (.iconst 0, 1) := by decide +kernel
theorem dX11_isItself_20 : decode cX11_isItself 20 = .ok (.iaload, 1) := by decide +kernel
theorem dX11_isItself_21 : decode cX11_isItself 21 = .ok (.bipush 8, 2) := by decide +kernel
theorem dX11_isItself_23 : decode cX11_isItself 23 = .ok (.if_icmp .eq 5, 3) := by decide +kernel
theorem dX11_isItself_26 : decode cX11_isItself 26 = .ok (.iconst 0, 1) := by decide +kernel
theorem dX11_isItself_27 : decode cX11_isItself 27 = .ok (.ireturn, 1) := by decide +kernel
theorem dX11_isItself_28 : decode cX11_isItself 28 = .ok (.aload_n 0, 1) := by decide +kernel
theorem dX11_isItself_29 : decode cX11_isItself 29 = .ok (.getfield 22, 3) := by decide +kernel
theorem dX11_isItself_3 : decode cX11_isItself 3 = .ok (.istore_n 3, 1) := by decide +kernel
theorem dX11_isItself_32 : decode cX11_isItself 32 = .ok (.aload_n 0, 1) := by decide +kernel
theorem dX11_isItself_33 : decode cX11_isItself 33 = .ok (.getfield 38, 3) := by decide +kernel
theorem dX11_isItself_36 : decode cX11_isItself 36 = .ok (.iload_n 2, 1) := by decide +kernel
theorem dX11_isItself_37 : decode cX11_isItself 37 = .ok (.iaload, 1) := by decide +kernel
theorem dX11_isItself_38 : decode cX11_isItself 38 = .ok (.iaload, 1) := by decide +kernel
theorem dX11_isItself_39 : decode cX11_isItself 39 = .ok (.istore_n 2, 1) := by decide +kernel
theorem dX11_isItself_4 : decode cX11_isItself 4 = .ok (.iload_n 3, 1) := by decide +kernel
theorem dX11_isItself_40 : decode cX11_isItself 40 = .ok (.iload_n 2, 1) := by decide +kernel
theorem dX11_isItself_41 : decode cX11_isItself 41 = .ok (.ifCond .ge 5, 3) := by decide +kernel
theorem dX11_isItself_44 : decode cX11_isItself 44 = .ok (.iconst 0, 1) := by decide +kernel
theorem dX11_isItself_45 : decode cX11_isItself 45 = .ok (.ireturn, 1) := by decide +kernel
theorem dX11_isItself_46 : decode cX11_isItself 46 = .ok (.iload_n 2, 1) := by decide +kernel
theorem dX11_isItself_47 : decode cX11_isItself 47 = .ok (.iload_n 1, 1) := by decide +kernel
theorem dX11_isItself_48 : decode cX11_isItself 48 = .ok (.if_icmp .ne 5, 3) := by decide +kernel
theorem dX11_isItself_5 : decode cX11_isItself 5 = .ok (.bipush 60, 2) := by decide +kernel
theorem dX11_isItself_51 : decode cX11_isItself 51 = .ok (.iconst 1, 1) := by decide +kernel
theorem dX11_isItself_52 : decode cX11_isItself 52 = .ok (.ireturn, 1) := by decide +kernel
theorem dX11_isItself_53 : decode cX11_isItself 53 = .ok (.iinc 3 1, 3) := by decide +kernel
theorem dX11_isItself_56 : decode cX11_isItself 56 = .ok (.goto (-52), 3) := by decide +kernel
theorem dX11_isItself_59 : decode cX11_isItself 59 = .ok (.iconst 0, 1) := by decide +kernel
theorem dX11_isItself_60 : decode cX11_isItself 60 = .ok (.ireturn, 1) := by decide +kernel
theorem dX11_isItself_7 : decode cX11_isItself 7 = .ok (.if_icmp .ge 52, 3) := by decide +kernel
noncomputable def k_X11_isItself_4 (l1 : Int32) (l2 : Int32) (l3 : Int32) (s : t_S) : Option ((Int32 × Int32 × Int32) ⊕ (Int32)) :=
 if (60 : Int32) ≤ l3 then ((some (0 : Int32)).map Sum.inr)
 else (if t_ix l2 60 = true then
  if t_ix (s.1 326 (l2.toNatClampNeg)) 3001 = true then
  if (s.1 317 ((s.1 326 (l2.toNatClampNeg)).toNatClampNeg)) = (8 : Int32) then (if (0 : Int32) ≤ (s.1 321 ((s.1 326 (l2.toNatClampNeg)).toNatClampNeg)) then (if (s.1 321 ((s.1 326 (l2.toNatClampNeg)).toNatClampNeg)) = l1 then ((some (1 : Int32)).map Sum.inr)
 else (some (.inl (l1, (s.1 321 ((s.1 326 (l2.toNatClampNeg)).toNatClampNeg)), (l3 + 1)))))
 else ((some (0 : Int32)).map Sum.inr))
 else ((some (0 : Int32)).map Sum.inr)
else none
else none)
set_option maxRecDepth 4000 in
set_option maxHeartbeats 1000000 in
theorem B_X11_isItself_4 {D : va_G} {cy : Nat → ClassId} {ad : Nat → Nat} {bs : Nat} {X : State → Heap → Prop} (l1 : Int32) (l2 : Int32) (l3 : Int32) (s : t_S) (Q : (Int32 × Int32 × Int32) ⊕ (Int32) → Prop) (Hb4 : ∀ (y0 : Int32) (y1 : Int32) (y2 : Int32), Q (.inl (y0, y1, y2)) → mj_G D cy ad bs X cX11_isItself 4 yX11_isItself.cls (some .boolean) yX11_isItself.name 0 0 0 1065 (t_P (fun v s' => s' = s ∧ ∃ x, v = some (.int x) ∧ Q (.inr (x)))) 4 [(0, .ref 316), (1, .int (y0)), (2, .int (y1)), (3, .int (y2))] [] (t_m s) 1065 0 0) (hk : t_hk (k_X11_isItself_4 l1 l2 l3 s) Q) : mj_G D cy ad bs X cX11_isItself 4 yX11_isItself.cls (some .boolean) yX11_isItself.name 0 0 0 1065 (t_P (fun v s' => s' = s ∧ ∃ x, v = some (.int x) ∧ Q (.inr (x)))) 4 [(0, .ref 316), (1, .int l1), (2, .int l2), (3, .int l3)] [] (t_m s) 1065 0 0 := by
  refine mj_iload_n dX11_isItself_4 3 rfl ?_
  refine mj_bipush (v := 60) dX11_isItself_5 (by decide) ?_
  refine mj_icmp_ge 59 dX11_isItself_7 (by decide) (fun z => t_posK hk z (fun hk => ?_)) (fun z => t_negK hk z (fun hk => ?_))
  · refine t_mapK hk (fun hk => ?_)
    refine mj_iconst (v := 0) dX11_isItself_59 (by decide) ?_
    exact t_somK hk (fun hf => t_iret dX11_isItself_60 rfl (by decide) ⟨rfl, _, rfl, hf⟩ (Nat.le_of_ble_eq_true rfl) (Nat.le_of_ble_eq_true rfl))
  · refine mj_aload_n dX11_isItself_10 0 rfl ?_
    refine t_getR 317 dX11_isItself_11 F_X11_9 qr_316_0 ?_
    refine mj_aload_n dX11_isItself_14 0 rfl ?_
    refine t_getR 326 dX11_isItself_15 F_X11_38 qr_316_11 ?_
    refine mj_iload_n dX11_isItself_18 2 rfl ?_
    refine t_chkK hk (fun c0 hk => ?_)
    refine t_iald dX11_isItself_19 qa_326 (t_ixv c0) ?_
    refine t_chkK hk (fun c1 hk => ?_)
    refine t_iald dX11_isItself_20 qa_317 (t_ixv c1) ?_
    refine mj_bipush (v := 8) dX11_isItself_21 (by decide) ?_
    refine mj_icmp_eq 28 dX11_isItself_23 (by decide) (fun z => t_posK hk z (fun hk => ?_)) (fun z => t_negK hk z (fun hk => ?_))
    · refine mj_aload_n dX11_isItself_28 0 rfl ?_
      refine t_getR 321 dX11_isItself_29 F_X11_22 qr_316_4 ?_
      refine mj_aload_n dX11_isItself_32 0 rfl ?_
      refine t_getR 326 dX11_isItself_33 F_X11_38 qr_316_11 ?_
      refine mj_iload_n dX11_isItself_36 2 rfl ?_
      refine t_iald dX11_isItself_37 qa_326 (t_ixv c0) ?_
      refine t_iald dX11_isItself_38 qa_321 (t_ixv c1) ?_
      refine mj_istore_n 2 (lv2 := [(2, .int (s.1 321 ((s.1 326 (l2.toNatClampNeg)).toNatClampNeg))), (0, .ref 316), (1, .int l1), (3, .int l3)]) dX11_isItself_39 rfl (by decide) rfl ?_
      refine mj_iload_n dX11_isItself_40 0 rfl ?_
      refine mj_if_ge 46 dX11_isItself_41 (by decide) (fun z => t_posK hk z (fun hk => ?_)) (fun z => t_negK hk z (fun hk => ?_))
      · refine mj_iload_n dX11_isItself_46 0 rfl ?_
        refine mj_iload_n dX11_isItself_47 2 rfl ?_
        refine mj_icmp_ne 53 dX11_isItself_48 (by decide) (fun z => t_negK hk z (fun hk => ?_)) (fun z => t_posK hk z (fun hk => ?_))
        · refine mj_iinc (k := 3) (v := (l3 + 1)) (lv2 := [(3, .int (l3 + 1)), (2, .int (s.1 321 ((s.1 326 (l2.toNatClampNeg)).toNatClampNeg))), (0, .ref 316), (1, .int l1)]) dX11_isItself_53 rfl rfl (by decide) rfl ?_
          refine mj_goto 4 dX11_isItself_56 (by decide) ?_
          refine mj_sublv [(0, .ref 316), (1, .int l1), (2, .int (s.1 321 ((s.1 326 (l2.toNatClampNeg)).toNatClampNeg))), (3, .int (l3 + 1))] [2, 3, 1, 0] rfl ?_
          exact t_somK hk (fun hf => Hb4 l1 (s.1 321 ((s.1 326 (l2.toNatClampNeg)).toNatClampNeg)) (l3 + 1) hf)
        · refine t_mapK hk (fun hk => ?_)
          refine mj_iconst (v := 1) dX11_isItself_51 (by decide) ?_
          exact t_somK hk (fun hf => t_iret dX11_isItself_52 rfl (by decide) ⟨rfl, _, rfl, hf⟩ (Nat.le_of_ble_eq_true rfl) (Nat.le_of_ble_eq_true rfl))
      · refine t_mapK hk (fun hk => ?_)
        refine mj_iconst (v := 0) dX11_isItself_44 (by decide) ?_
        exact t_somK hk (fun hf => t_iret dX11_isItself_45 rfl (by decide) ⟨rfl, _, rfl, hf⟩ (Nat.le_of_ble_eq_true rfl) (Nat.le_of_ble_eq_true rfl))
    · refine t_mapK hk (fun hk => ?_)
      refine mj_iconst (v := 0) dX11_isItself_26 (by decide) ?_
      exact t_somK hk (fun hf => t_iret dX11_isItself_27 rfl (by decide) ⟨rfl, _, rfl, hf⟩ (Nat.le_of_ble_eq_true rfl) (Nat.le_of_ble_eq_true rfl))
noncomputable def b_X11_isItself_4 (s : t_S) (x : Int32 × Int32 × Int32) : Option ((Int32 × Int32 × Int32) ⊕ (Int32)) := k_X11_isItself_4 x.1 x.2.1 x.2.2 s
set_option maxRecDepth 4000 in
set_option maxHeartbeats 1000000 in
theorem LH_X11_isItself_4 {D : va_G} {cy : Nat → ClassId} {ad : Nat → Nat} {bs : Nat} {X : State → Heap → Prop} (s : t_S) : ∀ (n : Nat) (y0 : Int32) (y1 : Int32) (y2 : Int32) (Q : Int32 → Prop) (hk : t_hk (t_loop (b_X11_isItself_4 s) n (y0, y1, y2)) Q), mj_G D cy ad bs X cX11_isItself 4 yX11_isItself.cls (some .boolean) yX11_isItself.name 0 0 0 1065 (t_P (fun v s' => s' = s ∧ ∃ x, v = some (.int x) ∧ Q (x))) 4 [(0, .ref 316), (1, .int (y0)), (2, .int (y1)), (3, .int (y2))] [] (t_m s) 1065 0 0 := by
  intro n
  induction n with
  | zero => intro y0 y1 y2 Q hk; obtain ⟨r, hr, _⟩ := hk; cases hr
  | succ n ih =>
    intro y0 y1 y2 Q hk
    exact B_X11_isItself_4 y0 y1 y2 s (fun y => t_lq (b_X11_isItself_4 s) n Q y) (fun y0' y1' y2' hy => ih y0' y1' y2' Q hy) (t_lp hk)
noncomputable def f_X11_isItself (x1 : Int32) (s : t_S) : Option (Int32) :=
 t_loop (b_X11_isItself_4 s) t_N (x1, x1, 0)
set_option maxRecDepth 4000 in
set_option maxHeartbeats 1000000 in
theorem C_X11_isItself (x1 : Int32) (s : t_S) (r : Int32) (hr : f_X11_isItself x1 s = some r) : t_C yX11_isItself cX11_isItself 4 (some .boolean) 0 [.ref 316, .int x1] s (fun v s' => v = some (.int r) ∧ s' = s) := by
  refine t_C.imp (P := fun v s' => s' = s ∧ ∃ x, v = some (.int x) ∧ (fun q => q = r) (x)) (t_C.of (by decide +kernel) (Nat.le_of_ble_eq_true rfl) ?_) (fun v s' hp => by obtain ⟨rfl, x, rfl, rfl⟩ := hp; exact ⟨rfl, rfl⟩)
  intro D cy ad bs X
  have hk : t_hk (f_X11_isItself x1 s) (fun q => q = r) := ⟨r, hr, rfl⟩
  show mj_G D cy ad bs X cX11_isItself 4 yX11_isItself.cls (some .boolean) yX11_isItself.name 0 0 0 1065 (t_P (fun v s' => s' = s ∧ ∃ x, v = some (.int x) ∧ (fun q => q = r) (x))) 0 [(0, .ref 316), (1, .int x1)] [] (t_m s) 1065 0 0
  refine mj_iload_n dX11_isItself_0 1 rfl ?_
  refine mj_istore_n 2 (lv2 := [(2, .int x1), (0, .ref 316), (1, .int x1)]) dX11_isItself_1 rfl (by decide) rfl ?_
  refine mj_iconst (v := 0) dX11_isItself_2 (by decide) ?_
  refine mj_istore_n 3 (lv2 := [(3, .int 0), (2, .int x1), (0, .ref 316), (1, .int x1)]) dX11_isItself_3 rfl (by decide) rfl ?_
  refine mj_sublv [(0, .ref 316), (1, .int x1), (2, .int x1), (3, .int 0)] [2, 3, 1, 0] rfl ?_
  exact LH_X11_isItself_4 _ _ x1 x1 0 _ hk

theorem dX11_leastOfChoice_0 : decode cX11_leastOfChoice 0 = .ok (.ldc 82, 2) := by decide +kernel
theorem dX11_leastOfChoice_10 : decode cX11_leastOfChoice 10 = .ok (.iconst 0, 1) := by decide +kernel
theorem dX11_leastOfChoice_11 : decode cX11_leastOfChoice 11 = .ok (.istore 4, 2) := by decide +kernel
theorem dX11_leastOfChoice_13 : decode cX11_leastOfChoice 13 = .ok (.iload 4, 2) := by decide +kernel
theorem dX11_leastOfChoice_15 : decode cX11_leastOfChoice 15 = .ok (.aload_n 0, 1) := by decide +kernel
theorem dX11_leastOfChoice_16 : decode cX11_leastOfChoice 16 = .ok (.getfield 22, 3) := by decide +kernel
theorem dX11_leastOfChoice_19 : decode cX11_leastOfChoice 19 = .ok (.iload_n 1, 1) := by decide +kernel
theorem dX11_leastOfChoice_2 : decode cX11_leastOfChoice 2 = .ok (.istore_n 2, 1) := by decide +kernel
theorem dX11_leastOfChoice_20 : decode cX11_leastOfChoice 20 = .ok (.iaload, 1) := by decide +kernel
theorem dX11_leastOfChoice_21 : decode cX11_leastOfChoice 21 = .ok (.if_icmp .ge 59, 3) := by decide +kernel
theorem dX11_leastOfChoice_24 : decode cX11_leastOfChoice 24 = .ok (.iload_n 3, 1) := by decide +kernel
theorem dX11_leastOfChoice_25 : decode cX11_leastOfChoice 25 = .ok (.ifCond .lt 55, 3) := by decide +kernel
theorem dX11_leastOfChoice_28 : decode cX11_leastOfChoice 28 = .ok (.aload_n 0, 1) := by decide +kernel
theorem dX11_leastOfChoice_29 : decode cX11_leastOfChoice 29 = .ok (.getfield 32, 3) := by decide +kernel
theorem dX11_leastOfChoice_3 : decode cX11_leastOfChoice 3 = .ok (.aload_n 0, 1) := by decide +kernel
theorem dX11_leastOfChoice_32 : decode cX11_leastOfChoice 32 = .ok (.aload_n 0, 1) := by decide +kernel
theorem dX11_leastOfChoice_33 : decode cX11_leastOfChoice 33 = .ok (.getfield 13, 3) := by decide +kernel
theorem dX11_leastOfChoice_36 : decode cX11_leastOfChoice 36 = .ok (.iload_n 3, 1) := by decide +kernel
theorem dX11_leastOfChoice_37 : decode cX11_leastOfChoice 37 = .ok (.iaload, 1) := by decide +kernel
theorem dX11_leastOfChoice_38 : decode cX11_leastOfChoice 38 = .ok (.iaload, 1) := by decide +kernel
theorem dX11_leastOfChoice_39 : decode cX11_leastOfChoice 39 = .ok (.ldc 82, 2) := by decide +kernel
theorem dX11_leastOfChoice_4 : decode cX11_leastOfChoice 4 = .ok (.getfield 13, 3) := by decide +kernel
theorem dX11_leastOfChoice_41 : decode cX11_leastOfChoice 41 = .ok (.if_icmp .ge 26, 3) := by decide +kernel
theorem dX11_leastOfChoice_44 : decode cX11_leastOfChoice 44 = .ok (.iload_n 2, 1) := by decide +kernel
theorem dX11_leastOfChoice_45 : decode cX11_leastOfChoice 45 = .ok (.ldc 94, 2) := by decide +kernel
theorem dX11_leastOfChoice_47 : decode cX11_leastOfChoice 47 = .ok (.iconst 1, 1) := by decide +kernel
theorem dX11_leastOfChoice_48 : decode cX11_leastOfChoice 48 = .ok (.aload_n 0, 1) := by decide +kernel
theorem dX11_leastOfChoice_49 : decode cX11_leastOfChoice 49 = .ok (.getfield 32, 3) := by decide +kernel
theorem dX11_leastOfChoice_52 : decode cX11_leastOfChoice 52 = .ok (.aload_n 0, 1) := by decide +kernel
theorem dX11_leastOfChoice_53 : decode cX11_leastOfChoice 53 = .ok (.getfield 13, 3) := by decide +kernel
theorem dX11_leastOfChoice_56 : decode cX11_leastOfChoice 56 = .ok (.iload_n 3, 1) := by decide +kernel
theorem dX11_leastOfChoice_57 : decode cX11_leastOfChoice 57 = .ok (.iaload, 1) := by decide +kernel
theorem dX11_leastOfChoice_58 : decode cX11_leastOfChoice 58 = .ok (.iaload, 1) := by decide +kernel
theorem dX11_leastOfChoice_59 : decode cX11_leastOfChoice 59 = .ok (.iadd, 1) := by decide +kernel
theorem dX11_leastOfChoice_60 : decode cX11_leastOfChoice 60 = .ok (.invokestatic 95, 3) := by decide +kernel
theorem dX11_leastOfChoice_63 : decode cX11_leastOfChoice 63 = .ok (.invokestatic 95, 3) := by decide +kernel
theorem dX11_leastOfChoice_66 : decode cX11_leastOfChoice 66 = .ok (.istore_n 2, 1) := by decide +kernel
theorem dX11_leastOfChoice_67 : decode cX11_leastOfChoice 67 = .ok (.aload_n 0, 1) := by decide +kernel
theorem dX11_leastOfChoice_68 : decode cX11_leastOfChoice 68 = .ok (.getfield 16, 3) := by decide +kernel
theorem dX11_leastOfChoice_7 : decode cX11_leastOfChoice 7 = .ok (.iload_n 1, 1) := by decide +kernel
theorem dX11_leastOfChoice_71 : decode cX11_leastOfChoice 71 = .ok (.iload_n 3, 1) := by decide +kernel
theorem dX11_leastOfChoice_72 : decode cX11_leastOfChoice 72 = .ok (.iaload, 1) := by decide +kernel
theorem dX11_leastOfChoice_73 : decode cX11_leastOfChoice 73 = .ok (.istore_n 3, 1) := by decide +kernel
theorem dX11_leastOfChoice_74 : decode cX11_leastOfChoice 74 = .ok (.iinc 4 1, 3) := by decide +kernel
theorem dX11_leastOfChoice_77 : decode cX11_leastOfChoice 77 = .ok (.goto (-64), 3) := by decide +kernel
theorem dX11_leastOfChoice_8 : decode cX11_leastOfChoice 8 = .ok (.iaload, 1) := by decide +kernel
theorem dX11_leastOfChoice_80 : decode cX11_leastOfChoice 80 = .ok (.iload_n 2, 1) := by decide +kernel
theorem dX11_leastOfChoice_81 : decode cX11_leastOfChoice 81 = .ok (.ireturn, 1) := by decide +kernel
theorem dX11_leastOfChoice_9 : decode cX11_leastOfChoice 9 = .ok (.istore_n 3, 1) := by decide +kernel
noncomputable def k_X11_leastOfChoice_67 (l1 : Int32) (l2 : Int32) (l3 : Int32) (l4 : Int32) (s : t_S) : Option ((Int32 × Int32 × Int32 × Int32) ⊕ (Int32)) :=
 if t_ix l3 3001 = true then
  some (.inl (l1, l2, (s.1 319 (l3.toNatClampNeg)), (l4 + 1)))
else none
set_option maxRecDepth 4000 in
set_option maxHeartbeats 1000000 in
theorem B_X11_leastOfChoice_67 {D : va_G} {cy : Nat → ClassId} {ad : Nat → Nat} {bs : Nat} {X : State → Heap → Prop} (l1 : Int32) (l2 : Int32) (l3 : Int32) (l4 : Int32) (s : t_S) (Q : (Int32 × Int32 × Int32 × Int32) ⊕ (Int32) → Prop) (Hb13 : ∀ (y0 : Int32) (y1 : Int32) (y2 : Int32) (y3 : Int32), Q (.inl (y0, y1, y2, y3)) → mj_G D cy ad bs X cX11_leastOfChoice 5 yX11_leastOfChoice.cls (some .int) yX11_leastOfChoice.name 1 0 0 1065 (t_P (fun v s' => s' = s ∧ ∃ x, v = some (.int x) ∧ Q (.inr (x)))) 13 [(0, .ref 316), (1, .int (y0)), (2, .int (y1)), (3, .int (y2)), (4, .int (y3))] [] (t_m s) 1065 0 0) (hk : t_hk (k_X11_leastOfChoice_67 l1 l2 l3 l4 s) Q) : mj_G D cy ad bs X cX11_leastOfChoice 5 yX11_leastOfChoice.cls (some .int) yX11_leastOfChoice.name 1 0 0 1065 (t_P (fun v s' => s' = s ∧ ∃ x, v = some (.int x) ∧ Q (.inr (x)))) 67 [(0, .ref 316), (1, .int l1), (2, .int l2), (3, .int l3), (4, .int l4)] [] (t_m s) 1065 0 0 := by
  refine mj_aload_n dX11_leastOfChoice_67 0 rfl ?_
  refine t_getR 319 dX11_leastOfChoice_68 F_X11_16 qr_316_2 ?_
  refine mj_iload_n dX11_leastOfChoice_71 3 rfl ?_
  refine t_chkK hk (fun c0 hk => ?_)
  refine t_iald dX11_leastOfChoice_72 qa_319 (t_ixv c0) ?_
  refine mj_istore_n 3 (lv2 := [(3, .int (s.1 319 (l3.toNatClampNeg))), (0, .ref 316), (1, .int l1), (2, .int l2), (4, .int l4)]) dX11_leastOfChoice_73 rfl (by decide) rfl ?_
  refine mj_iinc (k := 4) (v := (l4 + 1)) (lv2 := [(4, .int (l4 + 1)), (3, .int (s.1 319 (l3.toNatClampNeg))), (0, .ref 316), (1, .int l1), (2, .int l2)]) dX11_leastOfChoice_74 rfl rfl (by decide) rfl ?_
  refine mj_goto 13 dX11_leastOfChoice_77 (by decide) ?_
  refine mj_sublv [(0, .ref 316), (1, .int l1), (2, .int l2), (3, .int (s.1 319 (l3.toNatClampNeg))), (4, .int (l4 + 1))] [2, 3, 4, 1, 0] rfl ?_
  exact t_somK hk (fun hf => Hb13 l1 l2 (s.1 319 (l3.toNatClampNeg)) (l4 + 1) hf)
noncomputable def k_X11_leastOfChoice_13 (l1 : Int32) (l2 : Int32) (l3 : Int32) (l4 : Int32) (s : t_S) : Option ((Int32 × Int32 × Int32 × Int32) ⊕ (Int32)) :=
 if t_ix l1 3001 = true then
  if (s.1 321 (l1.toNatClampNeg)) ≤ l4 then ((some (l2)).map Sum.inr)
 else (if l3 < (0 : Int32) then ((some (l2)).map Sum.inr)
 else (if t_ix l3 3001 = true then
  if t_ix (s.1 318 (l3.toNatClampNeg)) 3001 = true then
  if (2000000 : Int32) ≤ (s.1 324 ((s.1 318 (l3.toNatClampNeg)).toNatClampNeg)) then (k_X11_leastOfChoice_67 l1 l2 l3 l4 s)
 else (k_X11_leastOfChoice_67 l1 (if (if ((1 : Int32) + (s.1 324 ((s.1 318 (l3.toNatClampNeg)).toNatClampNeg))) < (1000000 : Int32) then ((1 : Int32) + (s.1 324 ((s.1 318 (l3.toNatClampNeg)).toNatClampNeg))) else (1000000 : Int32)) < l2 then (if ((1 : Int32) + (s.1 324 ((s.1 318 (l3.toNatClampNeg)).toNatClampNeg))) < (1000000 : Int32) then ((1 : Int32) + (s.1 324 ((s.1 318 (l3.toNatClampNeg)).toNatClampNeg))) else (1000000 : Int32)) else l2) l3 l4 s)
else none
else none))
else none
set_option maxRecDepth 4000 in
set_option maxHeartbeats 1000000 in
theorem B_X11_leastOfChoice_13 {D : va_G} {cy : Nat → ClassId} {ad : Nat → Nat} {bs : Nat} {X : State → Heap → Prop} (l1 : Int32) (l2 : Int32) (l3 : Int32) (l4 : Int32) (s : t_S) (Q : (Int32 × Int32 × Int32 × Int32) ⊕ (Int32) → Prop) (Hb13 : ∀ (y0 : Int32) (y1 : Int32) (y2 : Int32) (y3 : Int32), Q (.inl (y0, y1, y2, y3)) → mj_G D cy ad bs X cX11_leastOfChoice 5 yX11_leastOfChoice.cls (some .int) yX11_leastOfChoice.name 1 0 0 1065 (t_P (fun v s' => s' = s ∧ ∃ x, v = some (.int x) ∧ Q (.inr (x)))) 13 [(0, .ref 316), (1, .int (y0)), (2, .int (y1)), (3, .int (y2)), (4, .int (y3))] [] (t_m s) 1065 0 0) (hk : t_hk (k_X11_leastOfChoice_13 l1 l2 l3 l4 s) Q) : mj_G D cy ad bs X cX11_leastOfChoice 5 yX11_leastOfChoice.cls (some .int) yX11_leastOfChoice.name 1 0 0 1065 (t_P (fun v s' => s' = s ∧ ∃ x, v = some (.int x) ∧ Q (.inr (x)))) 13 [(0, .ref 316), (1, .int l1), (2, .int l2), (3, .int l3), (4, .int l4)] [] (t_m s) 1065 0 0 := by
  refine mj_iload dX11_leastOfChoice_13 4 rfl ?_
  refine mj_aload_n dX11_leastOfChoice_15 0 rfl ?_
  refine t_getR 321 dX11_leastOfChoice_16 F_X11_22 qr_316_4 ?_
  refine mj_iload_n dX11_leastOfChoice_19 1 rfl ?_
  refine t_chkK hk (fun c0 hk => ?_)
  refine t_iald dX11_leastOfChoice_20 qa_321 (t_ixv c0) ?_
  refine mj_icmp_ge 80 dX11_leastOfChoice_21 (by decide) (fun z => t_posK hk z (fun hk => ?_)) (fun z => t_negK hk z (fun hk => ?_))
  · refine t_mapK hk (fun hk => ?_)
    refine mj_iload_n dX11_leastOfChoice_80 2 rfl ?_
    exact t_somK hk (fun hf => t_iret dX11_leastOfChoice_81 rfl rfl ⟨rfl, _, rfl, hf⟩ (Nat.le_of_ble_eq_true rfl) (Nat.le_of_ble_eq_true rfl))
  · refine mj_iload_n dX11_leastOfChoice_24 3 rfl ?_
    refine mj_if_lt 80 dX11_leastOfChoice_25 (by decide) (fun z => t_posK hk z (fun hk => ?_)) (fun z => t_negK hk z (fun hk => ?_))
    · refine t_mapK hk (fun hk => ?_)
      refine mj_iload_n dX11_leastOfChoice_80 2 rfl ?_
      exact t_somK hk (fun hf => t_iret dX11_leastOfChoice_81 rfl rfl ⟨rfl, _, rfl, hf⟩ (Nat.le_of_ble_eq_true rfl) (Nat.le_of_ble_eq_true rfl))
    · refine mj_aload_n dX11_leastOfChoice_28 0 rfl ?_
      refine t_getR 324 dX11_leastOfChoice_29 F_X11_32 qr_316_7 ?_
      refine mj_aload_n dX11_leastOfChoice_32 0 rfl ?_
      refine t_getR 318 dX11_leastOfChoice_33 F_X11_13 qr_316_1 ?_
      refine mj_iload_n dX11_leastOfChoice_36 3 rfl ?_
      refine t_chkK hk (fun c1 hk => ?_)
      refine t_iald dX11_leastOfChoice_37 qa_318 (t_ixv c1) ?_
      refine t_chkK hk (fun c2 hk => ?_)
      refine t_iald dX11_leastOfChoice_38 qa_324 (t_ixv c2) ?_
      refine mj_ldc dX11_leastOfChoice_39 K_X11_82 ?_
      refine mj_icmp_ge 67 dX11_leastOfChoice_41 (by decide) (fun z => t_posK hk z (fun hk => ?_)) (fun z => t_negK hk z (fun hk => ?_))
      · exact B_X11_leastOfChoice_67 _ _ _ _ _ _ (fun y0 y1 y2 y3 hx => Hb13 y0 y1 y2 y3 hx) hk
      · refine mj_iload_n dX11_leastOfChoice_44 2 rfl ?_
        refine mj_ldc dX11_leastOfChoice_45 K_X11_94 ?_
        refine mj_iconst (v := 1) dX11_leastOfChoice_47 (by decide) ?_
        refine mj_aload_n dX11_leastOfChoice_48 0 rfl ?_
        refine t_getR 324 dX11_leastOfChoice_49 F_X11_32 qr_316_7 ?_
        refine mj_aload_n dX11_leastOfChoice_52 0 rfl ?_
        refine t_getR 318 dX11_leastOfChoice_53 F_X11_13 qr_316_1 ?_
        refine mj_iload_n dX11_leastOfChoice_56 3 rfl ?_
        refine t_iald dX11_leastOfChoice_57 qa_318 (t_ixv c1) ?_
        refine t_iald dX11_leastOfChoice_58 qa_324 (t_ixv c2) ?_
        refine mj_iadd dX11_leastOfChoice_59 ?_
        refine mj_imin dX11_leastOfChoice_60 MM_min_X11_95 (Nat.le_of_ble_eq_true rfl) (Nat.le_of_ble_eq_true rfl) (Nat.le_of_ble_eq_true rfl) (Nat.le_of_ble_eq_true rfl) ?_
        refine mj_imin dX11_leastOfChoice_63 MM_min_X11_95 (Nat.le_of_ble_eq_true rfl) (Nat.le_of_ble_eq_true rfl) (Nat.le_of_ble_eq_true rfl) (Nat.le_of_ble_eq_true rfl) ?_
        refine mj_istore_n 2 (lv2 := [(2, .int (if (if ((1 : Int32) + (s.1 324 ((s.1 318 (l3.toNatClampNeg)).toNatClampNeg))) < (1000000 : Int32) then ((1 : Int32) + (s.1 324 ((s.1 318 (l3.toNatClampNeg)).toNatClampNeg))) else (1000000 : Int32)) < l2 then (if ((1 : Int32) + (s.1 324 ((s.1 318 (l3.toNatClampNeg)).toNatClampNeg))) < (1000000 : Int32) then ((1 : Int32) + (s.1 324 ((s.1 318 (l3.toNatClampNeg)).toNatClampNeg))) else (1000000 : Int32)) else l2)), (0, .ref 316), (1, .int l1), (3, .int l3), (4, .int l4)]) dX11_leastOfChoice_66 rfl (by decide) rfl ?_
        refine mj_sublv [(0, .ref 316), (1, .int l1), (2, .int (if (if ((1 : Int32) + (s.1 324 ((s.1 318 (l3.toNatClampNeg)).toNatClampNeg))) < (1000000 : Int32) then ((1 : Int32) + (s.1 324 ((s.1 318 (l3.toNatClampNeg)).toNatClampNeg))) else (1000000 : Int32)) < l2 then (if ((1 : Int32) + (s.1 324 ((s.1 318 (l3.toNatClampNeg)).toNatClampNeg))) < (1000000 : Int32) then ((1 : Int32) + (s.1 324 ((s.1 318 (l3.toNatClampNeg)).toNatClampNeg))) else (1000000 : Int32)) else l2)), (3, .int l3), (4, .int l4)] [1, 2, 0, 3, 4] rfl ?_
        exact B_X11_leastOfChoice_67 _ _ _ _ _ _ (fun y0 y1 y2 y3 hx => Hb13 y0 y1 y2 y3 hx) hk
noncomputable def b_X11_leastOfChoice_13 (s : t_S) (x : Int32 × Int32 × Int32 × Int32) : Option ((Int32 × Int32 × Int32 × Int32) ⊕ (Int32)) := k_X11_leastOfChoice_13 x.1 x.2.1 x.2.2.1 x.2.2.2 s
set_option maxRecDepth 4000 in
set_option maxHeartbeats 1000000 in
theorem LH_X11_leastOfChoice_13 {D : va_G} {cy : Nat → ClassId} {ad : Nat → Nat} {bs : Nat} {X : State → Heap → Prop} (s : t_S) : ∀ (n : Nat) (y0 : Int32) (y1 : Int32) (y2 : Int32) (y3 : Int32) (Q : Int32 → Prop) (hk : t_hk (t_loop (b_X11_leastOfChoice_13 s) n (y0, y1, y2, y3)) Q), mj_G D cy ad bs X cX11_leastOfChoice 5 yX11_leastOfChoice.cls (some .int) yX11_leastOfChoice.name 1 0 0 1065 (t_P (fun v s' => s' = s ∧ ∃ x, v = some (.int x) ∧ Q (x))) 13 [(0, .ref 316), (1, .int (y0)), (2, .int (y1)), (3, .int (y2)), (4, .int (y3))] [] (t_m s) 1065 0 0 := by
  intro n
  induction n with
  | zero => intro y0 y1 y2 y3 Q hk; obtain ⟨r, hr, _⟩ := hk; cases hr
  | succ n ih =>
    intro y0 y1 y2 y3 Q hk
    exact B_X11_leastOfChoice_13 y0 y1 y2 y3 s (fun y => t_lq (b_X11_leastOfChoice_13 s) n Q y) (fun y0' y1' y2' y3' hy => ih y0' y1' y2' y3' Q hy) (t_lp hk)
noncomputable def f_X11_leastOfChoice (x1 : Int32) (s : t_S) : Option (Int32) :=
 if t_ix x1 3001 = true then
  t_loop (b_X11_leastOfChoice_13 s) t_N (x1, 2000000, (s.1 318 (x1.toNatClampNeg)), 0)
else none
set_option maxRecDepth 4000 in
set_option maxHeartbeats 1000000 in
theorem C_X11_leastOfChoice (x1 : Int32) (s : t_S) (r : Int32) (hr : f_X11_leastOfChoice x1 s = some r) : t_C yX11_leastOfChoice cX11_leastOfChoice 5 (some .int) 1 [.ref 316, .int x1] s (fun v s' => v = some (.int r) ∧ s' = s) := by
  refine t_C.imp (P := fun v s' => s' = s ∧ ∃ x, v = some (.int x) ∧ (fun q => q = r) (x)) (t_C.of (by decide +kernel) (Nat.le_of_ble_eq_true rfl) ?_) (fun v s' hp => by obtain ⟨rfl, x, rfl, rfl⟩ := hp; exact ⟨rfl, rfl⟩)
  intro D cy ad bs X
  have hk : t_hk (f_X11_leastOfChoice x1 s) (fun q => q = r) := ⟨r, hr, rfl⟩
  show mj_G D cy ad bs X cX11_leastOfChoice 5 yX11_leastOfChoice.cls (some .int) yX11_leastOfChoice.name 1 0 0 1065 (t_P (fun v s' => s' = s ∧ ∃ x, v = some (.int x) ∧ (fun q => q = r) (x))) 0 [(0, .ref 316), (1, .int x1)] [] (t_m s) 1065 0 0
  refine mj_ldc dX11_leastOfChoice_0 K_X11_82 ?_
  refine mj_istore_n 2 (lv2 := [(2, .int 2000000), (0, .ref 316), (1, .int x1)]) dX11_leastOfChoice_2 rfl (by decide) rfl ?_
  refine mj_aload_n dX11_leastOfChoice_3 1 rfl ?_
  refine t_getR 318 dX11_leastOfChoice_4 F_X11_13 qr_316_1 ?_
  refine mj_iload_n dX11_leastOfChoice_7 2 rfl ?_
  refine t_chkK hk (fun c0 hk => ?_)
  refine t_iald dX11_leastOfChoice_8 qa_318 (t_ixv c0) ?_
  refine mj_istore_n 3 (lv2 := [(3, .int (s.1 318 (x1.toNatClampNeg))), (2, .int 2000000), (0, .ref 316), (1, .int x1)]) dX11_leastOfChoice_9 rfl (by decide) rfl ?_
  refine mj_iconst (v := 0) dX11_leastOfChoice_10 (by decide) ?_
  refine mj_istore (lv2 := [(4, .int 0), (3, .int (s.1 318 (x1.toNatClampNeg))), (2, .int 2000000), (0, .ref 316), (1, .int x1)]) dX11_leastOfChoice_11 (by decide) rfl ?_
  refine mj_sublv [(0, .ref 316), (1, .int x1), (2, .int 2000000), (3, .int (s.1 318 (x1.toNatClampNeg))), (4, .int 0)] [3, 4, 2, 1, 0] rfl ?_
  exact LH_X11_leastOfChoice_13 _ _ x1 2000000 (s.1 318 (x1.toNatClampNeg)) 0 _ hk

theorem dX11_leastOfRecord_0 : decode cX11_leastOfRecord 0 = .ok (.iconst 1, 1) := by decide +kernel
theorem dX11_leastOfRecord_1 : decode cX11_leastOfRecord 1 = .ok (.istore_n 2, 1) := by decide +kernel
theorem dX11_leastOfRecord_10 : decode cX11_leastOfRecord 10 = .ok (.istore 4, 2) := by decide +kernel
theorem dX11_leastOfRecord_12 : decode cX11_leastOfRecord 12 = .ok (.iload 4, 2) := by decide +kernel
theorem dX11_leastOfRecord_14 : decode cX11_leastOfRecord 14 = .ok (.aload_n 0, 1) := by decide +kernel
theorem dX11_leastOfRecord_15 : decode cX11_leastOfRecord 15 = .ok (.getfield 22, 3) := by decide +kernel
theorem dX11_leastOfRecord_18 : decode cX11_leastOfRecord 18 = .ok (.iload_n 1, 1) := by decide +kernel
theorem dX11_leastOfRecord_19 : decode cX11_leastOfRecord 19 = .ok (.iaload, 1) := by decide +kernel
theorem dX11_leastOfRecord_2 : decode cX11_leastOfRecord 2 = .ok (.aload_n 0, 1) := by decide +kernel
theorem dX11_leastOfRecord_20 : decode cX11_leastOfRecord 20 = .ok (.if_icmp .ge 69, 3) := by decide +kernel
theorem dX11_leastOfRecord_23 : decode cX11_leastOfRecord 23 = .ok (.iload_n 3, 1) := by decide +kernel
theorem dX11_leastOfRecord_24 : decode cX11_leastOfRecord 24 = .ok (.ifCond .lt 65, 3) := by decide +kernel
theorem dX11_leastOfRecord_27 : decode cX11_leastOfRecord 27 = .ok (.aload_n 0, 1) := by decide +kernel
theorem dX11_leastOfRecord_28 : decode cX11_leastOfRecord 28 = .ok (.getfield 22, 3) := by decide +kernel
theorem dX11_leastOfRecord_3 : decode cX11_leastOfRecord 3 = .ok (.getfield 13, 3) := by decide +kernel
theorem dX11_leastOfRecord_31 : decode cX11_leastOfRecord 31 = .ok (.iload_n 3, 1) := by decide +kernel
theorem dX11_leastOfRecord_32 : decode cX11_leastOfRecord 32 = .ok (.iaload, 1) := by decide +kernel
theorem dX11_leastOfRecord_33 : decode cX11_leastOfRecord 33 = .ok (.ifCond .ne 43, 3) := by decide +kernel
theorem dX11_leastOfRecord_36 : decode cX11_leastOfRecord 36 = .ok (.aload_n 0, 1) := by decide +kernel
theorem dX11_leastOfRecord_37 : decode cX11_leastOfRecord 37 = .ok (.getfield 32, 3) := by decide +kernel
theorem dX11_leastOfRecord_40 : decode cX11_leastOfRecord 40 = .ok (.aload_n 0, 1) := by decide +kernel
theorem dX11_leastOfRecord_41 : decode cX11_leastOfRecord 41 = .ok (.getfield 13, 3) := by decide +kernel
theorem dX11_leastOfRecord_44 : decode cX11_leastOfRecord 44 = .ok (.iload_n 3, 1) := by decide +kernel
theorem dX11_leastOfRecord_45 : decode cX11_leastOfRecord 45 = .ok (.iaload, 1) := by decide +kernel
theorem dX11_leastOfRecord_46 : decode cX11_leastOfRecord 46 = .ok (.iaload, 1) := by decide +kernel
theorem dX11_leastOfRecord_47 : decode cX11_leastOfRecord 47 = .ok (.ldc 82, 2) := by decide +kernel
theorem dX11_leastOfRecord_49 : decode cX11_leastOfRecord 49 = .ok (.if_icmp .lt 6, 3) := by decide +kernel
theorem dX11_leastOfRecord_52 : decode cX11_leastOfRecord 52 = .ok (.ldc 82, 2) := by decide +kernel
theorem dX11_leastOfRecord_54 : decode cX11_leastOfRecord 54 = .ok (.ireturn, 1) := by decide +kernel
theorem dX11_leastOfRecord_55 : decode cX11_leastOfRecord 55 = .ok (.ldc 94, 2) := by decide +kernel
theorem dX11_leastOfRecord_57 : decode cX11_leastOfRecord 57 = .ok (.iload_n 2, 1) := by decide +kernel
theorem dX11_leastOfRecord_58 : decode cX11_leastOfRecord 58 = .ok (.iconst 1, 1) := by decide +kernel
theorem dX11_leastOfRecord_59 : decode cX11_leastOfRecord 59 = .ok (.iadd, 1) := by decide +kernel
theorem dX11_leastOfRecord_6 : decode cX11_leastOfRecord 6 = .ok (.iload_n 1, 1) := by decide +kernel
theorem dX11_leastOfRecord_60 : decode cX11_leastOfRecord 60 = .ok (.aload_n 0, 1) := by decide +kernel
theorem dX11_leastOfRecord_61 : decode cX11_leastOfRecord 61 = .ok (.getfield 32, 3) := by decide +kernel
theorem dX11_leastOfRecord_64 : decode cX11_leastOfRecord 64 = .ok (.aload_n 0, 1) := by decide +kernel
theorem dX11_leastOfRecord_65 : decode cX11_leastOfRecord 65 = .ok (.getfield 13, 3) := by decide +kernel
theorem dX11_leastOfRecord_68 : decode cX11_leastOfRecord 68 = .ok (.iload_n 3, 1) := by decide +kernel
theorem dX11_leastOfRecord_69 : decode cX11_leastOfRecord 69 = .ok (.iaload, 1) := by decide +kernel
theorem dX11_leastOfRecord_7 : decode cX11_leastOfRecord 7 = .ok (.iaload, 1) := by decide +kernel
theorem dX11_leastOfRecord_70 : decode cX11_leastOfRecord 70 = .ok (.iaload, 1) := by decide +kernel
theorem dX11_leastOfRecord_71 : decode cX11_leastOfRecord 71 = .ok (.iadd, 1) := by decide +kernel
theorem dX11_leastOfRecord_72 : decode cX11_leastOfRecord 72 = .ok (.invokestatic 95, 3) := by decide +kernel
theorem dX11_leastOfRecord_75 : decode cX11_leastOfRecord 75 = .ok (.istore_n 2, 1) := by decide +kernel
theorem dX11_leastOfRecord_76 : decode cX11_leastOfRecord 76 = .ok (.aload_n 0, 1) := by decide +kernel
theorem dX11_leastOfRecord_77 : decode cX11_leastOfRecord 77 = .ok (.getfield 16, 3) := by decide +kernel
theorem dX11_leastOfRecord_8 : decode cX11_leastOfRecord 8 = .ok (.istore_n 3, 1) := by decide +kernel
theorem dX11_leastOfRecord_80 : decode cX11_leastOfRecord 80 = .ok (.iload_n 3, 1) := by decide +kernel
theorem dX11_leastOfRecord_81 : decode cX11_leastOfRecord 81 = .ok (.iaload, 1) := by decide +kernel
theorem dX11_leastOfRecord_82 : decode cX11_leastOfRecord 82 = .ok (.istore_n 3, 1) := by decide +kernel
theorem dX11_leastOfRecord_83 : decode cX11_leastOfRecord 83 = .ok (.iinc 4 1, 3) := by decide +kernel
theorem dX11_leastOfRecord_86 : decode cX11_leastOfRecord 86 = .ok (.goto (-74), 3) := by decide +kernel
theorem dX11_leastOfRecord_89 : decode cX11_leastOfRecord 89 = .ok (.iload_n 2, 1) := by decide +kernel
theorem dX11_leastOfRecord_9 : decode cX11_leastOfRecord 9 = .ok (.iconst 0, 1) := by decide +kernel
theorem dX11_leastOfRecord_90 : decode cX11_leastOfRecord 90 = .ok (.ireturn, 1) := by decide +kernel
noncomputable def k_X11_leastOfRecord_76 (l1 : Int32) (l2 : Int32) (l3 : Int32) (l4 : Int32) (s : t_S) : Option ((Int32 × Int32 × Int32 × Int32) ⊕ (Int32)) :=
 if t_ix l3 3001 = true then
  some (.inl (l1, l2, (s.1 319 (l3.toNatClampNeg)), (l4 + 1)))
else none
set_option maxRecDepth 4000 in
set_option maxHeartbeats 1000000 in
theorem B_X11_leastOfRecord_76 {D : va_G} {cy : Nat → ClassId} {ad : Nat → Nat} {bs : Nat} {X : State → Heap → Prop} (l1 : Int32) (l2 : Int32) (l3 : Int32) (l4 : Int32) (s : t_S) (Q : (Int32 × Int32 × Int32 × Int32) ⊕ (Int32) → Prop) (Hb12 : ∀ (y0 : Int32) (y1 : Int32) (y2 : Int32) (y3 : Int32), Q (.inl (y0, y1, y2, y3)) → mj_G D cy ad bs X cX11_leastOfRecord 5 yX11_leastOfRecord.cls (some .int) yX11_leastOfRecord.name 1 0 0 1065 (t_P (fun v s' => s' = s ∧ ∃ x, v = some (.int x) ∧ Q (.inr (x)))) 12 [(0, .ref 316), (1, .int (y0)), (2, .int (y1)), (3, .int (y2)), (4, .int (y3))] [] (t_m s) 1065 0 0) (hk : t_hk (k_X11_leastOfRecord_76 l1 l2 l3 l4 s) Q) : mj_G D cy ad bs X cX11_leastOfRecord 5 yX11_leastOfRecord.cls (some .int) yX11_leastOfRecord.name 1 0 0 1065 (t_P (fun v s' => s' = s ∧ ∃ x, v = some (.int x) ∧ Q (.inr (x)))) 76 [(0, .ref 316), (1, .int l1), (2, .int l2), (3, .int l3), (4, .int l4)] [] (t_m s) 1065 0 0 := by
  refine mj_aload_n dX11_leastOfRecord_76 0 rfl ?_
  refine t_getR 319 dX11_leastOfRecord_77 F_X11_16 qr_316_2 ?_
  refine mj_iload_n dX11_leastOfRecord_80 3 rfl ?_
  refine t_chkK hk (fun c0 hk => ?_)
  refine t_iald dX11_leastOfRecord_81 qa_319 (t_ixv c0) ?_
  refine mj_istore_n 3 (lv2 := [(3, .int (s.1 319 (l3.toNatClampNeg))), (0, .ref 316), (1, .int l1), (2, .int l2), (4, .int l4)]) dX11_leastOfRecord_82 rfl (by decide) rfl ?_
  refine mj_iinc (k := 4) (v := (l4 + 1)) (lv2 := [(4, .int (l4 + 1)), (3, .int (s.1 319 (l3.toNatClampNeg))), (0, .ref 316), (1, .int l1), (2, .int l2)]) dX11_leastOfRecord_83 rfl rfl (by decide) rfl ?_
  refine mj_goto 12 dX11_leastOfRecord_86 (by decide) ?_
  refine mj_sublv [(0, .ref 316), (1, .int l1), (2, .int l2), (3, .int (s.1 319 (l3.toNatClampNeg))), (4, .int (l4 + 1))] [2, 3, 4, 1, 0] rfl ?_
  exact t_somK hk (fun hf => Hb12 l1 l2 (s.1 319 (l3.toNatClampNeg)) (l4 + 1) hf)
noncomputable def k_X11_leastOfRecord_12 (l1 : Int32) (l2 : Int32) (l3 : Int32) (l4 : Int32) (s : t_S) : Option ((Int32 × Int32 × Int32 × Int32) ⊕ (Int32)) :=
 if t_ix l1 3001 = true then
  if (s.1 321 (l1.toNatClampNeg)) ≤ l4 then ((some (l2)).map Sum.inr)
 else (if l3 < (0 : Int32) then ((some (l2)).map Sum.inr)
 else (if t_ix l3 3001 = true then
  if (s.1 321 (l3.toNatClampNeg)) = (0 : Int32) then (if t_ix (s.1 318 (l3.toNatClampNeg)) 3001 = true then
  if (s.1 324 ((s.1 318 (l3.toNatClampNeg)).toNatClampNeg)) < (2000000 : Int32) then (k_X11_leastOfRecord_76 l1 (if ((l2 + (1 : Int32)) + (s.1 324 ((s.1 318 (l3.toNatClampNeg)).toNatClampNeg))) < (1000000 : Int32) then ((l2 + (1 : Int32)) + (s.1 324 ((s.1 318 (l3.toNatClampNeg)).toNatClampNeg))) else (1000000 : Int32)) l3 l4 s)
 else ((some (2000000 : Int32)).map Sum.inr)
else none)
 else (k_X11_leastOfRecord_76 l1 l2 l3 l4 s)
else none))
else none
set_option maxRecDepth 4000 in
set_option maxHeartbeats 1000000 in
theorem B_X11_leastOfRecord_12 {D : va_G} {cy : Nat → ClassId} {ad : Nat → Nat} {bs : Nat} {X : State → Heap → Prop} (l1 : Int32) (l2 : Int32) (l3 : Int32) (l4 : Int32) (s : t_S) (Q : (Int32 × Int32 × Int32 × Int32) ⊕ (Int32) → Prop) (Hb12 : ∀ (y0 : Int32) (y1 : Int32) (y2 : Int32) (y3 : Int32), Q (.inl (y0, y1, y2, y3)) → mj_G D cy ad bs X cX11_leastOfRecord 5 yX11_leastOfRecord.cls (some .int) yX11_leastOfRecord.name 1 0 0 1065 (t_P (fun v s' => s' = s ∧ ∃ x, v = some (.int x) ∧ Q (.inr (x)))) 12 [(0, .ref 316), (1, .int (y0)), (2, .int (y1)), (3, .int (y2)), (4, .int (y3))] [] (t_m s) 1065 0 0) (hk : t_hk (k_X11_leastOfRecord_12 l1 l2 l3 l4 s) Q) : mj_G D cy ad bs X cX11_leastOfRecord 5 yX11_leastOfRecord.cls (some .int) yX11_leastOfRecord.name 1 0 0 1065 (t_P (fun v s' => s' = s ∧ ∃ x, v = some (.int x) ∧ Q (.inr (x)))) 12 [(0, .ref 316), (1, .int l1), (2, .int l2), (3, .int l3), (4, .int l4)] [] (t_m s) 1065 0 0 := by
  refine mj_iload dX11_leastOfRecord_12 4 rfl ?_
  refine mj_aload_n dX11_leastOfRecord_14 0 rfl ?_
  refine t_getR 321 dX11_leastOfRecord_15 F_X11_22 qr_316_4 ?_
  refine mj_iload_n dX11_leastOfRecord_18 1 rfl ?_
  refine t_chkK hk (fun c0 hk => ?_)
  refine t_iald dX11_leastOfRecord_19 qa_321 (t_ixv c0) ?_
  refine mj_icmp_ge 89 dX11_leastOfRecord_20 (by decide) (fun z => t_posK hk z (fun hk => ?_)) (fun z => t_negK hk z (fun hk => ?_))
  · refine t_mapK hk (fun hk => ?_)
    refine mj_iload_n dX11_leastOfRecord_89 2 rfl ?_
    exact t_somK hk (fun hf => t_iret dX11_leastOfRecord_90 rfl rfl ⟨rfl, _, rfl, hf⟩ (Nat.le_of_ble_eq_true rfl) (Nat.le_of_ble_eq_true rfl))
  · refine mj_iload_n dX11_leastOfRecord_23 3 rfl ?_
    refine mj_if_lt 89 dX11_leastOfRecord_24 (by decide) (fun z => t_posK hk z (fun hk => ?_)) (fun z => t_negK hk z (fun hk => ?_))
    · refine t_mapK hk (fun hk => ?_)
      refine mj_iload_n dX11_leastOfRecord_89 2 rfl ?_
      exact t_somK hk (fun hf => t_iret dX11_leastOfRecord_90 rfl rfl ⟨rfl, _, rfl, hf⟩ (Nat.le_of_ble_eq_true rfl) (Nat.le_of_ble_eq_true rfl))
    · refine mj_aload_n dX11_leastOfRecord_27 0 rfl ?_
      refine t_getR 321 dX11_leastOfRecord_28 F_X11_22 qr_316_4 ?_
      refine mj_iload_n dX11_leastOfRecord_31 3 rfl ?_
      refine t_chkK hk (fun c1 hk => ?_)
      refine t_iald dX11_leastOfRecord_32 qa_321 (t_ixv c1) ?_
      refine mj_if_ne 76 dX11_leastOfRecord_33 (by decide) (fun z => t_negK hk z (fun hk => ?_)) (fun z => t_posK hk z (fun hk => ?_))
      · exact B_X11_leastOfRecord_76 _ _ _ _ _ _ (fun y0 y1 y2 y3 hx => Hb12 y0 y1 y2 y3 hx) hk
      · refine mj_aload_n dX11_leastOfRecord_36 0 rfl ?_
        refine t_getR 324 dX11_leastOfRecord_37 F_X11_32 qr_316_7 ?_
        refine mj_aload_n dX11_leastOfRecord_40 0 rfl ?_
        refine t_getR 318 dX11_leastOfRecord_41 F_X11_13 qr_316_1 ?_
        refine mj_iload_n dX11_leastOfRecord_44 3 rfl ?_
        refine t_iald dX11_leastOfRecord_45 qa_318 (t_ixv c1) ?_
        refine t_chkK hk (fun c2 hk => ?_)
        refine t_iald dX11_leastOfRecord_46 qa_324 (t_ixv c2) ?_
        refine mj_ldc dX11_leastOfRecord_47 K_X11_82 ?_
        refine mj_icmp_lt 55 dX11_leastOfRecord_49 (by decide) (fun z => t_posK hk z (fun hk => ?_)) (fun z => t_negK hk z (fun hk => ?_))
        · refine mj_ldc dX11_leastOfRecord_55 K_X11_94 ?_
          refine mj_iload_n dX11_leastOfRecord_57 2 rfl ?_
          refine mj_iconst (v := 1) dX11_leastOfRecord_58 (by decide) ?_
          refine mj_iadd dX11_leastOfRecord_59 ?_
          refine mj_aload_n dX11_leastOfRecord_60 0 rfl ?_
          refine t_getR 324 dX11_leastOfRecord_61 F_X11_32 qr_316_7 ?_
          refine mj_aload_n dX11_leastOfRecord_64 0 rfl ?_
          refine t_getR 318 dX11_leastOfRecord_65 F_X11_13 qr_316_1 ?_
          refine mj_iload_n dX11_leastOfRecord_68 3 rfl ?_
          refine t_iald dX11_leastOfRecord_69 qa_318 (t_ixv c1) ?_
          refine t_iald dX11_leastOfRecord_70 qa_324 (t_ixv c2) ?_
          refine mj_iadd dX11_leastOfRecord_71 ?_
          refine mj_imin dX11_leastOfRecord_72 MM_min_X11_95 (Nat.le_of_ble_eq_true rfl) (Nat.le_of_ble_eq_true rfl) (Nat.le_of_ble_eq_true rfl) (Nat.le_of_ble_eq_true rfl) ?_
          refine mj_istore_n 2 (lv2 := [(2, .int (if ((l2 + (1 : Int32)) + (s.1 324 ((s.1 318 (l3.toNatClampNeg)).toNatClampNeg))) < (1000000 : Int32) then ((l2 + (1 : Int32)) + (s.1 324 ((s.1 318 (l3.toNatClampNeg)).toNatClampNeg))) else (1000000 : Int32))), (0, .ref 316), (1, .int l1), (3, .int l3), (4, .int l4)]) dX11_leastOfRecord_75 rfl (by decide) rfl ?_
          refine mj_sublv [(0, .ref 316), (1, .int l1), (2, .int (if ((l2 + (1 : Int32)) + (s.1 324 ((s.1 318 (l3.toNatClampNeg)).toNatClampNeg))) < (1000000 : Int32) then ((l2 + (1 : Int32)) + (s.1 324 ((s.1 318 (l3.toNatClampNeg)).toNatClampNeg))) else (1000000 : Int32))), (3, .int l3), (4, .int l4)] [1, 2, 0, 3, 4] rfl ?_
          exact B_X11_leastOfRecord_76 _ _ _ _ _ _ (fun y0 y1 y2 y3 hx => Hb12 y0 y1 y2 y3 hx) hk
        · refine t_mapK hk (fun hk => ?_)
          refine mj_ldc dX11_leastOfRecord_52 K_X11_82 ?_
          exact t_somK hk (fun hf => t_iret dX11_leastOfRecord_54 rfl rfl ⟨rfl, _, rfl, hf⟩ (Nat.le_of_ble_eq_true rfl) (Nat.le_of_ble_eq_true rfl))
noncomputable def b_X11_leastOfRecord_12 (s : t_S) (x : Int32 × Int32 × Int32 × Int32) : Option ((Int32 × Int32 × Int32 × Int32) ⊕ (Int32)) := k_X11_leastOfRecord_12 x.1 x.2.1 x.2.2.1 x.2.2.2 s
set_option maxRecDepth 4000 in
set_option maxHeartbeats 1000000 in
theorem LH_X11_leastOfRecord_12 {D : va_G} {cy : Nat → ClassId} {ad : Nat → Nat} {bs : Nat} {X : State → Heap → Prop} (s : t_S) : ∀ (n : Nat) (y0 : Int32) (y1 : Int32) (y2 : Int32) (y3 : Int32) (Q : Int32 → Prop) (hk : t_hk (t_loop (b_X11_leastOfRecord_12 s) n (y0, y1, y2, y3)) Q), mj_G D cy ad bs X cX11_leastOfRecord 5 yX11_leastOfRecord.cls (some .int) yX11_leastOfRecord.name 1 0 0 1065 (t_P (fun v s' => s' = s ∧ ∃ x, v = some (.int x) ∧ Q (x))) 12 [(0, .ref 316), (1, .int (y0)), (2, .int (y1)), (3, .int (y2)), (4, .int (y3))] [] (t_m s) 1065 0 0 := by
  intro n
  induction n with
  | zero => intro y0 y1 y2 y3 Q hk; obtain ⟨r, hr, _⟩ := hk; cases hr
  | succ n ih =>
    intro y0 y1 y2 y3 Q hk
    exact B_X11_leastOfRecord_12 y0 y1 y2 y3 s (fun y => t_lq (b_X11_leastOfRecord_12 s) n Q y) (fun y0' y1' y2' y3' hy => ih y0' y1' y2' y3' Q hy) (t_lp hk)
noncomputable def f_X11_leastOfRecord (x1 : Int32) (s : t_S) : Option (Int32) :=
 if t_ix x1 3001 = true then
  t_loop (b_X11_leastOfRecord_12 s) t_N (x1, 1, (s.1 318 (x1.toNatClampNeg)), 0)
else none
set_option maxRecDepth 4000 in
set_option maxHeartbeats 1000000 in
theorem C_X11_leastOfRecord (x1 : Int32) (s : t_S) (r : Int32) (hr : f_X11_leastOfRecord x1 s = some r) : t_C yX11_leastOfRecord cX11_leastOfRecord 5 (some .int) 1 [.ref 316, .int x1] s (fun v s' => v = some (.int r) ∧ s' = s) := by
  refine t_C.imp (P := fun v s' => s' = s ∧ ∃ x, v = some (.int x) ∧ (fun q => q = r) (x)) (t_C.of (by decide +kernel) (Nat.le_of_ble_eq_true rfl) ?_) (fun v s' hp => by obtain ⟨rfl, x, rfl, rfl⟩ := hp; exact ⟨rfl, rfl⟩)
  intro D cy ad bs X
  have hk : t_hk (f_X11_leastOfRecord x1 s) (fun q => q = r) := ⟨r, hr, rfl⟩
  show mj_G D cy ad bs X cX11_leastOfRecord 5 yX11_leastOfRecord.cls (some .int) yX11_leastOfRecord.name 1 0 0 1065 (t_P (fun v s' => s' = s ∧ ∃ x, v = some (.int x) ∧ (fun q => q = r) (x))) 0 [(0, .ref 316), (1, .int x1)] [] (t_m s) 1065 0 0
  refine mj_iconst (v := 1) dX11_leastOfRecord_0 (by decide) ?_
  refine mj_istore_n 2 (lv2 := [(2, .int 1), (0, .ref 316), (1, .int x1)]) dX11_leastOfRecord_1 rfl (by decide) rfl ?_
  refine mj_aload_n dX11_leastOfRecord_2 1 rfl ?_
  refine t_getR 318 dX11_leastOfRecord_3 F_X11_13 qr_316_1 ?_
  refine mj_iload_n dX11_leastOfRecord_6 2 rfl ?_
  refine t_chkK hk (fun c0 hk => ?_)
  refine t_iald dX11_leastOfRecord_7 qa_318 (t_ixv c0) ?_
  refine mj_istore_n 3 (lv2 := [(3, .int (s.1 318 (x1.toNatClampNeg))), (2, .int 1), (0, .ref 316), (1, .int x1)]) dX11_leastOfRecord_8 rfl (by decide) rfl ?_
  refine mj_iconst (v := 0) dX11_leastOfRecord_9 (by decide) ?_
  refine mj_istore (lv2 := [(4, .int 0), (3, .int (s.1 318 (x1.toNatClampNeg))), (2, .int 1), (0, .ref 316), (1, .int x1)]) dX11_leastOfRecord_10 (by decide) rfl ?_
  refine mj_sublv [(0, .ref 316), (1, .int x1), (2, .int 1), (3, .int (s.1 318 (x1.toNatClampNeg))), (4, .int 0)] [3, 4, 2, 1, 0] rfl ?_
  exact LH_X11_leastOfRecord_12 _ _ x1 1 (s.1 318 (x1.toNatClampNeg)) 0 _ hk

