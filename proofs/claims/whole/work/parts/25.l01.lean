/-! Methods as functions, 1: J7_fill_53178, X9_quiet, X9_next, X9_canGo, X9_able, X9_is, X12_can, X9_breaking, X9_reach, X9_writeBreak, X9_follows, X12_conforms, X9_put, X12_move, X12_row, X13_in, X13_cellOf, X13_isQuiet, X13_leads, X13_can, X13_tellBreak -/
theorem qa_1059 : t_oka 1059 1 256 = true := by decide +kernel
theorem qa_1060 : t_oka 1060 1 66000 = true := by decide +kernel
theorem qa_1061 : t_oka 1061 1 65600 = true := by decide +kernel
theorem qa_1062 : t_oka 1062 1 65600 = true := by decide +kernel
theorem qa_1063 : t_oka 1063 1 65600 = true := by decide +kernel
theorem qa_1064 : t_oka 1064 3 65536 = true := by decide +kernel
theorem qa_947 : t_oka 947 1 256 = true := by decide +kernel
theorem qa_948 : t_oka 948 1 65536 = true := by decide +kernel
theorem qa_949 : t_oka 949 1 65537 = true := by decide +kernel
theorem qc_946 : t_okc 946 9 = true := by decide +kernel
theorem qc_950 : t_okc 950 13 = true := by decide +kernel
theorem qf_946_3 : t_okf 946 9 3 0 = true := by decide +kernel
theorem qf_950_183 : t_okf 950 13 183 0 = true := by decide +kernel
theorem qr_0_9 : t_okr 0 12 9 946 = true := by decide +kernel
theorem qr_946_0 : t_okr 946 9 0 947 = true := by decide +kernel
theorem qr_946_1 : t_okr 946 9 1 948 = true := by decide +kernel
theorem qr_946_2 : t_okr 946 9 2 949 = true := by decide +kernel
theorem qr_950_181 : t_okr 950 13 181 1059 = true := by decide +kernel
theorem qr_950_182 : t_okr 950 13 182 1060 = true := by decide +kernel
theorem qr_950_186 : t_okr 950 13 186 1061 = true := by decide +kernel
theorem qr_950_187 : t_okr 950 13 187 1062 = true := by decide +kernel
theorem qr_950_188 : t_okr 950 13 188 1063 = true := by decide +kernel
theorem qr_950_189 : t_okr 950 13 189 1064 = true := by decide +kernel
theorem dJ7_fill_53178_0 : decode cJ7_fill_53178 0 = .ok (.iconst 0, 1) := by decide +kernel
theorem dJ7_fill_53178_1 : decode cJ7_fill_53178 1 = .ok (.istore_n 2, 1) := by decide +kernel
theorem dJ7_fill_53178_10 : decode cJ7_fill_53178 10 = .ok (.aload_n 0, 1) := by decide +kernel
theorem dJ7_fill_53178_11 : decode cJ7_fill_53178 11 = .ok (.iload_n 2, 1) := by decide +kernel
theorem dJ7_fill_53178_12 : decode cJ7_fill_53178 12 = .ok (.iload_n 1, 1) := by decide +kernel
theorem dJ7_fill_53178_13 : decode cJ7_fill_53178 13 = .ok (.iastore, 1) := by decide +kernel
theorem dJ7_fill_53178_14 : decode cJ7_fill_53178 14 = .ok (.iinc 2 1, 3) := by decide +kernel
theorem dJ7_fill_53178_17 : decode cJ7_fill_53178 17 = .ok (.goto (-12), 3) := by decide +kernel
theorem dJ7_fill_53178_2 : decode cJ7_fill_53178 2 = .ok (.aload_n 0, 1) := by decide +kernel
theorem dJ7_fill_53178_20 : decode cJ7_fill_53178 20 = .ok (.return_, 1) := by decide +kernel
theorem dJ7_fill_53178_3 : decode cJ7_fill_53178 3 = .ok (.arraylength, 1) := by decide +kernel
theorem dJ7_fill_53178_4 : decode cJ7_fill_53178 4 = .ok (.istore_n 3, 1) := by decide +kernel
theorem dJ7_fill_53178_5 : decode cJ7_fill_53178 5 = .ok (.iload_n 2, 1) := by decide +kernel
theorem dJ7_fill_53178_6 : decode cJ7_fill_53178 6 = .ok (.iload_n 3, 1) := by decide +kernel
theorem dJ7_fill_53178_7 : decode cJ7_fill_53178 7 = .ok (.if_icmp .ge 13, 3) := by decide +kernel
noncomputable def k_J7_fill_53178_5 (l0 : Nat) (l1 : Int32) (l2 : Int32) (l3 : Int32) (s : t_S) : Option ((Nat × Int32 × Int32 × Int32 × t_S) ⊕ (t_S)) :=
 if l3 ≤ l2 then ((some (s)).map Sum.inr)
 else (if t_oka l0 1 (t_ln l0) = true then
  if t_ix l2 (t_ln l0) = true then
  t_let (t_setI s l0 (l2.toNatClampNeg) l1) (fun s1 =>
 some (.inl (l0, l1, (l2 + 1), l3, s1)))
else none
else none)
set_option maxRecDepth 4000 in
set_option maxHeartbeats 1000000 in
theorem B_J7_fill_53178_5 {D : va_G} {cy : Nat → ClassId} {ad : Nat → Nat} {bs : Nat} {X : State → Heap → Prop} (l0 : Nat) (l1 : Int32) (l2 : Int32) (l3 : Int32) (s : t_S) (Q : (Nat × Int32 × Int32 × Int32 × t_S) ⊕ (t_S) → Prop) (Hb5 : ∀ (y0 : Nat) (y1 : Int32) (y2 : Int32) (y3 : Int32) (y4 : t_S), Q (.inl (y0, y1, y2, y3, y4)) → mj_G D cy ad bs X cJ7_fill_53178 4 yJ7_fill_53178.cls none yJ7_fill_53178.name 0 0 0 1065 (t_P (fun v s' => v = none ∧ Q (.inr (s')))) 5 [(0, .ref (y0)), (1, .int (y1)), (2, .int (y2)), (3, .int (y3))] [] (t_m y4) 1065 0 0) (hk : t_hk (k_J7_fill_53178_5 l0 l1 l2 l3 s) Q) : mj_G D cy ad bs X cJ7_fill_53178 4 yJ7_fill_53178.cls none yJ7_fill_53178.name 0 0 0 1065 (t_P (fun v s' => v = none ∧ Q (.inr (s')))) 5 [(0, .ref l0), (1, .int l1), (2, .int l2), (3, .int l3)] [] (t_m s) 1065 0 0 := by
  refine mj_iload_n dJ7_fill_53178_5 2 rfl ?_
  refine mj_iload_n dJ7_fill_53178_6 3 rfl ?_
  refine mj_icmp_ge 20 dJ7_fill_53178_7 (by decide) (fun z => t_posK hk z (fun hk => ?_)) (fun z => t_negK hk z (fun hk => ?_))
  · refine t_mapK hk (fun hk => ?_)
    exact t_somK hk (fun hf => t_vret dJ7_fill_53178_20 rfl ⟨rfl, hf⟩ (Nat.le_of_ble_eq_true rfl) (Nat.le_of_ble_eq_true rfl))
  · refine mj_aload_n dJ7_fill_53178_10 0 rfl ?_
    refine mj_iload_n dJ7_fill_53178_11 2 rfl ?_
    refine mj_iload_n dJ7_fill_53178_12 1 rfl ?_
    refine t_chkK hk (fun c0 hk => ?_)
    refine t_chkK hk (fun c1 hk => ?_)
    refine t_iastK dJ7_fill_53178_13 c0 (t_ixv c1) (fun s1 ws1 => t_letE hk ws1 (fun hk => ?_))
    refine mj_iinc (k := 2) (v := (l2 + 1)) (lv2 := [(2, .int (l2 + 1)), (0, .ref l0), (1, .int l1), (3, .int l3)]) dJ7_fill_53178_14 rfl rfl (by decide) rfl ?_
    refine mj_goto 5 dJ7_fill_53178_17 (by decide) ?_
    refine mj_sublv [(0, .ref l0), (1, .int l1), (2, .int (l2 + 1)), (3, .int l3)] [1, 2, 0, 3] rfl ?_
    exact t_somK hk (fun hf => Hb5 l0 l1 (l2 + 1) l3 s1 hf)
noncomputable def b_J7_fill_53178_5 (x : Nat × Int32 × Int32 × Int32 × t_S) : Option ((Nat × Int32 × Int32 × Int32 × t_S) ⊕ (t_S)) := k_J7_fill_53178_5 x.1 x.2.1 x.2.2.1 x.2.2.2.1 x.2.2.2.2
set_option maxRecDepth 4000 in
set_option maxHeartbeats 1000000 in
theorem LH_J7_fill_53178_5 {D : va_G} {cy : Nat → ClassId} {ad : Nat → Nat} {bs : Nat} {X : State → Heap → Prop} : ∀ (n : Nat) (y0 : Nat) (y1 : Int32) (y2 : Int32) (y3 : Int32) (y4 : t_S) (Q : t_S → Prop) (hk : t_hk (t_loop (b_J7_fill_53178_5) n (y0, y1, y2, y3, y4)) Q), mj_G D cy ad bs X cJ7_fill_53178 4 yJ7_fill_53178.cls none yJ7_fill_53178.name 0 0 0 1065 (t_P (fun v s' => v = none ∧ Q (s'))) 5 [(0, .ref (y0)), (1, .int (y1)), (2, .int (y2)), (3, .int (y3))] [] (t_m y4) 1065 0 0 := by
  intro n
  induction n with
  | zero => intro y0 y1 y2 y3 y4 Q hk; obtain ⟨r, hr, _⟩ := hk; cases hr
  | succ n ih =>
    intro y0 y1 y2 y3 y4 Q hk
    exact B_J7_fill_53178_5 y0 y1 y2 y3 y4 (fun y => t_lq (b_J7_fill_53178_5) n Q y) (fun y0' y1' y2' y3' y4' hy => ih y0' y1' y2' y3' y4' Q hy) (t_lp hk)
noncomputable def f_J7_fill_53178 (x1 : Nat) (x2 : Int32) (s : t_S) : Option (t_S) :=
 if t_oka x1 1 (t_ln x1) = true then
  t_loop (b_J7_fill_53178_5) t_N (x1, x2, 0, (Int32.ofNat (t_ln x1)), s)
else none
set_option maxRecDepth 4000 in
set_option maxHeartbeats 1000000 in
theorem C_J7_fill_53178 (x1 : Nat) (x2 : Int32) (s : t_S) (r : t_S) (hr : f_J7_fill_53178 x1 x2 s = some r) : t_C yJ7_fill_53178 cJ7_fill_53178 4 none 0 [.ref x1, .int x2] s (fun v s' => v = none ∧ s' = r) := by
  refine t_C.imp (P := fun v s' => v = none ∧ (fun q => q = r) (s')) (t_C.of (by decide +kernel) (Nat.le_of_ble_eq_true rfl) ?_) (fun v s' hp => hp)
  intro D cy ad bs X
  have hk : t_hk (f_J7_fill_53178 x1 x2 s) (fun q => q = r) := ⟨r, hr, rfl⟩
  show mj_G D cy ad bs X cJ7_fill_53178 4 yJ7_fill_53178.cls none yJ7_fill_53178.name 0 0 0 1065 (t_P (fun v s' => v = none ∧ (fun q => q = r) (s'))) 0 [(0, .ref x1), (1, .int x2)] [] (t_m s) 1065 0 0
  refine mj_iconst (v := 0) dJ7_fill_53178_0 (by decide) ?_
  refine mj_istore_n 2 (lv2 := [(2, .int 0), (0, .ref x1), (1, .int x2)]) dJ7_fill_53178_1 rfl (by decide) rfl ?_
  refine mj_aload_n dJ7_fill_53178_2 1 rfl ?_
  refine t_chkK hk (fun c0 hk => ?_)
  refine t_alen1 (v := (Int32.ofNat (t_ln x1))) dJ7_fill_53178_3 c0 rfl ?_
  refine mj_istore_n 3 (lv2 := [(3, .int (Int32.ofNat (t_ln x1))), (2, .int 0), (0, .ref x1), (1, .int x2)]) dJ7_fill_53178_4 rfl (by decide) rfl ?_
  refine mj_sublv [(0, .ref x1), (1, .int x2), (2, .int 0), (3, .int (Int32.ofNat (t_ln x1)))] [2, 3, 1, 0] rfl ?_
  exact LH_J7_fill_53178_5 _ x1 x2 0 (Int32.ofNat (t_ln x1)) s _ hk

theorem dX9_quiet_0 : decode cX9_quiet 0 = .ok (.iload_n 1, 1) := by decide +kernel
theorem dX9_quiet_1 : decode cX9_quiet 1 = .ok (.bipush 8, 2) := by decide +kernel
theorem dX9_quiet_10 : decode cX9_quiet 10 = .ok (.aload_n 0, 1) := by decide +kernel
theorem dX9_quiet_11 : decode cX9_quiet 11 = .ok (.getfield 9, 3) := by decide +kernel
theorem dX9_quiet_14 : decode cX9_quiet 14 = .ok (.iload_n 3, 1) := by decide +kernel
theorem dX9_quiet_15 : decode cX9_quiet 15 = .ok (.iconst 4, 1) := by decide +kernel
theorem dX9_quiet_16 : decode cX9_quiet 16 = .ok (.iadd, 1) := by decide +kernel
theorem dX9_quiet_17 : decode cX9_quiet 17 = .ok (.iaload, 1) := by decide +kernel
theorem dX9_quiet_18 : decode cX9_quiet 18 = .ok (.aload_n 0, 1) := by decide +kernel
theorem dX9_quiet_19 : decode cX9_quiet 19 = .ok (.getfield 9, 3) := by decide +kernel
theorem dX9_quiet_22 : decode cX9_quiet 22 = .ok (.iload_n 3, 1) := by decide +kernel
theorem dX9_quiet_23 : decode cX9_quiet 23 = .ok (.iconst 5, 1) := by decide +kernel
theorem dX9_quiet_24 : decode cX9_quiet 24 = .ok (.iadd, 1) := by decide +kernel
theorem dX9_quiet_25 : decode cX9_quiet 25 = .ok (.iaload, 1) := by decide +kernel
theorem dX9_quiet_26 : decode cX9_quiet 26 = .ok (.ior, 1) := by decide +kernel
theorem dX9_quiet_27 : decode cX9_quiet 27 = .ok (.aload_n 0, 1) := by decide +kernel
theorem dX9_quiet_28 : decode cX9_quiet 28 = .ok (.getfield 9, 3) := by decide +kernel
theorem dX9_quiet_3 : decode cX9_quiet 3 = .ok (.imul, 1) := by decide +kernel
theorem dX9_quiet_31 : decode cX9_quiet 31 = .ok (.iload_n 3, 1) := by decide +kernel
theorem dX9_quiet_32 : decode cX9_quiet 32 = .ok (.bipush 6, 2) := by decide +kernel
theorem dX9_quiet_34 : decode cX9_quiet 34 = .ok (.iadd, 1) := by decide +kernel
theorem dX9_quiet_35 : decode cX9_quiet 35 = .ok (.iaload, 1) := by decide +kernel
theorem dX9_quiet_36 : decode cX9_quiet 36 = .ok (.ior, 1) := by decide +kernel
theorem dX9_quiet_37 : decode cX9_quiet 37 = .ok (.aload_n 0, 1) := by decide +kernel
theorem dX9_quiet_38 : decode cX9_quiet 38 = .ok (.getfield 9, 3) := by decide +kernel
theorem dX9_quiet_4 : decode cX9_quiet 4 = .ok (.iload_n 2, 1) := by decide +kernel
theorem dX9_quiet_41 : decode cX9_quiet 41 = .ok (.iload_n 3, 1) := by decide +kernel
theorem dX9_quiet_42 : decode cX9_quiet 42 = .ok (.bipush 7, 2) := by decide +kernel
theorem dX9_quiet_44 : decode cX9_quiet 44 = .ok (.iadd, 1) := by decide +kernel
theorem dX9_quiet_45 : decode cX9_quiet 45 = .ok (.iaload, 1) := by decide +kernel
theorem dX9_quiet_46 : decode cX9_quiet 46 = .ok (.ior, 1) := by decide +kernel
theorem dX9_quiet_47 : decode cX9_quiet 47 = .ok (.ifCond .ne 9, 3) := by decide +kernel
theorem dX9_quiet_5 : decode cX9_quiet 5 = .ok (.iadd, 1) := by decide +kernel
theorem dX9_quiet_50 : decode cX9_quiet 50 = .ok (.iconst 1, 1) := by decide +kernel
theorem dX9_quiet_51 : decode cX9_quiet 51 = .ok (.iload_n 2, 1) := by decide +kernel
theorem dX9_quiet_52 : decode cX9_quiet 52 = .ok (.ishl, 1) := by decide +kernel
theorem dX9_quiet_53 : decode cX9_quiet 53 = .ok (.goto 4, 3) := by decide +kernel
theorem dX9_quiet_56 : decode cX9_quiet 56 = .ok (.iconst 0, 1) := by decide +kernel
theorem dX9_quiet_57 : decode cX9_quiet 57 = .ok (.ireturn, 1) := by decide +kernel
theorem dX9_quiet_6 : decode cX9_quiet 6 = .ok (.bipush 8, 2) := by decide +kernel
theorem dX9_quiet_8 : decode cX9_quiet 8 = .ok (.imul, 1) := by decide +kernel
theorem dX9_quiet_9 : decode cX9_quiet 9 = .ok (.istore_n 3, 1) := by decide +kernel
noncomputable def f_X9_quiet (x1 : Int32) (x2 : Int32) (s : t_S) : Option (Int32) :=
 if t_ix ((((x1 * (8 : Int32)) + x2) * (8 : Int32)) + (4 : Int32)) 256 = true then
  if t_ix ((((x1 * (8 : Int32)) + x2) * (8 : Int32)) + (5 : Int32)) 256 = true then
  if t_ix ((((x1 * (8 : Int32)) + x2) * (8 : Int32)) + (6 : Int32)) 256 = true then
  if t_ix ((((x1 * (8 : Int32)) + x2) * (8 : Int32)) + (7 : Int32)) 256 = true then
  if ((((s.1 947 (((((x1 * (8 : Int32)) + x2) * (8 : Int32)) + (4 : Int32)).toNatClampNeg)) ||| (s.1 947 (((((x1 * (8 : Int32)) + x2) * (8 : Int32)) + (5 : Int32)).toNatClampNeg))) ||| (s.1 947 (((((x1 * (8 : Int32)) + x2) * (8 : Int32)) + (6 : Int32)).toNatClampNeg))) ||| (s.1 947 (((((x1 * (8 : Int32)) + x2) * (8 : Int32)) + (7 : Int32)).toNatClampNeg))) = (0 : Int32) then (some ((1 : Int32) <<< (x2 &&& 31)))
 else (some (0 : Int32))
else none
else none
else none
else none
set_option maxRecDepth 4000 in
set_option maxHeartbeats 1000000 in
theorem C_X9_quiet (x1 : Int32) (x2 : Int32) (s : t_S) (r : Int32) (hr : f_X9_quiet x1 x2 s = some r) : t_C yX9_quiet cX9_quiet 4 (some .int) 0 [.ref 946, .int x1, .int x2] s (fun v s' => v = some (.int r) ∧ s' = s) := by
  refine t_C.imp (P := fun v s' => s' = s ∧ ∃ x, v = some (.int x) ∧ (fun q => q = r) (x)) (t_C.of (by decide +kernel) (Nat.le_of_ble_eq_true rfl) ?_) (fun v s' hp => by obtain ⟨rfl, x, rfl, rfl⟩ := hp; exact ⟨rfl, rfl⟩)
  intro D cy ad bs X
  have hk : t_hk (f_X9_quiet x1 x2 s) (fun q => q = r) := ⟨r, hr, rfl⟩
  show mj_G D cy ad bs X cX9_quiet 4 yX9_quiet.cls (some .int) yX9_quiet.name 0 0 0 1065 (t_P (fun v s' => s' = s ∧ ∃ x, v = some (.int x) ∧ (fun q => q = r) (x))) 0 [(0, .ref 946), (1, .int x1), (2, .int x2)] [] (t_m s) 1065 0 0
  refine mj_iload_n dX9_quiet_0 1 rfl ?_
  refine mj_bipush (v := 8) dX9_quiet_1 (by decide) ?_
  refine mj_imul dX9_quiet_3 ?_
  refine mj_iload_n dX9_quiet_4 2 rfl ?_
  refine mj_iadd dX9_quiet_5 ?_
  refine mj_bipush (v := 8) dX9_quiet_6 (by decide) ?_
  refine mj_imul dX9_quiet_8 ?_
  refine mj_istore_n 3 (lv2 := [(3, .int (((x1 * (8 : Int32)) + x2) * (8 : Int32))), (0, .ref 946), (1, .int x1), (2, .int x2)]) dX9_quiet_9 rfl (by decide) rfl ?_
  refine mj_aload_n dX9_quiet_10 1 rfl ?_
  refine t_getR 947 dX9_quiet_11 F_X9_9 qr_946_0 ?_
  refine mj_iload_n dX9_quiet_14 0 rfl ?_
  refine mj_iconst (v := 4) dX9_quiet_15 (by decide) ?_
  refine mj_iadd dX9_quiet_16 ?_
  refine t_chkK hk (fun c0 hk => ?_)
  refine t_iald dX9_quiet_17 qa_947 (t_ixv c0) ?_
  refine mj_aload_n dX9_quiet_18 1 rfl ?_
  refine t_getR 947 dX9_quiet_19 F_X9_9 qr_946_0 ?_
  refine mj_iload_n dX9_quiet_22 0 rfl ?_
  refine mj_iconst (v := 5) dX9_quiet_23 (by decide) ?_
  refine mj_iadd dX9_quiet_24 ?_
  refine t_chkK hk (fun c1 hk => ?_)
  refine t_iald dX9_quiet_25 qa_947 (t_ixv c1) ?_
  refine mj_ior dX9_quiet_26 ?_
  refine mj_aload_n dX9_quiet_27 1 rfl ?_
  refine t_getR 947 dX9_quiet_28 F_X9_9 qr_946_0 ?_
  refine mj_iload_n dX9_quiet_31 0 rfl ?_
  refine mj_bipush (v := 6) dX9_quiet_32 (by decide) ?_
  refine mj_iadd dX9_quiet_34 ?_
  refine t_chkK hk (fun c2 hk => ?_)
  refine t_iald dX9_quiet_35 qa_947 (t_ixv c2) ?_
  refine mj_ior dX9_quiet_36 ?_
  refine mj_aload_n dX9_quiet_37 1 rfl ?_
  refine t_getR 947 dX9_quiet_38 F_X9_9 qr_946_0 ?_
  refine mj_iload_n dX9_quiet_41 0 rfl ?_
  refine mj_bipush (v := 7) dX9_quiet_42 (by decide) ?_
  refine mj_iadd dX9_quiet_44 ?_
  refine t_chkK hk (fun c3 hk => ?_)
  refine t_iald dX9_quiet_45 qa_947 (t_ixv c3) ?_
  refine mj_ior dX9_quiet_46 ?_
  refine mj_if_ne 56 dX9_quiet_47 (by decide) (fun z => t_negK hk z (fun hk => ?_)) (fun z => t_posK hk z (fun hk => ?_))
  · refine mj_iconst (v := 0) dX9_quiet_56 (by decide) ?_
    exact t_somK hk (fun hf => t_iret dX9_quiet_57 rfl rfl ⟨rfl, _, rfl, hf⟩ (Nat.le_of_ble_eq_true rfl) (Nat.le_of_ble_eq_true rfl))
  · refine mj_iconst (v := 1) dX9_quiet_50 (by decide) ?_
    refine mj_iload_n dX9_quiet_51 3 rfl ?_
    refine mj_ishl dX9_quiet_52 ?_
    refine mj_goto 57 dX9_quiet_53 (by decide) ?_
    exact t_somK hk (fun hf => t_iret dX9_quiet_57 rfl rfl ⟨rfl, _, rfl, hf⟩ (Nat.le_of_ble_eq_true rfl) (Nat.le_of_ble_eq_true rfl))

theorem dX9_next_0 : decode cX9_next 0 = .ok (.iconst 0, 1) := by decide +kernel
theorem dX9_next_1 : decode cX9_next 1 = .ok (.istore 4, 2) := by decide +kernel
theorem dX9_next_10 : decode cX9_next 10 = .ok (.if_icmp .ge 56, 3) := by decide +kernel
theorem dX9_next_13 : decode cX9_next 13 = .ok (.iload_n 2, 1) := by decide +kernel
theorem dX9_next_14 : decode cX9_next 14 = .ok (.iload 5, 2) := by decide +kernel
theorem dX9_next_16 : decode cX9_next 16 = .ok (.ishr, 1) := by decide +kernel
theorem dX9_next_17 : decode cX9_next 17 = .ok (.iconst 1, 1) := by decide +kernel
theorem dX9_next_18 : decode cX9_next 18 = .ok (.iand, 1) := by decide +kernel
theorem dX9_next_19 : decode cX9_next 19 = .ok (.ifCond .eq 41, 3) := by decide +kernel
theorem dX9_next_22 : decode cX9_next 22 = .ok (.iload 4, 2) := by decide +kernel
theorem dX9_next_24 : decode cX9_next 24 = .ok (.iload_n 3, 1) := by decide +kernel
theorem dX9_next_25 : decode cX9_next 25 = .ok (.bipush 8, 2) := by decide +kernel
theorem dX9_next_27 : decode cX9_next 27 = .ok (.if_icmp .ne 13, 3) := by decide +kernel
theorem dX9_next_3 : decode cX9_next 3 = .ok (.iconst 0, 1) := by decide +kernel
theorem dX9_next_30 : decode cX9_next 30 = .ok (.aload_n 0, 1) := by decide +kernel
theorem dX9_next_31 : decode cX9_next 31 = .ok (.iload_n 1, 1) := by decide +kernel
theorem dX9_next_32 : decode cX9_next 32 = .ok (.iload 5, 2) := by decide +kernel
theorem dX9_next_34 : decode cX9_next 34 = .ok (.invokevirtual 21, 3) := by decide +kernel
theorem dX9_next_37 : decode cX9_next 37 = .ok (.goto 20, 3) := by decide +kernel
theorem dX9_next_4 : decode cX9_next 4 = .ok (.istore 5, 2) := by decide +kernel
theorem dX9_next_40 : decode cX9_next 40 = .ok (.aload_n 0, 1) := by decide +kernel
theorem dX9_next_41 : decode cX9_next 41 = .ok (.getfield 9, 3) := by decide +kernel
theorem dX9_next_44 : decode cX9_next 44 = .ok (.iload_n 1, 1) := by decide +kernel
theorem dX9_next_45 : decode cX9_next 45 = .ok (.bipush 8, 2) := by decide +kernel
theorem dX9_next_47 : decode cX9_next 47 = .ok (.imul, 1) := by decide +kernel
theorem dX9_next_48 : decode cX9_next 48 = .ok (.iload 5, 2) := by decide +kernel
theorem dX9_next_50 : decode cX9_next 50 = .ok (.iadd, 1) := by decide +kernel
theorem dX9_next_51 : decode cX9_next 51 = .ok (.bipush 8, 2) := by decide +kernel
theorem dX9_next_53 : decode cX9_next 53 = .ok (.imul, 1) := by decide +kernel
theorem dX9_next_54 : decode cX9_next 54 = .ok (.iload_n 3, 1) := by decide +kernel
theorem dX9_next_55 : decode cX9_next 55 = .ok (.iadd, 1) := by decide +kernel
theorem dX9_next_56 : decode cX9_next 56 = .ok (.iaload, 1) := by decide +kernel
theorem dX9_next_57 : decode cX9_next 57 = .ok (.ior, 1) := by decide +kernel
theorem dX9_next_58 : decode cX9_next 58 = .ok (.istore 4, 2) := by decide +kernel
theorem dX9_next_6 : decode cX9_next 6 = .ok (.iload 5, 2) := by decide +kernel
theorem dX9_next_60 : decode cX9_next 60 = .ok (.iinc 5 1, 3) := by decide +kernel
theorem dX9_next_63 : decode cX9_next 63 = .ok (.goto (-57), 3) := by decide +kernel
theorem dX9_next_66 : decode cX9_next 66 = .ok (.iload 4, 2) := by decide +kernel
theorem dX9_next_68 : decode cX9_next 68 = .ok (.ireturn, 1) := by decide +kernel
theorem dX9_next_8 : decode cX9_next 8 = .ok (.bipush 8, 2) := by decide +kernel
noncomputable def k_X9_next_60 (l1 : Int32) (l2 : Int32) (l3 : Int32) (l4 : Int32) (l5 : Int32) (s : t_S) : Option ((Int32 × Int32 × Int32 × Int32 × Int32) ⊕ (Int32)) :=
 some (.inl (l1, l2, l3, l4, (l5 + 1)))
set_option maxRecDepth 4000 in
set_option maxHeartbeats 1000000 in
theorem B_X9_next_60 {D : va_G} {cy : Nat → ClassId} {ad : Nat → Nat} {bs : Nat} {X : State → Heap → Prop} (l1 : Int32) (l2 : Int32) (l3 : Int32) (l4 : Int32) (l5 : Int32) (s : t_S) (Q : (Int32 × Int32 × Int32 × Int32 × Int32) ⊕ (Int32) → Prop) (Hb6 : ∀ (y0 : Int32) (y1 : Int32) (y2 : Int32) (y3 : Int32) (y4 : Int32), Q (.inl (y0, y1, y2, y3, y4)) → mj_G D cy ad bs X cX9_next 6 yX9_next.cls (some .int) yX9_next.name 1 0 0 1065 (t_P (fun v s' => s' = s ∧ ∃ x, v = some (.int x) ∧ Q (.inr (x)))) 6 [(0, .ref 946), (1, .int (y0)), (2, .int (y1)), (3, .int (y2)), (4, .int (y3)), (5, .int (y4))] [] (t_m s) 1065 0 0) (hk : t_hk (k_X9_next_60 l1 l2 l3 l4 l5 s) Q) : mj_G D cy ad bs X cX9_next 6 yX9_next.cls (some .int) yX9_next.name 1 0 0 1065 (t_P (fun v s' => s' = s ∧ ∃ x, v = some (.int x) ∧ Q (.inr (x)))) 60 [(0, .ref 946), (1, .int l1), (2, .int l2), (3, .int l3), (4, .int l4), (5, .int l5)] [] (t_m s) 1065 0 0 := by
  refine mj_iinc (k := 5) (v := (l5 + 1)) (lv2 := [(5, .int (l5 + 1)), (0, .ref 946), (1, .int l1), (2, .int l2), (3, .int l3), (4, .int l4)]) dX9_next_60 rfl rfl (by decide) rfl ?_
  refine mj_goto 6 dX9_next_63 (by decide) ?_
  refine mj_sublv [(0, .ref 946), (1, .int l1), (2, .int l2), (3, .int l3), (4, .int l4), (5, .int (l5 + 1))] [1, 2, 3, 4, 5, 0] rfl ?_
  exact t_somK hk (fun hf => Hb6 l1 l2 l3 l4 (l5 + 1) hf)
noncomputable def k_X9_next_57 (l1 : Int32) (l2 : Int32) (l3 : Int32) (l5 : Int32) (k0 : Int32) (k1 : Int32) (s : t_S) : Option ((Int32 × Int32 × Int32 × Int32 × Int32) ⊕ (Int32)) :=
 k_X9_next_60 l1 l2 l3 (k1 ||| k0) l5 s
set_option maxRecDepth 4000 in
set_option maxHeartbeats 1000000 in
theorem B_X9_next_57 {D : va_G} {cy : Nat → ClassId} {ad : Nat → Nat} {bs : Nat} {X : State → Heap → Prop} (l1 : Int32) (l2 : Int32) (l3 : Int32) (l5 : Int32) (k0 : Int32) (k1 : Int32) (s : t_S) (Q : (Int32 × Int32 × Int32 × Int32 × Int32) ⊕ (Int32) → Prop) (Hb6 : ∀ (y0 : Int32) (y1 : Int32) (y2 : Int32) (y3 : Int32) (y4 : Int32), Q (.inl (y0, y1, y2, y3, y4)) → mj_G D cy ad bs X cX9_next 6 yX9_next.cls (some .int) yX9_next.name 1 0 0 1065 (t_P (fun v s' => s' = s ∧ ∃ x, v = some (.int x) ∧ Q (.inr (x)))) 6 [(0, .ref 946), (1, .int (y0)), (2, .int (y1)), (3, .int (y2)), (4, .int (y3)), (5, .int (y4))] [] (t_m s) 1065 0 0) (hk : t_hk (k_X9_next_57 l1 l2 l3 l5 k0 k1 s) Q) : mj_G D cy ad bs X cX9_next 6 yX9_next.cls (some .int) yX9_next.name 1 0 0 1065 (t_P (fun v s' => s' = s ∧ ∃ x, v = some (.int x) ∧ Q (.inr (x)))) 57 [(0, .ref 946), (1, .int l1), (2, .int l2), (3, .int l3), (5, .int l5)] [.int k0, .int k1] (t_m s) 1065 0 0 := by
  refine mj_ior dX9_next_57 ?_
  refine mj_istore (lv2 := [(4, .int (k1 ||| k0)), (0, .ref 946), (1, .int l1), (2, .int l2), (3, .int l3), (5, .int l5)]) dX9_next_58 (by decide) rfl ?_
  refine mj_sublv [(0, .ref 946), (1, .int l1), (2, .int l2), (3, .int l3), (4, .int (k1 ||| k0)), (5, .int l5)] [1, 2, 3, 4, 0, 5] rfl ?_
  exact B_X9_next_60 _ _ _ _ _ _ _ (fun y0 y1 y2 y3 y4 hx => Hb6 y0 y1 y2 y3 y4 hx) hk
noncomputable def k_X9_next_6 (l1 : Int32) (l2 : Int32) (l3 : Int32) (l4 : Int32) (l5 : Int32) (s : t_S) : Option ((Int32 × Int32 × Int32 × Int32 × Int32) ⊕ (Int32)) :=
 if (8 : Int32) ≤ l5 then ((some (l4)).map Sum.inr)
 else (if ((l2 >>> (l5 &&& 31)) &&& (1 : Int32)) = (0 : Int32) then (k_X9_next_60 l1 l2 l3 l4 l5 s)
 else (if l3 = (8 : Int32) then ((f_X9_quiet l1 l5 s).bind (fun r2 =>
 k_X9_next_57 l1 l2 l3 l5 r2 l4 s))
 else (if t_ix ((((l1 * (8 : Int32)) + l5) * (8 : Int32)) + l3) 256 = true then
  k_X9_next_57 l1 l2 l3 l5 (s.1 947 (((((l1 * (8 : Int32)) + l5) * (8 : Int32)) + l3).toNatClampNeg)) l4 s
else none)))
set_option maxRecDepth 4000 in
set_option maxHeartbeats 1000000 in
theorem B_X9_next_6 {D : va_G} {cy : Nat → ClassId} {ad : Nat → Nat} {bs : Nat} {X : State → Heap → Prop} (l1 : Int32) (l2 : Int32) (l3 : Int32) (l4 : Int32) (l5 : Int32) (s : t_S) (Q : (Int32 × Int32 × Int32 × Int32 × Int32) ⊕ (Int32) → Prop) (Hb6 : ∀ (y0 : Int32) (y1 : Int32) (y2 : Int32) (y3 : Int32) (y4 : Int32), Q (.inl (y0, y1, y2, y3, y4)) → mj_G D cy ad bs X cX9_next 6 yX9_next.cls (some .int) yX9_next.name 1 0 0 1065 (t_P (fun v s' => s' = s ∧ ∃ x, v = some (.int x) ∧ Q (.inr (x)))) 6 [(0, .ref 946), (1, .int (y0)), (2, .int (y1)), (3, .int (y2)), (4, .int (y3)), (5, .int (y4))] [] (t_m s) 1065 0 0) (hk : t_hk (k_X9_next_6 l1 l2 l3 l4 l5 s) Q) : mj_G D cy ad bs X cX9_next 6 yX9_next.cls (some .int) yX9_next.name 1 0 0 1065 (t_P (fun v s' => s' = s ∧ ∃ x, v = some (.int x) ∧ Q (.inr (x)))) 6 [(0, .ref 946), (1, .int l1), (2, .int l2), (3, .int l3), (4, .int l4), (5, .int l5)] [] (t_m s) 1065 0 0 := by
  refine mj_iload dX9_next_6 5 rfl ?_
  refine mj_bipush (v := 8) dX9_next_8 (by decide) ?_
  refine mj_icmp_ge 66 dX9_next_10 (by decide) (fun z => t_posK hk z (fun hk => ?_)) (fun z => t_negK hk z (fun hk => ?_))
  · refine t_mapK hk (fun hk => ?_)
    refine mj_iload dX9_next_66 4 rfl ?_
    exact t_somK hk (fun hf => t_iret dX9_next_68 rfl rfl ⟨rfl, _, rfl, hf⟩ (Nat.le_of_ble_eq_true rfl) (Nat.le_of_ble_eq_true rfl))
  · refine mj_iload_n dX9_next_13 2 rfl ?_
    refine mj_iload dX9_next_14 5 rfl ?_
    refine mj_ishr dX9_next_16 ?_
    refine mj_iconst (v := 1) dX9_next_17 (by decide) ?_
    refine mj_iand dX9_next_18 ?_
    refine mj_if_eq 60 dX9_next_19 (by decide) (fun z => t_posK hk z (fun hk => ?_)) (fun z => t_negK hk z (fun hk => ?_))
    · exact B_X9_next_60 _ _ _ _ _ _ _ (fun y0 y1 y2 y3 y4 hx => Hb6 y0 y1 y2 y3 y4 hx) hk
    · refine mj_iload dX9_next_22 4 rfl ?_
      refine mj_iload_n dX9_next_24 3 rfl ?_
      refine mj_bipush (v := 8) dX9_next_25 (by decide) ?_
      refine mj_icmp_ne 40 dX9_next_27 (by decide) (fun z => t_negK hk z (fun hk => ?_)) (fun z => t_posK hk z (fun hk => ?_))
      · refine mj_aload_n dX9_next_40 0 rfl ?_
        refine t_getR 947 dX9_next_41 F_X9_9 qr_946_0 ?_
        refine mj_iload_n dX9_next_44 1 rfl ?_
        refine mj_bipush (v := 8) dX9_next_45 (by decide) ?_
        refine mj_imul dX9_next_47 ?_
        refine mj_iload dX9_next_48 5 rfl ?_
        refine mj_iadd dX9_next_50 ?_
        refine mj_bipush (v := 8) dX9_next_51 (by decide) ?_
        refine mj_imul dX9_next_53 ?_
        refine mj_iload_n dX9_next_54 3 rfl ?_
        refine mj_iadd dX9_next_55 ?_
        refine t_chkK hk (fun c0 hk => ?_)
        refine t_iald dX9_next_56 qa_947 (t_ixv c0) ?_
        refine mj_sublv [(0, .ref 946), (1, .int l1), (2, .int l2), (3, .int l3), (5, .int l5)] [0, 1, 2, 3, 5] rfl ?_
        exact B_X9_next_57 _ _ _ _ _ _ _ _ (fun y0 y1 y2 y3 y4 hx => Hb6 y0 y1 y2 y3 y4 hx) hk
      · refine mj_aload_n dX9_next_30 0 rfl ?_
        refine mj_iload_n dX9_next_31 1 rfl ?_
        refine mj_iload dX9_next_32 5 rfl ?_
        refine t_bndK hk (fun r2 er2 hk => ?_)
        refine t_callViP dX9_next_34 M_X9_quiet (C_X9_quiet _ _ _ _ er2) ML_X9_21 IM_X9_quiet SE_X9_quiet qc_946 rfl (As := [.int l1, .int l5]) rfl rfl (Nat.le_of_ble_eq_true rfl) (Nat.le_of_ble_eq_true rfl) (Nat.le_of_ble_eq_true rfl) (Nat.le_of_ble_eq_true rfl) ?_
        refine mj_goto 57 dX9_next_37 (by decide) ?_
        refine mj_sublv [(0, .ref 946), (1, .int l1), (2, .int l2), (3, .int l3), (5, .int l5)] [0, 1, 2, 3, 5] rfl ?_
        exact B_X9_next_57 _ _ _ _ _ _ _ _ (fun y0 y1 y2 y3 y4 hx => Hb6 y0 y1 y2 y3 y4 hx) hk
noncomputable def b_X9_next_6 (s : t_S) (x : Int32 × Int32 × Int32 × Int32 × Int32) : Option ((Int32 × Int32 × Int32 × Int32 × Int32) ⊕ (Int32)) := k_X9_next_6 x.1 x.2.1 x.2.2.1 x.2.2.2.1 x.2.2.2.2 s
set_option maxRecDepth 4000 in
set_option maxHeartbeats 1000000 in
theorem LH_X9_next_6 {D : va_G} {cy : Nat → ClassId} {ad : Nat → Nat} {bs : Nat} {X : State → Heap → Prop} (s : t_S) : ∀ (n : Nat) (y0 : Int32) (y1 : Int32) (y2 : Int32) (y3 : Int32) (y4 : Int32) (Q : Int32 → Prop) (hk : t_hk (t_loop (b_X9_next_6 s) n (y0, y1, y2, y3, y4)) Q), mj_G D cy ad bs X cX9_next 6 yX9_next.cls (some .int) yX9_next.name 1 0 0 1065 (t_P (fun v s' => s' = s ∧ ∃ x, v = some (.int x) ∧ Q (x))) 6 [(0, .ref 946), (1, .int (y0)), (2, .int (y1)), (3, .int (y2)), (4, .int (y3)), (5, .int (y4))] [] (t_m s) 1065 0 0 := by
  intro n
  induction n with
  | zero => intro y0 y1 y2 y3 y4 Q hk; obtain ⟨r, hr, _⟩ := hk; cases hr
  | succ n ih =>
    intro y0 y1 y2 y3 y4 Q hk
    exact B_X9_next_6 y0 y1 y2 y3 y4 s (fun y => t_lq (b_X9_next_6 s) n Q y) (fun y0' y1' y2' y3' y4' hy => ih y0' y1' y2' y3' y4' Q hy) (t_lp hk)
noncomputable def f_X9_next (x1 : Int32) (x2 : Int32) (x3 : Int32) (s : t_S) : Option (Int32) :=
 t_loop (b_X9_next_6 s) t_N (x1, x2, x3, 0, 0)
set_option maxRecDepth 4000 in
set_option maxHeartbeats 1000000 in
theorem C_X9_next (x1 : Int32) (x2 : Int32) (x3 : Int32) (s : t_S) (r : Int32) (hr : f_X9_next x1 x2 x3 s = some r) : t_C yX9_next cX9_next 6 (some .int) 1 [.ref 946, .int x1, .int x2, .int x3] s (fun v s' => v = some (.int r) ∧ s' = s) := by
  refine t_C.imp (P := fun v s' => s' = s ∧ ∃ x, v = some (.int x) ∧ (fun q => q = r) (x)) (t_C.of (by decide +kernel) (Nat.le_of_ble_eq_true rfl) ?_) (fun v s' hp => by obtain ⟨rfl, x, rfl, rfl⟩ := hp; exact ⟨rfl, rfl⟩)
  intro D cy ad bs X
  have hk : t_hk (f_X9_next x1 x2 x3 s) (fun q => q = r) := ⟨r, hr, rfl⟩
  show mj_G D cy ad bs X cX9_next 6 yX9_next.cls (some .int) yX9_next.name 1 0 0 1065 (t_P (fun v s' => s' = s ∧ ∃ x, v = some (.int x) ∧ (fun q => q = r) (x))) 0 [(0, .ref 946), (1, .int x1), (2, .int x2), (3, .int x3)] [] (t_m s) 1065 0 0
  refine mj_iconst (v := 0) dX9_next_0 (by decide) ?_
  refine mj_istore (lv2 := [(4, .int 0), (0, .ref 946), (1, .int x1), (2, .int x2), (3, .int x3)]) dX9_next_1 (by decide) rfl ?_
  refine mj_iconst (v := 0) dX9_next_3 (by decide) ?_
  refine mj_istore (lv2 := [(5, .int 0), (4, .int 0), (0, .ref 946), (1, .int x1), (2, .int x2), (3, .int x3)]) dX9_next_4 (by decide) rfl ?_
  refine mj_sublv [(0, .ref 946), (1, .int x1), (2, .int x2), (3, .int x3), (4, .int 0), (5, .int 0)] [2, 3, 4, 5, 1, 0] rfl ?_
  exact LH_X9_next_6 _ _ x1 x2 x3 0 0 _ hk

theorem dX9_canGo_0 : decode cX9_canGo 0 = .ok (.aload_n 0, 1) := by decide +kernel
theorem dX9_canGo_1 : decode cX9_canGo 1 = .ok (.iload_n 1, 1) := by decide +kernel
theorem dX9_canGo_10 : decode cX9_canGo 10 = .ok (.iconst 1, 1) := by decide +kernel
theorem dX9_canGo_11 : decode cX9_canGo 11 = .ok (.goto 4, 3) := by decide +kernel
theorem dX9_canGo_14 : decode cX9_canGo 14 = .ok (.iconst 0, 1) := by decide +kernel
theorem dX9_canGo_15 : decode cX9_canGo 15 = .ok (.ireturn, 1) := by decide +kernel
theorem dX9_canGo_2 : decode cX9_canGo 2 = .ok (.iload_n 2, 1) := by decide +kernel
theorem dX9_canGo_3 : decode cX9_canGo 3 = .ok (.iload_n 3, 1) := by decide +kernel
theorem dX9_canGo_4 : decode cX9_canGo 4 = .ok (.invokevirtual 25, 3) := by decide +kernel
theorem dX9_canGo_7 : decode cX9_canGo 7 = .ok (.ifCond .eq 7, 3) := by decide +kernel
noncomputable def f_X9_canGo (x1 : Int32) (x2 : Int32) (x3 : Int32) (s : t_S) : Option (Int32) :=
 (f_X9_next x1 x2 x3 s).bind (fun r1 =>
 if r1 = (0 : Int32) then (some (0 : Int32))
 else (some (1 : Int32)))
set_option maxRecDepth 4000 in
set_option maxHeartbeats 1000000 in
theorem C_X9_canGo (x1 : Int32) (x2 : Int32) (x3 : Int32) (s : t_S) (r : Int32) (hr : f_X9_canGo x1 x2 x3 s = some r) : t_C yX9_canGo cX9_canGo 4 (some .boolean) 2 [.ref 946, .int x1, .int x2, .int x3] s (fun v s' => v = some (.int r) ∧ s' = s) := by
  refine t_C.imp (P := fun v s' => s' = s ∧ ∃ x, v = some (.int x) ∧ (fun q => q = r) (x)) (t_C.of (by decide +kernel) (Nat.le_of_ble_eq_true rfl) ?_) (fun v s' hp => by obtain ⟨rfl, x, rfl, rfl⟩ := hp; exact ⟨rfl, rfl⟩)
  intro D cy ad bs X
  have hk : t_hk (f_X9_canGo x1 x2 x3 s) (fun q => q = r) := ⟨r, hr, rfl⟩
  show mj_G D cy ad bs X cX9_canGo 4 yX9_canGo.cls (some .boolean) yX9_canGo.name 2 0 0 1065 (t_P (fun v s' => s' = s ∧ ∃ x, v = some (.int x) ∧ (fun q => q = r) (x))) 0 [(0, .ref 946), (1, .int x1), (2, .int x2), (3, .int x3)] [] (t_m s) 1065 0 0
  refine mj_aload_n dX9_canGo_0 0 rfl ?_
  refine mj_iload_n dX9_canGo_1 1 rfl ?_
  refine mj_iload_n dX9_canGo_2 2 rfl ?_
  refine mj_iload_n dX9_canGo_3 3 rfl ?_
  refine t_bndK hk (fun r1 er1 hk => ?_)
  refine t_callViP dX9_canGo_4 M_X9_next (C_X9_next _ _ _ _ _ er1) ML_X9_25 IM_X9_next SE_X9_next qc_946 rfl (As := [.int x1, .int x2, .int x3]) rfl rfl (Nat.le_of_ble_eq_true rfl) (Nat.le_of_ble_eq_true rfl) (Nat.le_of_ble_eq_true rfl) (Nat.le_of_ble_eq_true rfl) ?_
  refine mj_if_eq 14 dX9_canGo_7 (by decide) (fun z => t_posK hk z (fun hk => ?_)) (fun z => t_negK hk z (fun hk => ?_))
  · refine mj_iconst (v := 0) dX9_canGo_14 (by decide) ?_
    exact t_somK hk (fun hf => t_iret dX9_canGo_15 rfl (by decide) ⟨rfl, _, rfl, hf⟩ (Nat.le_of_ble_eq_true rfl) (Nat.le_of_ble_eq_true rfl))
  · refine mj_iconst (v := 1) dX9_canGo_10 (by decide) ?_
    refine mj_goto 15 dX9_canGo_11 (by decide) ?_
    exact t_somK hk (fun hf => t_iret dX9_canGo_15 rfl (by decide) ⟨rfl, _, rfl, hf⟩ (Nat.le_of_ble_eq_true rfl) (Nat.le_of_ble_eq_true rfl))

theorem dX9_able_0 : decode cX9_able 0 = .ok (.iconst 1, 1) := by decide +kernel
theorem dX9_able_1 : decode cX9_able 1 = .ok (.istore 4, 2) := by decide +kernel
theorem dX9_able_12 : decode cX9_able 12 = .ok (.iload 4, 2) := by decide +kernel
theorem dX9_able_14 : decode cX9_able 14 = .ok (.ifCond .eq 25, 3) := by decide +kernel
theorem dX9_able_17 : decode cX9_able 17 = .ok (.aload_n 0, 1) := by decide +kernel
theorem dX9_able_18 : decode cX9_able 18 = .ok (.iload_n 1, 1) := by decide +kernel
theorem dX9_able_19 : decode cX9_able 19 = .ok (.iload 4, 2) := by decide +kernel
theorem dX9_able_21 : decode cX9_able 21 = .ok (.aload_n 0, 1) := by decide +kernel
theorem dX9_able_22 : decode cX9_able 22 = .ok (.getfield 18, 3) := by decide +kernel
theorem dX9_able_25 : decode cX9_able 25 = .ok (.iload 5, 2) := by decide +kernel
theorem dX9_able_27 : decode cX9_able 27 = .ok (.iaload, 1) := by decide +kernel
theorem dX9_able_28 : decode cX9_able 28 = .ok (.invokevirtual 25, 3) := by decide +kernel
theorem dX9_able_3 : decode cX9_able 3 = .ok (.iconst 0, 1) := by decide +kernel
theorem dX9_able_31 : decode cX9_able 31 = .ok (.istore 4, 2) := by decide +kernel
theorem dX9_able_33 : decode cX9_able 33 = .ok (.iinc 5 1, 3) := by decide +kernel
theorem dX9_able_36 : decode cX9_able 36 = .ok (.goto (-30), 3) := by decide +kernel
theorem dX9_able_39 : decode cX9_able 39 = .ok (.aload_n 0, 1) := by decide +kernel
theorem dX9_able_4 : decode cX9_able 4 = .ok (.istore 5, 2) := by decide +kernel
theorem dX9_able_40 : decode cX9_able 40 = .ok (.iload_n 1, 1) := by decide +kernel
theorem dX9_able_41 : decode cX9_able 41 = .ok (.iload 4, 2) := by decide +kernel
theorem dX9_able_43 : decode cX9_able 43 = .ok (.iload_n 3, 1) := by decide +kernel
theorem dX9_able_44 : decode cX9_able 44 = .ok (.invokevirtual 50, 3) := by decide +kernel
theorem dX9_able_47 : decode cX9_able 47 = .ok (.ireturn, 1) := by decide +kernel
theorem dX9_able_6 : decode cX9_able 6 = .ok (.iload 5, 2) := by decide +kernel
theorem dX9_able_8 : decode cX9_able 8 = .ok (.iload_n 2, 1) := by decide +kernel
theorem dX9_able_9 : decode cX9_able 9 = .ok (.if_icmp .ge 30, 3) := by decide +kernel
noncomputable def k_X9_able_39 (l1 : Int32) (l3 : Int32) (l4 : Int32) (s : t_S) : Option (Int32) :=
 (f_X9_canGo l1 l4 l3 s).bind (fun r1 =>
 if r1 = 0 ∨ r1 = 1 then
  some (r1)
else none)
set_option maxRecDepth 4000 in
set_option maxHeartbeats 1000000 in
theorem B_X9_able_39 {D : va_G} {cy : Nat → ClassId} {ad : Nat → Nat} {bs : Nat} {X : State → Heap → Prop} (l1 : Int32) (l3 : Int32) (l4 : Int32) (s : t_S) (Q : Int32 → Prop) (hk : t_hk (k_X9_able_39 l1 l3 l4 s) Q) : mj_G D cy ad bs X cX9_able 6 yX9_able.cls (some .boolean) yX9_able.name 3 0 0 1065 (t_P (fun v s' => s' = s ∧ ∃ x, v = some (.int x) ∧ Q (x))) 39 [(0, .ref 946), (1, .int l1), (3, .int l3), (4, .int l4)] [] (t_m s) 1065 0 0 := by
  refine mj_aload_n dX9_able_39 0 rfl ?_
  refine mj_iload_n dX9_able_40 1 rfl ?_
  refine mj_iload dX9_able_41 3 rfl ?_
  refine mj_iload_n dX9_able_43 2 rfl ?_
  refine t_bndK hk (fun r1 er1 hk => ?_)
  refine t_callViP dX9_able_44 M_X9_canGo (C_X9_canGo _ _ _ _ _ er1) ML_X9_50 IM_X9_canGo SE_X9_canGo qc_946 rfl (As := [.int l1, .int l4, .int l3]) rfl rfl (Nat.le_of_ble_eq_true rfl) (Nat.le_of_ble_eq_true rfl) (Nat.le_of_ble_eq_true rfl) (Nat.le_of_ble_eq_true rfl) ?_
  refine t_chkK hk (fun c1 hk => ?_)
  exact t_somK hk (fun hf => t_iret dX9_able_47 rfl (t_zfit c1) ⟨rfl, _, rfl, hf⟩ (Nat.le_of_ble_eq_true rfl) (Nat.le_of_ble_eq_true rfl))
noncomputable def k_X9_able_6 (l1 : Int32) (l2 : Int32) (l3 : Int32) (l4 : Int32) (l5 : Int32) (s : t_S) : Option ((Int32 × Int32 × Int32 × Int32 × Int32) ⊕ (Int32)) :=
 if l2 ≤ l5 then ((k_X9_able_39 l1 l3 l4 s).map Sum.inr)
 else (if l4 = (0 : Int32) then ((k_X9_able_39 l1 l3 l4 s).map Sum.inr)
 else (if t_ix l5 65537 = true then
  (f_X9_next l1 l4 (s.1 949 (l5.toNatClampNeg)) s).bind (fun r2 =>
 some (.inl (l1, l2, l3, r2, (l5 + 1))))
else none))
set_option maxRecDepth 4000 in
set_option maxHeartbeats 1000000 in
theorem B_X9_able_6 {D : va_G} {cy : Nat → ClassId} {ad : Nat → Nat} {bs : Nat} {X : State → Heap → Prop} (l1 : Int32) (l2 : Int32) (l3 : Int32) (l4 : Int32) (l5 : Int32) (s : t_S) (Q : (Int32 × Int32 × Int32 × Int32 × Int32) ⊕ (Int32) → Prop) (Hb6 : ∀ (y0 : Int32) (y1 : Int32) (y2 : Int32) (y3 : Int32) (y4 : Int32), Q (.inl (y0, y1, y2, y3, y4)) → mj_G D cy ad bs X cX9_able 6 yX9_able.cls (some .boolean) yX9_able.name 3 0 0 1065 (t_P (fun v s' => s' = s ∧ ∃ x, v = some (.int x) ∧ Q (.inr (x)))) 6 [(0, .ref 946), (1, .int (y0)), (2, .int (y1)), (3, .int (y2)), (4, .int (y3)), (5, .int (y4))] [] (t_m s) 1065 0 0) (hk : t_hk (k_X9_able_6 l1 l2 l3 l4 l5 s) Q) : mj_G D cy ad bs X cX9_able 6 yX9_able.cls (some .boolean) yX9_able.name 3 0 0 1065 (t_P (fun v s' => s' = s ∧ ∃ x, v = some (.int x) ∧ Q (.inr (x)))) 6 [(0, .ref 946), (1, .int l1), (2, .int l2), (3, .int l3), (4, .int l4), (5, .int l5)] [] (t_m s) 1065 0 0 := by
  refine mj_iload dX9_able_6 5 rfl ?_
  refine mj_iload_n dX9_able_8 2 rfl ?_
  refine mj_icmp_ge 39 dX9_able_9 (by decide) (fun z => t_posK hk z (fun hk => ?_)) (fun z => t_negK hk z (fun hk => ?_))
  · refine mj_sublv [(0, .ref 946), (1, .int l1), (3, .int l3), (4, .int l4)] [0, 1, 3, 4] rfl ?_
    refine t_mapK hk (fun hk => ?_)
    exact B_X9_able_39 _ _ _ _ _ hk
  · refine mj_iload dX9_able_12 4 rfl ?_
    refine mj_if_eq 39 dX9_able_14 (by decide) (fun z => t_posK hk z (fun hk => ?_)) (fun z => t_negK hk z (fun hk => ?_))
    · refine mj_sublv [(0, .ref 946), (1, .int l1), (3, .int l3), (4, .int l4)] [0, 1, 3, 4] rfl ?_
      refine t_mapK hk (fun hk => ?_)
      exact B_X9_able_39 _ _ _ _ _ hk
    · refine mj_aload_n dX9_able_17 0 rfl ?_
      refine mj_iload_n dX9_able_18 1 rfl ?_
      refine mj_iload dX9_able_19 4 rfl ?_
      refine mj_aload_n dX9_able_21 0 rfl ?_
      refine t_getR 949 dX9_able_22 F_X9_18 qr_946_2 ?_
      refine mj_iload dX9_able_25 5 rfl ?_
      refine t_chkK hk (fun c0 hk => ?_)
      refine t_iald dX9_able_27 qa_949 (t_ixv c0) ?_
      refine t_bndK hk (fun r2 er2 hk => ?_)
      refine t_callViP dX9_able_28 M_X9_next (C_X9_next _ _ _ _ _ er2) ML_X9_25 IM_X9_next SE_X9_next qc_946 rfl (As := [.int l1, .int l4, .int (s.1 949 (l5.toNatClampNeg))]) rfl rfl (Nat.le_of_ble_eq_true rfl) (Nat.le_of_ble_eq_true rfl) (Nat.le_of_ble_eq_true rfl) (Nat.le_of_ble_eq_true rfl) ?_
      refine mj_istore (lv2 := [(4, .int r2), (0, .ref 946), (1, .int l1), (2, .int l2), (3, .int l3), (5, .int l5)]) dX9_able_31 (by decide) rfl ?_
      refine mj_iinc (k := 5) (v := (l5 + 1)) (lv2 := [(5, .int (l5 + 1)), (4, .int r2), (0, .ref 946), (1, .int l1), (2, .int l2), (3, .int l3)]) dX9_able_33 rfl rfl (by decide) rfl ?_
      refine mj_goto 6 dX9_able_36 (by decide) ?_
      refine mj_sublv [(0, .ref 946), (1, .int l1), (2, .int l2), (3, .int l3), (4, .int r2), (5, .int (l5 + 1))] [2, 3, 4, 5, 1, 0] rfl ?_
      exact t_somK hk (fun hf => Hb6 l1 l2 l3 r2 (l5 + 1) hf)
noncomputable def b_X9_able_6 (s : t_S) (x : Int32 × Int32 × Int32 × Int32 × Int32) : Option ((Int32 × Int32 × Int32 × Int32 × Int32) ⊕ (Int32)) := k_X9_able_6 x.1 x.2.1 x.2.2.1 x.2.2.2.1 x.2.2.2.2 s
set_option maxRecDepth 4000 in
set_option maxHeartbeats 1000000 in
theorem LH_X9_able_6 {D : va_G} {cy : Nat → ClassId} {ad : Nat → Nat} {bs : Nat} {X : State → Heap → Prop} (s : t_S) : ∀ (n : Nat) (y0 : Int32) (y1 : Int32) (y2 : Int32) (y3 : Int32) (y4 : Int32) (Q : Int32 → Prop) (hk : t_hk (t_loop (b_X9_able_6 s) n (y0, y1, y2, y3, y4)) Q), mj_G D cy ad bs X cX9_able 6 yX9_able.cls (some .boolean) yX9_able.name 3 0 0 1065 (t_P (fun v s' => s' = s ∧ ∃ x, v = some (.int x) ∧ Q (x))) 6 [(0, .ref 946), (1, .int (y0)), (2, .int (y1)), (3, .int (y2)), (4, .int (y3)), (5, .int (y4))] [] (t_m s) 1065 0 0 := by
  intro n
  induction n with
  | zero => intro y0 y1 y2 y3 y4 Q hk; obtain ⟨r, hr, _⟩ := hk; cases hr
  | succ n ih =>
    intro y0 y1 y2 y3 y4 Q hk
    exact B_X9_able_6 y0 y1 y2 y3 y4 s (fun y => t_lq (b_X9_able_6 s) n Q y) (fun y0' y1' y2' y3' y4' hy => ih y0' y1' y2' y3' y4' Q hy) (t_lp hk)
noncomputable def f_X9_able (x1 : Int32) (x2 : Int32) (x3 : Int32) (s : t_S) : Option (Int32) :=
 t_loop (b_X9_able_6 s) t_N (x1, x2, x3, 1, 0)
set_option maxRecDepth 4000 in
set_option maxHeartbeats 1000000 in
theorem C_X9_able (x1 : Int32) (x2 : Int32) (x3 : Int32) (s : t_S) (r : Int32) (hr : f_X9_able x1 x2 x3 s = some r) : t_C yX9_able cX9_able 6 (some .boolean) 3 [.ref 946, .int x1, .int x2, .int x3] s (fun v s' => v = some (.int r) ∧ s' = s) := by
  refine t_C.imp (P := fun v s' => s' = s ∧ ∃ x, v = some (.int x) ∧ (fun q => q = r) (x)) (t_C.of (by decide +kernel) (Nat.le_of_ble_eq_true rfl) ?_) (fun v s' hp => by obtain ⟨rfl, x, rfl, rfl⟩ := hp; exact ⟨rfl, rfl⟩)
  intro D cy ad bs X
  have hk : t_hk (f_X9_able x1 x2 x3 s) (fun q => q = r) := ⟨r, hr, rfl⟩
  show mj_G D cy ad bs X cX9_able 6 yX9_able.cls (some .boolean) yX9_able.name 3 0 0 1065 (t_P (fun v s' => s' = s ∧ ∃ x, v = some (.int x) ∧ (fun q => q = r) (x))) 0 [(0, .ref 946), (1, .int x1), (2, .int x2), (3, .int x3)] [] (t_m s) 1065 0 0
  refine mj_iconst (v := 1) dX9_able_0 (by decide) ?_
  refine mj_istore (lv2 := [(4, .int 1), (0, .ref 946), (1, .int x1), (2, .int x2), (3, .int x3)]) dX9_able_1 (by decide) rfl ?_
  refine mj_iconst (v := 0) dX9_able_3 (by decide) ?_
  refine mj_istore (lv2 := [(5, .int 0), (4, .int 1), (0, .ref 946), (1, .int x1), (2, .int x2), (3, .int x3)]) dX9_able_4 (by decide) rfl ?_
  refine mj_sublv [(0, .ref 946), (1, .int x1), (2, .int x2), (3, .int x3), (4, .int 1), (5, .int 0)] [2, 3, 4, 5, 1, 0] rfl ?_
  exact LH_X9_able_6 _ _ x1 x2 x3 1 0 _ hk

theorem dX9_is_0 : decode cX9_is 0 = .ok (.iload_n 0, 1) := by decide +kernel
theorem dX9_is_1 : decode cX9_is 1 = .ok (.ifCond .lt 12, 3) := by decide +kernel
theorem dX9_is_10 : decode cX9_is 10 = .ok (.goto 4, 3) := by decide +kernel
theorem dX9_is_13 : decode cX9_is 13 = .ok (.iconst 0, 1) := by decide +kernel
theorem dX9_is_14 : decode cX9_is 14 = .ok (.ireturn, 1) := by decide +kernel
theorem dX9_is_4 : decode cX9_is 4 = .ok (.iload_n 0, 1) := by decide +kernel
theorem dX9_is_5 : decode cX9_is 5 = .ok (.iconst 4, 1) := by decide +kernel
theorem dX9_is_6 : decode cX9_is 6 = .ok (.if_icmp .ge 7, 3) := by decide +kernel
theorem dX9_is_9 : decode cX9_is 9 = .ok (.iconst 1, 1) := by decide +kernel
noncomputable def f_X9_is (x1 : Int32) (s : t_S) : Int32 :=
 if x1 < (0 : Int32) then ((0 : Int32))
 else (if (4 : Int32) ≤ x1 then ((0 : Int32))
 else ((1 : Int32)))
set_option maxRecDepth 4000 in
set_option maxHeartbeats 1000000 in
theorem C_X9_is (x1 : Int32) (s : t_S) : t_C yX9_is cX9_is 1 (some .boolean) 0 [.int x1] s (fun v s' => v = some (.int (f_X9_is x1 s)) ∧ s' = s) := by
  refine t_C.imp (P := fun v s' => s' = s ∧ ∃ x, v = some (.int x) ∧ (fun r => r = f_X9_is x1 s) (x)) (t_C.of (by decide +kernel) (Nat.le_of_ble_eq_true rfl) ?_) (fun v s' hp => by obtain ⟨rfl, x, rfl, rfl⟩ := hp; exact ⟨rfl, rfl⟩)
  intro D cy ad bs X
  have hk : t_ht (f_X9_is x1 s) (fun r => r = f_X9_is x1 s) := rfl
  show mj_G D cy ad bs X cX9_is 1 yX9_is.cls (some .boolean) yX9_is.name 0 0 0 1065 (t_P (fun v s' => s' = s ∧ ∃ x, v = some (.int x) ∧ (fun r => r = f_X9_is x1 s) (x))) 0 [(0, .int x1)] [] (t_m s) 1065 0 0
  refine mj_iload_n dX9_is_0 0 rfl ?_
  refine mj_if_lt 13 dX9_is_1 (by decide) (fun z => t_posTK hk z (fun hk => ?_)) (fun z => t_negTK hk z (fun hk => ?_))
  · refine mj_iconst (v := 0) dX9_is_13 (by decide) ?_
    exact t_iret dX9_is_14 rfl (by decide) ⟨rfl, _, rfl, hk⟩ (Nat.le_of_ble_eq_true rfl) (Nat.le_of_ble_eq_true rfl)
  · refine mj_iload_n dX9_is_4 0 rfl ?_
    refine mj_iconst (v := 4) dX9_is_5 (by decide) ?_
    refine mj_icmp_ge 13 dX9_is_6 (by decide) (fun z => t_posTK hk z (fun hk => ?_)) (fun z => t_negTK hk z (fun hk => ?_))
    · refine mj_iconst (v := 0) dX9_is_13 (by decide) ?_
      exact t_iret dX9_is_14 rfl (by decide) ⟨rfl, _, rfl, hk⟩ (Nat.le_of_ble_eq_true rfl) (Nat.le_of_ble_eq_true rfl)
    · refine mj_iconst (v := 1) dX9_is_9 (by decide) ?_
      refine mj_goto 14 dX9_is_10 (by decide) ?_
      exact t_iret dX9_is_14 rfl (by decide) ⟨rfl, _, rfl, hk⟩ (Nat.le_of_ble_eq_true rfl) (Nat.le_of_ble_eq_true rfl)

theorem dX12_can_0 : decode cX12_can 0 = .ok (.iload_n 1, 1) := by decide +kernel
theorem dX12_can_1 : decode cX12_can 1 = .ok (.invokestatic 373, 3) := by decide +kernel
theorem dX12_can_11 : decode cX12_can 11 = .ok (.iload_n 2, 1) := by decide +kernel
theorem dX12_can_12 : decode cX12_can 12 = .ok (.aload_n 0, 1) := by decide +kernel
theorem dX12_can_13 : decode cX12_can 13 = .ok (.getfield 91, 3) := by decide +kernel
theorem dX12_can_16 : decode cX12_can 16 = .ok (.getfield 382, 3) := by decide +kernel
theorem dX12_can_19 : decode cX12_can 19 = .ok (.if_icmp .gt 13, 3) := by decide +kernel
theorem dX12_can_22 : decode cX12_can 22 = .ok (.iload_n 3, 1) := by decide +kernel
theorem dX12_can_23 : decode cX12_can 23 = .ok (.ifCond .lt 9, 3) := by decide +kernel
theorem dX12_can_26 : decode cX12_can 26 = .ok (.iload_n 3, 1) := by decide +kernel
theorem dX12_can_27 : decode cX12_can 27 = .ok (.bipush 8, 2) := by decide +kernel
theorem dX12_can_29 : decode cX12_can 29 = .ok (.if_icmp .le 5, 3) := by decide +kernel
theorem dX12_can_32 : decode cX12_can 32 = .ok (.iconst (-1), 1) := by decide +kernel
theorem dX12_can_33 : decode cX12_can 33 = .ok (.ireturn, 1) := by decide +kernel
theorem dX12_can_34 : decode cX12_can 34 = .ok (.aload_n 0, 1) := by decide +kernel
theorem dX12_can_35 : decode cX12_can 35 = .ok (.getfield 91, 3) := by decide +kernel
theorem dX12_can_38 : decode cX12_can 38 = .ok (.iload_n 1, 1) := by decide +kernel
theorem dX12_can_39 : decode cX12_can 39 = .ok (.iload_n 2, 1) := by decide +kernel
theorem dX12_can_4 : decode cX12_can 4 = .ok (.ifCond .eq 28, 3) := by decide +kernel
theorem dX12_can_40 : decode cX12_can 40 = .ok (.iload_n 3, 1) := by decide +kernel
theorem dX12_can_41 : decode cX12_can 41 = .ok (.invokevirtual 386, 3) := by decide +kernel
theorem dX12_can_44 : decode cX12_can 44 = .ok (.ifCond .eq 7, 3) := by decide +kernel
theorem dX12_can_47 : decode cX12_can 47 = .ok (.iconst 1, 1) := by decide +kernel
theorem dX12_can_48 : decode cX12_can 48 = .ok (.goto 4, 3) := by decide +kernel
theorem dX12_can_51 : decode cX12_can 51 = .ok (.iconst 0, 1) := by decide +kernel
theorem dX12_can_52 : decode cX12_can 52 = .ok (.ireturn, 1) := by decide +kernel
theorem dX12_can_7 : decode cX12_can 7 = .ok (.iload_n 2, 1) := by decide +kernel
theorem dX12_can_8 : decode cX12_can 8 = .ok (.ifCond .lt 24, 3) := by decide +kernel
noncomputable def f_X12_can (x1 : Int32) (x2 : Int32) (x3 : Int32) (s : t_S) : Option (Int32) :=
 if (f_X9_is x1 s) = (0 : Int32) then (some (-1 : Int32))
 else (if x2 < (0 : Int32) then (some (-1 : Int32))
 else (if (s.1 946 3) < x2 then (some (-1 : Int32))
 else (if x3 < (0 : Int32) then (some (-1 : Int32))
 else (if x3 ≤ (8 : Int32) then ((f_X9_able x1 x2 x3 s).bind (fun r2 =>
 if r2 = (0 : Int32) then (some (0 : Int32))
 else (some (1 : Int32))))
 else (some (-1 : Int32))))))
set_option maxRecDepth 4000 in
set_option maxHeartbeats 1000000 in
theorem C_X12_can (x1 : Int32) (x2 : Int32) (x3 : Int32) (s : t_S) (r : Int32) (hr : f_X12_can x1 x2 x3 s = some r) : t_C yX12_can cX12_can 4 (some .int) 4 [.ref 0, .int x1, .int x2, .int x3] s (fun v s' => v = some (.int r) ∧ s' = s) := by
  refine t_C.imp (P := fun v s' => s' = s ∧ ∃ x, v = some (.int x) ∧ (fun q => q = r) (x)) (t_C.of (by decide +kernel) (Nat.le_of_ble_eq_true rfl) ?_) (fun v s' hp => by obtain ⟨rfl, x, rfl, rfl⟩ := hp; exact ⟨rfl, rfl⟩)
  intro D cy ad bs X
  have hk : t_hk (f_X12_can x1 x2 x3 s) (fun q => q = r) := ⟨r, hr, rfl⟩
  show mj_G D cy ad bs X cX12_can 4 yX12_can.cls (some .int) yX12_can.name 4 0 0 1065 (t_P (fun v s' => s' = s ∧ ∃ x, v = some (.int x) ∧ (fun q => q = r) (x))) 0 [(0, .ref 0), (1, .int x1), (2, .int x2), (3, .int x3)] [] (t_m s) 1065 0 0
  refine mj_iload_n dX12_can_0 1 rfl ?_
  refine t_callSiP dX12_can_1 M_X9_is (C_X9_is _ _) ML_X12_373 SM_X9_is (As := [.int x1]) rfl rfl (Nat.le_of_ble_eq_true rfl) (Nat.le_of_ble_eq_true rfl) (Nat.le_of_ble_eq_true rfl) (Nat.le_of_ble_eq_true rfl) ?_
  refine mj_if_eq 32 dX12_can_4 (by decide) (fun z => t_posK hk z (fun hk => ?_)) (fun z => t_negK hk z (fun hk => ?_))
  · refine mj_iconst (v := (-1)) dX12_can_32 (by decide) ?_
    exact t_somK hk (fun hf => t_iret dX12_can_33 rfl rfl ⟨rfl, _, rfl, hf⟩ (Nat.le_of_ble_eq_true rfl) (Nat.le_of_ble_eq_true rfl))
  · refine mj_iload_n dX12_can_7 2 rfl ?_
    refine mj_if_lt 32 dX12_can_8 (by decide) (fun z => t_posK hk z (fun hk => ?_)) (fun z => t_negK hk z (fun hk => ?_))
    · refine mj_iconst (v := (-1)) dX12_can_32 (by decide) ?_
      exact t_somK hk (fun hf => t_iret dX12_can_33 rfl rfl ⟨rfl, _, rfl, hf⟩ (Nat.le_of_ble_eq_true rfl) (Nat.le_of_ble_eq_true rfl))
    · refine mj_iload_n dX12_can_11 2 rfl ?_
      refine mj_aload_n dX12_can_12 0 rfl ?_
      refine t_getR 946 dX12_can_13 F_X12_91 qr_0_9 ?_
      refine t_getI dX12_can_16 F_X12_382 qf_946_3 ?_
      refine mj_icmp_gt 32 dX12_can_19 (by decide) (fun z => t_posK hk z (fun hk => ?_)) (fun z => t_negK hk z (fun hk => ?_))
      · refine mj_iconst (v := (-1)) dX12_can_32 (by decide) ?_
        exact t_somK hk (fun hf => t_iret dX12_can_33 rfl rfl ⟨rfl, _, rfl, hf⟩ (Nat.le_of_ble_eq_true rfl) (Nat.le_of_ble_eq_true rfl))
      · refine mj_iload_n dX12_can_22 3 rfl ?_
        refine mj_if_lt 32 dX12_can_23 (by decide) (fun z => t_posK hk z (fun hk => ?_)) (fun z => t_negK hk z (fun hk => ?_))
        · refine mj_iconst (v := (-1)) dX12_can_32 (by decide) ?_
          exact t_somK hk (fun hf => t_iret dX12_can_33 rfl rfl ⟨rfl, _, rfl, hf⟩ (Nat.le_of_ble_eq_true rfl) (Nat.le_of_ble_eq_true rfl))
        · refine mj_iload_n dX12_can_26 3 rfl ?_
          refine mj_bipush (v := 8) dX12_can_27 (by decide) ?_
          refine mj_icmp_le 34 dX12_can_29 (by decide) (fun z => t_posK hk z (fun hk => ?_)) (fun z => t_negK hk z (fun hk => ?_))
          · refine mj_aload_n dX12_can_34 0 rfl ?_
            refine t_getR 946 dX12_can_35 F_X12_91 qr_0_9 ?_
            refine mj_iload_n dX12_can_38 1 rfl ?_
            refine mj_iload_n dX12_can_39 2 rfl ?_
            refine mj_iload_n dX12_can_40 3 rfl ?_
            refine t_bndK hk (fun r2 er2 hk => ?_)
            refine t_callViP dX12_can_41 M_X9_able (C_X9_able _ _ _ _ _ er2) ML_X12_386 IM_X9_able SE_X9_able qc_946 rfl (As := [.int x1, .int x2, .int x3]) rfl rfl (Nat.le_of_ble_eq_true rfl) (Nat.le_of_ble_eq_true rfl) (Nat.le_of_ble_eq_true rfl) (Nat.le_of_ble_eq_true rfl) ?_
            refine mj_if_eq 51 dX12_can_44 (by decide) (fun z => t_posK hk z (fun hk => ?_)) (fun z => t_negK hk z (fun hk => ?_))
            · refine mj_iconst (v := 0) dX12_can_51 (by decide) ?_
              exact t_somK hk (fun hf => t_iret dX12_can_52 rfl rfl ⟨rfl, _, rfl, hf⟩ (Nat.le_of_ble_eq_true rfl) (Nat.le_of_ble_eq_true rfl))
            · refine mj_iconst (v := 1) dX12_can_47 (by decide) ?_
              refine mj_goto 52 dX12_can_48 (by decide) ?_
              exact t_somK hk (fun hf => t_iret dX12_can_52 rfl rfl ⟨rfl, _, rfl, hf⟩ (Nat.le_of_ble_eq_true rfl) (Nat.le_of_ble_eq_true rfl))
          · refine mj_iconst (v := (-1)) dX12_can_32 (by decide) ?_
            exact t_somK hk (fun hf => t_iret dX12_can_33 rfl rfl ⟨rfl, _, rfl, hf⟩ (Nat.le_of_ble_eq_true rfl) (Nat.le_of_ble_eq_true rfl))

theorem dX9_breaking_0 : decode cX9_breaking 0 = .ok (.iconst 4, 1) := by decide +kernel
theorem dX9_breaking_1 : decode cX9_breaking 1 = .ok (.istore 4, 2) := by decide +kernel
theorem dX9_breaking_10 : decode cX9_breaking 10 = .ok (.aload_n 0, 1) := by decide +kernel
theorem dX9_breaking_11 : decode cX9_breaking 11 = .ok (.iload_n 1, 1) := by decide +kernel
theorem dX9_breaking_12 : decode cX9_breaking 12 = .ok (.iload_n 3, 1) := by decide +kernel
theorem dX9_breaking_13 : decode cX9_breaking 13 = .ok (.bipush 8, 2) := by decide +kernel
theorem dX9_breaking_15 : decode cX9_breaking 15 = .ok (.ishr, 1) := by decide +kernel
theorem dX9_breaking_16 : decode cX9_breaking 16 = .ok (.iload 4, 2) := by decide +kernel
theorem dX9_breaking_18 : decode cX9_breaking 18 = .ok (.invokevirtual 50, 3) := by decide +kernel
theorem dX9_breaking_21 : decode cX9_breaking 21 = .ok (.ifCond .eq 21, 3) := by decide +kernel
theorem dX9_breaking_24 : decode cX9_breaking 24 = .ok (.aload_n 0, 1) := by decide +kernel
theorem dX9_breaking_25 : decode cX9_breaking 25 = .ok (.iload_n 2, 1) := by decide +kernel
theorem dX9_breaking_26 : decode cX9_breaking 26 = .ok (.iload_n 3, 1) := by decide +kernel
theorem dX9_breaking_27 : decode cX9_breaking 27 = .ok (.sipush 255, 3) := by decide +kernel
theorem dX9_breaking_3 : decode cX9_breaking 3 = .ok (.iload 4, 2) := by decide +kernel
theorem dX9_breaking_30 : decode cX9_breaking 30 = .ok (.iand, 1) := by decide +kernel
theorem dX9_breaking_31 : decode cX9_breaking 31 = .ok (.iload 4, 2) := by decide +kernel
theorem dX9_breaking_33 : decode cX9_breaking 33 = .ok (.invokevirtual 50, 3) := by decide +kernel
theorem dX9_breaking_36 : decode cX9_breaking 36 = .ok (.ifCond .ne 6, 3) := by decide +kernel
theorem dX9_breaking_39 : decode cX9_breaking 39 = .ok (.iload 4, 2) := by decide +kernel
theorem dX9_breaking_41 : decode cX9_breaking 41 = .ok (.ireturn, 1) := by decide +kernel
theorem dX9_breaking_42 : decode cX9_breaking 42 = .ok (.iinc 4 1, 3) := by decide +kernel
theorem dX9_breaking_45 : decode cX9_breaking 45 = .ok (.goto (-42), 3) := by decide +kernel
theorem dX9_breaking_48 : decode cX9_breaking 48 = .ok (.iconst (-1), 1) := by decide +kernel
theorem dX9_breaking_49 : decode cX9_breaking 49 = .ok (.ireturn, 1) := by decide +kernel
theorem dX9_breaking_5 : decode cX9_breaking 5 = .ok (.bipush 8, 2) := by decide +kernel
theorem dX9_breaking_7 : decode cX9_breaking 7 = .ok (.if_icmp .gt 41, 3) := by decide +kernel
noncomputable def k_X9_breaking_42 (l1 : Int32) (l2 : Int32) (l3 : Int32) (l4 : Int32) (s : t_S) : Option ((Int32 × Int32 × Int32 × Int32) ⊕ (Int32)) :=
 some (.inl (l1, l2, l3, (l4 + 1)))
set_option maxRecDepth 4000 in
set_option maxHeartbeats 1000000 in
theorem B_X9_breaking_42 {D : va_G} {cy : Nat → ClassId} {ad : Nat → Nat} {bs : Nat} {X : State → Heap → Prop} (l1 : Int32) (l2 : Int32) (l3 : Int32) (l4 : Int32) (s : t_S) (Q : (Int32 × Int32 × Int32 × Int32) ⊕ (Int32) → Prop) (Hb3 : ∀ (y0 : Int32) (y1 : Int32) (y2 : Int32) (y3 : Int32), Q (.inl (y0, y1, y2, y3)) → mj_G D cy ad bs X cX9_breaking 5 yX9_breaking.cls (some .int) yX9_breaking.name 3 0 0 1065 (t_P (fun v s' => s' = s ∧ ∃ x, v = some (.int x) ∧ Q (.inr (x)))) 3 [(0, .ref 946), (1, .int (y0)), (2, .int (y1)), (3, .int (y2)), (4, .int (y3))] [] (t_m s) 1065 0 0) (hk : t_hk (k_X9_breaking_42 l1 l2 l3 l4 s) Q) : mj_G D cy ad bs X cX9_breaking 5 yX9_breaking.cls (some .int) yX9_breaking.name 3 0 0 1065 (t_P (fun v s' => s' = s ∧ ∃ x, v = some (.int x) ∧ Q (.inr (x)))) 42 [(0, .ref 946), (1, .int l1), (2, .int l2), (3, .int l3), (4, .int l4)] [] (t_m s) 1065 0 0 := by
  refine mj_iinc (k := 4) (v := (l4 + 1)) (lv2 := [(4, .int (l4 + 1)), (0, .ref 946), (1, .int l1), (2, .int l2), (3, .int l3)]) dX9_breaking_42 rfl rfl (by decide) rfl ?_
  refine mj_goto 3 dX9_breaking_45 (by decide) ?_
  refine mj_sublv [(0, .ref 946), (1, .int l1), (2, .int l2), (3, .int l3), (4, .int (l4 + 1))] [1, 2, 3, 4, 0] rfl ?_
  exact t_somK hk (fun hf => Hb3 l1 l2 l3 (l4 + 1) hf)
noncomputable def k_X9_breaking_3 (l1 : Int32) (l2 : Int32) (l3 : Int32) (l4 : Int32) (s : t_S) : Option ((Int32 × Int32 × Int32 × Int32) ⊕ (Int32)) :=
 if (8 : Int32) < l4 then ((some (-1 : Int32)).map Sum.inr)
 else ((f_X9_canGo l1 (l3 >>> ((8 : Int32) &&& 31)) l4 s).bind (fun r1 =>
 if r1 = (0 : Int32) then (k_X9_breaking_42 l1 l2 l3 l4 s)
 else ((f_X9_canGo l2 (l3 &&& (255 : Int32)) l4 s).bind (fun r2 =>
 if r2 = (0 : Int32) then ((some (l4)).map Sum.inr)
 else (k_X9_breaking_42 l1 l2 l3 l4 s)))))
set_option maxRecDepth 4000 in
set_option maxHeartbeats 1000000 in
theorem B_X9_breaking_3 {D : va_G} {cy : Nat → ClassId} {ad : Nat → Nat} {bs : Nat} {X : State → Heap → Prop} (l1 : Int32) (l2 : Int32) (l3 : Int32) (l4 : Int32) (s : t_S) (Q : (Int32 × Int32 × Int32 × Int32) ⊕ (Int32) → Prop) (Hb3 : ∀ (y0 : Int32) (y1 : Int32) (y2 : Int32) (y3 : Int32), Q (.inl (y0, y1, y2, y3)) → mj_G D cy ad bs X cX9_breaking 5 yX9_breaking.cls (some .int) yX9_breaking.name 3 0 0 1065 (t_P (fun v s' => s' = s ∧ ∃ x, v = some (.int x) ∧ Q (.inr (x)))) 3 [(0, .ref 946), (1, .int (y0)), (2, .int (y1)), (3, .int (y2)), (4, .int (y3))] [] (t_m s) 1065 0 0) (hk : t_hk (k_X9_breaking_3 l1 l2 l3 l4 s) Q) : mj_G D cy ad bs X cX9_breaking 5 yX9_breaking.cls (some .int) yX9_breaking.name 3 0 0 1065 (t_P (fun v s' => s' = s ∧ ∃ x, v = some (.int x) ∧ Q (.inr (x)))) 3 [(0, .ref 946), (1, .int l1), (2, .int l2), (3, .int l3), (4, .int l4)] [] (t_m s) 1065 0 0 := by
  refine mj_iload dX9_breaking_3 4 rfl ?_
  refine mj_bipush (v := 8) dX9_breaking_5 (by decide) ?_
  refine mj_icmp_gt 48 dX9_breaking_7 (by decide) (fun z => t_posK hk z (fun hk => ?_)) (fun z => t_negK hk z (fun hk => ?_))
  · refine t_mapK hk (fun hk => ?_)
    refine mj_iconst (v := (-1)) dX9_breaking_48 (by decide) ?_
    exact t_somK hk (fun hf => t_iret dX9_breaking_49 rfl rfl ⟨rfl, _, rfl, hf⟩ (Nat.le_of_ble_eq_true rfl) (Nat.le_of_ble_eq_true rfl))
  · refine mj_aload_n dX9_breaking_10 0 rfl ?_
    refine mj_iload_n dX9_breaking_11 1 rfl ?_
    refine mj_iload_n dX9_breaking_12 3 rfl ?_
    refine mj_bipush (v := 8) dX9_breaking_13 (by decide) ?_
    refine mj_ishr dX9_breaking_15 ?_
    refine mj_iload dX9_breaking_16 4 rfl ?_
    refine t_bndK hk (fun r1 er1 hk => ?_)
    refine t_callViP dX9_breaking_18 M_X9_canGo (C_X9_canGo _ _ _ _ _ er1) ML_X9_50 IM_X9_canGo SE_X9_canGo qc_946 rfl (As := [.int l1, .int (l3 >>> ((8 : Int32) &&& 31)), .int l4]) rfl rfl (Nat.le_of_ble_eq_true rfl) (Nat.le_of_ble_eq_true rfl) (Nat.le_of_ble_eq_true rfl) (Nat.le_of_ble_eq_true rfl) ?_
    refine mj_if_eq 42 dX9_breaking_21 (by decide) (fun z => t_posK hk z (fun hk => ?_)) (fun z => t_negK hk z (fun hk => ?_))
    · exact B_X9_breaking_42 _ _ _ _ _ _ (fun y0 y1 y2 y3 hx => Hb3 y0 y1 y2 y3 hx) hk
    · refine mj_aload_n dX9_breaking_24 0 rfl ?_
      refine mj_iload_n dX9_breaking_25 2 rfl ?_
      refine mj_iload_n dX9_breaking_26 3 rfl ?_
      refine mj_sipush (v := 255) dX9_breaking_27 (by decide) ?_
      refine mj_iand dX9_breaking_30 ?_
      refine mj_iload dX9_breaking_31 4 rfl ?_
      refine t_bndK hk (fun r2 er2 hk => ?_)
      refine t_callViP dX9_breaking_33 M_X9_canGo (C_X9_canGo _ _ _ _ _ er2) ML_X9_50 IM_X9_canGo SE_X9_canGo qc_946 rfl (As := [.int l2, .int (l3 &&& (255 : Int32)), .int l4]) rfl rfl (Nat.le_of_ble_eq_true rfl) (Nat.le_of_ble_eq_true rfl) (Nat.le_of_ble_eq_true rfl) (Nat.le_of_ble_eq_true rfl) ?_
      refine mj_if_ne 42 dX9_breaking_36 (by decide) (fun z => t_negK hk z (fun hk => ?_)) (fun z => t_posK hk z (fun hk => ?_))
      · exact B_X9_breaking_42 _ _ _ _ _ _ (fun y0 y1 y2 y3 hx => Hb3 y0 y1 y2 y3 hx) hk
      · refine t_mapK hk (fun hk => ?_)
        refine mj_iload dX9_breaking_39 4 rfl ?_
        exact t_somK hk (fun hf => t_iret dX9_breaking_41 rfl rfl ⟨rfl, _, rfl, hf⟩ (Nat.le_of_ble_eq_true rfl) (Nat.le_of_ble_eq_true rfl))
noncomputable def b_X9_breaking_3 (s : t_S) (x : Int32 × Int32 × Int32 × Int32) : Option ((Int32 × Int32 × Int32 × Int32) ⊕ (Int32)) := k_X9_breaking_3 x.1 x.2.1 x.2.2.1 x.2.2.2 s
set_option maxRecDepth 4000 in
set_option maxHeartbeats 1000000 in
theorem LH_X9_breaking_3 {D : va_G} {cy : Nat → ClassId} {ad : Nat → Nat} {bs : Nat} {X : State → Heap → Prop} (s : t_S) : ∀ (n : Nat) (y0 : Int32) (y1 : Int32) (y2 : Int32) (y3 : Int32) (Q : Int32 → Prop) (hk : t_hk (t_loop (b_X9_breaking_3 s) n (y0, y1, y2, y3)) Q), mj_G D cy ad bs X cX9_breaking 5 yX9_breaking.cls (some .int) yX9_breaking.name 3 0 0 1065 (t_P (fun v s' => s' = s ∧ ∃ x, v = some (.int x) ∧ Q (x))) 3 [(0, .ref 946), (1, .int (y0)), (2, .int (y1)), (3, .int (y2)), (4, .int (y3))] [] (t_m s) 1065 0 0 := by
  intro n
  induction n with
  | zero => intro y0 y1 y2 y3 Q hk; obtain ⟨r, hr, _⟩ := hk; cases hr
  | succ n ih =>
    intro y0 y1 y2 y3 Q hk
    exact B_X9_breaking_3 y0 y1 y2 y3 s (fun y => t_lq (b_X9_breaking_3 s) n Q y) (fun y0' y1' y2' y3' hy => ih y0' y1' y2' y3' Q hy) (t_lp hk)
noncomputable def f_X9_breaking (x1 : Int32) (x2 : Int32) (x3 : Int32) (s : t_S) : Option (Int32) :=
 t_loop (b_X9_breaking_3 s) t_N (x1, x2, x3, 4)
set_option maxRecDepth 4000 in
set_option maxHeartbeats 1000000 in
theorem C_X9_breaking (x1 : Int32) (x2 : Int32) (x3 : Int32) (s : t_S) (r : Int32) (hr : f_X9_breaking x1 x2 x3 s = some r) : t_C yX9_breaking cX9_breaking 5 (some .int) 3 [.ref 946, .int x1, .int x2, .int x3] s (fun v s' => v = some (.int r) ∧ s' = s) := by
  refine t_C.imp (P := fun v s' => s' = s ∧ ∃ x, v = some (.int x) ∧ (fun q => q = r) (x)) (t_C.of (by decide +kernel) (Nat.le_of_ble_eq_true rfl) ?_) (fun v s' hp => by obtain ⟨rfl, x, rfl, rfl⟩ := hp; exact ⟨rfl, rfl⟩)
  intro D cy ad bs X
  have hk : t_hk (f_X9_breaking x1 x2 x3 s) (fun q => q = r) := ⟨r, hr, rfl⟩
  show mj_G D cy ad bs X cX9_breaking 5 yX9_breaking.cls (some .int) yX9_breaking.name 3 0 0 1065 (t_P (fun v s' => s' = s ∧ ∃ x, v = some (.int x) ∧ (fun q => q = r) (x))) 0 [(0, .ref 946), (1, .int x1), (2, .int x2), (3, .int x3)] [] (t_m s) 1065 0 0
  refine mj_iconst (v := 4) dX9_breaking_0 (by decide) ?_
  refine mj_istore (lv2 := [(4, .int 4), (0, .ref 946), (1, .int x1), (2, .int x2), (3, .int x3)]) dX9_breaking_1 (by decide) rfl ?_
  refine mj_sublv [(0, .ref 946), (1, .int x1), (2, .int x2), (3, .int x3), (4, .int 4)] [1, 2, 3, 4, 0] rfl ?_
  exact LH_X9_breaking_3 _ _ x1 x2 x3 4 _ hk

theorem dX9_reach_0 : decode cX9_reach 0 = .ok (.iload 4, 2) := by decide +kernel
theorem dX9_reach_101 : decode cX9_reach 101 = .ok (.iastore, 1) := by decide +kernel
theorem dX9_reach_102 : decode cX9_reach 102 = .ok (.iinc 5 1, 3) := by decide +kernel
theorem dX9_reach_105 : decode cX9_reach 105 = .ok (.iinc 6 1, 3) := by decide +kernel
theorem dX9_reach_108 : decode cX9_reach 108 = .ok (.goto (-101), 3) := by decide +kernel
theorem dX9_reach_11 : decode cX9_reach 11 = .ok (.if_icmp .gt 100, 3) := by decide +kernel
theorem dX9_reach_111 : decode cX9_reach 111 = .ok (.iload 5, 2) := by decide +kernel
theorem dX9_reach_113 : decode cX9_reach 113 = .ok (.ireturn, 1) := by decide +kernel
theorem dX9_reach_14 : decode cX9_reach 14 = .ok (.aload_n 0, 1) := by decide +kernel
theorem dX9_reach_15 : decode cX9_reach 15 = .ok (.iload_n 1, 1) := by decide +kernel
theorem dX9_reach_16 : decode cX9_reach 16 = .ok (.iload_n 3, 1) := by decide +kernel
theorem dX9_reach_17 : decode cX9_reach 17 = .ok (.bipush 8, 2) := by decide +kernel
theorem dX9_reach_19 : decode cX9_reach 19 = .ok (.ishr, 1) := by decide +kernel
theorem dX9_reach_2 : decode cX9_reach 2 = .ok (.istore 5, 2) := by decide +kernel
theorem dX9_reach_20 : decode cX9_reach 20 = .ok (.iload 6, 2) := by decide +kernel
theorem dX9_reach_22 : decode cX9_reach 22 = .ok (.invokevirtual 25, 3) := by decide +kernel
theorem dX9_reach_25 : decode cX9_reach 25 = .ok (.istore 7, 2) := by decide +kernel
theorem dX9_reach_27 : decode cX9_reach 27 = .ok (.aload_n 0, 1) := by decide +kernel
theorem dX9_reach_28 : decode cX9_reach 28 = .ok (.iload_n 2, 1) := by decide +kernel
theorem dX9_reach_29 : decode cX9_reach 29 = .ok (.iload_n 3, 1) := by decide +kernel
theorem dX9_reach_30 : decode cX9_reach 30 = .ok (.sipush 255, 3) := by decide +kernel
theorem dX9_reach_33 : decode cX9_reach 33 = .ok (.iand, 1) := by decide +kernel
theorem dX9_reach_34 : decode cX9_reach 34 = .ok (.iload 6, 2) := by decide +kernel
theorem dX9_reach_36 : decode cX9_reach 36 = .ok (.invokevirtual 25, 3) := by decide +kernel
theorem dX9_reach_39 : decode cX9_reach 39 = .ok (.istore 8, 2) := by decide +kernel
theorem dX9_reach_4 : decode cX9_reach 4 = .ok (.iconst 0, 1) := by decide +kernel
theorem dX9_reach_41 : decode cX9_reach 41 = .ok (.iload 7, 2) := by decide +kernel
theorem dX9_reach_43 : decode cX9_reach 43 = .ok (.bipush 8, 2) := by decide +kernel
theorem dX9_reach_45 : decode cX9_reach 45 = .ok (.ishl, 1) := by decide +kernel
theorem dX9_reach_46 : decode cX9_reach 46 = .ok (.iload 8, 2) := by decide +kernel
theorem dX9_reach_48 : decode cX9_reach 48 = .ok (.ior, 1) := by decide +kernel
theorem dX9_reach_49 : decode cX9_reach 49 = .ok (.istore 9, 2) := by decide +kernel
theorem dX9_reach_5 : decode cX9_reach 5 = .ok (.istore 6, 2) := by decide +kernel
theorem dX9_reach_51 : decode cX9_reach 51 = .ok (.iload 7, 2) := by decide +kernel
theorem dX9_reach_53 : decode cX9_reach 53 = .ok (.ifCond .eq 52, 3) := by decide +kernel
theorem dX9_reach_56 : decode cX9_reach 56 = .ok (.iload 8, 2) := by decide +kernel
theorem dX9_reach_58 : decode cX9_reach 58 = .ok (.ifCond .eq 47, 3) := by decide +kernel
theorem dX9_reach_61 : decode cX9_reach 61 = .ok (.aload_n 0, 1) := by decide +kernel
theorem dX9_reach_62 : decode cX9_reach 62 = .ok (.getfield 14, 3) := by decide +kernel
theorem dX9_reach_65 : decode cX9_reach 65 = .ok (.iload 9, 2) := by decide +kernel
theorem dX9_reach_67 : decode cX9_reach 67 = .ok (.iaload, 1) := by decide +kernel
theorem dX9_reach_68 : decode cX9_reach 68 = .ok (.ifCond .ne 37, 3) := by decide +kernel
theorem dX9_reach_7 : decode cX9_reach 7 = .ok (.iload 6, 2) := by decide +kernel
theorem dX9_reach_71 : decode cX9_reach 71 = .ok (.iload 5, 2) := by decide +kernel
theorem dX9_reach_73 : decode cX9_reach 73 = .ok (.ldc 13, 2) := by decide +kernel
theorem dX9_reach_75 : decode cX9_reach 75 = .ok (.if_icmp .ge 30, 3) := by decide +kernel
theorem dX9_reach_78 : decode cX9_reach 78 = .ok (.aload_n 0, 1) := by decide +kernel
theorem dX9_reach_79 : decode cX9_reach 79 = .ok (.getfield 14, 3) := by decide +kernel
theorem dX9_reach_82 : decode cX9_reach 82 = .ok (.iload 9, 2) := by decide +kernel
theorem dX9_reach_84 : decode cX9_reach 84 = .ok (.iconst 1, 1) := by decide +kernel
theorem dX9_reach_85 : decode cX9_reach 85 = .ok (.iload_n 3, 1) := by decide +kernel
theorem dX9_reach_86 : decode cX9_reach 86 = .ok (.iconst 4, 1) := by decide +kernel
theorem dX9_reach_87 : decode cX9_reach 87 = .ok (.ishl, 1) := by decide +kernel
theorem dX9_reach_88 : decode cX9_reach 88 = .ok (.iload 6, 2) := by decide +kernel
theorem dX9_reach_9 : decode cX9_reach 9 = .ok (.bipush 8, 2) := by decide +kernel
theorem dX9_reach_90 : decode cX9_reach 90 = .ok (.ior, 1) := by decide +kernel
theorem dX9_reach_91 : decode cX9_reach 91 = .ok (.iadd, 1) := by decide +kernel
theorem dX9_reach_92 : decode cX9_reach 92 = .ok (.iastore, 1) := by decide +kernel
theorem dX9_reach_93 : decode cX9_reach 93 = .ok (.aload_n 0, 1) := by decide +kernel
theorem dX9_reach_94 : decode cX9_reach 94 = .ok (.getfield 18, 3) := by decide +kernel
theorem dX9_reach_97 : decode cX9_reach 97 = .ok (.iload 5, 2) := by decide +kernel
theorem dX9_reach_99 : decode cX9_reach 99 = .ok (.iload 9, 2) := by decide +kernel
noncomputable def k_X9_reach_105 (l1 : Int32) (l2 : Int32) (l3 : Int32) (l5 : Int32) (l6 : Int32) (s : t_S) : Option ((Int32 × Int32 × Int32 × Int32 × Int32 × t_S) ⊕ (Int32 × t_S)) :=
 some (.inl (l1, l2, l3, l5, (l6 + 1), s))
set_option maxRecDepth 4000 in
set_option maxHeartbeats 1000000 in
theorem B_X9_reach_105 {D : va_G} {cy : Nat → ClassId} {ad : Nat → Nat} {bs : Nat} {X : State → Heap → Prop} (l1 : Int32) (l2 : Int32) (l3 : Int32) (l5 : Int32) (l6 : Int32) (s : t_S) (Q : (Int32 × Int32 × Int32 × Int32 × Int32 × t_S) ⊕ (Int32 × t_S) → Prop) (Hb7 : ∀ (y0 : Int32) (y1 : Int32) (y2 : Int32) (y3 : Int32) (y4 : Int32) (y5 : t_S), Q (.inl (y0, y1, y2, y3, y4, y5)) → mj_G D cy ad bs X cX9_reach 10 yX9_reach.cls (some .int) yX9_reach.name 2 0 0 1065 (t_P (fun v s' => ∃ x, v = some (.int x) ∧ Q (.inr ((x, s'))))) 7 [(0, .ref 946), (1, .int (y0)), (2, .int (y1)), (3, .int (y2)), (5, .int (y3)), (6, .int (y4))] [] (t_m y5) 1065 0 0) (hk : t_hk (k_X9_reach_105 l1 l2 l3 l5 l6 s) Q) : mj_G D cy ad bs X cX9_reach 10 yX9_reach.cls (some .int) yX9_reach.name 2 0 0 1065 (t_P (fun v s' => ∃ x, v = some (.int x) ∧ Q (.inr ((x, s'))))) 105 [(0, .ref 946), (1, .int l1), (2, .int l2), (3, .int l3), (5, .int l5), (6, .int l6)] [] (t_m s) 1065 0 0 := by
  refine mj_iinc (k := 5) (v := (l6 + 1)) (lv2 := [(6, .int (l6 + 1)), (0, .ref 946), (1, .int l1), (2, .int l2), (3, .int l3), (5, .int l5)]) dX9_reach_105 rfl rfl (by decide) rfl ?_
  refine mj_goto 7 dX9_reach_108 (by decide) ?_
  refine mj_sublv [(0, .ref 946), (1, .int l1), (2, .int l2), (3, .int l3), (5, .int l5), (6, .int (l6 + 1))] [1, 2, 3, 4, 5, 0] rfl ?_
  exact t_somK hk (fun hf => Hb7 l1 l2 l3 l5 (l6 + 1) s hf)
noncomputable def k_X9_reach_7 (l1 : Int32) (l2 : Int32) (l3 : Int32) (l5 : Int32) (l6 : Int32) (s : t_S) : Option ((Int32 × Int32 × Int32 × Int32 × Int32 × t_S) ⊕ (Int32 × t_S)) :=
 if (8 : Int32) < l6 then ((some (l5, s)).map Sum.inr)
 else ((f_X9_next l1 (l3 >>> ((8 : Int32) &&& 31)) l6 s).bind (fun r1 =>
 (f_X9_next l2 (l3 &&& (255 : Int32)) l6 s).bind (fun r2 =>
 if r1 = (0 : Int32) then (k_X9_reach_105 l1 l2 l3 l5 l6 s)
 else (if r2 = (0 : Int32) then (k_X9_reach_105 l1 l2 l3 l5 l6 s)
 else (if t_ix ((r1 <<< ((8 : Int32) &&& 31)) ||| r2) 65536 = true then
  if (s.1 948 (((r1 <<< ((8 : Int32) &&& 31)) ||| r2).toNatClampNeg)) = (0 : Int32) then (if (65536 : Int32) ≤ l5 then (k_X9_reach_105 l1 l2 l3 l5 l6 s)
 else (t_let (t_setI s 948 (((r1 <<< ((8 : Int32) &&& 31)) ||| r2).toNatClampNeg) ((1 : Int32) + ((l3 <<< ((4 : Int32) &&& 31)) ||| l6))) (fun s1 =>
 if t_ix l5 65537 = true then
  t_let (t_setI s1 949 (l5.toNatClampNeg) ((r1 <<< ((8 : Int32) &&& 31)) ||| r2)) (fun s2 =>
 k_X9_reach_105 l1 l2 l3 (l5 + 1) l6 s2)
else none)))
 else (k_X9_reach_105 l1 l2 l3 l5 l6 s)
else none)))))
set_option maxRecDepth 4000 in
set_option maxHeartbeats 1000000 in
theorem B_X9_reach_7 {D : va_G} {cy : Nat → ClassId} {ad : Nat → Nat} {bs : Nat} {X : State → Heap → Prop} (l1 : Int32) (l2 : Int32) (l3 : Int32) (l5 : Int32) (l6 : Int32) (s : t_S) (Q : (Int32 × Int32 × Int32 × Int32 × Int32 × t_S) ⊕ (Int32 × t_S) → Prop) (Hb7 : ∀ (y0 : Int32) (y1 : Int32) (y2 : Int32) (y3 : Int32) (y4 : Int32) (y5 : t_S), Q (.inl (y0, y1, y2, y3, y4, y5)) → mj_G D cy ad bs X cX9_reach 10 yX9_reach.cls (some .int) yX9_reach.name 2 0 0 1065 (t_P (fun v s' => ∃ x, v = some (.int x) ∧ Q (.inr ((x, s'))))) 7 [(0, .ref 946), (1, .int (y0)), (2, .int (y1)), (3, .int (y2)), (5, .int (y3)), (6, .int (y4))] [] (t_m y5) 1065 0 0) (hk : t_hk (k_X9_reach_7 l1 l2 l3 l5 l6 s) Q) : mj_G D cy ad bs X cX9_reach 10 yX9_reach.cls (some .int) yX9_reach.name 2 0 0 1065 (t_P (fun v s' => ∃ x, v = some (.int x) ∧ Q (.inr ((x, s'))))) 7 [(0, .ref 946), (1, .int l1), (2, .int l2), (3, .int l3), (5, .int l5), (6, .int l6)] [] (t_m s) 1065 0 0 := by
  refine mj_iload dX9_reach_7 5 rfl ?_
  refine mj_bipush (v := 8) dX9_reach_9 (by decide) ?_
  refine mj_icmp_gt 111 dX9_reach_11 (by decide) (fun z => t_posK hk z (fun hk => ?_)) (fun z => t_negK hk z (fun hk => ?_))
  · refine t_mapK hk (fun hk => ?_)
    refine mj_iload dX9_reach_111 4 rfl ?_
    exact t_somK hk (fun hf => t_iret dX9_reach_113 rfl rfl ⟨_, rfl, hf⟩ (Nat.le_of_ble_eq_true rfl) (Nat.le_of_ble_eq_true rfl))
  · refine mj_aload_n dX9_reach_14 0 rfl ?_
    refine mj_iload_n dX9_reach_15 1 rfl ?_
    refine mj_iload_n dX9_reach_16 3 rfl ?_
    refine mj_bipush (v := 8) dX9_reach_17 (by decide) ?_
    refine mj_ishr dX9_reach_19 ?_
    refine mj_iload dX9_reach_20 5 rfl ?_
    refine t_bndK hk (fun r1 er1 hk => ?_)
    refine t_callViP dX9_reach_22 M_X9_next (C_X9_next _ _ _ _ _ er1) ML_X9_25 IM_X9_next SE_X9_next qc_946 rfl (As := [.int l1, .int (l3 >>> ((8 : Int32) &&& 31)), .int l6]) rfl rfl (Nat.le_of_ble_eq_true rfl) (Nat.le_of_ble_eq_true rfl) (Nat.le_of_ble_eq_true rfl) (Nat.le_of_ble_eq_true rfl) ?_
    refine mj_istore (lv2 := [(7, .int r1), (0, .ref 946), (1, .int l1), (2, .int l2), (3, .int l3), (5, .int l5), (6, .int l6)]) dX9_reach_25 (by decide) rfl ?_
    refine mj_aload_n dX9_reach_27 1 rfl ?_
    refine mj_iload_n dX9_reach_28 3 rfl ?_
    refine mj_iload_n dX9_reach_29 4 rfl ?_
    refine mj_sipush (v := 255) dX9_reach_30 (by decide) ?_
    refine mj_iand dX9_reach_33 ?_
    refine mj_iload dX9_reach_34 6 rfl ?_
    refine t_bndK hk (fun r2 er2 hk => ?_)
    refine t_callViP dX9_reach_36 M_X9_next (C_X9_next _ _ _ _ _ er2) ML_X9_25 IM_X9_next SE_X9_next qc_946 rfl (As := [.int l2, .int (l3 &&& (255 : Int32)), .int l6]) rfl rfl (Nat.le_of_ble_eq_true rfl) (Nat.le_of_ble_eq_true rfl) (Nat.le_of_ble_eq_true rfl) (Nat.le_of_ble_eq_true rfl) ?_
    refine mj_istore (lv2 := [(8, .int r2), (7, .int r1), (0, .ref 946), (1, .int l1), (2, .int l2), (3, .int l3), (5, .int l5), (6, .int l6)]) dX9_reach_39 (by decide) rfl ?_
    refine mj_iload dX9_reach_41 1 rfl ?_
    refine mj_bipush (v := 8) dX9_reach_43 (by decide) ?_
    refine mj_ishl dX9_reach_45 ?_
    refine mj_iload dX9_reach_46 0 rfl ?_
    refine mj_ior dX9_reach_48 ?_
    refine mj_istore (lv2 := [(9, .int ((r1 <<< ((8 : Int32) &&& 31)) ||| r2)), (8, .int r2), (7, .int r1), (0, .ref 946), (1, .int l1), (2, .int l2), (3, .int l3), (5, .int l5), (6, .int l6)]) dX9_reach_49 (by decide) rfl ?_
    refine mj_iload dX9_reach_51 2 rfl ?_
    refine mj_if_eq 105 dX9_reach_53 (by decide) (fun z => t_posK hk z (fun hk => ?_)) (fun z => t_negK hk z (fun hk => ?_))
    · refine mj_sublv [(0, .ref 946), (1, .int l1), (2, .int l2), (3, .int l3), (5, .int l5), (6, .int l6)] [3, 4, 5, 6, 7, 8] rfl ?_
      exact B_X9_reach_105 _ _ _ _ _ _ _ (fun y0 y1 y2 y3 y4 y5 hx => Hb7 y0 y1 y2 y3 y4 y5 hx) hk
    · refine mj_iload dX9_reach_56 1 rfl ?_
      refine mj_if_eq 105 dX9_reach_58 (by decide) (fun z => t_posK hk z (fun hk => ?_)) (fun z => t_negK hk z (fun hk => ?_))
      · refine mj_sublv [(0, .ref 946), (1, .int l1), (2, .int l2), (3, .int l3), (5, .int l5), (6, .int l6)] [3, 4, 5, 6, 7, 8] rfl ?_
        exact B_X9_reach_105 _ _ _ _ _ _ _ (fun y0 y1 y2 y3 y4 y5 hx => Hb7 y0 y1 y2 y3 y4 y5 hx) hk
      · refine mj_aload_n dX9_reach_61 3 rfl ?_
        refine t_getR 948 dX9_reach_62 F_X9_14 qr_946_1 ?_
        refine mj_iload dX9_reach_65 0 rfl ?_
        refine t_chkK hk (fun c2 hk => ?_)
        refine t_iald dX9_reach_67 qa_948 (t_ixv c2) ?_
        refine mj_if_ne 105 dX9_reach_68 (by decide) (fun z => t_negK hk z (fun hk => ?_)) (fun z => t_posK hk z (fun hk => ?_))
        · refine mj_sublv [(0, .ref 946), (1, .int l1), (2, .int l2), (3, .int l3), (5, .int l5), (6, .int l6)] [3, 4, 5, 6, 7, 8] rfl ?_
          exact B_X9_reach_105 _ _ _ _ _ _ _ (fun y0 y1 y2 y3 y4 y5 hx => Hb7 y0 y1 y2 y3 y4 y5 hx) hk
        · refine mj_iload dX9_reach_71 7 rfl ?_
          refine mj_ldc dX9_reach_73 K_X9_13 ?_
          refine mj_icmp_ge 105 dX9_reach_75 (by decide) (fun z => t_posK hk z (fun hk => ?_)) (fun z => t_negK hk z (fun hk => ?_))
          · refine mj_sublv [(0, .ref 946), (1, .int l1), (2, .int l2), (3, .int l3), (5, .int l5), (6, .int l6)] [3, 4, 5, 6, 7, 8] rfl ?_
            exact B_X9_reach_105 _ _ _ _ _ _ _ (fun y0 y1 y2 y3 y4 y5 hx => Hb7 y0 y1 y2 y3 y4 y5 hx) hk
          · refine mj_aload_n dX9_reach_78 3 rfl ?_
            refine t_getR 948 dX9_reach_79 F_X9_14 qr_946_1 ?_
            refine mj_iload dX9_reach_82 0 rfl ?_
            refine mj_iconst (v := 1) dX9_reach_84 (by decide) ?_
            refine mj_iload_n dX9_reach_85 6 rfl ?_
            refine mj_iconst (v := 4) dX9_reach_86 (by decide) ?_
            refine mj_ishl dX9_reach_87 ?_
            refine mj_iload dX9_reach_88 8 rfl ?_
            refine mj_ior dX9_reach_90 ?_
            refine mj_iadd dX9_reach_91 ?_
            refine t_iastK dX9_reach_92 qa_948 (t_ixv c2) (fun s1 ws1 => t_letE hk ws1 (fun hk => ?_))
            refine mj_aload_n dX9_reach_93 3 rfl ?_
            refine t_getR 949 dX9_reach_94 F_X9_18 qr_946_2 ?_
            refine mj_iload dX9_reach_97 7 rfl ?_
            refine mj_iload dX9_reach_99 0 rfl ?_
            refine t_chkK hk (fun c3 hk => ?_)
            refine t_iastK dX9_reach_101 qa_949 (t_ixv c3) (fun s2 ws2 => t_letE hk ws2 (fun hk => ?_))
            refine mj_iinc (k := 7) (v := (l5 + 1)) (lv2 := [(5, .int (l5 + 1)), (9, .int ((r1 <<< ((8 : Int32) &&& 31)) ||| r2)), (8, .int r2), (7, .int r1), (0, .ref 946), (1, .int l1), (2, .int l2), (3, .int l3), (6, .int l6)]) dX9_reach_102 rfl rfl (by decide) rfl ?_
            refine mj_sublv [(0, .ref 946), (1, .int l1), (2, .int l2), (3, .int l3), (5, .int (l5 + 1)), (6, .int l6)] [4, 5, 6, 7, 0, 8] rfl ?_
            exact B_X9_reach_105 _ _ _ _ _ _ _ (fun y0 y1 y2 y3 y4 y5 hx => Hb7 y0 y1 y2 y3 y4 y5 hx) hk
noncomputable def b_X9_reach_7 (x : Int32 × Int32 × Int32 × Int32 × Int32 × t_S) : Option ((Int32 × Int32 × Int32 × Int32 × Int32 × t_S) ⊕ (Int32 × t_S)) := k_X9_reach_7 x.1 x.2.1 x.2.2.1 x.2.2.2.1 x.2.2.2.2.1 x.2.2.2.2.2
set_option maxRecDepth 4000 in
set_option maxHeartbeats 1000000 in
theorem LH_X9_reach_7 {D : va_G} {cy : Nat → ClassId} {ad : Nat → Nat} {bs : Nat} {X : State → Heap → Prop} : ∀ (n : Nat) (y0 : Int32) (y1 : Int32) (y2 : Int32) (y3 : Int32) (y4 : Int32) (y5 : t_S) (Q : Int32 × t_S → Prop) (hk : t_hk (t_loop (b_X9_reach_7) n (y0, y1, y2, y3, y4, y5)) Q), mj_G D cy ad bs X cX9_reach 10 yX9_reach.cls (some .int) yX9_reach.name 2 0 0 1065 (t_P (fun v s' => ∃ x, v = some (.int x) ∧ Q ((x, s')))) 7 [(0, .ref 946), (1, .int (y0)), (2, .int (y1)), (3, .int (y2)), (5, .int (y3)), (6, .int (y4))] [] (t_m y5) 1065 0 0 := by
  intro n
  induction n with
  | zero => intro y0 y1 y2 y3 y4 y5 Q hk; obtain ⟨r, hr, _⟩ := hk; cases hr
  | succ n ih =>
    intro y0 y1 y2 y3 y4 y5 Q hk
    exact B_X9_reach_7 y0 y1 y2 y3 y4 y5 (fun y => t_lq (b_X9_reach_7) n Q y) (fun y0' y1' y2' y3' y4' y5' hy => ih y0' y1' y2' y3' y4' y5' Q hy) (t_lp hk)
noncomputable def f_X9_reach (x1 : Int32) (x2 : Int32) (x3 : Int32) (x4 : Int32) (s : t_S) : Option (Int32 × t_S) :=
 t_loop (b_X9_reach_7) t_N (x1, x2, x3, x4, 0, s)
set_option maxRecDepth 4000 in
set_option maxHeartbeats 1000000 in
theorem C_X9_reach (x1 : Int32) (x2 : Int32) (x3 : Int32) (x4 : Int32) (s : t_S) (r : Int32 × t_S) (hr : f_X9_reach x1 x2 x3 x4 s = some r) : t_C yX9_reach cX9_reach 10 (some .int) 2 [.ref 946, .int x1, .int x2, .int x3, .int x4] s (fun v s' => v = some (.int r.1) ∧ s' = r.2) := by
  refine t_C.imp (P := fun v s' => ∃ x, v = some (.int x) ∧ (fun q => q = r) ((x, s'))) (t_C.of (by decide +kernel) (Nat.le_of_ble_eq_true rfl) ?_) (fun v s' hp => by obtain ⟨x, rfl, rfl⟩ := hp; exact ⟨rfl, rfl⟩)
  intro D cy ad bs X
  have hk : t_hk (f_X9_reach x1 x2 x3 x4 s) (fun q => q = r) := ⟨r, hr, rfl⟩
  show mj_G D cy ad bs X cX9_reach 10 yX9_reach.cls (some .int) yX9_reach.name 2 0 0 1065 (t_P (fun v s' => ∃ x, v = some (.int x) ∧ (fun q => q = r) ((x, s')))) 0 [(0, .ref 946), (1, .int x1), (2, .int x2), (3, .int x3), (4, .int x4)] [] (t_m s) 1065 0 0
  refine mj_iload dX9_reach_0 4 rfl ?_
  refine mj_istore (lv2 := [(5, .int x4), (0, .ref 946), (1, .int x1), (2, .int x2), (3, .int x3), (4, .int x4)]) dX9_reach_2 (by decide) rfl ?_
  refine mj_iconst (v := 0) dX9_reach_4 (by decide) ?_
  refine mj_istore (lv2 := [(6, .int 0), (5, .int x4), (0, .ref 946), (1, .int x1), (2, .int x2), (3, .int x3), (4, .int x4)]) dX9_reach_5 (by decide) rfl ?_
  refine mj_sublv [(0, .ref 946), (1, .int x1), (2, .int x2), (3, .int x3), (5, .int x4), (6, .int 0)] [2, 3, 4, 5, 1, 0] rfl ?_
  exact LH_X9_reach_7 _ x1 x2 x3 x4 0 s _ hk

theorem dX9_writeBreak_0 : decode cX9_writeBreak 0 = .ok (.aload_n 0, 1) := by decide +kernel
theorem dX9_writeBreak_1 : decode cX9_writeBreak 1 = .ok (.iconst 1, 1) := by decide +kernel
theorem dX9_writeBreak_10 : decode cX9_writeBreak 10 = .ok (.iload 4, 2) := by decide +kernel
theorem dX9_writeBreak_100 : decode cX9_writeBreak 100 = .ok (.getfield 14, 3) := by decide +kernel
theorem dX9_writeBreak_103 : decode cX9_writeBreak 103 = .ok (.iload_n 3, 1) := by decide +kernel
theorem dX9_writeBreak_104 : decode cX9_writeBreak 104 = .ok (.iaload, 1) := by decide +kernel
theorem dX9_writeBreak_105 : decode cX9_writeBreak 105 = .ok (.iconst 1, 1) := by decide +kernel
theorem dX9_writeBreak_106 : decode cX9_writeBreak 106 = .ok (.isub, 1) := by decide +kernel
theorem dX9_writeBreak_107 : decode cX9_writeBreak 107 = .ok (.iconst 4, 1) := by decide +kernel
theorem dX9_writeBreak_108 : decode cX9_writeBreak 108 = .ok (.ishr, 1) := by decide +kernel
theorem dX9_writeBreak_109 : decode cX9_writeBreak 109 = .ok (.istore_n 3, 1) := by decide +kernel
theorem dX9_writeBreak_110 : decode cX9_writeBreak 110 = .ok (.iinc 4 (-1), 3) := by decide +kernel
theorem dX9_writeBreak_113 : decode cX9_writeBreak 113 = .ok (.goto (-37), 3) := by decide +kernel
theorem dX9_writeBreak_116 : decode cX9_writeBreak 116 = .ok (.return_, 1) := by decide +kernel
theorem dX9_writeBreak_12 : decode cX9_writeBreak 12 = .ok (.ldc 13, 2) := by decide +kernel
theorem dX9_writeBreak_14 : decode cX9_writeBreak 14 = .ok (.if_icmp .ge 40, 3) := by decide +kernel
theorem dX9_writeBreak_17 : decode cX9_writeBreak 17 = .ok (.aload_n 0, 1) := by decide +kernel
theorem dX9_writeBreak_18 : decode cX9_writeBreak 18 = .ok (.getfield 14, 3) := by decide +kernel
theorem dX9_writeBreak_2 : decode cX9_writeBreak 2 = .ok (.putfield 46, 3) := by decide +kernel
theorem dX9_writeBreak_21 : decode cX9_writeBreak 21 = .ok (.iload_n 3, 1) := by decide +kernel
theorem dX9_writeBreak_22 : decode cX9_writeBreak 22 = .ok (.iaload, 1) := by decide +kernel
theorem dX9_writeBreak_23 : decode cX9_writeBreak 23 = .ok (.iconst (-1), 1) := by decide +kernel
theorem dX9_writeBreak_24 : decode cX9_writeBreak 24 = .ok (.if_icmp .eq 30, 3) := by decide +kernel
theorem dX9_writeBreak_27 : decode cX9_writeBreak 27 = .ok (.aload_n 0, 1) := by decide +kernel
theorem dX9_writeBreak_28 : decode cX9_writeBreak 28 = .ok (.dup, 1) := by decide +kernel
theorem dX9_writeBreak_29 : decode cX9_writeBreak 29 = .ok (.getfield 46, 3) := by decide +kernel
theorem dX9_writeBreak_32 : decode cX9_writeBreak 32 = .ok (.iconst 1, 1) := by decide +kernel
theorem dX9_writeBreak_33 : decode cX9_writeBreak 33 = .ok (.iadd, 1) := by decide +kernel
theorem dX9_writeBreak_34 : decode cX9_writeBreak 34 = .ok (.putfield 46, 3) := by decide +kernel
theorem dX9_writeBreak_37 : decode cX9_writeBreak 37 = .ok (.aload_n 0, 1) := by decide +kernel
theorem dX9_writeBreak_38 : decode cX9_writeBreak 38 = .ok (.getfield 14, 3) := by decide +kernel
theorem dX9_writeBreak_41 : decode cX9_writeBreak 41 = .ok (.iload_n 3, 1) := by decide +kernel
theorem dX9_writeBreak_42 : decode cX9_writeBreak 42 = .ok (.iaload, 1) := by decide +kernel
theorem dX9_writeBreak_43 : decode cX9_writeBreak 43 = .ok (.iconst 1, 1) := by decide +kernel
theorem dX9_writeBreak_44 : decode cX9_writeBreak 44 = .ok (.isub, 1) := by decide +kernel
theorem dX9_writeBreak_45 : decode cX9_writeBreak 45 = .ok (.iconst 4, 1) := by decide +kernel
theorem dX9_writeBreak_46 : decode cX9_writeBreak 46 = .ok (.ishr, 1) := by decide +kernel
theorem dX9_writeBreak_47 : decode cX9_writeBreak 47 = .ok (.istore_n 3, 1) := by decide +kernel
theorem dX9_writeBreak_48 : decode cX9_writeBreak 48 = .ok (.iinc 4 1, 3) := by decide +kernel
theorem dX9_writeBreak_5 : decode cX9_writeBreak 5 = .ok (.iload_n 1, 1) := by decide +kernel
theorem dX9_writeBreak_51 : decode cX9_writeBreak 51 = .ok (.goto (-41), 3) := by decide +kernel
theorem dX9_writeBreak_54 : decode cX9_writeBreak 54 = .ok (.iload_n 1, 1) := by decide +kernel
theorem dX9_writeBreak_55 : decode cX9_writeBreak 55 = .ok (.istore_n 3, 1) := by decide +kernel
theorem dX9_writeBreak_56 : decode cX9_writeBreak 56 = .ok (.aload_n 0, 1) := by decide +kernel
theorem dX9_writeBreak_57 : decode cX9_writeBreak 57 = .ok (.getfield 18, 3) := by decide +kernel
theorem dX9_writeBreak_6 : decode cX9_writeBreak 6 = .ok (.istore_n 3, 1) := by decide +kernel
theorem dX9_writeBreak_60 : decode cX9_writeBreak 60 = .ok (.aload_n 0, 1) := by decide +kernel
theorem dX9_writeBreak_61 : decode cX9_writeBreak 61 = .ok (.getfield 46, 3) := by decide +kernel
theorem dX9_writeBreak_64 : decode cX9_writeBreak 64 = .ok (.iconst 1, 1) := by decide +kernel
theorem dX9_writeBreak_65 : decode cX9_writeBreak 65 = .ok (.isub, 1) := by decide +kernel
theorem dX9_writeBreak_66 : decode cX9_writeBreak 66 = .ok (.iload_n 2, 1) := by decide +kernel
theorem dX9_writeBreak_67 : decode cX9_writeBreak 67 = .ok (.iastore, 1) := by decide +kernel
theorem dX9_writeBreak_68 : decode cX9_writeBreak 68 = .ok (.aload_n 0, 1) := by decide +kernel
theorem dX9_writeBreak_69 : decode cX9_writeBreak 69 = .ok (.getfield 46, 3) := by decide +kernel
theorem dX9_writeBreak_7 : decode cX9_writeBreak 7 = .ok (.iconst 0, 1) := by decide +kernel
theorem dX9_writeBreak_72 : decode cX9_writeBreak 72 = .ok (.iconst 2, 1) := by decide +kernel
theorem dX9_writeBreak_73 : decode cX9_writeBreak 73 = .ok (.isub, 1) := by decide +kernel
theorem dX9_writeBreak_74 : decode cX9_writeBreak 74 = .ok (.istore 4, 2) := by decide +kernel
theorem dX9_writeBreak_76 : decode cX9_writeBreak 76 = .ok (.iload 4, 2) := by decide +kernel
theorem dX9_writeBreak_78 : decode cX9_writeBreak 78 = .ok (.ifCond .lt 38, 3) := by decide +kernel
theorem dX9_writeBreak_8 : decode cX9_writeBreak 8 = .ok (.istore 4, 2) := by decide +kernel
theorem dX9_writeBreak_81 : decode cX9_writeBreak 81 = .ok (.aload_n 0, 1) := by decide +kernel
theorem dX9_writeBreak_82 : decode cX9_writeBreak 82 = .ok (.getfield 18, 3) := by decide +kernel
theorem dX9_writeBreak_85 : decode cX9_writeBreak 85 = .ok (.iload 4, 2) := by decide +kernel
theorem dX9_writeBreak_87 : decode cX9_writeBreak 87 = .ok (.aload_n 0, 1) := by decide +kernel
theorem dX9_writeBreak_88 : decode cX9_writeBreak 88 = .ok (.getfield 14, 3) := by decide +kernel
theorem dX9_writeBreak_91 : decode cX9_writeBreak 91 = .ok (.iload_n 3, 1) := by decide +kernel
theorem dX9_writeBreak_92 : decode cX9_writeBreak 92 = .ok (.iaload, 1) := by decide +kernel
theorem dX9_writeBreak_93 : decode cX9_writeBreak 93 = .ok (.iconst 1, 1) := by decide +kernel
theorem dX9_writeBreak_94 : decode cX9_writeBreak 94 = .ok (.isub, 1) := by decide +kernel
theorem dX9_writeBreak_95 : decode cX9_writeBreak 95 = .ok (.bipush 15, 2) := by decide +kernel
theorem dX9_writeBreak_97 : decode cX9_writeBreak 97 = .ok (.iand, 1) := by decide +kernel
theorem dX9_writeBreak_98 : decode cX9_writeBreak 98 = .ok (.iastore, 1) := by decide +kernel
theorem dX9_writeBreak_99 : decode cX9_writeBreak 99 = .ok (.aload_n 0, 1) := by decide +kernel
noncomputable def k_X9_writeBreak_76 (l3 : Int32) (l4 : Int32) (s : t_S) : Option ((Int32 × Int32 × t_S) ⊕ (t_S)) :=
 if l4 < (0 : Int32) then ((some (s)).map Sum.inr)
 else (if t_ix l3 65536 = true then
  if t_ix l4 65537 = true then
  t_let (t_setI s 949 (l4.toNatClampNeg) (((s.1 948 (l3.toNatClampNeg)) - (1 : Int32)) &&& (15 : Int32))) (fun s1 =>
 some (.inl ((((s1.1 948 (l3.toNatClampNeg)) - (1 : Int32)) >>> ((4 : Int32) &&& 31)), (l4 + (-1)), s1)))
else none
else none)
set_option maxRecDepth 4000 in
set_option maxHeartbeats 1000000 in
theorem B_X9_writeBreak_76 {D : va_G} {cy : Nat → ClassId} {ad : Nat → Nat} {bs : Nat} {X : State → Heap → Prop} (l3 : Int32) (l4 : Int32) (s : t_S) (Q : (Int32 × Int32 × t_S) ⊕ (t_S) → Prop) (Hb76 : ∀ (y0 : Int32) (y1 : Int32) (y2 : t_S), Q (.inl (y0, y1, y2)) → mj_G D cy ad bs X cX9_writeBreak 5 yX9_writeBreak.cls none yX9_writeBreak.name 0 0 0 1065 (t_P (fun v s' => v = none ∧ Q (.inr (s')))) 76 [(0, .ref 946), (3, .int (y0)), (4, .int (y1))] [] (t_m y2) 1065 0 0) (hk : t_hk (k_X9_writeBreak_76 l3 l4 s) Q) : mj_G D cy ad bs X cX9_writeBreak 5 yX9_writeBreak.cls none yX9_writeBreak.name 0 0 0 1065 (t_P (fun v s' => v = none ∧ Q (.inr (s')))) 76 [(0, .ref 946), (3, .int l3), (4, .int l4)] [] (t_m s) 1065 0 0 := by
  refine mj_iload dX9_writeBreak_76 2 rfl ?_
  refine mj_if_lt 116 dX9_writeBreak_78 (by decide) (fun z => t_posK hk z (fun hk => ?_)) (fun z => t_negK hk z (fun hk => ?_))
  · refine t_mapK hk (fun hk => ?_)
    exact t_somK hk (fun hf => t_vret dX9_writeBreak_116 rfl ⟨rfl, hf⟩ (Nat.le_of_ble_eq_true rfl) (Nat.le_of_ble_eq_true rfl))
  · refine mj_aload_n dX9_writeBreak_81 0 rfl ?_
    refine t_getR 949 dX9_writeBreak_82 F_X9_18 qr_946_2 ?_
    refine mj_iload dX9_writeBreak_85 2 rfl ?_
    refine mj_aload_n dX9_writeBreak_87 0 rfl ?_
    refine t_getR 948 dX9_writeBreak_88 F_X9_14 qr_946_1 ?_
    refine mj_iload_n dX9_writeBreak_91 1 rfl ?_
    refine t_chkK hk (fun c0 hk => ?_)
    refine t_iald dX9_writeBreak_92 qa_948 (t_ixv c0) ?_
    refine mj_iconst (v := 1) dX9_writeBreak_93 (by decide) ?_
    refine mj_isub dX9_writeBreak_94 ?_
    refine mj_bipush (v := 15) dX9_writeBreak_95 (by decide) ?_
    refine mj_iand dX9_writeBreak_97 ?_
    refine t_chkK hk (fun c1 hk => ?_)
    refine t_iastK dX9_writeBreak_98 qa_949 (t_ixv c1) (fun s1 ws1 => t_letE hk ws1 (fun hk => ?_))
    refine mj_aload_n dX9_writeBreak_99 0 rfl ?_
    refine t_getR 948 dX9_writeBreak_100 F_X9_14 qr_946_1 ?_
    refine mj_iload_n dX9_writeBreak_103 1 rfl ?_
    refine t_iald dX9_writeBreak_104 qa_948 (t_ixv c0) ?_
    refine mj_iconst (v := 1) dX9_writeBreak_105 (by decide) ?_
    refine mj_isub dX9_writeBreak_106 ?_
    refine mj_iconst (v := 4) dX9_writeBreak_107 (by decide) ?_
    refine mj_ishr dX9_writeBreak_108 ?_
    refine mj_istore_n 3 (lv2 := [(3, .int (((s1.1 948 (l3.toNatClampNeg)) - (1 : Int32)) >>> ((4 : Int32) &&& 31))), (0, .ref 946), (4, .int l4)]) dX9_writeBreak_109 rfl (by decide) rfl ?_
    refine mj_iinc (k := 2) (v := (l4 + (-1))) (lv2 := [(4, .int (l4 + (-1))), (3, .int (((s1.1 948 (l3.toNatClampNeg)) - (1 : Int32)) >>> ((4 : Int32) &&& 31))), (0, .ref 946)]) dX9_writeBreak_110 rfl rfl (by decide) rfl ?_
    refine mj_goto 76 dX9_writeBreak_113 (by decide) ?_
    refine mj_sublv [(0, .ref 946), (3, .int (((s1.1 948 (l3.toNatClampNeg)) - (1 : Int32)) >>> ((4 : Int32) &&& 31))), (4, .int (l4 + (-1)))] [2, 1, 0] rfl ?_
    exact t_somK hk (fun hf => Hb76 (((s1.1 948 (l3.toNatClampNeg)) - (1 : Int32)) >>> ((4 : Int32) &&& 31)) (l4 + (-1)) s1 hf)
noncomputable def b_X9_writeBreak_76 (x : Int32 × Int32 × t_S) : Option ((Int32 × Int32 × t_S) ⊕ (t_S)) := k_X9_writeBreak_76 x.1 x.2.1 x.2.2
set_option maxRecDepth 4000 in
set_option maxHeartbeats 1000000 in
theorem LH_X9_writeBreak_76 {D : va_G} {cy : Nat → ClassId} {ad : Nat → Nat} {bs : Nat} {X : State → Heap → Prop} : ∀ (n : Nat) (y0 : Int32) (y1 : Int32) (y2 : t_S) (Q : t_S → Prop) (hk : t_hk (t_loop (b_X9_writeBreak_76) n (y0, y1, y2)) Q), mj_G D cy ad bs X cX9_writeBreak 5 yX9_writeBreak.cls none yX9_writeBreak.name 0 0 0 1065 (t_P (fun v s' => v = none ∧ Q (s'))) 76 [(0, .ref 946), (3, .int (y0)), (4, .int (y1))] [] (t_m y2) 1065 0 0 := by
  intro n
  induction n with
  | zero => intro y0 y1 y2 Q hk; obtain ⟨r, hr, _⟩ := hk; cases hr
  | succ n ih =>
    intro y0 y1 y2 Q hk
    exact B_X9_writeBreak_76 y0 y1 y2 (fun y => t_lq (b_X9_writeBreak_76) n Q y) (fun y0' y1' y2' hy => ih y0' y1' y2' Q hy) (t_lp hk)
noncomputable def k_X9_writeBreak_54 (l1 : Int32) (l2 : Int32) (s : t_S) : Option (t_S) :=
 if t_ix ((s.1 946 3) - (1 : Int32)) 65537 = true then
  t_let (t_setI s 949 (((s.1 946 3) - (1 : Int32)).toNatClampNeg) l2) (fun s1 =>
 t_loop (b_X9_writeBreak_76) t_N (l1, ((s1.1 946 3) - (2 : Int32)), s1))
else none
set_option maxRecDepth 4000 in
set_option maxHeartbeats 1000000 in
theorem B_X9_writeBreak_54 {D : va_G} {cy : Nat → ClassId} {ad : Nat → Nat} {bs : Nat} {X : State → Heap → Prop} (l1 : Int32) (l2 : Int32) (s : t_S) (Q : t_S → Prop) (hk : t_hk (k_X9_writeBreak_54 l1 l2 s) Q) : mj_G D cy ad bs X cX9_writeBreak 5 yX9_writeBreak.cls none yX9_writeBreak.name 0 0 0 1065 (t_P (fun v s' => v = none ∧ Q (s'))) 54 [(0, .ref 946), (1, .int l1), (2, .int l2)] [] (t_m s) 1065 0 0 := by
  refine mj_iload_n dX9_writeBreak_54 1 rfl ?_
  refine mj_istore_n 3 (lv2 := [(3, .int l1), (0, .ref 946), (1, .int l1), (2, .int l2)]) dX9_writeBreak_55 rfl (by decide) rfl ?_
  refine mj_aload_n dX9_writeBreak_56 1 rfl ?_
  refine t_getR 949 dX9_writeBreak_57 F_X9_18 qr_946_2 ?_
  refine mj_aload_n dX9_writeBreak_60 1 rfl ?_
  refine t_getI dX9_writeBreak_61 F_X9_46 qf_946_3 ?_
  refine mj_iconst (v := 1) dX9_writeBreak_64 (by decide) ?_
  refine mj_isub dX9_writeBreak_65 ?_
  refine mj_iload_n dX9_writeBreak_66 3 rfl ?_
  refine t_chkK hk (fun c0 hk => ?_)
  refine t_iastK dX9_writeBreak_67 qa_949 (t_ixv c0) (fun s1 ws1 => t_letE hk ws1 (fun hk => ?_))
  refine mj_aload_n dX9_writeBreak_68 1 rfl ?_
  refine t_getI dX9_writeBreak_69 F_X9_46 qf_946_3 ?_
  refine mj_iconst (v := 2) dX9_writeBreak_72 (by decide) ?_
  refine mj_isub dX9_writeBreak_73 ?_
  refine mj_istore (lv2 := [(4, .int ((s1.1 946 3) - (2 : Int32))), (3, .int l1), (0, .ref 946), (1, .int l1), (2, .int l2)]) dX9_writeBreak_74 (by decide) rfl ?_
  refine mj_sublv [(0, .ref 946), (3, .int l1), (4, .int ((s1.1 946 3) - (2 : Int32)))] [2, 1, 0] rfl ?_
  exact LH_X9_writeBreak_76 _ l1 ((s1.1 946 3) - (2 : Int32)) s1 _ hk
noncomputable def k_X9_writeBreak_10 (l1 : Int32) (l2 : Int32) (l3 : Int32) (l4 : Int32) (s : t_S) : Option ((Int32 × Int32 × Int32 × Int32 × t_S) ⊕ (t_S)) :=
 if (65536 : Int32) ≤ l4 then ((k_X9_writeBreak_54 l1 l2 s).map Sum.inr)
 else (if t_ix l3 65536 = true then
  if (s.1 948 (l3.toNatClampNeg)) = (-1 : Int32) then ((k_X9_writeBreak_54 l1 l2 s).map Sum.inr)
 else (t_let (t_setI s 946 3 ((s.1 946 3) + (1 : Int32))) (fun s1 =>
 some (.inl (l1, l2, (((s1.1 948 (l3.toNatClampNeg)) - (1 : Int32)) >>> ((4 : Int32) &&& 31)), (l4 + 1), s1))))
else none)
set_option maxRecDepth 4000 in
set_option maxHeartbeats 1000000 in
theorem B_X9_writeBreak_10 {D : va_G} {cy : Nat → ClassId} {ad : Nat → Nat} {bs : Nat} {X : State → Heap → Prop} (l1 : Int32) (l2 : Int32) (l3 : Int32) (l4 : Int32) (s : t_S) (Q : (Int32 × Int32 × Int32 × Int32 × t_S) ⊕ (t_S) → Prop) (Hb10 : ∀ (y0 : Int32) (y1 : Int32) (y2 : Int32) (y3 : Int32) (y4 : t_S), Q (.inl (y0, y1, y2, y3, y4)) → mj_G D cy ad bs X cX9_writeBreak 5 yX9_writeBreak.cls none yX9_writeBreak.name 0 0 0 1065 (t_P (fun v s' => v = none ∧ Q (.inr (s')))) 10 [(0, .ref 946), (1, .int (y0)), (2, .int (y1)), (3, .int (y2)), (4, .int (y3))] [] (t_m y4) 1065 0 0) (hk : t_hk (k_X9_writeBreak_10 l1 l2 l3 l4 s) Q) : mj_G D cy ad bs X cX9_writeBreak 5 yX9_writeBreak.cls none yX9_writeBreak.name 0 0 0 1065 (t_P (fun v s' => v = none ∧ Q (.inr (s')))) 10 [(0, .ref 946), (1, .int l1), (2, .int l2), (3, .int l3), (4, .int l4)] [] (t_m s) 1065 0 0 := by
  refine mj_iload dX9_writeBreak_10 4 rfl ?_
  refine mj_ldc dX9_writeBreak_12 K_X9_13 ?_
  refine mj_icmp_ge 54 dX9_writeBreak_14 (by decide) (fun z => t_posK hk z (fun hk => ?_)) (fun z => t_negK hk z (fun hk => ?_))
  · refine mj_sublv [(0, .ref 946), (1, .int l1), (2, .int l2)] [0, 1, 2] rfl ?_
    refine t_mapK hk (fun hk => ?_)
    exact B_X9_writeBreak_54 _ _ _ _ hk
  · refine mj_aload_n dX9_writeBreak_17 0 rfl ?_
    refine t_getR 948 dX9_writeBreak_18 F_X9_14 qr_946_1 ?_
    refine mj_iload_n dX9_writeBreak_21 3 rfl ?_
    refine t_chkK hk (fun c0 hk => ?_)
    refine t_iald dX9_writeBreak_22 qa_948 (t_ixv c0) ?_
    refine mj_iconst (v := (-1)) dX9_writeBreak_23 (by decide) ?_
    refine mj_icmp_eq 54 dX9_writeBreak_24 (by decide) (fun z => t_posK hk z (fun hk => ?_)) (fun z => t_negK hk z (fun hk => ?_))
    · refine mj_sublv [(0, .ref 946), (1, .int l1), (2, .int l2)] [0, 1, 2] rfl ?_
      refine t_mapK hk (fun hk => ?_)
      exact B_X9_writeBreak_54 _ _ _ _ hk
    · refine mj_aload_n dX9_writeBreak_27 0 rfl ?_
      refine mj_dup dX9_writeBreak_28 rfl ?_
      refine t_getI dX9_writeBreak_29 F_X9_46 qf_946_3 ?_
      refine mj_iconst (v := 1) dX9_writeBreak_32 (by decide) ?_
      refine mj_iadd dX9_writeBreak_33 ?_
      refine t_putIK dX9_writeBreak_34 F_X9_46 qf_946_3 rfl (fun s1 ws1 => t_letE hk ws1 (fun hk => ?_))
      refine mj_aload_n dX9_writeBreak_37 0 rfl ?_
      refine t_getR 948 dX9_writeBreak_38 F_X9_14 qr_946_1 ?_
      refine mj_iload_n dX9_writeBreak_41 3 rfl ?_
      refine t_iald dX9_writeBreak_42 qa_948 (t_ixv c0) ?_
      refine mj_iconst (v := 1) dX9_writeBreak_43 (by decide) ?_
      refine mj_isub dX9_writeBreak_44 ?_
      refine mj_iconst (v := 4) dX9_writeBreak_45 (by decide) ?_
      refine mj_ishr dX9_writeBreak_46 ?_
      refine mj_istore_n 3 (lv2 := [(3, .int (((s1.1 948 (l3.toNatClampNeg)) - (1 : Int32)) >>> ((4 : Int32) &&& 31))), (0, .ref 946), (1, .int l1), (2, .int l2), (4, .int l4)]) dX9_writeBreak_47 rfl (by decide) rfl ?_
      refine mj_iinc (k := 4) (v := (l4 + 1)) (lv2 := [(4, .int (l4 + 1)), (3, .int (((s1.1 948 (l3.toNatClampNeg)) - (1 : Int32)) >>> ((4 : Int32) &&& 31))), (0, .ref 946), (1, .int l1), (2, .int l2)]) dX9_writeBreak_48 rfl rfl (by decide) rfl ?_
      refine mj_goto 10 dX9_writeBreak_51 (by decide) ?_
      refine mj_sublv [(0, .ref 946), (1, .int l1), (2, .int l2), (3, .int (((s1.1 948 (l3.toNatClampNeg)) - (1 : Int32)) >>> ((4 : Int32) &&& 31))), (4, .int (l4 + 1))] [2, 3, 4, 1, 0] rfl ?_
      exact t_somK hk (fun hf => Hb10 l1 l2 (((s1.1 948 (l3.toNatClampNeg)) - (1 : Int32)) >>> ((4 : Int32) &&& 31)) (l4 + 1) s1 hf)
noncomputable def b_X9_writeBreak_10 (x : Int32 × Int32 × Int32 × Int32 × t_S) : Option ((Int32 × Int32 × Int32 × Int32 × t_S) ⊕ (t_S)) := k_X9_writeBreak_10 x.1 x.2.1 x.2.2.1 x.2.2.2.1 x.2.2.2.2
set_option maxRecDepth 4000 in
set_option maxHeartbeats 1000000 in
theorem LH_X9_writeBreak_10 {D : va_G} {cy : Nat → ClassId} {ad : Nat → Nat} {bs : Nat} {X : State → Heap → Prop} : ∀ (n : Nat) (y0 : Int32) (y1 : Int32) (y2 : Int32) (y3 : Int32) (y4 : t_S) (Q : t_S → Prop) (hk : t_hk (t_loop (b_X9_writeBreak_10) n (y0, y1, y2, y3, y4)) Q), mj_G D cy ad bs X cX9_writeBreak 5 yX9_writeBreak.cls none yX9_writeBreak.name 0 0 0 1065 (t_P (fun v s' => v = none ∧ Q (s'))) 10 [(0, .ref 946), (1, .int (y0)), (2, .int (y1)), (3, .int (y2)), (4, .int (y3))] [] (t_m y4) 1065 0 0 := by
  intro n
  induction n with
  | zero => intro y0 y1 y2 y3 y4 Q hk; obtain ⟨r, hr, _⟩ := hk; cases hr
  | succ n ih =>
    intro y0 y1 y2 y3 y4 Q hk
    exact B_X9_writeBreak_10 y0 y1 y2 y3 y4 (fun y => t_lq (b_X9_writeBreak_10) n Q y) (fun y0' y1' y2' y3' y4' hy => ih y0' y1' y2' y3' y4' Q hy) (t_lp hk)
noncomputable def f_X9_writeBreak (x1 : Int32) (x2 : Int32) (s : t_S) : Option (t_S) :=
 t_let (t_setI s 946 3 (1 : Int32)) (fun s1 =>
 t_loop (b_X9_writeBreak_10) t_N (x1, x2, x1, 0, s1))
set_option maxRecDepth 4000 in
set_option maxHeartbeats 1000000 in
theorem C_X9_writeBreak (x1 : Int32) (x2 : Int32) (s : t_S) (r : t_S) (hr : f_X9_writeBreak x1 x2 s = some r) : t_C yX9_writeBreak cX9_writeBreak 5 none 0 [.ref 946, .int x1, .int x2] s (fun v s' => v = none ∧ s' = r) := by
  refine t_C.imp (P := fun v s' => v = none ∧ (fun q => q = r) (s')) (t_C.of (by decide +kernel) (Nat.le_of_ble_eq_true rfl) ?_) (fun v s' hp => hp)
  intro D cy ad bs X
  have hk : t_hk (f_X9_writeBreak x1 x2 s) (fun q => q = r) := ⟨r, hr, rfl⟩
  show mj_G D cy ad bs X cX9_writeBreak 5 yX9_writeBreak.cls none yX9_writeBreak.name 0 0 0 1065 (t_P (fun v s' => v = none ∧ (fun q => q = r) (s'))) 0 [(0, .ref 946), (1, .int x1), (2, .int x2)] [] (t_m s) 1065 0 0
  refine mj_aload_n dX9_writeBreak_0 0 rfl ?_
  refine mj_iconst (v := 1) dX9_writeBreak_1 (by decide) ?_
  refine t_putIK dX9_writeBreak_2 F_X9_46 qf_946_3 rfl (fun s1 ws1 => t_letE hk ws1 (fun hk => ?_))
  refine mj_iload_n dX9_writeBreak_5 1 rfl ?_
  refine mj_istore_n 3 (lv2 := [(3, .int x1), (0, .ref 946), (1, .int x1), (2, .int x2)]) dX9_writeBreak_6 rfl (by decide) rfl ?_
  refine mj_iconst (v := 0) dX9_writeBreak_7 (by decide) ?_
  refine mj_istore (lv2 := [(4, .int 0), (3, .int x1), (0, .ref 946), (1, .int x1), (2, .int x2)]) dX9_writeBreak_8 (by decide) rfl ?_
  refine mj_sublv [(0, .ref 946), (1, .int x1), (2, .int x2), (3, .int x1), (4, .int 0)] [2, 3, 4, 1, 0] rfl ?_
  exact LH_X9_writeBreak_10 _ x1 x2 x1 0 s1 _ hk

theorem dX9_follows_0 : decode cX9_follows 0 = .ok (.aload_n 0, 1) := by decide +kernel
theorem dX9_follows_1 : decode cX9_follows 1 = .ok (.getfield 14, 3) := by decide +kernel
theorem dX9_follows_100 : decode cX9_follows 100 = .ok (.goto (-66), 3) := by decide +kernel
theorem dX9_follows_103 : decode cX9_follows 103 = .ok (.aload_n 0, 1) := by decide +kernel
theorem dX9_follows_104 : decode cX9_follows 104 = .ok (.iconst 0, 1) := by decide +kernel
theorem dX9_follows_105 : decode cX9_follows 105 = .ok (.putfield 46, 3) := by decide +kernel
theorem dX9_follows_108 : decode cX9_follows 108 = .ok (.iconst 1, 1) := by decide +kernel
theorem dX9_follows_109 : decode cX9_follows 109 = .ok (.ireturn, 1) := by decide +kernel
theorem dX9_follows_12 : decode cX9_follows 12 = .ok (.iconst 0, 1) := by decide +kernel
theorem dX9_follows_13 : decode cX9_follows 13 = .ok (.sipush 257, 3) := by decide +kernel
theorem dX9_follows_16 : decode cX9_follows 16 = .ok (.iastore, 1) := by decide +kernel
theorem dX9_follows_17 : decode cX9_follows 17 = .ok (.aload_n 0, 1) := by decide +kernel
theorem dX9_follows_18 : decode cX9_follows 18 = .ok (.getfield 14, 3) := by decide +kernel
theorem dX9_follows_21 : decode cX9_follows 21 = .ok (.aload_n 0, 1) := by decide +kernel
theorem dX9_follows_22 : decode cX9_follows 22 = .ok (.getfield 18, 3) := by decide +kernel
theorem dX9_follows_25 : decode cX9_follows 25 = .ok (.iconst 0, 1) := by decide +kernel
theorem dX9_follows_26 : decode cX9_follows 26 = .ok (.iaload, 1) := by decide +kernel
theorem dX9_follows_27 : decode cX9_follows 27 = .ok (.iconst (-1), 1) := by decide +kernel
theorem dX9_follows_28 : decode cX9_follows 28 = .ok (.iastore, 1) := by decide +kernel
theorem dX9_follows_29 : decode cX9_follows 29 = .ok (.iconst 1, 1) := by decide +kernel
theorem dX9_follows_30 : decode cX9_follows 30 = .ok (.istore_n 3, 1) := by decide +kernel
theorem dX9_follows_31 : decode cX9_follows 31 = .ok (.iconst 0, 1) := by decide +kernel
theorem dX9_follows_32 : decode cX9_follows 32 = .ok (.istore 4, 2) := by decide +kernel
theorem dX9_follows_34 : decode cX9_follows 34 = .ok (.iload 4, 2) := by decide +kernel
theorem dX9_follows_36 : decode cX9_follows 36 = .ok (.iload_n 3, 1) := by decide +kernel
theorem dX9_follows_37 : decode cX9_follows 37 = .ok (.if_icmp .ge 66, 3) := by decide +kernel
theorem dX9_follows_4 : decode cX9_follows 4 = .ok (.iconst 0, 1) := by decide +kernel
theorem dX9_follows_40 : decode cX9_follows 40 = .ok (.iload 4, 2) := by decide +kernel
theorem dX9_follows_42 : decode cX9_follows 42 = .ok (.ldc 13, 2) := by decide +kernel
theorem dX9_follows_44 : decode cX9_follows 44 = .ok (.if_icmp .ge 59, 3) := by decide +kernel
theorem dX9_follows_47 : decode cX9_follows 47 = .ok (.aload_n 0, 1) := by decide +kernel
theorem dX9_follows_48 : decode cX9_follows 48 = .ok (.iload_n 1, 1) := by decide +kernel
theorem dX9_follows_49 : decode cX9_follows 49 = .ok (.iload_n 2, 1) := by decide +kernel
theorem dX9_follows_5 : decode cX9_follows 5 = .ok (.invokestatic 29, 3) := by decide +kernel
theorem dX9_follows_50 : decode cX9_follows 50 = .ok (.aload_n 0, 1) := by decide +kernel
theorem dX9_follows_51 : decode cX9_follows 51 = .ok (.getfield 18, 3) := by decide +kernel
theorem dX9_follows_54 : decode cX9_follows 54 = .ok (.iload 4, 2) := by decide +kernel
theorem dX9_follows_56 : decode cX9_follows 56 = .ok (.iaload, 1) := by decide +kernel
theorem dX9_follows_57 : decode cX9_follows 57 = .ok (.invokevirtual 35, 3) := by decide +kernel
theorem dX9_follows_60 : decode cX9_follows 60 = .ok (.istore 5, 2) := by decide +kernel
theorem dX9_follows_62 : decode cX9_follows 62 = .ok (.iload 5, 2) := by decide +kernel
theorem dX9_follows_64 : decode cX9_follows 64 = .ok (.ifCond .lt 18, 3) := by decide +kernel
theorem dX9_follows_67 : decode cX9_follows 67 = .ok (.aload_n 0, 1) := by decide +kernel
theorem dX9_follows_68 : decode cX9_follows 68 = .ok (.aload_n 0, 1) := by decide +kernel
theorem dX9_follows_69 : decode cX9_follows 69 = .ok (.getfield 18, 3) := by decide +kernel
theorem dX9_follows_72 : decode cX9_follows 72 = .ok (.iload 4, 2) := by decide +kernel
theorem dX9_follows_74 : decode cX9_follows 74 = .ok (.iaload, 1) := by decide +kernel
theorem dX9_follows_75 : decode cX9_follows 75 = .ok (.iload 5, 2) := by decide +kernel
theorem dX9_follows_77 : decode cX9_follows 77 = .ok (.invokevirtual 38, 3) := by decide +kernel
theorem dX9_follows_8 : decode cX9_follows 8 = .ok (.aload_n 0, 1) := by decide +kernel
theorem dX9_follows_80 : decode cX9_follows 80 = .ok (.iconst 0, 1) := by decide +kernel
theorem dX9_follows_81 : decode cX9_follows 81 = .ok (.ireturn, 1) := by decide +kernel
theorem dX9_follows_82 : decode cX9_follows 82 = .ok (.aload_n 0, 1) := by decide +kernel
theorem dX9_follows_83 : decode cX9_follows 83 = .ok (.iload_n 1, 1) := by decide +kernel
theorem dX9_follows_84 : decode cX9_follows 84 = .ok (.iload_n 2, 1) := by decide +kernel
theorem dX9_follows_85 : decode cX9_follows 85 = .ok (.aload_n 0, 1) := by decide +kernel
theorem dX9_follows_86 : decode cX9_follows 86 = .ok (.getfield 18, 3) := by decide +kernel
theorem dX9_follows_89 : decode cX9_follows 89 = .ok (.iload 4, 2) := by decide +kernel
theorem dX9_follows_9 : decode cX9_follows 9 = .ok (.getfield 18, 3) := by decide +kernel
theorem dX9_follows_91 : decode cX9_follows 91 = .ok (.iaload, 1) := by decide +kernel
theorem dX9_follows_92 : decode cX9_follows 92 = .ok (.iload_n 3, 1) := by decide +kernel
theorem dX9_follows_93 : decode cX9_follows 93 = .ok (.invokevirtual 42, 3) := by decide +kernel
theorem dX9_follows_96 : decode cX9_follows 96 = .ok (.istore_n 3, 1) := by decide +kernel
theorem dX9_follows_97 : decode cX9_follows 97 = .ok (.iinc 4 1, 3) := by decide +kernel
noncomputable def k_X9_follows_103 (s : t_S) : Option (Int32 × t_S) :=
 t_let (t_setI s 946 3 (0 : Int32)) (fun s1 =>
 some ((1 : Int32), s1))
set_option maxRecDepth 4000 in
set_option maxHeartbeats 1000000 in
theorem B_X9_follows_103 {D : va_G} {cy : Nat → ClassId} {ad : Nat → Nat} {bs : Nat} {X : State → Heap → Prop} (s : t_S) (Q : Int32 × t_S → Prop) (hk : t_hk (k_X9_follows_103 s) Q) : mj_G D cy ad bs X cX9_follows 6 yX9_follows.cls (some .boolean) yX9_follows.name 4 0 0 1065 (t_P (fun v s' => ∃ x, v = some (.int x) ∧ Q ((x, s')))) 103 [(0, .ref 946)] [] (t_m s) 1065 0 0 := by
  refine mj_aload_n dX9_follows_103 0 rfl ?_
  refine mj_iconst (v := 0) dX9_follows_104 (by decide) ?_
  refine t_putIK dX9_follows_105 F_X9_46 qf_946_3 rfl (fun s1 ws1 => t_letE hk ws1 (fun hk => ?_))
  refine mj_iconst (v := 1) dX9_follows_108 (by decide) ?_
  exact t_somK hk (fun hf => t_iret dX9_follows_109 rfl (by decide) ⟨_, rfl, hf⟩ (Nat.le_of_ble_eq_true rfl) (Nat.le_of_ble_eq_true rfl))
noncomputable def k_X9_follows_34 (l1 : Int32) (l2 : Int32) (l3 : Int32) (l4 : Int32) (s : t_S) : Option ((Int32 × Int32 × Int32 × Int32 × t_S) ⊕ (Int32 × t_S)) :=
 if l3 ≤ l4 then ((k_X9_follows_103 s).map Sum.inr)
 else (if (65536 : Int32) ≤ l4 then ((k_X9_follows_103 s).map Sum.inr)
 else (if t_ix l4 65537 = true then
  (f_X9_breaking l1 l2 (s.1 949 (l4.toNatClampNeg)) s).bind (fun r2 =>
 if r2 < (0 : Int32) then ((f_X9_reach l1 l2 (s.1 949 (l4.toNatClampNeg)) l3 s).bind (fun r3 =>
 some (.inl (l1, l2, r3.1, (l4 + 1), r3.2))))
 else (((f_X9_writeBreak (s.1 949 (l4.toNatClampNeg)) r2 s).bind (fun r4 =>
 some ((0 : Int32), r4))).map Sum.inr))
else none))
set_option maxRecDepth 4000 in
set_option maxHeartbeats 1000000 in
theorem B_X9_follows_34 {D : va_G} {cy : Nat → ClassId} {ad : Nat → Nat} {bs : Nat} {X : State → Heap → Prop} (l1 : Int32) (l2 : Int32) (l3 : Int32) (l4 : Int32) (s : t_S) (Q : (Int32 × Int32 × Int32 × Int32 × t_S) ⊕ (Int32 × t_S) → Prop) (Hb34 : ∀ (y0 : Int32) (y1 : Int32) (y2 : Int32) (y3 : Int32) (y4 : t_S), Q (.inl (y0, y1, y2, y3, y4)) → mj_G D cy ad bs X cX9_follows 6 yX9_follows.cls (some .boolean) yX9_follows.name 4 0 0 1065 (t_P (fun v s' => ∃ x, v = some (.int x) ∧ Q (.inr ((x, s'))))) 34 [(0, .ref 946), (1, .int (y0)), (2, .int (y1)), (3, .int (y2)), (4, .int (y3))] [] (t_m y4) 1065 0 0) (hk : t_hk (k_X9_follows_34 l1 l2 l3 l4 s) Q) : mj_G D cy ad bs X cX9_follows 6 yX9_follows.cls (some .boolean) yX9_follows.name 4 0 0 1065 (t_P (fun v s' => ∃ x, v = some (.int x) ∧ Q (.inr ((x, s'))))) 34 [(0, .ref 946), (1, .int l1), (2, .int l2), (3, .int l3), (4, .int l4)] [] (t_m s) 1065 0 0 := by
  refine mj_iload dX9_follows_34 4 rfl ?_
  refine mj_iload_n dX9_follows_36 3 rfl ?_
  refine mj_icmp_ge 103 dX9_follows_37 (by decide) (fun z => t_posK hk z (fun hk => ?_)) (fun z => t_negK hk z (fun hk => ?_))
  · refine mj_sublv [(0, .ref 946)] [0] rfl ?_
    refine t_mapK hk (fun hk => ?_)
    exact B_X9_follows_103 _ _ hk
  · refine mj_iload dX9_follows_40 4 rfl ?_
    refine mj_ldc dX9_follows_42 K_X9_13 ?_
    refine mj_icmp_ge 103 dX9_follows_44 (by decide) (fun z => t_posK hk z (fun hk => ?_)) (fun z => t_negK hk z (fun hk => ?_))
    · refine mj_sublv [(0, .ref 946)] [0] rfl ?_
      refine t_mapK hk (fun hk => ?_)
      exact B_X9_follows_103 _ _ hk
    · refine mj_aload_n dX9_follows_47 0 rfl ?_
      refine mj_iload_n dX9_follows_48 1 rfl ?_
      refine mj_iload_n dX9_follows_49 2 rfl ?_
      refine mj_aload_n dX9_follows_50 0 rfl ?_
      refine t_getR 949 dX9_follows_51 F_X9_18 qr_946_2 ?_
      refine mj_iload dX9_follows_54 4 rfl ?_
      refine t_chkK hk (fun c0 hk => ?_)
      refine t_iald dX9_follows_56 qa_949 (t_ixv c0) ?_
      refine t_bndK hk (fun r2 er2 hk => ?_)
      refine t_callViP dX9_follows_57 M_X9_breaking (C_X9_breaking _ _ _ _ _ er2) ML_X9_35 IM_X9_breaking SE_X9_breaking qc_946 rfl (As := [.int l1, .int l2, .int (s.1 949 (l4.toNatClampNeg))]) rfl rfl (Nat.le_of_ble_eq_true rfl) (Nat.le_of_ble_eq_true rfl) (Nat.le_of_ble_eq_true rfl) (Nat.le_of_ble_eq_true rfl) ?_
      refine mj_istore (lv2 := [(5, .int r2), (0, .ref 946), (1, .int l1), (2, .int l2), (3, .int l3), (4, .int l4)]) dX9_follows_60 (by decide) rfl ?_
      refine mj_iload dX9_follows_62 0 rfl ?_
      refine mj_if_lt 82 dX9_follows_64 (by decide) (fun z => t_posK hk z (fun hk => ?_)) (fun z => t_negK hk z (fun hk => ?_))
      · refine mj_aload_n dX9_follows_82 1 rfl ?_
        refine mj_iload_n dX9_follows_83 2 rfl ?_
        refine mj_iload_n dX9_follows_84 3 rfl ?_
        refine mj_aload_n dX9_follows_85 1 rfl ?_
        refine t_getR 949 dX9_follows_86 F_X9_18 qr_946_2 ?_
        refine mj_iload dX9_follows_89 5 rfl ?_
        refine t_iald dX9_follows_91 qa_949 (t_ixv c0) ?_
        refine mj_iload_n dX9_follows_92 4 rfl ?_
        refine t_bndK hk (fun r3 er3 hk => ?_)
        refine t_callViE dX9_follows_93 M_X9_reach (C_X9_reach _ _ _ _ _ _ er3) ML_X9_42 IM_X9_reach SE_X9_reach qc_946 rfl (As := [.int l1, .int l2, .int (s.1 949 (l4.toNatClampNeg)), .int l3]) rfl rfl (Nat.le_of_ble_eq_true rfl) (Nat.le_of_ble_eq_true rfl) (Nat.le_of_ble_eq_true rfl) (Nat.le_of_ble_eq_true rfl) ?_
        refine mj_istore_n 3 (lv2 := [(3, .int r3.1), (5, .int r2), (0, .ref 946), (1, .int l1), (2, .int l2), (4, .int l4)]) dX9_follows_96 rfl (by decide) rfl ?_
        refine mj_iinc (k := 5) (v := (l4 + 1)) (lv2 := [(4, .int (l4 + 1)), (3, .int r3.1), (5, .int r2), (0, .ref 946), (1, .int l1), (2, .int l2)]) dX9_follows_97 rfl rfl (by decide) rfl ?_
        refine mj_goto 34 dX9_follows_100 (by decide) ?_
        refine mj_sublv [(0, .ref 946), (1, .int l1), (2, .int l2), (3, .int r3.1), (4, .int (l4 + 1))] [3, 4, 5, 1, 0] rfl ?_
        exact t_somK hk (fun hf => Hb34 l1 l2 r3.1 (l4 + 1) r3.2 hf)
      · refine t_mapK hk (fun hk => ?_)
        refine mj_aload_n dX9_follows_67 1 rfl ?_
        refine mj_aload_n dX9_follows_68 1 rfl ?_
        refine t_getR 949 dX9_follows_69 F_X9_18 qr_946_2 ?_
        refine mj_iload dX9_follows_72 5 rfl ?_
        refine t_iald dX9_follows_74 qa_949 (t_ixv c0) ?_
        refine mj_iload dX9_follows_75 0 rfl ?_
        refine t_bndK hk (fun r4 er4 hk => ?_)
        refine t_callVvE dX9_follows_77 M_X9_writeBreak (C_X9_writeBreak _ _ _ _ er4) ML_X9_38 IM_X9_writeBreak SE_X9_writeBreak qc_946 rfl (As := [.int (s.1 949 (l4.toNatClampNeg)), .int r2]) rfl rfl (Nat.le_of_ble_eq_true rfl) (Nat.le_of_ble_eq_true rfl) (Nat.le_of_ble_eq_true rfl) (Nat.le_of_ble_eq_true rfl) ?_
        refine mj_iconst (v := 0) dX9_follows_80 (by decide) ?_
        exact t_somK hk (fun hf => t_iret dX9_follows_81 rfl (by decide) ⟨_, rfl, hf⟩ (Nat.le_of_ble_eq_true rfl) (Nat.le_of_ble_eq_true rfl))
noncomputable def b_X9_follows_34 (x : Int32 × Int32 × Int32 × Int32 × t_S) : Option ((Int32 × Int32 × Int32 × Int32 × t_S) ⊕ (Int32 × t_S)) := k_X9_follows_34 x.1 x.2.1 x.2.2.1 x.2.2.2.1 x.2.2.2.2
set_option maxRecDepth 4000 in
set_option maxHeartbeats 1000000 in
theorem LH_X9_follows_34 {D : va_G} {cy : Nat → ClassId} {ad : Nat → Nat} {bs : Nat} {X : State → Heap → Prop} : ∀ (n : Nat) (y0 : Int32) (y1 : Int32) (y2 : Int32) (y3 : Int32) (y4 : t_S) (Q : Int32 × t_S → Prop) (hk : t_hk (t_loop (b_X9_follows_34) n (y0, y1, y2, y3, y4)) Q), mj_G D cy ad bs X cX9_follows 6 yX9_follows.cls (some .boolean) yX9_follows.name 4 0 0 1065 (t_P (fun v s' => ∃ x, v = some (.int x) ∧ Q ((x, s')))) 34 [(0, .ref 946), (1, .int (y0)), (2, .int (y1)), (3, .int (y2)), (4, .int (y3))] [] (t_m y4) 1065 0 0 := by
  intro n
  induction n with
  | zero => intro y0 y1 y2 y3 y4 Q hk; obtain ⟨r, hr, _⟩ := hk; cases hr
  | succ n ih =>
    intro y0 y1 y2 y3 y4 Q hk
    exact B_X9_follows_34 y0 y1 y2 y3 y4 (fun y => t_lq (b_X9_follows_34) n Q y) (fun y0' y1' y2' y3' y4' hy => ih y0' y1' y2' y3' y4' Q hy) (t_lp hk)
noncomputable def f_X9_follows (x1 : Int32) (x2 : Int32) (s : t_S) : Option (Int32 × t_S) :=
 (f_J7_fill_53178 948 (0 : Int32) s).bind (fun r1 =>
 t_let (t_setI r1 949 ((0 : Int32).toNatClampNeg) (257 : Int32)) (fun s1 =>
 if t_ix (s1.1 949 ((0 : Int32).toNatClampNeg)) 65536 = true then
  t_let (t_setI s1 948 ((s1.1 949 ((0 : Int32).toNatClampNeg)).toNatClampNeg) (-1 : Int32)) (fun s2 =>
 t_loop (b_X9_follows_34) t_N (x1, x2, 1, 0, s2))
else none))
set_option maxRecDepth 4000 in
set_option maxHeartbeats 1000000 in
theorem C_X9_follows (x1 : Int32) (x2 : Int32) (s : t_S) (r : Int32 × t_S) (hr : f_X9_follows x1 x2 s = some r) : t_C yX9_follows cX9_follows 6 (some .boolean) 4 [.ref 946, .int x1, .int x2] s (fun v s' => v = some (.int r.1) ∧ s' = r.2) := by
  refine t_C.imp (P := fun v s' => ∃ x, v = some (.int x) ∧ (fun q => q = r) ((x, s'))) (t_C.of (by decide +kernel) (Nat.le_of_ble_eq_true rfl) ?_) (fun v s' hp => by obtain ⟨x, rfl, rfl⟩ := hp; exact ⟨rfl, rfl⟩)
  intro D cy ad bs X
  have hk : t_hk (f_X9_follows x1 x2 s) (fun q => q = r) := ⟨r, hr, rfl⟩
  show mj_G D cy ad bs X cX9_follows 6 yX9_follows.cls (some .boolean) yX9_follows.name 4 0 0 1065 (t_P (fun v s' => ∃ x, v = some (.int x) ∧ (fun q => q = r) ((x, s')))) 0 [(0, .ref 946), (1, .int x1), (2, .int x2)] [] (t_m s) 1065 0 0
  refine mj_aload_n dX9_follows_0 0 rfl ?_
  refine t_getR 948 dX9_follows_1 F_X9_14 qr_946_1 ?_
  refine mj_iconst (v := 0) dX9_follows_4 (by decide) ?_
  refine t_bndK hk (fun r1 er1 hk => ?_)
  refine t_callSvE dX9_follows_5 M_J7_fill_53178 (C_J7_fill_53178 _ _ _ _ er1) ML_X9_29 SM_J7_fill_53178 (As := [.ref 948, .int 0]) rfl rfl (Nat.le_of_ble_eq_true rfl) (Nat.le_of_ble_eq_true rfl) (Nat.le_of_ble_eq_true rfl) (Nat.le_of_ble_eq_true rfl) ?_
  refine mj_aload_n dX9_follows_8 0 rfl ?_
  refine t_getR 949 dX9_follows_9 F_X9_18 qr_946_2 ?_
  refine mj_iconst (v := 0) dX9_follows_12 (by decide) ?_
  refine mj_sipush (v := 257) dX9_follows_13 (by decide) ?_
  refine t_iastK dX9_follows_16 qa_949 (by unfold vp_in; decide) (fun s1 ws1 => t_letE hk ws1 (fun hk => ?_))
  refine mj_aload_n dX9_follows_17 0 rfl ?_
  refine t_getR 948 dX9_follows_18 F_X9_14 qr_946_1 ?_
  refine mj_aload_n dX9_follows_21 0 rfl ?_
  refine t_getR 949 dX9_follows_22 F_X9_18 qr_946_2 ?_
  refine mj_iconst (v := 0) dX9_follows_25 (by decide) ?_
  refine t_iald dX9_follows_26 qa_949 (by unfold vp_in; decide) ?_
  refine mj_iconst (v := (-1)) dX9_follows_27 (by decide) ?_
  refine t_chkK hk (fun c1 hk => ?_)
  refine t_iastK dX9_follows_28 qa_948 (t_ixv c1) (fun s2 ws2 => t_letE hk ws2 (fun hk => ?_))
  refine mj_iconst (v := 1) dX9_follows_29 (by decide) ?_
  refine mj_istore_n 3 (lv2 := [(3, .int 1), (0, .ref 946), (1, .int x1), (2, .int x2)]) dX9_follows_30 rfl (by decide) rfl ?_
  refine mj_iconst (v := 0) dX9_follows_31 (by decide) ?_
  refine mj_istore (lv2 := [(4, .int 0), (3, .int 1), (0, .ref 946), (1, .int x1), (2, .int x2)]) dX9_follows_32 (by decide) rfl ?_
  refine mj_sublv [(0, .ref 946), (1, .int x1), (2, .int x2), (3, .int 1), (4, .int 0)] [2, 3, 4, 1, 0] rfl ?_
  exact LH_X9_follows_34 _ x1 x2 1 0 s2 _ hk

theorem dX12_conforms_0 : decode cX12_conforms 0 = .ok (.iload_n 1, 1) := by decide +kernel
theorem dX12_conforms_1 : decode cX12_conforms 1 = .ok (.invokestatic 373, 3) := by decide +kernel
theorem dX12_conforms_11 : decode cX12_conforms 11 = .ok (.ifCond .ne 5, 3) := by decide +kernel
theorem dX12_conforms_14 : decode cX12_conforms 14 = .ok (.iconst (-1), 1) := by decide +kernel
theorem dX12_conforms_15 : decode cX12_conforms 15 = .ok (.ireturn, 1) := by decide +kernel
theorem dX12_conforms_16 : decode cX12_conforms 16 = .ok (.aload_n 0, 1) := by decide +kernel
theorem dX12_conforms_17 : decode cX12_conforms 17 = .ok (.getfield 91, 3) := by decide +kernel
theorem dX12_conforms_20 : decode cX12_conforms 20 = .ok (.iload_n 1, 1) := by decide +kernel
theorem dX12_conforms_21 : decode cX12_conforms 21 = .ok (.iload_n 2, 1) := by decide +kernel
theorem dX12_conforms_22 : decode cX12_conforms 22 = .ok (.invokevirtual 379, 3) := by decide +kernel
theorem dX12_conforms_25 : decode cX12_conforms 25 = .ok (.ifCond .eq 7, 3) := by decide +kernel
theorem dX12_conforms_28 : decode cX12_conforms 28 = .ok (.iconst 1, 1) := by decide +kernel
theorem dX12_conforms_29 : decode cX12_conforms 29 = .ok (.goto 4, 3) := by decide +kernel
theorem dX12_conforms_32 : decode cX12_conforms 32 = .ok (.iconst 0, 1) := by decide +kernel
theorem dX12_conforms_33 : decode cX12_conforms 33 = .ok (.ireturn, 1) := by decide +kernel
theorem dX12_conforms_4 : decode cX12_conforms 4 = .ok (.ifCond .eq 10, 3) := by decide +kernel
theorem dX12_conforms_7 : decode cX12_conforms 7 = .ok (.iload_n 2, 1) := by decide +kernel
theorem dX12_conforms_8 : decode cX12_conforms 8 = .ok (.invokestatic 373, 3) := by decide +kernel
noncomputable def f_X12_conforms (x1 : Int32) (x2 : Int32) (s : t_S) : Option (Int32 × t_S) :=
 if (f_X9_is x1 s) = (0 : Int32) then (some ((-1 : Int32), s))
 else (if (f_X9_is x2 s) = (0 : Int32) then (some ((-1 : Int32), s))
 else ((f_X9_follows x1 x2 s).bind (fun r3 =>
 if r3.1 = (0 : Int32) then (some ((0 : Int32), r3.2))
 else (some ((1 : Int32), r3.2)))))
set_option maxRecDepth 4000 in
set_option maxHeartbeats 1000000 in
theorem C_X12_conforms (x1 : Int32) (x2 : Int32) (s : t_S) (r : Int32 × t_S) (hr : f_X12_conforms x1 x2 s = some r) : t_C yX12_conforms cX12_conforms 3 (some .int) 5 [.ref 0, .int x1, .int x2] s (fun v s' => v = some (.int r.1) ∧ s' = r.2) := by
  refine t_C.imp (P := fun v s' => ∃ x, v = some (.int x) ∧ (fun q => q = r) ((x, s'))) (t_C.of (by decide +kernel) (Nat.le_of_ble_eq_true rfl) ?_) (fun v s' hp => by obtain ⟨x, rfl, rfl⟩ := hp; exact ⟨rfl, rfl⟩)
  intro D cy ad bs X
  have hk : t_hk (f_X12_conforms x1 x2 s) (fun q => q = r) := ⟨r, hr, rfl⟩
  show mj_G D cy ad bs X cX12_conforms 3 yX12_conforms.cls (some .int) yX12_conforms.name 5 0 0 1065 (t_P (fun v s' => ∃ x, v = some (.int x) ∧ (fun q => q = r) ((x, s')))) 0 [(0, .ref 0), (1, .int x1), (2, .int x2)] [] (t_m s) 1065 0 0
  refine mj_iload_n dX12_conforms_0 1 rfl ?_
  refine t_callSiP dX12_conforms_1 M_X9_is (C_X9_is _ _) ML_X12_373 SM_X9_is (As := [.int x1]) rfl rfl (Nat.le_of_ble_eq_true rfl) (Nat.le_of_ble_eq_true rfl) (Nat.le_of_ble_eq_true rfl) (Nat.le_of_ble_eq_true rfl) ?_
  refine mj_if_eq 14 dX12_conforms_4 (by decide) (fun z => t_posK hk z (fun hk => ?_)) (fun z => t_negK hk z (fun hk => ?_))
  · refine mj_iconst (v := (-1)) dX12_conforms_14 (by decide) ?_
    exact t_somK hk (fun hf => t_iret dX12_conforms_15 rfl rfl ⟨_, rfl, hf⟩ (Nat.le_of_ble_eq_true rfl) (Nat.le_of_ble_eq_true rfl))
  · refine mj_iload_n dX12_conforms_7 2 rfl ?_
    refine t_callSiP dX12_conforms_8 M_X9_is (C_X9_is _ _) ML_X12_373 SM_X9_is (As := [.int x2]) rfl rfl (Nat.le_of_ble_eq_true rfl) (Nat.le_of_ble_eq_true rfl) (Nat.le_of_ble_eq_true rfl) (Nat.le_of_ble_eq_true rfl) ?_
    refine mj_if_ne 16 dX12_conforms_11 (by decide) (fun z => t_negK hk z (fun hk => ?_)) (fun z => t_posK hk z (fun hk => ?_))
    · refine mj_aload_n dX12_conforms_16 0 rfl ?_
      refine t_getR 946 dX12_conforms_17 F_X12_91 qr_0_9 ?_
      refine mj_iload_n dX12_conforms_20 1 rfl ?_
      refine mj_iload_n dX12_conforms_21 2 rfl ?_
      refine t_bndK hk (fun r3 er3 hk => ?_)
      refine t_callViE dX12_conforms_22 M_X9_follows (C_X9_follows _ _ _ _ er3) ML_X12_379 IM_X9_follows SE_X9_follows qc_946 rfl (As := [.int x1, .int x2]) rfl rfl (Nat.le_of_ble_eq_true rfl) (Nat.le_of_ble_eq_true rfl) (Nat.le_of_ble_eq_true rfl) (Nat.le_of_ble_eq_true rfl) ?_
      refine mj_if_eq 32 dX12_conforms_25 (by decide) (fun z => t_posK hk z (fun hk => ?_)) (fun z => t_negK hk z (fun hk => ?_))
      · refine mj_iconst (v := 0) dX12_conforms_32 (by decide) ?_
        exact t_somK hk (fun hf => t_iret dX12_conforms_33 rfl rfl ⟨_, rfl, hf⟩ (Nat.le_of_ble_eq_true rfl) (Nat.le_of_ble_eq_true rfl))
      · refine mj_iconst (v := 1) dX12_conforms_28 (by decide) ?_
        refine mj_goto 33 dX12_conforms_29 (by decide) ?_
        exact t_somK hk (fun hf => t_iret dX12_conforms_33 rfl rfl ⟨_, rfl, hf⟩ (Nat.le_of_ble_eq_true rfl) (Nat.le_of_ble_eq_true rfl))
    · refine mj_iconst (v := (-1)) dX12_conforms_14 (by decide) ?_
      exact t_somK hk (fun hf => t_iret dX12_conforms_15 rfl rfl ⟨_, rfl, hf⟩ (Nat.le_of_ble_eq_true rfl) (Nat.le_of_ble_eq_true rfl))

theorem dX9_put_0 : decode cX9_put 0 = .ok (.iload_n 1, 1) := by decide +kernel
theorem dX9_put_1 : decode cX9_put 1 = .ok (.bipush 8, 2) := by decide +kernel
theorem dX9_put_10 : decode cX9_put 10 = .ok (.iadd, 1) := by decide +kernel
theorem dX9_put_11 : decode cX9_put 11 = .ok (.istore 6, 2) := by decide +kernel
theorem dX9_put_13 : decode cX9_put 13 = .ok (.aload_n 0, 1) := by decide +kernel
theorem dX9_put_14 : decode cX9_put 14 = .ok (.getfield 9, 3) := by decide +kernel
theorem dX9_put_17 : decode cX9_put 17 = .ok (.iload 6, 2) := by decide +kernel
theorem dX9_put_19 : decode cX9_put 19 = .ok (.iaload, 1) := by decide +kernel
theorem dX9_put_20 : decode cX9_put 20 = .ok (.iload 4, 2) := by decide +kernel
theorem dX9_put_22 : decode cX9_put 22 = .ok (.ishr, 1) := by decide +kernel
theorem dX9_put_23 : decode cX9_put 23 = .ok (.iconst 1, 1) := by decide +kernel
theorem dX9_put_24 : decode cX9_put 24 = .ok (.iand, 1) := by decide +kernel
theorem dX9_put_25 : decode cX9_put 25 = .ok (.ifCond .eq 7, 3) := by decide +kernel
theorem dX9_put_28 : decode cX9_put 28 = .ok (.iconst 1, 1) := by decide +kernel
theorem dX9_put_29 : decode cX9_put 29 = .ok (.goto 4, 3) := by decide +kernel
theorem dX9_put_3 : decode cX9_put 3 = .ok (.imul, 1) := by decide +kernel
theorem dX9_put_32 : decode cX9_put 32 = .ok (.iconst 0, 1) := by decide +kernel
theorem dX9_put_33 : decode cX9_put 33 = .ok (.istore 7, 2) := by decide +kernel
theorem dX9_put_35 : decode cX9_put 35 = .ok (.iload 5, 2) := by decide +kernel
theorem dX9_put_37 : decode cX9_put 37 = .ok (.ifCond .eq 20, 3) := by decide +kernel
theorem dX9_put_4 : decode cX9_put 4 = .ok (.iload_n 2, 1) := by decide +kernel
theorem dX9_put_40 : decode cX9_put 40 = .ok (.aload_n 0, 1) := by decide +kernel
theorem dX9_put_41 : decode cX9_put 41 = .ok (.getfield 9, 3) := by decide +kernel
theorem dX9_put_44 : decode cX9_put 44 = .ok (.iload 6, 2) := by decide +kernel
theorem dX9_put_46 : decode cX9_put 46 = .ok (.dup2, 1) := by decide +kernel
theorem dX9_put_47 : decode cX9_put 47 = .ok (.iaload, 1) := by decide +kernel
theorem dX9_put_48 : decode cX9_put 48 = .ok (.iconst 1, 1) := by decide +kernel
theorem dX9_put_49 : decode cX9_put 49 = .ok (.iload 4, 2) := by decide +kernel
theorem dX9_put_5 : decode cX9_put 5 = .ok (.iadd, 1) := by decide +kernel
theorem dX9_put_51 : decode cX9_put 51 = .ok (.ishl, 1) := by decide +kernel
theorem dX9_put_52 : decode cX9_put 52 = .ok (.ior, 1) := by decide +kernel
theorem dX9_put_53 : decode cX9_put 53 = .ok (.iastore, 1) := by decide +kernel
theorem dX9_put_54 : decode cX9_put 54 = .ok (.goto 19, 3) := by decide +kernel
theorem dX9_put_57 : decode cX9_put 57 = .ok (.aload_n 0, 1) := by decide +kernel
theorem dX9_put_58 : decode cX9_put 58 = .ok (.getfield 9, 3) := by decide +kernel
theorem dX9_put_6 : decode cX9_put 6 = .ok (.bipush 8, 2) := by decide +kernel
theorem dX9_put_61 : decode cX9_put 61 = .ok (.iload 6, 2) := by decide +kernel
theorem dX9_put_63 : decode cX9_put 63 = .ok (.dup2, 1) := by decide +kernel
theorem dX9_put_64 : decode cX9_put 64 = .ok (.iaload, 1) := by decide +kernel
theorem dX9_put_65 : decode cX9_put 65 = .ok (.iconst 1, 1) := by decide +kernel
theorem dX9_put_66 : decode cX9_put 66 = .ok (.iload 4, 2) := by decide +kernel
theorem dX9_put_68 : decode cX9_put 68 = .ok (.ishl, 1) := by decide +kernel
theorem dX9_put_69 : decode cX9_put 69 = .ok (.iconst (-1), 1) := by decide +kernel
theorem dX9_put_70 : decode cX9_put 70 = .ok (.ixor, 1) := by decide +kernel
theorem dX9_put_71 : decode cX9_put 71 = .ok (.iand, 1) := by decide +kernel
theorem dX9_put_72 : decode cX9_put 72 = .ok (.iastore, 1) := by decide +kernel
theorem dX9_put_73 : decode cX9_put 73 = .ok (.iload 7, 2) := by decide +kernel
theorem dX9_put_75 : decode cX9_put 75 = .ok (.ireturn, 1) := by decide +kernel
theorem dX9_put_8 : decode cX9_put 8 = .ok (.imul, 1) := by decide +kernel
theorem dX9_put_9 : decode cX9_put 9 = .ok (.iload_n 3, 1) := by decide +kernel
noncomputable def k_X9_put_33 (l4 : Int32) (l5 : Int32) (l6 : Int32) (k0 : Int32) (s : t_S) : Option (Int32 × t_S) :=
 if l5 = (0 : Int32) then (if t_ix l6 256 = true then
  t_let (t_setI s 947 (l6.toNatClampNeg) ((s.1 947 (l6.toNatClampNeg)) &&& (((1 : Int32) <<< (l4 &&& 31)) ^^^ (-1 : Int32)))) (fun s1 =>
 if k0 = 0 ∨ k0 = 1 then
  some (k0, s1)
else none)
else none)
 else (if t_ix l6 256 = true then
  t_let (t_setI s 947 (l6.toNatClampNeg) ((s.1 947 (l6.toNatClampNeg)) ||| ((1 : Int32) <<< (l4 &&& 31)))) (fun s2 =>
 if k0 = 0 ∨ k0 = 1 then
  some (k0, s2)
else none)
else none)
set_option maxRecDepth 4000 in
set_option maxHeartbeats 1000000 in
theorem B_X9_put_33 {D : va_G} {cy : Nat → ClassId} {ad : Nat → Nat} {bs : Nat} {X : State → Heap → Prop} (l4 : Int32) (l5 : Int32) (l6 : Int32) (k0 : Int32) (s : t_S) (Q : Int32 × t_S → Prop) (hk : t_hk (k_X9_put_33 l4 l5 l6 k0 s) Q) : mj_G D cy ad bs X cX9_put 8 yX9_put.cls (some .boolean) yX9_put.name 0 0 0 1065 (t_P (fun v s' => ∃ x, v = some (.int x) ∧ Q ((x, s')))) 33 [(0, .ref 946), (4, .int l4), (5, .int l5), (6, .int l6)] [.int k0] (t_m s) 1065 0 0 := by
  refine mj_istore (lv2 := [(7, .int k0), (0, .ref 946), (4, .int l4), (5, .int l5), (6, .int l6)]) dX9_put_33 (by decide) rfl ?_
  refine mj_iload dX9_put_35 3 rfl ?_
  refine mj_if_eq 57 dX9_put_37 (by decide) (fun z => t_posK hk z (fun hk => ?_)) (fun z => t_negK hk z (fun hk => ?_))
  · refine mj_aload_n dX9_put_57 1 rfl ?_
    refine t_getR 947 dX9_put_58 F_X9_9 qr_946_0 ?_
    refine mj_iload dX9_put_61 4 rfl ?_
    refine mj_dup2 dX9_put_63 rfl rfl ?_
    refine t_chkK hk (fun c0 hk => ?_)
    refine t_iald dX9_put_64 qa_947 (t_ixv c0) ?_
    refine mj_iconst (v := 1) dX9_put_65 (by decide) ?_
    refine mj_iload dX9_put_66 2 rfl ?_
    refine mj_ishl dX9_put_68 ?_
    refine mj_iconst (v := (-1)) dX9_put_69 (by decide) ?_
    refine mj_ixor dX9_put_70 ?_
    refine mj_iand dX9_put_71 ?_
    refine t_iastK dX9_put_72 qa_947 (t_ixv c0) (fun s1 ws1 => t_letE hk ws1 (fun hk => ?_))
    refine mj_iload dX9_put_73 0 rfl ?_
    refine t_chkK hk (fun c1 hk => ?_)
    exact t_somK hk (fun hf => t_iret dX9_put_75 rfl (t_zfit c1) ⟨_, rfl, hf⟩ (Nat.le_of_ble_eq_true rfl) (Nat.le_of_ble_eq_true rfl))
  · refine mj_aload_n dX9_put_40 1 rfl ?_
    refine t_getR 947 dX9_put_41 F_X9_9 qr_946_0 ?_
    refine mj_iload dX9_put_44 4 rfl ?_
    refine mj_dup2 dX9_put_46 rfl rfl ?_
    refine t_chkK hk (fun c2 hk => ?_)
    refine t_iald dX9_put_47 qa_947 (t_ixv c2) ?_
    refine mj_iconst (v := 1) dX9_put_48 (by decide) ?_
    refine mj_iload dX9_put_49 2 rfl ?_
    refine mj_ishl dX9_put_51 ?_
    refine mj_ior dX9_put_52 ?_
    refine t_iastK dX9_put_53 qa_947 (t_ixv c2) (fun s2 ws2 => t_letE hk ws2 (fun hk => ?_))
    refine mj_goto 73 dX9_put_54 (by decide) ?_
    refine mj_iload dX9_put_73 0 rfl ?_
    refine t_chkK hk (fun c3 hk => ?_)
    exact t_somK hk (fun hf => t_iret dX9_put_75 rfl (t_zfit c3) ⟨_, rfl, hf⟩ (Nat.le_of_ble_eq_true rfl) (Nat.le_of_ble_eq_true rfl))
noncomputable def f_X9_put (x1 : Int32) (x2 : Int32) (x3 : Int32) (x4 : Int32) (x5 : Int32) (s : t_S) : Option (Int32 × t_S) :=
 if t_ix ((((x1 * (8 : Int32)) + x2) * (8 : Int32)) + x3) 256 = true then
  if (((s.1 947 (((((x1 * (8 : Int32)) + x2) * (8 : Int32)) + x3).toNatClampNeg)) >>> (x4 &&& 31)) &&& (1 : Int32)) = (0 : Int32) then (k_X9_put_33 x4 x5 ((((x1 * (8 : Int32)) + x2) * (8 : Int32)) + x3) 0 s)
 else (k_X9_put_33 x4 x5 ((((x1 * (8 : Int32)) + x2) * (8 : Int32)) + x3) 1 s)
else none
set_option maxRecDepth 4000 in
set_option maxHeartbeats 1000000 in
theorem C_X9_put (x1 : Int32) (x2 : Int32) (x3 : Int32) (x4 : Int32) (x5 : Int32) (s : t_S) (r : Int32 × t_S) (hr : f_X9_put x1 x2 x3 x4 x5 s = some r) : t_C yX9_put cX9_put 8 (some .boolean) 0 [.ref 946, .int x1, .int x2, .int x3, .int x4, .int x5] s (fun v s' => v = some (.int r.1) ∧ s' = r.2) := by
  refine t_C.imp (P := fun v s' => ∃ x, v = some (.int x) ∧ (fun q => q = r) ((x, s'))) (t_C.of (by decide +kernel) (Nat.le_of_ble_eq_true rfl) ?_) (fun v s' hp => by obtain ⟨x, rfl, rfl⟩ := hp; exact ⟨rfl, rfl⟩)
  intro D cy ad bs X
  have hk : t_hk (f_X9_put x1 x2 x3 x4 x5 s) (fun q => q = r) := ⟨r, hr, rfl⟩
  show mj_G D cy ad bs X cX9_put 8 yX9_put.cls (some .boolean) yX9_put.name 0 0 0 1065 (t_P (fun v s' => ∃ x, v = some (.int x) ∧ (fun q => q = r) ((x, s')))) 0 [(0, .ref 946), (1, .int x1), (2, .int x2), (3, .int x3), (4, .int x4), (5, .int x5)] [] (t_m s) 1065 0 0
  refine mj_iload_n dX9_put_0 1 rfl ?_
  refine mj_bipush (v := 8) dX9_put_1 (by decide) ?_
  refine mj_imul dX9_put_3 ?_
  refine mj_iload_n dX9_put_4 2 rfl ?_
  refine mj_iadd dX9_put_5 ?_
  refine mj_bipush (v := 8) dX9_put_6 (by decide) ?_
  refine mj_imul dX9_put_8 ?_
  refine mj_iload_n dX9_put_9 3 rfl ?_
  refine mj_iadd dX9_put_10 ?_
  refine mj_istore (lv2 := [(6, .int ((((x1 * (8 : Int32)) + x2) * (8 : Int32)) + x3)), (0, .ref 946), (1, .int x1), (2, .int x2), (3, .int x3), (4, .int x4), (5, .int x5)]) dX9_put_11 (by decide) rfl ?_
  refine mj_aload_n dX9_put_13 1 rfl ?_
  refine t_getR 947 dX9_put_14 F_X9_9 qr_946_0 ?_
  refine mj_iload dX9_put_17 0 rfl ?_
  refine t_chkK hk (fun c0 hk => ?_)
  refine t_iald dX9_put_19 qa_947 (t_ixv c0) ?_
  refine mj_iload dX9_put_20 5 rfl ?_
  refine mj_ishr dX9_put_22 ?_
  refine mj_iconst (v := 1) dX9_put_23 (by decide) ?_
  refine mj_iand dX9_put_24 ?_
  refine mj_if_eq 32 dX9_put_25 (by decide) (fun z => t_posK hk z (fun hk => ?_)) (fun z => t_negK hk z (fun hk => ?_))
  · refine mj_iconst (v := 0) dX9_put_32 (by decide) ?_
    refine mj_sublv [(0, .ref 946), (4, .int x4), (5, .int x5), (6, .int ((((x1 * (8 : Int32)) + x2) * (8 : Int32)) + x3))] [1, 5, 6, 0] rfl ?_
    exact B_X9_put_33 _ _ _ _ _ _ hk
  · refine mj_iconst (v := 1) dX9_put_28 (by decide) ?_
    refine mj_goto 33 dX9_put_29 (by decide) ?_
    refine mj_sublv [(0, .ref 946), (4, .int x4), (5, .int x5), (6, .int ((((x1 * (8 : Int32)) + x2) * (8 : Int32)) + x3))] [1, 5, 6, 0] rfl ?_
    exact B_X9_put_33 _ _ _ _ _ _ hk

theorem dX12_move_0 : decode cX12_move 0 = .ok (.iload_n 1, 1) := by decide +kernel
theorem dX12_move_1 : decode cX12_move 1 = .ok (.invokestatic 373, 3) := by decide +kernel
theorem dX12_move_11 : decode cX12_move 11 = .ok (.iload_n 2, 1) := by decide +kernel
theorem dX12_move_12 : decode cX12_move 12 = .ok (.bipush 7, 2) := by decide +kernel
theorem dX12_move_14 : decode cX12_move 14 = .ok (.if_icmp .gt 25, 3) := by decide +kernel
theorem dX12_move_17 : decode cX12_move 17 = .ok (.iload_n 3, 1) := by decide +kernel
theorem dX12_move_18 : decode cX12_move 18 = .ok (.ifCond .lt 21, 3) := by decide +kernel
theorem dX12_move_21 : decode cX12_move 21 = .ok (.iload_n 3, 1) := by decide +kernel
theorem dX12_move_22 : decode cX12_move 22 = .ok (.bipush 7, 2) := by decide +kernel
theorem dX12_move_24 : decode cX12_move 24 = .ok (.if_icmp .gt 15, 3) := by decide +kernel
theorem dX12_move_27 : decode cX12_move 27 = .ok (.iload 4, 2) := by decide +kernel
theorem dX12_move_29 : decode cX12_move 29 = .ok (.ifCond .lt 10, 3) := by decide +kernel
theorem dX12_move_32 : decode cX12_move 32 = .ok (.iload 4, 2) := by decide +kernel
theorem dX12_move_34 : decode cX12_move 34 = .ok (.bipush 7, 2) := by decide +kernel
theorem dX12_move_36 : decode cX12_move 36 = .ok (.if_icmp .le 5, 3) := by decide +kernel
theorem dX12_move_39 : decode cX12_move 39 = .ok (.iconst (-1), 1) := by decide +kernel
theorem dX12_move_4 : decode cX12_move 4 = .ok (.ifCond .eq 35, 3) := by decide +kernel
theorem dX12_move_40 : decode cX12_move 40 = .ok (.ireturn, 1) := by decide +kernel
theorem dX12_move_41 : decode cX12_move 41 = .ok (.aload_n 0, 1) := by decide +kernel
theorem dX12_move_42 : decode cX12_move 42 = .ok (.getfield 91, 3) := by decide +kernel
theorem dX12_move_45 : decode cX12_move 45 = .ok (.iload_n 1, 1) := by decide +kernel
theorem dX12_move_46 : decode cX12_move 46 = .ok (.iload_n 2, 1) := by decide +kernel
theorem dX12_move_47 : decode cX12_move 47 = .ok (.iload_n 3, 1) := by decide +kernel
theorem dX12_move_48 : decode cX12_move 48 = .ok (.iload 4, 2) := by decide +kernel
theorem dX12_move_50 : decode cX12_move 50 = .ok (.iload 5, 2) := by decide +kernel
theorem dX12_move_52 : decode cX12_move 52 = .ok (.invokevirtual 376, 3) := by decide +kernel
theorem dX12_move_55 : decode cX12_move 55 = .ok (.ifCond .eq 7, 3) := by decide +kernel
theorem dX12_move_58 : decode cX12_move 58 = .ok (.iconst 1, 1) := by decide +kernel
theorem dX12_move_59 : decode cX12_move 59 = .ok (.goto 4, 3) := by decide +kernel
theorem dX12_move_62 : decode cX12_move 62 = .ok (.iconst 0, 1) := by decide +kernel
theorem dX12_move_63 : decode cX12_move 63 = .ok (.ireturn, 1) := by decide +kernel
theorem dX12_move_7 : decode cX12_move 7 = .ok (.iload_n 2, 1) := by decide +kernel
theorem dX12_move_8 : decode cX12_move 8 = .ok (.ifCond .lt 31, 3) := by decide +kernel
noncomputable def f_X12_move (x1 : Int32) (x2 : Int32) (x3 : Int32) (x4 : Int32) (x5 : Int32) (s : t_S) : Option (Int32 × t_S) :=
 if (f_X9_is x1 s) = (0 : Int32) then (some ((-1 : Int32), s))
 else (if x2 < (0 : Int32) then (some ((-1 : Int32), s))
 else (if (7 : Int32) < x2 then (some ((-1 : Int32), s))
 else (if x3 < (0 : Int32) then (some ((-1 : Int32), s))
 else (if (7 : Int32) < x3 then (some ((-1 : Int32), s))
 else (if x4 < (0 : Int32) then (some ((-1 : Int32), s))
 else (if x4 ≤ (7 : Int32) then ((f_X9_put x1 x2 x3 x4 x5 s).bind (fun r2 =>
 if r2.1 = (0 : Int32) then (some ((0 : Int32), r2.2))
 else (some ((1 : Int32), r2.2))))
 else (some ((-1 : Int32), s))))))))
set_option maxRecDepth 4000 in
set_option maxHeartbeats 1000000 in
theorem C_X12_move (x1 : Int32) (x2 : Int32) (x3 : Int32) (x4 : Int32) (x5 : Int32) (s : t_S) (r : Int32 × t_S) (hr : f_X12_move x1 x2 x3 x4 x5 s = some r) : t_C yX12_move cX12_move 6 (some .int) 1 [.ref 0, .int x1, .int x2, .int x3, .int x4, .int x5] s (fun v s' => v = some (.int r.1) ∧ s' = r.2) := by
  refine t_C.imp (P := fun v s' => ∃ x, v = some (.int x) ∧ (fun q => q = r) ((x, s'))) (t_C.of (by decide +kernel) (Nat.le_of_ble_eq_true rfl) ?_) (fun v s' hp => by obtain ⟨x, rfl, rfl⟩ := hp; exact ⟨rfl, rfl⟩)
  intro D cy ad bs X
  have hk : t_hk (f_X12_move x1 x2 x3 x4 x5 s) (fun q => q = r) := ⟨r, hr, rfl⟩
  show mj_G D cy ad bs X cX12_move 6 yX12_move.cls (some .int) yX12_move.name 1 0 0 1065 (t_P (fun v s' => ∃ x, v = some (.int x) ∧ (fun q => q = r) ((x, s')))) 0 [(0, .ref 0), (1, .int x1), (2, .int x2), (3, .int x3), (4, .int x4), (5, .int x5)] [] (t_m s) 1065 0 0
  refine mj_iload_n dX12_move_0 1 rfl ?_
  refine t_callSiP dX12_move_1 M_X9_is (C_X9_is _ _) ML_X12_373 SM_X9_is (As := [.int x1]) rfl rfl (Nat.le_of_ble_eq_true rfl) (Nat.le_of_ble_eq_true rfl) (Nat.le_of_ble_eq_true rfl) (Nat.le_of_ble_eq_true rfl) ?_
  refine mj_if_eq 39 dX12_move_4 (by decide) (fun z => t_posK hk z (fun hk => ?_)) (fun z => t_negK hk z (fun hk => ?_))
  · refine mj_iconst (v := (-1)) dX12_move_39 (by decide) ?_
    exact t_somK hk (fun hf => t_iret dX12_move_40 rfl rfl ⟨_, rfl, hf⟩ (Nat.le_of_ble_eq_true rfl) (Nat.le_of_ble_eq_true rfl))
  · refine mj_iload_n dX12_move_7 2 rfl ?_
    refine mj_if_lt 39 dX12_move_8 (by decide) (fun z => t_posK hk z (fun hk => ?_)) (fun z => t_negK hk z (fun hk => ?_))
    · refine mj_iconst (v := (-1)) dX12_move_39 (by decide) ?_
      exact t_somK hk (fun hf => t_iret dX12_move_40 rfl rfl ⟨_, rfl, hf⟩ (Nat.le_of_ble_eq_true rfl) (Nat.le_of_ble_eq_true rfl))
    · refine mj_iload_n dX12_move_11 2 rfl ?_
      refine mj_bipush (v := 7) dX12_move_12 (by decide) ?_
      refine mj_icmp_gt 39 dX12_move_14 (by decide) (fun z => t_posK hk z (fun hk => ?_)) (fun z => t_negK hk z (fun hk => ?_))
      · refine mj_iconst (v := (-1)) dX12_move_39 (by decide) ?_
        exact t_somK hk (fun hf => t_iret dX12_move_40 rfl rfl ⟨_, rfl, hf⟩ (Nat.le_of_ble_eq_true rfl) (Nat.le_of_ble_eq_true rfl))
      · refine mj_iload_n dX12_move_17 3 rfl ?_
        refine mj_if_lt 39 dX12_move_18 (by decide) (fun z => t_posK hk z (fun hk => ?_)) (fun z => t_negK hk z (fun hk => ?_))
        · refine mj_iconst (v := (-1)) dX12_move_39 (by decide) ?_
          exact t_somK hk (fun hf => t_iret dX12_move_40 rfl rfl ⟨_, rfl, hf⟩ (Nat.le_of_ble_eq_true rfl) (Nat.le_of_ble_eq_true rfl))
        · refine mj_iload_n dX12_move_21 3 rfl ?_
          refine mj_bipush (v := 7) dX12_move_22 (by decide) ?_
          refine mj_icmp_gt 39 dX12_move_24 (by decide) (fun z => t_posK hk z (fun hk => ?_)) (fun z => t_negK hk z (fun hk => ?_))
          · refine mj_iconst (v := (-1)) dX12_move_39 (by decide) ?_
            exact t_somK hk (fun hf => t_iret dX12_move_40 rfl rfl ⟨_, rfl, hf⟩ (Nat.le_of_ble_eq_true rfl) (Nat.le_of_ble_eq_true rfl))
          · refine mj_iload dX12_move_27 4 rfl ?_
            refine mj_if_lt 39 dX12_move_29 (by decide) (fun z => t_posK hk z (fun hk => ?_)) (fun z => t_negK hk z (fun hk => ?_))
            · refine mj_iconst (v := (-1)) dX12_move_39 (by decide) ?_
              exact t_somK hk (fun hf => t_iret dX12_move_40 rfl rfl ⟨_, rfl, hf⟩ (Nat.le_of_ble_eq_true rfl) (Nat.le_of_ble_eq_true rfl))
            · refine mj_iload dX12_move_32 4 rfl ?_
              refine mj_bipush (v := 7) dX12_move_34 (by decide) ?_
              refine mj_icmp_le 41 dX12_move_36 (by decide) (fun z => t_posK hk z (fun hk => ?_)) (fun z => t_negK hk z (fun hk => ?_))
              · refine mj_aload_n dX12_move_41 0 rfl ?_
                refine t_getR 946 dX12_move_42 F_X12_91 qr_0_9 ?_
                refine mj_iload_n dX12_move_45 1 rfl ?_
                refine mj_iload_n dX12_move_46 2 rfl ?_
                refine mj_iload_n dX12_move_47 3 rfl ?_
                refine mj_iload dX12_move_48 4 rfl ?_
                refine mj_iload dX12_move_50 5 rfl ?_
                refine t_bndK hk (fun r2 er2 hk => ?_)
                refine t_callViE dX12_move_52 M_X9_put (C_X9_put _ _ _ _ _ _ _ er2) ML_X12_376 IM_X9_put SE_X9_put qc_946 rfl (As := [.int x1, .int x2, .int x3, .int x4, .int x5]) rfl rfl (Nat.le_of_ble_eq_true rfl) (Nat.le_of_ble_eq_true rfl) (Nat.le_of_ble_eq_true rfl) (Nat.le_of_ble_eq_true rfl) ?_
                refine mj_if_eq 62 dX12_move_55 (by decide) (fun z => t_posK hk z (fun hk => ?_)) (fun z => t_negK hk z (fun hk => ?_))
                · refine mj_iconst (v := 0) dX12_move_62 (by decide) ?_
                  exact t_somK hk (fun hf => t_iret dX12_move_63 rfl rfl ⟨_, rfl, hf⟩ (Nat.le_of_ble_eq_true rfl) (Nat.le_of_ble_eq_true rfl))
                · refine mj_iconst (v := 1) dX12_move_58 (by decide) ?_
                  refine mj_goto 63 dX12_move_59 (by decide) ?_
                  exact t_somK hk (fun hf => t_iret dX12_move_63 rfl rfl ⟨_, rfl, hf⟩ (Nat.le_of_ble_eq_true rfl) (Nat.le_of_ble_eq_true rfl))
              · refine mj_iconst (v := (-1)) dX12_move_39 (by decide) ?_
                exact t_somK hk (fun hf => t_iret dX12_move_40 rfl rfl ⟨_, rfl, hf⟩ (Nat.le_of_ble_eq_true rfl) (Nat.le_of_ble_eq_true rfl))

theorem dX12_row_0 : decode cX12_row 0 = .ok (.iload_n 1, 1) := by decide +kernel
theorem dX12_row_1 : decode cX12_row 1 = .ok (.iconst (-1), 1) := by decide +kernel
theorem dX12_row_12 : decode cX12_row 12 = .ok (.ireturn, 1) := by decide +kernel
theorem dX12_row_13 : decode cX12_row 13 = .ok (.iload_n 1, 1) := by decide +kernel
theorem dX12_row_14 : decode cX12_row 14 = .ok (.ifCond .lt 14, 3) := by decide +kernel
theorem dX12_row_17 : decode cX12_row 17 = .ok (.iload_n 1, 1) := by decide +kernel
theorem dX12_row_18 : decode cX12_row 18 = .ok (.aload_n 0, 1) := by decide +kernel
theorem dX12_row_19 : decode cX12_row 19 = .ok (.getfield 91, 3) := by decide +kernel
theorem dX12_row_2 : decode cX12_row 2 = .ok (.if_icmp .ne 11, 3) := by decide +kernel
theorem dX12_row_22 : decode cX12_row 22 = .ok (.getfield 382, 3) := by decide +kernel
theorem dX12_row_25 : decode cX12_row 25 = .ok (.if_icmp .lt 8, 3) := by decide +kernel
theorem dX12_row_28 : decode cX12_row 28 = .ok (.bipush (-2), 2) := by decide +kernel
theorem dX12_row_30 : decode cX12_row 30 = .ok (.goto 12, 3) := by decide +kernel
theorem dX12_row_33 : decode cX12_row 33 = .ok (.aload_n 0, 1) := by decide +kernel
theorem dX12_row_34 : decode cX12_row 34 = .ok (.getfield 91, 3) := by decide +kernel
theorem dX12_row_37 : decode cX12_row 37 = .ok (.getfield 383, 3) := by decide +kernel
theorem dX12_row_40 : decode cX12_row 40 = .ok (.iload_n 1, 1) := by decide +kernel
theorem dX12_row_41 : decode cX12_row 41 = .ok (.iaload, 1) := by decide +kernel
theorem dX12_row_42 : decode cX12_row 42 = .ok (.ireturn, 1) := by decide +kernel
theorem dX12_row_5 : decode cX12_row 5 = .ok (.aload_n 0, 1) := by decide +kernel
theorem dX12_row_6 : decode cX12_row 6 = .ok (.getfield 91, 3) := by decide +kernel
theorem dX12_row_9 : decode cX12_row 9 = .ok (.getfield 382, 3) := by decide +kernel
noncomputable def k_X12_row_28 (s : t_S) : Option (Int32) :=
 some (-2 : Int32)
set_option maxRecDepth 4000 in
set_option maxHeartbeats 1000000 in
theorem B_X12_row_28 {D : va_G} {cy : Nat → ClassId} {ad : Nat → Nat} {bs : Nat} {X : State → Heap → Prop} (s : t_S) (Q : Int32 → Prop) (hk : t_hk (k_X12_row_28 s) Q) : mj_G D cy ad bs X cX12_row 2 yX12_row.cls (some .int) yX12_row.name 0 0 0 1065 (t_P (fun v s' => s' = s ∧ ∃ x, v = some (.int x) ∧ Q (x))) 28 [] [] (t_m s) 1065 0 0 := by
  refine mj_bipush (v := (-2)) dX12_row_28 (by decide) ?_
  refine mj_goto 42 dX12_row_30 (by decide) ?_
  exact t_somK hk (fun hf => t_iret dX12_row_42 rfl rfl ⟨rfl, _, rfl, hf⟩ (Nat.le_of_ble_eq_true rfl) (Nat.le_of_ble_eq_true rfl))
noncomputable def f_X12_row (x1 : Int32) (s : t_S) : Option (Int32) :=
 if x1 = (-1 : Int32) then (some (s.1 946 3))
 else (if x1 < (0 : Int32) then (k_X12_row_28 s)
 else (if x1 < (s.1 946 3) then (if t_ix x1 65537 = true then
  some (s.1 949 (x1.toNatClampNeg))
else none)
 else (k_X12_row_28 s)))
set_option maxRecDepth 4000 in
set_option maxHeartbeats 1000000 in
theorem C_X12_row (x1 : Int32) (s : t_S) (r : Int32) (hr : f_X12_row x1 s = some r) : t_C yX12_row cX12_row 2 (some .int) 0 [.ref 0, .int x1] s (fun v s' => v = some (.int r) ∧ s' = s) := by
  refine t_C.imp (P := fun v s' => s' = s ∧ ∃ x, v = some (.int x) ∧ (fun q => q = r) (x)) (t_C.of (by decide +kernel) (Nat.le_of_ble_eq_true rfl) ?_) (fun v s' hp => by obtain ⟨rfl, x, rfl, rfl⟩ := hp; exact ⟨rfl, rfl⟩)
  intro D cy ad bs X
  have hk : t_hk (f_X12_row x1 s) (fun q => q = r) := ⟨r, hr, rfl⟩
  show mj_G D cy ad bs X cX12_row 2 yX12_row.cls (some .int) yX12_row.name 0 0 0 1065 (t_P (fun v s' => s' = s ∧ ∃ x, v = some (.int x) ∧ (fun q => q = r) (x))) 0 [(0, .ref 0), (1, .int x1)] [] (t_m s) 1065 0 0
  refine mj_iload_n dX12_row_0 1 rfl ?_
  refine mj_iconst (v := (-1)) dX12_row_1 (by decide) ?_
  refine mj_icmp_ne 13 dX12_row_2 (by decide) (fun z => t_negK hk z (fun hk => ?_)) (fun z => t_posK hk z (fun hk => ?_))
  · refine mj_iload_n dX12_row_13 1 rfl ?_
    refine mj_if_lt 28 dX12_row_14 (by decide) (fun z => t_posK hk z (fun hk => ?_)) (fun z => t_negK hk z (fun hk => ?_))
    · refine mj_sublv [] [] rfl ?_
      exact B_X12_row_28 _ _ hk
    · refine mj_iload_n dX12_row_17 1 rfl ?_
      refine mj_aload_n dX12_row_18 0 rfl ?_
      refine t_getR 946 dX12_row_19 F_X12_91 qr_0_9 ?_
      refine t_getI dX12_row_22 F_X12_382 qf_946_3 ?_
      refine mj_icmp_lt 33 dX12_row_25 (by decide) (fun z => t_posK hk z (fun hk => ?_)) (fun z => t_negK hk z (fun hk => ?_))
      · refine mj_aload_n dX12_row_33 0 rfl ?_
        refine t_getR 946 dX12_row_34 F_X12_91 qr_0_9 ?_
        refine t_getR 949 dX12_row_37 F_X12_383 qr_946_2 ?_
        refine mj_iload_n dX12_row_40 1 rfl ?_
        refine t_chkK hk (fun c0 hk => ?_)
        refine t_iald dX12_row_41 qa_949 (t_ixv c0) ?_
        exact t_somK hk (fun hf => t_iret dX12_row_42 rfl rfl ⟨rfl, _, rfl, hf⟩ (Nat.le_of_ble_eq_true rfl) (Nat.le_of_ble_eq_true rfl))
      · refine mj_sublv [] [] rfl ?_
        exact B_X12_row_28 _ _ hk
  · refine mj_aload_n dX12_row_5 0 rfl ?_
    refine t_getR 946 dX12_row_6 F_X12_91 qr_0_9 ?_
    refine t_getI dX12_row_9 F_X12_382 qf_946_3 ?_
    exact t_somK hk (fun hf => t_iret dX12_row_12 rfl rfl ⟨rfl, _, rfl, hf⟩ (Nat.le_of_ble_eq_true rfl) (Nat.le_of_ble_eq_true rfl))

theorem dX13_in_0 : decode cX13_in 0 = .ok (.lload_n 0, 1) := by decide +kernel
theorem dX13_in_1 : decode cX13_in 1 = .ok (.lload_n 2, 1) := by decide +kernel
theorem dX13_in_10 : decode cX13_in 10 = .ok (.ifCond .gt 7, 3) := by decide +kernel
theorem dX13_in_13 : decode cX13_in 13 = .ok (.iconst 1, 1) := by decide +kernel
theorem dX13_in_14 : decode cX13_in 14 = .ok (.goto 4, 3) := by decide +kernel
theorem dX13_in_17 : decode cX13_in 17 = .ok (.iconst 0, 1) := by decide +kernel
theorem dX13_in_18 : decode cX13_in 18 = .ok (.ireturn, 1) := by decide +kernel
theorem dX13_in_2 : decode cX13_in 2 = .ok (.lcmp, 1) := by decide +kernel
theorem dX13_in_3 : decode cX13_in 3 = .ok (.ifCond .lt 14, 3) := by decide +kernel
theorem dX13_in_6 : decode cX13_in 6 = .ok (.lload_n 0, 1) := by decide +kernel
theorem dX13_in_7 : decode cX13_in 7 = .ok (.lload 4, 2) := by decide +kernel
theorem dX13_in_9 : decode cX13_in 9 = .ok (.lcmp, 1) := by decide +kernel
noncomputable def f_X13_in (x1 : Int64) (x2 : Int64) (x3 : Int64) (s : t_S) : Int32 :=
 if (lg_cmp x1 x2) < (0 : Int32) then ((0 : Int32))
 else (if (0 : Int32) < (lg_cmp x1 x3) then ((0 : Int32))
 else ((1 : Int32)))
set_option maxRecDepth 4000 in
set_option maxHeartbeats 1000000 in
theorem C_X13_in (x1 : Int64) (x2 : Int64) (x3 : Int64) (s : t_S) : t_C yX13_in cX13_in 6 (some .boolean) 0 [.long x1, .long x2, .long x3] s (fun v s' => v = some (.int (f_X13_in x1 x2 x3 s)) ∧ s' = s) := by
  refine t_C.imp (P := fun v s' => s' = s ∧ ∃ x, v = some (.int x) ∧ (fun r => r = f_X13_in x1 x2 x3 s) (x)) (t_C.of (by decide +kernel) (Nat.le_of_ble_eq_true rfl) ?_) (fun v s' hp => by obtain ⟨rfl, x, rfl, rfl⟩ := hp; exact ⟨rfl, rfl⟩)
  intro D cy ad bs X
  have hk : t_ht (f_X13_in x1 x2 x3 s) (fun r => r = f_X13_in x1 x2 x3 s) := rfl
  show mj_G D cy ad bs X cX13_in 6 yX13_in.cls (some .boolean) yX13_in.name 0 0 0 1065 (t_P (fun v s' => s' = s ∧ ∃ x, v = some (.int x) ∧ (fun r => r = f_X13_in x1 x2 x3 s) (x))) 0 [(0, .long x1), (2, .long x2), (4, .long x3)] [] (t_m s) 1065 0 0
  refine mj_lload_n dX13_in_0 0 rfl ?_
  refine mj_lload_n dX13_in_1 1 rfl ?_
  refine mj_lcmp dX13_in_2 ?_
  refine mj_if_lt 17 dX13_in_3 (by decide) (fun z => t_posTK hk z (fun hk => ?_)) (fun z => t_negTK hk z (fun hk => ?_))
  · refine mj_iconst (v := 0) dX13_in_17 (by decide) ?_
    exact t_iret dX13_in_18 rfl (by decide) ⟨rfl, _, rfl, hk⟩ (Nat.le_of_ble_eq_true rfl) (Nat.le_of_ble_eq_true rfl)
  · refine mj_lload_n dX13_in_6 0 rfl ?_
    refine mj_lload dX13_in_7 2 rfl ?_
    refine mj_lcmp dX13_in_9 ?_
    refine mj_if_gt 17 dX13_in_10 (by decide) (fun z => t_posTK hk z (fun hk => ?_)) (fun z => t_negTK hk z (fun hk => ?_))
    · refine mj_iconst (v := 0) dX13_in_17 (by decide) ?_
      exact t_iret dX13_in_18 rfl (by decide) ⟨rfl, _, rfl, hk⟩ (Nat.le_of_ble_eq_true rfl) (Nat.le_of_ble_eq_true rfl)
    · refine mj_iconst (v := 1) dX13_in_13 (by decide) ?_
      refine mj_goto 18 dX13_in_14 (by decide) ?_
      exact t_iret dX13_in_18 rfl (by decide) ⟨rfl, _, rfl, hk⟩ (Nat.le_of_ble_eq_true rfl) (Nat.le_of_ble_eq_true rfl)

theorem dX13_cellOf_0 : decode cX13_cellOf 0 = .ok (.bipush 64, 2) := by decide +kernel
theorem dX13_cellOf_10 : decode cX13_cellOf 10 = .ok (.iadd, 1) := by decide +kernel
theorem dX13_cellOf_11 : decode cX13_cellOf 11 = .ok (.ireturn, 1) := by decide +kernel
theorem dX13_cellOf_2 : decode cX13_cellOf 2 = .ok (.iload_n 1, 1) := by decide +kernel
theorem dX13_cellOf_3 : decode cX13_cellOf 3 = .ok (.imul, 1) := by decide +kernel
theorem dX13_cellOf_4 : decode cX13_cellOf 4 = .ok (.bipush 8, 2) := by decide +kernel
theorem dX13_cellOf_6 : decode cX13_cellOf 6 = .ok (.iload_n 2, 1) := by decide +kernel
theorem dX13_cellOf_7 : decode cX13_cellOf 7 = .ok (.imul, 1) := by decide +kernel
theorem dX13_cellOf_8 : decode cX13_cellOf 8 = .ok (.iadd, 1) := by decide +kernel
theorem dX13_cellOf_9 : decode cX13_cellOf 9 = .ok (.iload_n 3, 1) := by decide +kernel
noncomputable def f_X13_cellOf (x1 : Int32) (x2 : Int32) (x3 : Int32) (s : t_S) : Int32 :=
 ((((64 : Int32) * x1) + ((8 : Int32) * x2)) + x3)
set_option maxRecDepth 4000 in
set_option maxHeartbeats 1000000 in
theorem C_X13_cellOf (x1 : Int32) (x2 : Int32) (x3 : Int32) (s : t_S) : t_C yX13_cellOf cX13_cellOf 4 (some .int) 0 [.ref 950, .int x1, .int x2, .int x3] s (fun v s' => v = some (.int (f_X13_cellOf x1 x2 x3 s)) ∧ s' = s) := by
  refine t_C.imp (P := fun v s' => s' = s ∧ ∃ x, v = some (.int x) ∧ (fun r => r = f_X13_cellOf x1 x2 x3 s) (x)) (t_C.of (by decide +kernel) (Nat.le_of_ble_eq_true rfl) ?_) (fun v s' hp => by obtain ⟨rfl, x, rfl, rfl⟩ := hp; exact ⟨rfl, rfl⟩)
  intro D cy ad bs X
  have hk : t_ht (f_X13_cellOf x1 x2 x3 s) (fun r => r = f_X13_cellOf x1 x2 x3 s) := rfl
  show mj_G D cy ad bs X cX13_cellOf 4 yX13_cellOf.cls (some .int) yX13_cellOf.name 0 0 0 1065 (t_P (fun v s' => s' = s ∧ ∃ x, v = some (.int x) ∧ (fun r => r = f_X13_cellOf x1 x2 x3 s) (x))) 0 [(0, .ref 950), (1, .int x1), (2, .int x2), (3, .int x3)] [] (t_m s) 1065 0 0
  refine mj_bipush (v := 64) dX13_cellOf_0 (by decide) ?_
  refine mj_iload_n dX13_cellOf_2 1 rfl ?_
  refine mj_imul dX13_cellOf_3 ?_
  refine mj_bipush (v := 8) dX13_cellOf_4 (by decide) ?_
  refine mj_iload_n dX13_cellOf_6 2 rfl ?_
  refine mj_imul dX13_cellOf_7 ?_
  refine mj_iadd dX13_cellOf_8 ?_
  refine mj_iload_n dX13_cellOf_9 3 rfl ?_
  refine mj_iadd dX13_cellOf_10 ?_
  exact t_iret dX13_cellOf_11 rfl rfl ⟨rfl, _, rfl, hk⟩ (Nat.le_of_ble_eq_true rfl) (Nat.le_of_ble_eq_true rfl)

theorem dX13_isQuiet_0 : decode cX13_isQuiet 0 = .ok (.aload_n 0, 1) := by decide +kernel
theorem dX13_isQuiet_1 : decode cX13_isQuiet 1 = .ok (.getfield 345, 3) := by decide +kernel
theorem dX13_isQuiet_11 : decode cX13_isQuiet 11 = .ok (.iaload, 1) := by decide +kernel
theorem dX13_isQuiet_12 : decode cX13_isQuiet 12 = .ok (.ifCond .ne 54, 3) := by decide +kernel
theorem dX13_isQuiet_15 : decode cX13_isQuiet 15 = .ok (.aload_n 0, 1) := by decide +kernel
theorem dX13_isQuiet_16 : decode cX13_isQuiet 16 = .ok (.getfield 345, 3) := by decide +kernel
theorem dX13_isQuiet_19 : decode cX13_isQuiet 19 = .ok (.aload_n 0, 1) := by decide +kernel
theorem dX13_isQuiet_20 : decode cX13_isQuiet 20 = .ok (.iload_n 1, 1) := by decide +kernel
theorem dX13_isQuiet_21 : decode cX13_isQuiet 21 = .ok (.iload_n 2, 1) := by decide +kernel
theorem dX13_isQuiet_22 : decode cX13_isQuiet 22 = .ok (.iconst 5, 1) := by decide +kernel
theorem dX13_isQuiet_23 : decode cX13_isQuiet 23 = .ok (.invokevirtual 1496, 3) := by decide +kernel
theorem dX13_isQuiet_26 : decode cX13_isQuiet 26 = .ok (.iaload, 1) := by decide +kernel
theorem dX13_isQuiet_27 : decode cX13_isQuiet 27 = .ok (.ifCond .ne 39, 3) := by decide +kernel
theorem dX13_isQuiet_30 : decode cX13_isQuiet 30 = .ok (.aload_n 0, 1) := by decide +kernel
theorem dX13_isQuiet_31 : decode cX13_isQuiet 31 = .ok (.getfield 345, 3) := by decide +kernel
theorem dX13_isQuiet_34 : decode cX13_isQuiet 34 = .ok (.aload_n 0, 1) := by decide +kernel
theorem dX13_isQuiet_35 : decode cX13_isQuiet 35 = .ok (.iload_n 1, 1) := by decide +kernel
theorem dX13_isQuiet_36 : decode cX13_isQuiet 36 = .ok (.iload_n 2, 1) := by decide +kernel
theorem dX13_isQuiet_37 : decode cX13_isQuiet 37 = .ok (.bipush 6, 2) := by decide +kernel
theorem dX13_isQuiet_39 : decode cX13_isQuiet 39 = .ok (.invokevirtual 1496, 3) := by decide +kernel
theorem dX13_isQuiet_4 : decode cX13_isQuiet 4 = .ok (.aload_n 0, 1) := by decide +kernel
theorem dX13_isQuiet_42 : decode cX13_isQuiet 42 = .ok (.iaload, 1) := by decide +kernel
theorem dX13_isQuiet_43 : decode cX13_isQuiet 43 = .ok (.ifCond .ne 23, 3) := by decide +kernel
theorem dX13_isQuiet_46 : decode cX13_isQuiet 46 = .ok (.aload_n 0, 1) := by decide +kernel
theorem dX13_isQuiet_47 : decode cX13_isQuiet 47 = .ok (.getfield 345, 3) := by decide +kernel
theorem dX13_isQuiet_5 : decode cX13_isQuiet 5 = .ok (.iload_n 1, 1) := by decide +kernel
theorem dX13_isQuiet_50 : decode cX13_isQuiet 50 = .ok (.aload_n 0, 1) := by decide +kernel
theorem dX13_isQuiet_51 : decode cX13_isQuiet 51 = .ok (.iload_n 1, 1) := by decide +kernel
theorem dX13_isQuiet_52 : decode cX13_isQuiet 52 = .ok (.iload_n 2, 1) := by decide +kernel
theorem dX13_isQuiet_53 : decode cX13_isQuiet 53 = .ok (.bipush 7, 2) := by decide +kernel
theorem dX13_isQuiet_55 : decode cX13_isQuiet 55 = .ok (.invokevirtual 1496, 3) := by decide +kernel
theorem dX13_isQuiet_58 : decode cX13_isQuiet 58 = .ok (.iaload, 1) := by decide +kernel
theorem dX13_isQuiet_59 : decode cX13_isQuiet 59 = .ok (.ifCond .ne 7, 3) := by decide +kernel
theorem dX13_isQuiet_6 : decode cX13_isQuiet 6 = .ok (.iload_n 2, 1) := by decide +kernel
theorem dX13_isQuiet_62 : decode cX13_isQuiet 62 = .ok (.iconst 1, 1) := by decide +kernel
theorem dX13_isQuiet_63 : decode cX13_isQuiet 63 = .ok (.goto 4, 3) := by decide +kernel
theorem dX13_isQuiet_66 : decode cX13_isQuiet 66 = .ok (.iconst 0, 1) := by decide +kernel
theorem dX13_isQuiet_67 : decode cX13_isQuiet 67 = .ok (.ireturn, 1) := by decide +kernel
theorem dX13_isQuiet_7 : decode cX13_isQuiet 7 = .ok (.iconst 4, 1) := by decide +kernel
theorem dX13_isQuiet_8 : decode cX13_isQuiet 8 = .ok (.invokevirtual 1496, 3) := by decide +kernel
noncomputable def f_X13_isQuiet (x1 : Int32) (x2 : Int32) (s : t_S) : Option (Int32) :=
 if t_ix (f_X13_cellOf x1 x2 (4 : Int32) s) 256 = true then
  if (s.1 1059 ((f_X13_cellOf x1 x2 (4 : Int32) s).toNatClampNeg)) = (0 : Int32) then (if t_ix (f_X13_cellOf x1 x2 (5 : Int32) s) 256 = true then
  if (s.1 1059 ((f_X13_cellOf x1 x2 (5 : Int32) s).toNatClampNeg)) = (0 : Int32) then (if t_ix (f_X13_cellOf x1 x2 (6 : Int32) s) 256 = true then
  if (s.1 1059 ((f_X13_cellOf x1 x2 (6 : Int32) s).toNatClampNeg)) = (0 : Int32) then (if t_ix (f_X13_cellOf x1 x2 (7 : Int32) s) 256 = true then
  if (s.1 1059 ((f_X13_cellOf x1 x2 (7 : Int32) s).toNatClampNeg)) = (0 : Int32) then (some (1 : Int32))
 else (some (0 : Int32))
else none)
 else (some (0 : Int32))
else none)
 else (some (0 : Int32))
else none)
 else (some (0 : Int32))
else none
set_option maxRecDepth 4000 in
set_option maxHeartbeats 1000000 in
theorem C_X13_isQuiet (x1 : Int32) (x2 : Int32) (s : t_S) (r : Int32) (hr : f_X13_isQuiet x1 x2 s = some r) : t_C yX13_isQuiet cX13_isQuiet 3 (some .boolean) 1 [.ref 950, .int x1, .int x2] s (fun v s' => v = some (.int r) ∧ s' = s) := by
  refine t_C.imp (P := fun v s' => s' = s ∧ ∃ x, v = some (.int x) ∧ (fun q => q = r) (x)) (t_C.of (by decide +kernel) (Nat.le_of_ble_eq_true rfl) ?_) (fun v s' hp => by obtain ⟨rfl, x, rfl, rfl⟩ := hp; exact ⟨rfl, rfl⟩)
  intro D cy ad bs X
  have hk : t_hk (f_X13_isQuiet x1 x2 s) (fun q => q = r) := ⟨r, hr, rfl⟩
  show mj_G D cy ad bs X cX13_isQuiet 3 yX13_isQuiet.cls (some .boolean) yX13_isQuiet.name 1 0 0 1065 (t_P (fun v s' => s' = s ∧ ∃ x, v = some (.int x) ∧ (fun q => q = r) (x))) 0 [(0, .ref 950), (1, .int x1), (2, .int x2)] [] (t_m s) 1065 0 0
  refine mj_aload_n dX13_isQuiet_0 0 rfl ?_
  refine t_getR 1059 dX13_isQuiet_1 F_X13_345 qr_950_181 ?_
  refine mj_aload_n dX13_isQuiet_4 0 rfl ?_
  refine mj_iload_n dX13_isQuiet_5 1 rfl ?_
  refine mj_iload_n dX13_isQuiet_6 2 rfl ?_
  refine mj_iconst (v := 4) dX13_isQuiet_7 (by decide) ?_
  refine t_callViP dX13_isQuiet_8 M_X13_cellOf (C_X13_cellOf _ _ _ _) ML_X13_1496 IM_X13_cellOf SE_X13_cellOf qc_950 rfl (As := [.int x1, .int x2, .int 4]) rfl rfl (Nat.le_of_ble_eq_true rfl) (Nat.le_of_ble_eq_true rfl) (Nat.le_of_ble_eq_true rfl) (Nat.le_of_ble_eq_true rfl) ?_
  refine t_chkK hk (fun c1 hk => ?_)
  refine t_iald dX13_isQuiet_11 qa_1059 (t_ixv c1) ?_
  refine mj_if_ne 66 dX13_isQuiet_12 (by decide) (fun z => t_negK hk z (fun hk => ?_)) (fun z => t_posK hk z (fun hk => ?_))
  · refine mj_iconst (v := 0) dX13_isQuiet_66 (by decide) ?_
    exact t_somK hk (fun hf => t_iret dX13_isQuiet_67 rfl (by decide) ⟨rfl, _, rfl, hf⟩ (Nat.le_of_ble_eq_true rfl) (Nat.le_of_ble_eq_true rfl))
  · refine mj_aload_n dX13_isQuiet_15 0 rfl ?_
    refine t_getR 1059 dX13_isQuiet_16 F_X13_345 qr_950_181 ?_
    refine mj_aload_n dX13_isQuiet_19 0 rfl ?_
    refine mj_iload_n dX13_isQuiet_20 1 rfl ?_
    refine mj_iload_n dX13_isQuiet_21 2 rfl ?_
    refine mj_iconst (v := 5) dX13_isQuiet_22 (by decide) ?_
    refine t_callViP dX13_isQuiet_23 M_X13_cellOf (C_X13_cellOf _ _ _ _) ML_X13_1496 IM_X13_cellOf SE_X13_cellOf qc_950 rfl (As := [.int x1, .int x2, .int 5]) rfl rfl (Nat.le_of_ble_eq_true rfl) (Nat.le_of_ble_eq_true rfl) (Nat.le_of_ble_eq_true rfl) (Nat.le_of_ble_eq_true rfl) ?_
    refine t_chkK hk (fun c3 hk => ?_)
    refine t_iald dX13_isQuiet_26 qa_1059 (t_ixv c3) ?_
    refine mj_if_ne 66 dX13_isQuiet_27 (by decide) (fun z => t_negK hk z (fun hk => ?_)) (fun z => t_posK hk z (fun hk => ?_))
    · refine mj_iconst (v := 0) dX13_isQuiet_66 (by decide) ?_
      exact t_somK hk (fun hf => t_iret dX13_isQuiet_67 rfl (by decide) ⟨rfl, _, rfl, hf⟩ (Nat.le_of_ble_eq_true rfl) (Nat.le_of_ble_eq_true rfl))
    · refine mj_aload_n dX13_isQuiet_30 0 rfl ?_
      refine t_getR 1059 dX13_isQuiet_31 F_X13_345 qr_950_181 ?_
      refine mj_aload_n dX13_isQuiet_34 0 rfl ?_
      refine mj_iload_n dX13_isQuiet_35 1 rfl ?_
      refine mj_iload_n dX13_isQuiet_36 2 rfl ?_
      refine mj_bipush (v := 6) dX13_isQuiet_37 (by decide) ?_
      refine t_callViP dX13_isQuiet_39 M_X13_cellOf (C_X13_cellOf _ _ _ _) ML_X13_1496 IM_X13_cellOf SE_X13_cellOf qc_950 rfl (As := [.int x1, .int x2, .int 6]) rfl rfl (Nat.le_of_ble_eq_true rfl) (Nat.le_of_ble_eq_true rfl) (Nat.le_of_ble_eq_true rfl) (Nat.le_of_ble_eq_true rfl) ?_
      refine t_chkK hk (fun c5 hk => ?_)
      refine t_iald dX13_isQuiet_42 qa_1059 (t_ixv c5) ?_
      refine mj_if_ne 66 dX13_isQuiet_43 (by decide) (fun z => t_negK hk z (fun hk => ?_)) (fun z => t_posK hk z (fun hk => ?_))
      · refine mj_iconst (v := 0) dX13_isQuiet_66 (by decide) ?_
        exact t_somK hk (fun hf => t_iret dX13_isQuiet_67 rfl (by decide) ⟨rfl, _, rfl, hf⟩ (Nat.le_of_ble_eq_true rfl) (Nat.le_of_ble_eq_true rfl))
      · refine mj_aload_n dX13_isQuiet_46 0 rfl ?_
        refine t_getR 1059 dX13_isQuiet_47 F_X13_345 qr_950_181 ?_
        refine mj_aload_n dX13_isQuiet_50 0 rfl ?_
        refine mj_iload_n dX13_isQuiet_51 1 rfl ?_
        refine mj_iload_n dX13_isQuiet_52 2 rfl ?_
        refine mj_bipush (v := 7) dX13_isQuiet_53 (by decide) ?_
        refine t_callViP dX13_isQuiet_55 M_X13_cellOf (C_X13_cellOf _ _ _ _) ML_X13_1496 IM_X13_cellOf SE_X13_cellOf qc_950 rfl (As := [.int x1, .int x2, .int 7]) rfl rfl (Nat.le_of_ble_eq_true rfl) (Nat.le_of_ble_eq_true rfl) (Nat.le_of_ble_eq_true rfl) (Nat.le_of_ble_eq_true rfl) ?_
        refine t_chkK hk (fun c7 hk => ?_)
        refine t_iald dX13_isQuiet_58 qa_1059 (t_ixv c7) ?_
        refine mj_if_ne 66 dX13_isQuiet_59 (by decide) (fun z => t_negK hk z (fun hk => ?_)) (fun z => t_posK hk z (fun hk => ?_))
        · refine mj_iconst (v := 0) dX13_isQuiet_66 (by decide) ?_
          exact t_somK hk (fun hf => t_iret dX13_isQuiet_67 rfl (by decide) ⟨rfl, _, rfl, hf⟩ (Nat.le_of_ble_eq_true rfl) (Nat.le_of_ble_eq_true rfl))
        · refine mj_iconst (v := 1) dX13_isQuiet_62 (by decide) ?_
          refine mj_goto 67 dX13_isQuiet_63 (by decide) ?_
          exact t_somK hk (fun hf => t_iret dX13_isQuiet_67 rfl (by decide) ⟨rfl, _, rfl, hf⟩ (Nat.le_of_ble_eq_true rfl) (Nat.le_of_ble_eq_true rfl))

theorem dX13_leads_0 : decode cX13_leads 0 = .ok (.iconst 0, 1) := by decide +kernel
theorem dX13_leads_1 : decode cX13_leads 1 = .ok (.istore 4, 2) := by decide +kernel
theorem dX13_leads_10 : decode cX13_leads 10 = .ok (.if_icmp .ge 64, 3) := by decide +kernel
theorem dX13_leads_13 : decode cX13_leads 13 = .ok (.iload_n 2, 1) := by decide +kernel
theorem dX13_leads_14 : decode cX13_leads 14 = .ok (.iload 5, 2) := by decide +kernel
theorem dX13_leads_16 : decode cX13_leads 16 = .ok (.ishr, 1) := by decide +kernel
theorem dX13_leads_17 : decode cX13_leads 17 = .ok (.iconst 1, 1) := by decide +kernel
theorem dX13_leads_18 : decode cX13_leads 18 = .ok (.iand, 1) := by decide +kernel
theorem dX13_leads_19 : decode cX13_leads 19 = .ok (.iconst 1, 1) := by decide +kernel
theorem dX13_leads_20 : decode cX13_leads 20 = .ok (.if_icmp .ne 48, 3) := by decide +kernel
theorem dX13_leads_23 : decode cX13_leads 23 = .ok (.iload 4, 2) := by decide +kernel
theorem dX13_leads_25 : decode cX13_leads 25 = .ok (.iload_n 3, 1) := by decide +kernel
theorem dX13_leads_26 : decode cX13_leads 26 = .ok (.bipush 8, 2) := by decide +kernel
theorem dX13_leads_28 : decode cX13_leads 28 = .ok (.if_icmp .ne 24, 3) := by decide +kernel
theorem dX13_leads_3 : decode cX13_leads 3 = .ok (.iconst 0, 1) := by decide +kernel
theorem dX13_leads_31 : decode cX13_leads 31 = .ok (.aload_n 0, 1) := by decide +kernel
theorem dX13_leads_32 : decode cX13_leads 32 = .ok (.iload_n 1, 1) := by decide +kernel
theorem dX13_leads_33 : decode cX13_leads 33 = .ok (.iload 5, 2) := by decide +kernel
theorem dX13_leads_35 : decode cX13_leads 35 = .ok (.invokevirtual 1499, 3) := by decide +kernel
theorem dX13_leads_38 : decode cX13_leads 38 = .ok (.ifCond .eq 10, 3) := by decide +kernel
theorem dX13_leads_4 : decode cX13_leads 4 = .ok (.istore 5, 2) := by decide +kernel
theorem dX13_leads_41 : decode cX13_leads 41 = .ok (.iconst 1, 1) := by decide +kernel
theorem dX13_leads_42 : decode cX13_leads 42 = .ok (.iload 5, 2) := by decide +kernel
theorem dX13_leads_44 : decode cX13_leads 44 = .ok (.ishl, 1) := by decide +kernel
theorem dX13_leads_45 : decode cX13_leads 45 = .ok (.goto 20, 3) := by decide +kernel
theorem dX13_leads_48 : decode cX13_leads 48 = .ok (.iconst 0, 1) := by decide +kernel
theorem dX13_leads_49 : decode cX13_leads 49 = .ok (.goto 16, 3) := by decide +kernel
theorem dX13_leads_52 : decode cX13_leads 52 = .ok (.aload_n 0, 1) := by decide +kernel
theorem dX13_leads_53 : decode cX13_leads 53 = .ok (.getfield 345, 3) := by decide +kernel
theorem dX13_leads_56 : decode cX13_leads 56 = .ok (.aload_n 0, 1) := by decide +kernel
theorem dX13_leads_57 : decode cX13_leads 57 = .ok (.iload_n 1, 1) := by decide +kernel
theorem dX13_leads_58 : decode cX13_leads 58 = .ok (.iload 5, 2) := by decide +kernel
theorem dX13_leads_6 : decode cX13_leads 6 = .ok (.iload 5, 2) := by decide +kernel
theorem dX13_leads_60 : decode cX13_leads 60 = .ok (.iload_n 3, 1) := by decide +kernel
theorem dX13_leads_61 : decode cX13_leads 61 = .ok (.invokevirtual 1496, 3) := by decide +kernel
theorem dX13_leads_64 : decode cX13_leads 64 = .ok (.iaload, 1) := by decide +kernel
theorem dX13_leads_65 : decode cX13_leads 65 = .ok (.ior, 1) := by decide +kernel
theorem dX13_leads_66 : decode cX13_leads 66 = .ok (.istore 4, 2) := by decide +kernel
theorem dX13_leads_68 : decode cX13_leads 68 = .ok (.iinc 5 1, 3) := by decide +kernel
theorem dX13_leads_71 : decode cX13_leads 71 = .ok (.goto (-65), 3) := by decide +kernel
theorem dX13_leads_74 : decode cX13_leads 74 = .ok (.iload 4, 2) := by decide +kernel
theorem dX13_leads_76 : decode cX13_leads 76 = .ok (.ireturn, 1) := by decide +kernel
theorem dX13_leads_8 : decode cX13_leads 8 = .ok (.bipush 8, 2) := by decide +kernel
noncomputable def k_X13_leads_68 (l1 : Int32) (l2 : Int32) (l3 : Int32) (l4 : Int32) (l5 : Int32) (s : t_S) : Option ((Int32 × Int32 × Int32 × Int32 × Int32) ⊕ (Int32)) :=
 some (.inl (l1, l2, l3, l4, (l5 + 1)))
set_option maxRecDepth 4000 in
set_option maxHeartbeats 1000000 in
theorem B_X13_leads_68 {D : va_G} {cy : Nat → ClassId} {ad : Nat → Nat} {bs : Nat} {X : State → Heap → Prop} (l1 : Int32) (l2 : Int32) (l3 : Int32) (l4 : Int32) (l5 : Int32) (s : t_S) (Q : (Int32 × Int32 × Int32 × Int32 × Int32) ⊕ (Int32) → Prop) (Hb6 : ∀ (y0 : Int32) (y1 : Int32) (y2 : Int32) (y3 : Int32) (y4 : Int32), Q (.inl (y0, y1, y2, y3, y4)) → mj_G D cy ad bs X cX13_leads 6 yX13_leads.cls (some .int) yX13_leads.name 2 0 0 1065 (t_P (fun v s' => s' = s ∧ ∃ x, v = some (.int x) ∧ Q (.inr (x)))) 6 [(0, .ref 950), (1, .int (y0)), (2, .int (y1)), (3, .int (y2)), (4, .int (y3)), (5, .int (y4))] [] (t_m s) 1065 0 0) (hk : t_hk (k_X13_leads_68 l1 l2 l3 l4 l5 s) Q) : mj_G D cy ad bs X cX13_leads 6 yX13_leads.cls (some .int) yX13_leads.name 2 0 0 1065 (t_P (fun v s' => s' = s ∧ ∃ x, v = some (.int x) ∧ Q (.inr (x)))) 68 [(0, .ref 950), (1, .int l1), (2, .int l2), (3, .int l3), (4, .int l4), (5, .int l5)] [] (t_m s) 1065 0 0 := by
  refine mj_iinc (k := 5) (v := (l5 + 1)) (lv2 := [(5, .int (l5 + 1)), (0, .ref 950), (1, .int l1), (2, .int l2), (3, .int l3), (4, .int l4)]) dX13_leads_68 rfl rfl (by decide) rfl ?_
  refine mj_goto 6 dX13_leads_71 (by decide) ?_
  refine mj_sublv [(0, .ref 950), (1, .int l1), (2, .int l2), (3, .int l3), (4, .int l4), (5, .int (l5 + 1))] [1, 2, 3, 4, 5, 0] rfl ?_
  exact t_somK hk (fun hf => Hb6 l1 l2 l3 l4 (l5 + 1) hf)
noncomputable def k_X13_leads_65 (l1 : Int32) (l2 : Int32) (l3 : Int32) (l5 : Int32) (k0 : Int32) (k1 : Int32) (s : t_S) : Option ((Int32 × Int32 × Int32 × Int32 × Int32) ⊕ (Int32)) :=
 k_X13_leads_68 l1 l2 l3 (k1 ||| k0) l5 s
set_option maxRecDepth 4000 in
set_option maxHeartbeats 1000000 in
theorem B_X13_leads_65 {D : va_G} {cy : Nat → ClassId} {ad : Nat → Nat} {bs : Nat} {X : State → Heap → Prop} (l1 : Int32) (l2 : Int32) (l3 : Int32) (l5 : Int32) (k0 : Int32) (k1 : Int32) (s : t_S) (Q : (Int32 × Int32 × Int32 × Int32 × Int32) ⊕ (Int32) → Prop) (Hb6 : ∀ (y0 : Int32) (y1 : Int32) (y2 : Int32) (y3 : Int32) (y4 : Int32), Q (.inl (y0, y1, y2, y3, y4)) → mj_G D cy ad bs X cX13_leads 6 yX13_leads.cls (some .int) yX13_leads.name 2 0 0 1065 (t_P (fun v s' => s' = s ∧ ∃ x, v = some (.int x) ∧ Q (.inr (x)))) 6 [(0, .ref 950), (1, .int (y0)), (2, .int (y1)), (3, .int (y2)), (4, .int (y3)), (5, .int (y4))] [] (t_m s) 1065 0 0) (hk : t_hk (k_X13_leads_65 l1 l2 l3 l5 k0 k1 s) Q) : mj_G D cy ad bs X cX13_leads 6 yX13_leads.cls (some .int) yX13_leads.name 2 0 0 1065 (t_P (fun v s' => s' = s ∧ ∃ x, v = some (.int x) ∧ Q (.inr (x)))) 65 [(0, .ref 950), (1, .int l1), (2, .int l2), (3, .int l3), (5, .int l5)] [.int k0, .int k1] (t_m s) 1065 0 0 := by
  refine mj_ior dX13_leads_65 ?_
  refine mj_istore (lv2 := [(4, .int (k1 ||| k0)), (0, .ref 950), (1, .int l1), (2, .int l2), (3, .int l3), (5, .int l5)]) dX13_leads_66 (by decide) rfl ?_
  refine mj_sublv [(0, .ref 950), (1, .int l1), (2, .int l2), (3, .int l3), (4, .int (k1 ||| k0)), (5, .int l5)] [1, 2, 3, 4, 0, 5] rfl ?_
  exact B_X13_leads_68 _ _ _ _ _ _ _ (fun y0 y1 y2 y3 y4 hx => Hb6 y0 y1 y2 y3 y4 hx) hk
noncomputable def k_X13_leads_6 (l1 : Int32) (l2 : Int32) (l3 : Int32) (l4 : Int32) (l5 : Int32) (s : t_S) : Option ((Int32 × Int32 × Int32 × Int32 × Int32) ⊕ (Int32)) :=
 if (8 : Int32) ≤ l5 then ((some (l4)).map Sum.inr)
 else (if ((l2 >>> (l5 &&& 31)) &&& (1 : Int32)) = (1 : Int32) then (if l3 = (8 : Int32) then ((f_X13_isQuiet l1 l5 s).bind (fun r3 =>
 if r3 = (0 : Int32) then (k_X13_leads_65 l1 l2 l3 l5 0 l4 s)
 else (k_X13_leads_65 l1 l2 l3 l5 ((1 : Int32) <<< (l5 &&& 31)) l4 s)))
 else (if t_ix (f_X13_cellOf l1 l5 l3 s) 256 = true then
  k_X13_leads_65 l1 l2 l3 l5 (s.1 1059 ((f_X13_cellOf l1 l5 l3 s).toNatClampNeg)) l4 s
else none))
 else (k_X13_leads_68 l1 l2 l3 l4 l5 s))
set_option maxRecDepth 4000 in
set_option maxHeartbeats 1000000 in
theorem B_X13_leads_6 {D : va_G} {cy : Nat → ClassId} {ad : Nat → Nat} {bs : Nat} {X : State → Heap → Prop} (l1 : Int32) (l2 : Int32) (l3 : Int32) (l4 : Int32) (l5 : Int32) (s : t_S) (Q : (Int32 × Int32 × Int32 × Int32 × Int32) ⊕ (Int32) → Prop) (Hb6 : ∀ (y0 : Int32) (y1 : Int32) (y2 : Int32) (y3 : Int32) (y4 : Int32), Q (.inl (y0, y1, y2, y3, y4)) → mj_G D cy ad bs X cX13_leads 6 yX13_leads.cls (some .int) yX13_leads.name 2 0 0 1065 (t_P (fun v s' => s' = s ∧ ∃ x, v = some (.int x) ∧ Q (.inr (x)))) 6 [(0, .ref 950), (1, .int (y0)), (2, .int (y1)), (3, .int (y2)), (4, .int (y3)), (5, .int (y4))] [] (t_m s) 1065 0 0) (hk : t_hk (k_X13_leads_6 l1 l2 l3 l4 l5 s) Q) : mj_G D cy ad bs X cX13_leads 6 yX13_leads.cls (some .int) yX13_leads.name 2 0 0 1065 (t_P (fun v s' => s' = s ∧ ∃ x, v = some (.int x) ∧ Q (.inr (x)))) 6 [(0, .ref 950), (1, .int l1), (2, .int l2), (3, .int l3), (4, .int l4), (5, .int l5)] [] (t_m s) 1065 0 0 := by
  refine mj_iload dX13_leads_6 5 rfl ?_
  refine mj_bipush (v := 8) dX13_leads_8 (by decide) ?_
  refine mj_icmp_ge 74 dX13_leads_10 (by decide) (fun z => t_posK hk z (fun hk => ?_)) (fun z => t_negK hk z (fun hk => ?_))
  · refine t_mapK hk (fun hk => ?_)
    refine mj_iload dX13_leads_74 4 rfl ?_
    exact t_somK hk (fun hf => t_iret dX13_leads_76 rfl rfl ⟨rfl, _, rfl, hf⟩ (Nat.le_of_ble_eq_true rfl) (Nat.le_of_ble_eq_true rfl))
  · refine mj_iload_n dX13_leads_13 2 rfl ?_
    refine mj_iload dX13_leads_14 5 rfl ?_
    refine mj_ishr dX13_leads_16 ?_
    refine mj_iconst (v := 1) dX13_leads_17 (by decide) ?_
    refine mj_iand dX13_leads_18 ?_
    refine mj_iconst (v := 1) dX13_leads_19 (by decide) ?_
    refine mj_icmp_ne 68 dX13_leads_20 (by decide) (fun z => t_negK hk z (fun hk => ?_)) (fun z => t_posK hk z (fun hk => ?_))
    · exact B_X13_leads_68 _ _ _ _ _ _ _ (fun y0 y1 y2 y3 y4 hx => Hb6 y0 y1 y2 y3 y4 hx) hk
    · refine mj_iload dX13_leads_23 4 rfl ?_
      refine mj_iload_n dX13_leads_25 3 rfl ?_
      refine mj_bipush (v := 8) dX13_leads_26 (by decide) ?_
      refine mj_icmp_ne 52 dX13_leads_28 (by decide) (fun z => t_negK hk z (fun hk => ?_)) (fun z => t_posK hk z (fun hk => ?_))
      · refine mj_aload_n dX13_leads_52 0 rfl ?_
        refine t_getR 1059 dX13_leads_53 F_X13_345 qr_950_181 ?_
        refine mj_aload_n dX13_leads_56 0 rfl ?_
        refine mj_iload_n dX13_leads_57 1 rfl ?_
        refine mj_iload dX13_leads_58 5 rfl ?_
        refine mj_iload_n dX13_leads_60 3 rfl ?_
        refine t_callViP dX13_leads_61 M_X13_cellOf (C_X13_cellOf _ _ _ _) ML_X13_1496 IM_X13_cellOf SE_X13_cellOf qc_950 rfl (As := [.int l1, .int l5, .int l3]) rfl rfl (Nat.le_of_ble_eq_true rfl) (Nat.le_of_ble_eq_true rfl) (Nat.le_of_ble_eq_true rfl) (Nat.le_of_ble_eq_true rfl) ?_
        refine t_chkK hk (fun c1 hk => ?_)
        refine t_iald dX13_leads_64 qa_1059 (t_ixv c1) ?_
        refine mj_sublv [(0, .ref 950), (1, .int l1), (2, .int l2), (3, .int l3), (5, .int l5)] [0, 1, 2, 3, 5] rfl ?_
        exact B_X13_leads_65 _ _ _ _ _ _ _ _ (fun y0 y1 y2 y3 y4 hx => Hb6 y0 y1 y2 y3 y4 hx) hk
      · refine mj_aload_n dX13_leads_31 0 rfl ?_
        refine mj_iload_n dX13_leads_32 1 rfl ?_
        refine mj_iload dX13_leads_33 5 rfl ?_
        refine t_bndK hk (fun r3 er3 hk => ?_)
        refine t_callViP dX13_leads_35 M_X13_isQuiet (C_X13_isQuiet _ _ _ _ er3) ML_X13_1499 IM_X13_isQuiet SE_X13_isQuiet qc_950 rfl (As := [.int l1, .int l5]) rfl rfl (Nat.le_of_ble_eq_true rfl) (Nat.le_of_ble_eq_true rfl) (Nat.le_of_ble_eq_true rfl) (Nat.le_of_ble_eq_true rfl) ?_
        refine mj_if_eq 48 dX13_leads_38 (by decide) (fun z => t_posK hk z (fun hk => ?_)) (fun z => t_negK hk z (fun hk => ?_))
        · refine mj_iconst (v := 0) dX13_leads_48 (by decide) ?_
          refine mj_goto 65 dX13_leads_49 (by decide) ?_
          refine mj_sublv [(0, .ref 950), (1, .int l1), (2, .int l2), (3, .int l3), (5, .int l5)] [0, 1, 2, 3, 5] rfl ?_
          exact B_X13_leads_65 _ _ _ _ _ _ _ _ (fun y0 y1 y2 y3 y4 hx => Hb6 y0 y1 y2 y3 y4 hx) hk
        · refine mj_iconst (v := 1) dX13_leads_41 (by decide) ?_
          refine mj_iload dX13_leads_42 5 rfl ?_
          refine mj_ishl dX13_leads_44 ?_
          refine mj_goto 65 dX13_leads_45 (by decide) ?_
          refine mj_sublv [(0, .ref 950), (1, .int l1), (2, .int l2), (3, .int l3), (5, .int l5)] [0, 1, 2, 3, 5] rfl ?_
          exact B_X13_leads_65 _ _ _ _ _ _ _ _ (fun y0 y1 y2 y3 y4 hx => Hb6 y0 y1 y2 y3 y4 hx) hk
noncomputable def b_X13_leads_6 (s : t_S) (x : Int32 × Int32 × Int32 × Int32 × Int32) : Option ((Int32 × Int32 × Int32 × Int32 × Int32) ⊕ (Int32)) := k_X13_leads_6 x.1 x.2.1 x.2.2.1 x.2.2.2.1 x.2.2.2.2 s
set_option maxRecDepth 4000 in
set_option maxHeartbeats 1000000 in
theorem LH_X13_leads_6 {D : va_G} {cy : Nat → ClassId} {ad : Nat → Nat} {bs : Nat} {X : State → Heap → Prop} (s : t_S) : ∀ (n : Nat) (y0 : Int32) (y1 : Int32) (y2 : Int32) (y3 : Int32) (y4 : Int32) (Q : Int32 → Prop) (hk : t_hk (t_loop (b_X13_leads_6 s) n (y0, y1, y2, y3, y4)) Q), mj_G D cy ad bs X cX13_leads 6 yX13_leads.cls (some .int) yX13_leads.name 2 0 0 1065 (t_P (fun v s' => s' = s ∧ ∃ x, v = some (.int x) ∧ Q (x))) 6 [(0, .ref 950), (1, .int (y0)), (2, .int (y1)), (3, .int (y2)), (4, .int (y3)), (5, .int (y4))] [] (t_m s) 1065 0 0 := by
  intro n
  induction n with
  | zero => intro y0 y1 y2 y3 y4 Q hk; obtain ⟨r, hr, _⟩ := hk; cases hr
  | succ n ih =>
    intro y0 y1 y2 y3 y4 Q hk
    exact B_X13_leads_6 y0 y1 y2 y3 y4 s (fun y => t_lq (b_X13_leads_6 s) n Q y) (fun y0' y1' y2' y3' y4' hy => ih y0' y1' y2' y3' y4' Q hy) (t_lp hk)
noncomputable def f_X13_leads (x1 : Int32) (x2 : Int32) (x3 : Int32) (s : t_S) : Option (Int32) :=
 t_loop (b_X13_leads_6 s) t_N (x1, x2, x3, 0, 0)
set_option maxRecDepth 4000 in
set_option maxHeartbeats 1000000 in
theorem C_X13_leads (x1 : Int32) (x2 : Int32) (x3 : Int32) (s : t_S) (r : Int32) (hr : f_X13_leads x1 x2 x3 s = some r) : t_C yX13_leads cX13_leads 6 (some .int) 2 [.ref 950, .int x1, .int x2, .int x3] s (fun v s' => v = some (.int r) ∧ s' = s) := by
  refine t_C.imp (P := fun v s' => s' = s ∧ ∃ x, v = some (.int x) ∧ (fun q => q = r) (x)) (t_C.of (by decide +kernel) (Nat.le_of_ble_eq_true rfl) ?_) (fun v s' hp => by obtain ⟨rfl, x, rfl, rfl⟩ := hp; exact ⟨rfl, rfl⟩)
  intro D cy ad bs X
  have hk : t_hk (f_X13_leads x1 x2 x3 s) (fun q => q = r) := ⟨r, hr, rfl⟩
  show mj_G D cy ad bs X cX13_leads 6 yX13_leads.cls (some .int) yX13_leads.name 2 0 0 1065 (t_P (fun v s' => s' = s ∧ ∃ x, v = some (.int x) ∧ (fun q => q = r) (x))) 0 [(0, .ref 950), (1, .int x1), (2, .int x2), (3, .int x3)] [] (t_m s) 1065 0 0
  refine mj_iconst (v := 0) dX13_leads_0 (by decide) ?_
  refine mj_istore (lv2 := [(4, .int 0), (0, .ref 950), (1, .int x1), (2, .int x2), (3, .int x3)]) dX13_leads_1 (by decide) rfl ?_
  refine mj_iconst (v := 0) dX13_leads_3 (by decide) ?_
  refine mj_istore (lv2 := [(5, .int 0), (4, .int 0), (0, .ref 950), (1, .int x1), (2, .int x2), (3, .int x3)]) dX13_leads_4 (by decide) rfl ?_
  refine mj_sublv [(0, .ref 950), (1, .int x1), (2, .int x2), (3, .int x3), (4, .int 0), (5, .int 0)] [2, 3, 4, 5, 1, 0] rfl ?_
  exact LH_X13_leads_6 _ _ x1 x2 x3 0 0 _ hk

theorem dX13_can_0 : decode cX13_can 0 = .ok (.iload_n 1, 1) := by decide +kernel
theorem dX13_can_1 : decode cX13_can 1 = .ok (.i2l, 1) := by decide +kernel
theorem dX13_can_12 : decode cX13_can 12 = .ok (.iload_n 2, 1) := by decide +kernel
theorem dX13_can_13 : decode cX13_can 13 = .ok (.ifCond .lt 23, 3) := by decide +kernel
theorem dX13_can_16 : decode cX13_can 16 = .ok (.iload_n 2, 1) := by decide +kernel
theorem dX13_can_17 : decode cX13_can 17 = .ok (.aload_n 0, 1) := by decide +kernel
theorem dX13_can_18 : decode cX13_can 18 = .ok (.getfield 1502, 3) := by decide +kernel
theorem dX13_can_2 : decode cX13_can 2 = .ok (.lconst 0, 1) := by decide +kernel
theorem dX13_can_21 : decode cX13_can 21 = .ok (.if_icmp .gt 15, 3) := by decide +kernel
theorem dX13_can_24 : decode cX13_can 24 = .ok (.iload_n 3, 1) := by decide +kernel
theorem dX13_can_25 : decode cX13_can 25 = .ok (.i2l, 1) := by decide +kernel
theorem dX13_can_26 : decode cX13_can 26 = .ok (.lconst 0, 1) := by decide +kernel
theorem dX13_can_27 : decode cX13_can 27 = .ok (.ldc2_w 951, 3) := by decide +kernel
theorem dX13_can_3 : decode cX13_can 3 = .ok (.ldc2_w 1198, 3) := by decide +kernel
theorem dX13_can_30 : decode cX13_can 30 = .ok (.invokestatic 371, 3) := by decide +kernel
theorem dX13_can_33 : decode cX13_can 33 = .ok (.ifCond .ne 5, 3) := by decide +kernel
theorem dX13_can_36 : decode cX13_can 36 = .ok (.iconst (-1), 1) := by decide +kernel
theorem dX13_can_37 : decode cX13_can 37 = .ok (.ireturn, 1) := by decide +kernel
theorem dX13_can_38 : decode cX13_can 38 = .ok (.iconst 1, 1) := by decide +kernel
theorem dX13_can_39 : decode cX13_can 39 = .ok (.istore 4, 2) := by decide +kernel
theorem dX13_can_41 : decode cX13_can 41 = .ok (.iconst 0, 1) := by decide +kernel
theorem dX13_can_42 : decode cX13_can 42 = .ok (.istore 5, 2) := by decide +kernel
theorem dX13_can_44 : decode cX13_can 44 = .ok (.iload 5, 2) := by decide +kernel
theorem dX13_can_46 : decode cX13_can 46 = .ok (.iload_n 2, 1) := by decide +kernel
theorem dX13_can_47 : decode cX13_can 47 = .ok (.if_icmp .ge 25, 3) := by decide +kernel
theorem dX13_can_50 : decode cX13_can 50 = .ok (.aload_n 0, 1) := by decide +kernel
theorem dX13_can_51 : decode cX13_can 51 = .ok (.iload_n 1, 1) := by decide +kernel
theorem dX13_can_52 : decode cX13_can 52 = .ok (.iload 4, 2) := by decide +kernel
theorem dX13_can_54 : decode cX13_can 54 = .ok (.aload_n 0, 1) := by decide +kernel
theorem dX13_can_55 : decode cX13_can 55 = .ok (.getfield 349, 3) := by decide +kernel
theorem dX13_can_58 : decode cX13_can 58 = .ok (.iload 5, 2) := by decide +kernel
theorem dX13_can_6 : decode cX13_can 6 = .ok (.invokestatic 371, 3) := by decide +kernel
theorem dX13_can_60 : decode cX13_can 60 = .ok (.iaload, 1) := by decide +kernel
theorem dX13_can_61 : decode cX13_can 61 = .ok (.invokevirtual 1505, 3) := by decide +kernel
theorem dX13_can_64 : decode cX13_can 64 = .ok (.istore 4, 2) := by decide +kernel
theorem dX13_can_66 : decode cX13_can 66 = .ok (.iinc 5 1, 3) := by decide +kernel
theorem dX13_can_69 : decode cX13_can 69 = .ok (.goto (-25), 3) := by decide +kernel
theorem dX13_can_72 : decode cX13_can 72 = .ok (.aload_n 0, 1) := by decide +kernel
theorem dX13_can_73 : decode cX13_can 73 = .ok (.iload_n 1, 1) := by decide +kernel
theorem dX13_can_74 : decode cX13_can 74 = .ok (.iload 4, 2) := by decide +kernel
theorem dX13_can_76 : decode cX13_can 76 = .ok (.iload_n 3, 1) := by decide +kernel
theorem dX13_can_77 : decode cX13_can 77 = .ok (.invokevirtual 1505, 3) := by decide +kernel
theorem dX13_can_80 : decode cX13_can 80 = .ok (.ifCond .eq 7, 3) := by decide +kernel
theorem dX13_can_83 : decode cX13_can 83 = .ok (.iconst 1, 1) := by decide +kernel
theorem dX13_can_84 : decode cX13_can 84 = .ok (.goto 4, 3) := by decide +kernel
theorem dX13_can_87 : decode cX13_can 87 = .ok (.iconst 0, 1) := by decide +kernel
theorem dX13_can_88 : decode cX13_can 88 = .ok (.ireturn, 1) := by decide +kernel
theorem dX13_can_9 : decode cX13_can 9 = .ok (.ifCond .eq 27, 3) := by decide +kernel
noncomputable def k_X13_can_44 (l1 : Int32) (l2 : Int32) (l3 : Int32) (l4 : Int32) (l5 : Int32) (s : t_S) : Option ((Int32 × Int32 × Int32 × Int32 × Int32) ⊕ (Int32)) :=
 if l2 ≤ l5 then (((f_X13_leads l1 l4 l3 s).bind (fun r1 =>
 if r1 = (0 : Int32) then (some (0 : Int32))
 else (some (1 : Int32)))).map Sum.inr)
 else (if t_ix l5 66000 = true then
  (f_X13_leads l1 l4 (s.1 1060 (l5.toNatClampNeg)) s).bind (fun r3 =>
 some (.inl (l1, l2, l3, r3, (l5 + 1))))
else none)
set_option maxRecDepth 4000 in
set_option maxHeartbeats 1000000 in
theorem B_X13_can_44 {D : va_G} {cy : Nat → ClassId} {ad : Nat → Nat} {bs : Nat} {X : State → Heap → Prop} (l1 : Int32) (l2 : Int32) (l3 : Int32) (l4 : Int32) (l5 : Int32) (s : t_S) (Q : (Int32 × Int32 × Int32 × Int32 × Int32) ⊕ (Int32) → Prop) (Hb44 : ∀ (y0 : Int32) (y1 : Int32) (y2 : Int32) (y3 : Int32) (y4 : Int32), Q (.inl (y0, y1, y2, y3, y4)) → mj_G D cy ad bs X cX13_can 6 yX13_can.cls (some .int) yX13_can.name 3 0 0 1065 (t_P (fun v s' => s' = s ∧ ∃ x, v = some (.int x) ∧ Q (.inr (x)))) 44 [(0, .ref 950), (1, .int (y0)), (2, .int (y1)), (3, .int (y2)), (4, .int (y3)), (5, .int (y4))] [] (t_m s) 1065 0 0) (hk : t_hk (k_X13_can_44 l1 l2 l3 l4 l5 s) Q) : mj_G D cy ad bs X cX13_can 6 yX13_can.cls (some .int) yX13_can.name 3 0 0 1065 (t_P (fun v s' => s' = s ∧ ∃ x, v = some (.int x) ∧ Q (.inr (x)))) 44 [(0, .ref 950), (1, .int l1), (2, .int l2), (3, .int l3), (4, .int l4), (5, .int l5)] [] (t_m s) 1065 0 0 := by
  refine mj_iload dX13_can_44 5 rfl ?_
  refine mj_iload_n dX13_can_46 2 rfl ?_
  refine mj_icmp_ge 72 dX13_can_47 (by decide) (fun z => t_posK hk z (fun hk => ?_)) (fun z => t_negK hk z (fun hk => ?_))
  · refine t_mapK hk (fun hk => ?_)
    refine mj_aload_n dX13_can_72 0 rfl ?_
    refine mj_iload_n dX13_can_73 1 rfl ?_
    refine mj_iload dX13_can_74 4 rfl ?_
    refine mj_iload_n dX13_can_76 3 rfl ?_
    refine t_bndK hk (fun r1 er1 hk => ?_)
    refine t_callViP dX13_can_77 M_X13_leads (C_X13_leads _ _ _ _ _ er1) ML_X13_1505 IM_X13_leads SE_X13_leads qc_950 rfl (As := [.int l1, .int l4, .int l3]) rfl rfl (Nat.le_of_ble_eq_true rfl) (Nat.le_of_ble_eq_true rfl) (Nat.le_of_ble_eq_true rfl) (Nat.le_of_ble_eq_true rfl) ?_
    refine mj_if_eq 87 dX13_can_80 (by decide) (fun z => t_posK hk z (fun hk => ?_)) (fun z => t_negK hk z (fun hk => ?_))
    · refine mj_iconst (v := 0) dX13_can_87 (by decide) ?_
      exact t_somK hk (fun hf => t_iret dX13_can_88 rfl rfl ⟨rfl, _, rfl, hf⟩ (Nat.le_of_ble_eq_true rfl) (Nat.le_of_ble_eq_true rfl))
    · refine mj_iconst (v := 1) dX13_can_83 (by decide) ?_
      refine mj_goto 88 dX13_can_84 (by decide) ?_
      exact t_somK hk (fun hf => t_iret dX13_can_88 rfl rfl ⟨rfl, _, rfl, hf⟩ (Nat.le_of_ble_eq_true rfl) (Nat.le_of_ble_eq_true rfl))
  · refine mj_aload_n dX13_can_50 0 rfl ?_
    refine mj_iload_n dX13_can_51 1 rfl ?_
    refine mj_iload dX13_can_52 4 rfl ?_
    refine mj_aload_n dX13_can_54 0 rfl ?_
    refine t_getR 1060 dX13_can_55 F_X13_349 qr_950_182 ?_
    refine mj_iload dX13_can_58 5 rfl ?_
    refine t_chkK hk (fun c1 hk => ?_)
    refine t_iald dX13_can_60 qa_1060 (t_ixv c1) ?_
    refine t_bndK hk (fun r3 er3 hk => ?_)
    refine t_callViP dX13_can_61 M_X13_leads (C_X13_leads _ _ _ _ _ er3) ML_X13_1505 IM_X13_leads SE_X13_leads qc_950 rfl (As := [.int l1, .int l4, .int (s.1 1060 (l5.toNatClampNeg))]) rfl rfl (Nat.le_of_ble_eq_true rfl) (Nat.le_of_ble_eq_true rfl) (Nat.le_of_ble_eq_true rfl) (Nat.le_of_ble_eq_true rfl) ?_
    refine mj_istore (lv2 := [(4, .int r3), (0, .ref 950), (1, .int l1), (2, .int l2), (3, .int l3), (5, .int l5)]) dX13_can_64 (by decide) rfl ?_
    refine mj_iinc (k := 5) (v := (l5 + 1)) (lv2 := [(5, .int (l5 + 1)), (4, .int r3), (0, .ref 950), (1, .int l1), (2, .int l2), (3, .int l3)]) dX13_can_66 rfl rfl (by decide) rfl ?_
    refine mj_goto 44 dX13_can_69 (by decide) ?_
    refine mj_sublv [(0, .ref 950), (1, .int l1), (2, .int l2), (3, .int l3), (4, .int r3), (5, .int (l5 + 1))] [2, 3, 4, 5, 1, 0] rfl ?_
    exact t_somK hk (fun hf => Hb44 l1 l2 l3 r3 (l5 + 1) hf)
noncomputable def b_X13_can_44 (s : t_S) (x : Int32 × Int32 × Int32 × Int32 × Int32) : Option ((Int32 × Int32 × Int32 × Int32 × Int32) ⊕ (Int32)) := k_X13_can_44 x.1 x.2.1 x.2.2.1 x.2.2.2.1 x.2.2.2.2 s
set_option maxRecDepth 4000 in
set_option maxHeartbeats 1000000 in
theorem LH_X13_can_44 {D : va_G} {cy : Nat → ClassId} {ad : Nat → Nat} {bs : Nat} {X : State → Heap → Prop} (s : t_S) : ∀ (n : Nat) (y0 : Int32) (y1 : Int32) (y2 : Int32) (y3 : Int32) (y4 : Int32) (Q : Int32 → Prop) (hk : t_hk (t_loop (b_X13_can_44 s) n (y0, y1, y2, y3, y4)) Q), mj_G D cy ad bs X cX13_can 6 yX13_can.cls (some .int) yX13_can.name 3 0 0 1065 (t_P (fun v s' => s' = s ∧ ∃ x, v = some (.int x) ∧ Q (x))) 44 [(0, .ref 950), (1, .int (y0)), (2, .int (y1)), (3, .int (y2)), (4, .int (y3)), (5, .int (y4))] [] (t_m s) 1065 0 0 := by
  intro n
  induction n with
  | zero => intro y0 y1 y2 y3 y4 Q hk; obtain ⟨r, hr, _⟩ := hk; cases hr
  | succ n ih =>
    intro y0 y1 y2 y3 y4 Q hk
    exact B_X13_can_44 y0 y1 y2 y3 y4 s (fun y => t_lq (b_X13_can_44 s) n Q y) (fun y0' y1' y2' y3' y4' hy => ih y0' y1' y2' y3' y4' Q hy) (t_lp hk)
noncomputable def f_X13_can (x1 : Int32) (x2 : Int32) (x3 : Int32) (s : t_S) : Option (Int32) :=
 if (f_X13_in x1.toInt64 (0 : Int64) (3 : Int64) s) = (0 : Int32) then (some (-1 : Int32))
 else (if x2 < (0 : Int32) then (some (-1 : Int32))
 else (if (s.1 950 183) < x2 then (some (-1 : Int32))
 else (if (f_X13_in x3.toInt64 (0 : Int64) (8 : Int64) s) = (0 : Int32) then (some (-1 : Int32))
 else (t_loop (b_X13_can_44 s) t_N (x1, x2, x3, 1, 0)))))
set_option maxRecDepth 4000 in
set_option maxHeartbeats 1000000 in
theorem C_X13_can (x1 : Int32) (x2 : Int32) (x3 : Int32) (s : t_S) (r : Int32) (hr : f_X13_can x1 x2 x3 s = some r) : t_C yX13_can cX13_can 6 (some .int) 3 [.ref 950, .int x1, .int x2, .int x3] s (fun v s' => v = some (.int r) ∧ s' = s) := by
  refine t_C.imp (P := fun v s' => s' = s ∧ ∃ x, v = some (.int x) ∧ (fun q => q = r) (x)) (t_C.of (by decide +kernel) (Nat.le_of_ble_eq_true rfl) ?_) (fun v s' hp => by obtain ⟨rfl, x, rfl, rfl⟩ := hp; exact ⟨rfl, rfl⟩)
  intro D cy ad bs X
  have hk : t_hk (f_X13_can x1 x2 x3 s) (fun q => q = r) := ⟨r, hr, rfl⟩
  show mj_G D cy ad bs X cX13_can 6 yX13_can.cls (some .int) yX13_can.name 3 0 0 1065 (t_P (fun v s' => s' = s ∧ ∃ x, v = some (.int x) ∧ (fun q => q = r) (x))) 0 [(0, .ref 950), (1, .int x1), (2, .int x2), (3, .int x3)] [] (t_m s) 1065 0 0
  refine mj_iload_n dX13_can_0 1 rfl ?_
  refine mj_i2l (v := x1.toInt64) dX13_can_1 rfl ?_
  refine mj_lconst (v := 0) dX13_can_2 (by decide) ?_
  refine mj_ldc2 dX13_can_3 K_X13_1198 ?_
  refine t_callSiP dX13_can_6 M_X13_in (C_X13_in _ _ _ _) ML_X13_371 SM_X13_in (As := [.long x1.toInt64, .long 0, .long 3]) rfl rfl (Nat.le_of_ble_eq_true rfl) (Nat.le_of_ble_eq_true rfl) (Nat.le_of_ble_eq_true rfl) (Nat.le_of_ble_eq_true rfl) ?_
  refine mj_if_eq 36 dX13_can_9 (by decide) (fun z => t_posK hk z (fun hk => ?_)) (fun z => t_negK hk z (fun hk => ?_))
  · refine mj_iconst (v := (-1)) dX13_can_36 (by decide) ?_
    exact t_somK hk (fun hf => t_iret dX13_can_37 rfl rfl ⟨rfl, _, rfl, hf⟩ (Nat.le_of_ble_eq_true rfl) (Nat.le_of_ble_eq_true rfl))
  · refine mj_iload_n dX13_can_12 2 rfl ?_
    refine mj_if_lt 36 dX13_can_13 (by decide) (fun z => t_posK hk z (fun hk => ?_)) (fun z => t_negK hk z (fun hk => ?_))
    · refine mj_iconst (v := (-1)) dX13_can_36 (by decide) ?_
      exact t_somK hk (fun hf => t_iret dX13_can_37 rfl rfl ⟨rfl, _, rfl, hf⟩ (Nat.le_of_ble_eq_true rfl) (Nat.le_of_ble_eq_true rfl))
    · refine mj_iload_n dX13_can_16 2 rfl ?_
      refine mj_aload_n dX13_can_17 0 rfl ?_
      refine t_getI dX13_can_18 F_X13_1502 qf_950_183 ?_
      refine mj_icmp_gt 36 dX13_can_21 (by decide) (fun z => t_posK hk z (fun hk => ?_)) (fun z => t_negK hk z (fun hk => ?_))
      · refine mj_iconst (v := (-1)) dX13_can_36 (by decide) ?_
        exact t_somK hk (fun hf => t_iret dX13_can_37 rfl rfl ⟨rfl, _, rfl, hf⟩ (Nat.le_of_ble_eq_true rfl) (Nat.le_of_ble_eq_true rfl))
      · refine mj_iload_n dX13_can_24 3 rfl ?_
        refine mj_i2l (v := x3.toInt64) dX13_can_25 rfl ?_
        refine mj_lconst (v := 0) dX13_can_26 (by decide) ?_
        refine mj_ldc2 dX13_can_27 K_X13_951 ?_
        refine t_callSiP dX13_can_30 M_X13_in (C_X13_in _ _ _ _) ML_X13_371 SM_X13_in (As := [.long x3.toInt64, .long 0, .long 8]) rfl rfl (Nat.le_of_ble_eq_true rfl) (Nat.le_of_ble_eq_true rfl) (Nat.le_of_ble_eq_true rfl) (Nat.le_of_ble_eq_true rfl) ?_
        refine mj_if_ne 38 dX13_can_33 (by decide) (fun z => t_negK hk z (fun hk => ?_)) (fun z => t_posK hk z (fun hk => ?_))
        · refine mj_iconst (v := 1) dX13_can_38 (by decide) ?_
          refine mj_istore (lv2 := [(4, .int 1), (0, .ref 950), (1, .int x1), (2, .int x2), (3, .int x3)]) dX13_can_39 (by decide) rfl ?_
          refine mj_iconst (v := 0) dX13_can_41 (by decide) ?_
          refine mj_istore (lv2 := [(5, .int 0), (4, .int 1), (0, .ref 950), (1, .int x1), (2, .int x2), (3, .int x3)]) dX13_can_42 (by decide) rfl ?_
          refine mj_sublv [(0, .ref 950), (1, .int x1), (2, .int x2), (3, .int x3), (4, .int 1), (5, .int 0)] [2, 3, 4, 5, 1, 0] rfl ?_
          exact LH_X13_can_44 _ _ x1 x2 x3 1 0 _ hk
        · refine mj_iconst (v := (-1)) dX13_can_36 (by decide) ?_
          exact t_somK hk (fun hf => t_iret dX13_can_37 rfl rfl ⟨rfl, _, rfl, hf⟩ (Nat.le_of_ble_eq_true rfl) (Nat.le_of_ble_eq_true rfl))

theorem dX13_tellBreak_0 : decode cX13_tellBreak 0 = .ok (.iconst 1, 1) := by decide +kernel
theorem dX13_tellBreak_1 : decode cX13_tellBreak 1 = .ok (.istore_n 3, 1) := by decide +kernel
theorem dX13_tellBreak_11 : decode cX13_tellBreak 11 = .ok (.iaload, 1) := by decide +kernel
theorem dX13_tellBreak_12 : decode cX13_tellBreak 12 = .ok (.ifCond .lt 18, 3) := by decide +kernel
theorem dX13_tellBreak_15 : decode cX13_tellBreak 15 = .ok (.iinc 3 1, 3) := by decide +kernel
theorem dX13_tellBreak_18 : decode cX13_tellBreak 18 = .ok (.aload_n 0, 1) := by decide +kernel
theorem dX13_tellBreak_19 : decode cX13_tellBreak 19 = .ok (.getfield 353, 3) := by decide +kernel
theorem dX13_tellBreak_2 : decode cX13_tellBreak 2 = .ok (.iload_n 1, 1) := by decide +kernel
theorem dX13_tellBreak_22 : decode cX13_tellBreak 22 = .ok (.iload 4, 2) := by decide +kernel
theorem dX13_tellBreak_24 : decode cX13_tellBreak 24 = .ok (.iaload, 1) := by decide +kernel
theorem dX13_tellBreak_25 : decode cX13_tellBreak 25 = .ok (.istore 4, 2) := by decide +kernel
theorem dX13_tellBreak_27 : decode cX13_tellBreak 27 = .ok (.goto (-22), 3) := by decide +kernel
theorem dX13_tellBreak_3 : decode cX13_tellBreak 3 = .ok (.istore 4, 2) := by decide +kernel
theorem dX13_tellBreak_30 : decode cX13_tellBreak 30 = .ok (.aload_n 0, 1) := by decide +kernel
theorem dX13_tellBreak_31 : decode cX13_tellBreak 31 = .ok (.iload_n 3, 1) := by decide +kernel
theorem dX13_tellBreak_32 : decode cX13_tellBreak 32 = .ok (.putfield 1502, 3) := by decide +kernel
theorem dX13_tellBreak_35 : decode cX13_tellBreak 35 = .ok (.aload_n 0, 1) := by decide +kernel
theorem dX13_tellBreak_36 : decode cX13_tellBreak 36 = .ok (.getfield 349, 3) := by decide +kernel
theorem dX13_tellBreak_39 : decode cX13_tellBreak 39 = .ok (.iload_n 3, 1) := by decide +kernel
theorem dX13_tellBreak_40 : decode cX13_tellBreak 40 = .ok (.iconst 1, 1) := by decide +kernel
theorem dX13_tellBreak_41 : decode cX13_tellBreak 41 = .ok (.isub, 1) := by decide +kernel
theorem dX13_tellBreak_42 : decode cX13_tellBreak 42 = .ok (.iload_n 2, 1) := by decide +kernel
theorem dX13_tellBreak_43 : decode cX13_tellBreak 43 = .ok (.iastore, 1) := by decide +kernel
theorem dX13_tellBreak_44 : decode cX13_tellBreak 44 = .ok (.iload_n 3, 1) := by decide +kernel
theorem dX13_tellBreak_45 : decode cX13_tellBreak 45 = .ok (.iconst 2, 1) := by decide +kernel
theorem dX13_tellBreak_46 : decode cX13_tellBreak 46 = .ok (.isub, 1) := by decide +kernel
theorem dX13_tellBreak_47 : decode cX13_tellBreak 47 = .ok (.istore 4, 2) := by decide +kernel
theorem dX13_tellBreak_49 : decode cX13_tellBreak 49 = .ok (.iload_n 1, 1) := by decide +kernel
theorem dX13_tellBreak_5 : decode cX13_tellBreak 5 = .ok (.aload_n 0, 1) := by decide +kernel
theorem dX13_tellBreak_50 : decode cX13_tellBreak 50 = .ok (.istore 5, 2) := by decide +kernel
theorem dX13_tellBreak_52 : decode cX13_tellBreak 52 = .ok (.aload_n 0, 1) := by decide +kernel
theorem dX13_tellBreak_53 : decode cX13_tellBreak 53 = .ok (.getfield 353, 3) := by decide +kernel
theorem dX13_tellBreak_56 : decode cX13_tellBreak 56 = .ok (.iload 5, 2) := by decide +kernel
theorem dX13_tellBreak_58 : decode cX13_tellBreak 58 = .ok (.iaload, 1) := by decide +kernel
theorem dX13_tellBreak_59 : decode cX13_tellBreak 59 = .ok (.ifCond .lt 32, 3) := by decide +kernel
theorem dX13_tellBreak_6 : decode cX13_tellBreak 6 = .ok (.getfield 353, 3) := by decide +kernel
theorem dX13_tellBreak_62 : decode cX13_tellBreak 62 = .ok (.aload_n 0, 1) := by decide +kernel
theorem dX13_tellBreak_63 : decode cX13_tellBreak 63 = .ok (.getfield 349, 3) := by decide +kernel
theorem dX13_tellBreak_66 : decode cX13_tellBreak 66 = .ok (.iload 4, 2) := by decide +kernel
theorem dX13_tellBreak_68 : decode cX13_tellBreak 68 = .ok (.aload_n 0, 1) := by decide +kernel
theorem dX13_tellBreak_69 : decode cX13_tellBreak 69 = .ok (.getfield 356, 3) := by decide +kernel
theorem dX13_tellBreak_72 : decode cX13_tellBreak 72 = .ok (.iload 5, 2) := by decide +kernel
theorem dX13_tellBreak_74 : decode cX13_tellBreak 74 = .ok (.iaload, 1) := by decide +kernel
theorem dX13_tellBreak_75 : decode cX13_tellBreak 75 = .ok (.iastore, 1) := by decide +kernel
theorem dX13_tellBreak_76 : decode cX13_tellBreak 76 = .ok (.iinc 4 (-1), 3) := by decide +kernel
theorem dX13_tellBreak_79 : decode cX13_tellBreak 79 = .ok (.aload_n 0, 1) := by decide +kernel
theorem dX13_tellBreak_80 : decode cX13_tellBreak 80 = .ok (.getfield 353, 3) := by decide +kernel
theorem dX13_tellBreak_83 : decode cX13_tellBreak 83 = .ok (.iload 5, 2) := by decide +kernel
theorem dX13_tellBreak_85 : decode cX13_tellBreak 85 = .ok (.iaload, 1) := by decide +kernel
theorem dX13_tellBreak_86 : decode cX13_tellBreak 86 = .ok (.istore 5, 2) := by decide +kernel
theorem dX13_tellBreak_88 : decode cX13_tellBreak 88 = .ok (.goto (-36), 3) := by decide +kernel
theorem dX13_tellBreak_9 : decode cX13_tellBreak 9 = .ok (.iload 4, 2) := by decide +kernel
theorem dX13_tellBreak_91 : decode cX13_tellBreak 91 = .ok (.return_, 1) := by decide +kernel
noncomputable def k_X13_tellBreak_52 (l4 : Int32) (l5 : Int32) (s : t_S) : Option ((Int32 × Int32 × t_S) ⊕ (t_S)) :=
 if t_ix l5 65600 = true then
  if (s.1 1061 (l5.toNatClampNeg)) < (0 : Int32) then ((some (s)).map Sum.inr)
 else (if t_ix l4 66000 = true then
  t_let (t_setI s 1060 (l4.toNatClampNeg) (s.1 1062 (l5.toNatClampNeg))) (fun s1 =>
 some (.inl ((l4 + (-1)), (s1.1 1061 (l5.toNatClampNeg)), s1)))
else none)
else none
set_option maxRecDepth 4000 in
set_option maxHeartbeats 1000000 in
theorem B_X13_tellBreak_52 {D : va_G} {cy : Nat → ClassId} {ad : Nat → Nat} {bs : Nat} {X : State → Heap → Prop} (l4 : Int32) (l5 : Int32) (s : t_S) (Q : (Int32 × Int32 × t_S) ⊕ (t_S) → Prop) (Hb52 : ∀ (y0 : Int32) (y1 : Int32) (y2 : t_S), Q (.inl (y0, y1, y2)) → mj_G D cy ad bs X cX13_tellBreak 6 yX13_tellBreak.cls none yX13_tellBreak.name 0 0 0 1065 (t_P (fun v s' => v = none ∧ Q (.inr (s')))) 52 [(0, .ref 950), (4, .int (y0)), (5, .int (y1))] [] (t_m y2) 1065 0 0) (hk : t_hk (k_X13_tellBreak_52 l4 l5 s) Q) : mj_G D cy ad bs X cX13_tellBreak 6 yX13_tellBreak.cls none yX13_tellBreak.name 0 0 0 1065 (t_P (fun v s' => v = none ∧ Q (.inr (s')))) 52 [(0, .ref 950), (4, .int l4), (5, .int l5)] [] (t_m s) 1065 0 0 := by
  refine mj_aload_n dX13_tellBreak_52 0 rfl ?_
  refine t_getR 1061 dX13_tellBreak_53 F_X13_353 qr_950_186 ?_
  refine mj_iload dX13_tellBreak_56 2 rfl ?_
  refine t_chkK hk (fun c0 hk => ?_)
  refine t_iald dX13_tellBreak_58 qa_1061 (t_ixv c0) ?_
  refine mj_if_lt 91 dX13_tellBreak_59 (by decide) (fun z => t_posK hk z (fun hk => ?_)) (fun z => t_negK hk z (fun hk => ?_))
  · refine t_mapK hk (fun hk => ?_)
    exact t_somK hk (fun hf => t_vret dX13_tellBreak_91 rfl ⟨rfl, hf⟩ (Nat.le_of_ble_eq_true rfl) (Nat.le_of_ble_eq_true rfl))
  · refine mj_aload_n dX13_tellBreak_62 0 rfl ?_
    refine t_getR 1060 dX13_tellBreak_63 F_X13_349 qr_950_182 ?_
    refine mj_iload dX13_tellBreak_66 1 rfl ?_
    refine mj_aload_n dX13_tellBreak_68 0 rfl ?_
    refine t_getR 1062 dX13_tellBreak_69 F_X13_356 qr_950_187 ?_
    refine mj_iload dX13_tellBreak_72 2 rfl ?_
    refine t_iald dX13_tellBreak_74 qa_1062 (t_ixv c0) ?_
    refine t_chkK hk (fun c1 hk => ?_)
    refine t_iastK dX13_tellBreak_75 qa_1060 (t_ixv c1) (fun s1 ws1 => t_letE hk ws1 (fun hk => ?_))
    refine mj_iinc (k := 1) (v := (l4 + (-1))) (lv2 := [(4, .int (l4 + (-1))), (0, .ref 950), (5, .int l5)]) dX13_tellBreak_76 rfl rfl (by decide) rfl ?_
    refine mj_aload_n dX13_tellBreak_79 1 rfl ?_
    refine t_getR 1061 dX13_tellBreak_80 F_X13_353 qr_950_186 ?_
    refine mj_iload dX13_tellBreak_83 2 rfl ?_
    refine t_iald dX13_tellBreak_85 qa_1061 (t_ixv c0) ?_
    refine mj_istore (lv2 := [(5, .int (s1.1 1061 (l5.toNatClampNeg))), (4, .int (l4 + (-1))), (0, .ref 950)]) dX13_tellBreak_86 (by decide) rfl ?_
    refine mj_goto 52 dX13_tellBreak_88 (by decide) ?_
    refine mj_sublv [(0, .ref 950), (4, .int (l4 + (-1))), (5, .int (s1.1 1061 (l5.toNatClampNeg)))] [2, 1, 0] rfl ?_
    exact t_somK hk (fun hf => Hb52 (l4 + (-1)) (s1.1 1061 (l5.toNatClampNeg)) s1 hf)
noncomputable def b_X13_tellBreak_52 (x : Int32 × Int32 × t_S) : Option ((Int32 × Int32 × t_S) ⊕ (t_S)) := k_X13_tellBreak_52 x.1 x.2.1 x.2.2
set_option maxRecDepth 4000 in
set_option maxHeartbeats 1000000 in
theorem LH_X13_tellBreak_52 {D : va_G} {cy : Nat → ClassId} {ad : Nat → Nat} {bs : Nat} {X : State → Heap → Prop} : ∀ (n : Nat) (y0 : Int32) (y1 : Int32) (y2 : t_S) (Q : t_S → Prop) (hk : t_hk (t_loop (b_X13_tellBreak_52) n (y0, y1, y2)) Q), mj_G D cy ad bs X cX13_tellBreak 6 yX13_tellBreak.cls none yX13_tellBreak.name 0 0 0 1065 (t_P (fun v s' => v = none ∧ Q (s'))) 52 [(0, .ref 950), (4, .int (y0)), (5, .int (y1))] [] (t_m y2) 1065 0 0 := by
  intro n
  induction n with
  | zero => intro y0 y1 y2 Q hk; obtain ⟨r, hr, _⟩ := hk; cases hr
  | succ n ih =>
    intro y0 y1 y2 Q hk
    exact B_X13_tellBreak_52 y0 y1 y2 (fun y => t_lq (b_X13_tellBreak_52) n Q y) (fun y0' y1' y2' hy => ih y0' y1' y2' Q hy) (t_lp hk)
noncomputable def k_X13_tellBreak_5 (l1 : Int32) (l2 : Int32) (l3 : Int32) (l4 : Int32) (s : t_S) : Option ((Int32 × Int32 × Int32 × Int32 × t_S) ⊕ (t_S)) :=
 if t_ix l4 65600 = true then
  if (s.1 1061 (l4.toNatClampNeg)) < (0 : Int32) then ((t_let (t_setI s 950 183 l3) (fun s1 =>
 if t_ix (l3 - (1 : Int32)) 66000 = true then
  t_let (t_setI s1 1060 ((l3 - (1 : Int32)).toNatClampNeg) l2) (fun s2 =>
 t_loop (b_X13_tellBreak_52) t_N ((l3 - (2 : Int32)), l1, s2))
else none)).map Sum.inr)
 else (some (.inl (l1, l2, (l3 + 1), (s.1 1061 (l4.toNatClampNeg)), s)))
else none
set_option maxRecDepth 4000 in
set_option maxHeartbeats 1000000 in
theorem B_X13_tellBreak_5 {D : va_G} {cy : Nat → ClassId} {ad : Nat → Nat} {bs : Nat} {X : State → Heap → Prop} (l1 : Int32) (l2 : Int32) (l3 : Int32) (l4 : Int32) (s : t_S) (Q : (Int32 × Int32 × Int32 × Int32 × t_S) ⊕ (t_S) → Prop) (Hb5 : ∀ (y0 : Int32) (y1 : Int32) (y2 : Int32) (y3 : Int32) (y4 : t_S), Q (.inl (y0, y1, y2, y3, y4)) → mj_G D cy ad bs X cX13_tellBreak 6 yX13_tellBreak.cls none yX13_tellBreak.name 0 0 0 1065 (t_P (fun v s' => v = none ∧ Q (.inr (s')))) 5 [(0, .ref 950), (1, .int (y0)), (2, .int (y1)), (3, .int (y2)), (4, .int (y3))] [] (t_m y4) 1065 0 0) (hk : t_hk (k_X13_tellBreak_5 l1 l2 l3 l4 s) Q) : mj_G D cy ad bs X cX13_tellBreak 6 yX13_tellBreak.cls none yX13_tellBreak.name 0 0 0 1065 (t_P (fun v s' => v = none ∧ Q (.inr (s')))) 5 [(0, .ref 950), (1, .int l1), (2, .int l2), (3, .int l3), (4, .int l4)] [] (t_m s) 1065 0 0 := by
  refine mj_aload_n dX13_tellBreak_5 0 rfl ?_
  refine t_getR 1061 dX13_tellBreak_6 F_X13_353 qr_950_186 ?_
  refine mj_iload dX13_tellBreak_9 4 rfl ?_
  refine t_chkK hk (fun c0 hk => ?_)
  refine t_iald dX13_tellBreak_11 qa_1061 (t_ixv c0) ?_
  refine mj_if_lt 30 dX13_tellBreak_12 (by decide) (fun z => t_posK hk z (fun hk => ?_)) (fun z => t_negK hk z (fun hk => ?_))
  · refine t_mapK hk (fun hk => ?_)
    refine mj_aload_n dX13_tellBreak_30 0 rfl ?_
    refine mj_iload_n dX13_tellBreak_31 3 rfl ?_
    refine t_putIK dX13_tellBreak_32 F_X13_1502 qf_950_183 rfl (fun s1 ws1 => t_letE hk ws1 (fun hk => ?_))
    refine mj_aload_n dX13_tellBreak_35 0 rfl ?_
    refine t_getR 1060 dX13_tellBreak_36 F_X13_349 qr_950_182 ?_
    refine mj_iload_n dX13_tellBreak_39 3 rfl ?_
    refine mj_iconst (v := 1) dX13_tellBreak_40 (by decide) ?_
    refine mj_isub dX13_tellBreak_41 ?_
    refine mj_iload_n dX13_tellBreak_42 2 rfl ?_
    refine t_chkK hk (fun c1 hk => ?_)
    refine t_iastK dX13_tellBreak_43 qa_1060 (t_ixv c1) (fun s2 ws2 => t_letE hk ws2 (fun hk => ?_))
    refine mj_iload_n dX13_tellBreak_44 3 rfl ?_
    refine mj_iconst (v := 2) dX13_tellBreak_45 (by decide) ?_
    refine mj_isub dX13_tellBreak_46 ?_
    refine mj_istore (lv2 := [(4, .int (l3 - (2 : Int32))), (0, .ref 950), (1, .int l1), (2, .int l2), (3, .int l3)]) dX13_tellBreak_47 (by decide) rfl ?_
    refine mj_iload_n dX13_tellBreak_49 2 rfl ?_
    refine mj_istore (lv2 := [(5, .int l1), (4, .int (l3 - (2 : Int32))), (0, .ref 950), (1, .int l1), (2, .int l2), (3, .int l3)]) dX13_tellBreak_50 (by decide) rfl ?_
    refine mj_sublv [(0, .ref 950), (4, .int (l3 - (2 : Int32))), (5, .int l1)] [2, 1, 0] rfl ?_
    exact LH_X13_tellBreak_52 _ (l3 - (2 : Int32)) l1 s2 _ hk
  · refine mj_iinc (k := 3) (v := (l3 + 1)) (lv2 := [(3, .int (l3 + 1)), (0, .ref 950), (1, .int l1), (2, .int l2), (4, .int l4)]) dX13_tellBreak_15 rfl rfl (by decide) rfl ?_
    refine mj_aload_n dX13_tellBreak_18 1 rfl ?_
    refine t_getR 1061 dX13_tellBreak_19 F_X13_353 qr_950_186 ?_
    refine mj_iload dX13_tellBreak_22 4 rfl ?_
    refine t_iald dX13_tellBreak_24 qa_1061 (t_ixv c0) ?_
    refine mj_istore (lv2 := [(4, .int (s.1 1061 (l4.toNatClampNeg))), (3, .int (l3 + 1)), (0, .ref 950), (1, .int l1), (2, .int l2)]) dX13_tellBreak_25 (by decide) rfl ?_
    refine mj_goto 5 dX13_tellBreak_27 (by decide) ?_
    refine mj_sublv [(0, .ref 950), (1, .int l1), (2, .int l2), (3, .int (l3 + 1)), (4, .int (s.1 1061 (l4.toNatClampNeg)))] [2, 3, 4, 1, 0] rfl ?_
    exact t_somK hk (fun hf => Hb5 l1 l2 (l3 + 1) (s.1 1061 (l4.toNatClampNeg)) s hf)
noncomputable def b_X13_tellBreak_5 (x : Int32 × Int32 × Int32 × Int32 × t_S) : Option ((Int32 × Int32 × Int32 × Int32 × t_S) ⊕ (t_S)) := k_X13_tellBreak_5 x.1 x.2.1 x.2.2.1 x.2.2.2.1 x.2.2.2.2
set_option maxRecDepth 4000 in
set_option maxHeartbeats 1000000 in
theorem LH_X13_tellBreak_5 {D : va_G} {cy : Nat → ClassId} {ad : Nat → Nat} {bs : Nat} {X : State → Heap → Prop} : ∀ (n : Nat) (y0 : Int32) (y1 : Int32) (y2 : Int32) (y3 : Int32) (y4 : t_S) (Q : t_S → Prop) (hk : t_hk (t_loop (b_X13_tellBreak_5) n (y0, y1, y2, y3, y4)) Q), mj_G D cy ad bs X cX13_tellBreak 6 yX13_tellBreak.cls none yX13_tellBreak.name 0 0 0 1065 (t_P (fun v s' => v = none ∧ Q (s'))) 5 [(0, .ref 950), (1, .int (y0)), (2, .int (y1)), (3, .int (y2)), (4, .int (y3))] [] (t_m y4) 1065 0 0 := by
  intro n
  induction n with
  | zero => intro y0 y1 y2 y3 y4 Q hk; obtain ⟨r, hr, _⟩ := hk; cases hr
  | succ n ih =>
    intro y0 y1 y2 y3 y4 Q hk
    exact B_X13_tellBreak_5 y0 y1 y2 y3 y4 (fun y => t_lq (b_X13_tellBreak_5) n Q y) (fun y0' y1' y2' y3' y4' hy => ih y0' y1' y2' y3' y4' Q hy) (t_lp hk)
noncomputable def f_X13_tellBreak (x1 : Int32) (x2 : Int32) (s : t_S) : Option (t_S) :=
 t_loop (b_X13_tellBreak_5) t_N (x1, x2, 1, x1, s)
set_option maxRecDepth 4000 in
set_option maxHeartbeats 1000000 in
theorem C_X13_tellBreak (x1 : Int32) (x2 : Int32) (s : t_S) (r : t_S) (hr : f_X13_tellBreak x1 x2 s = some r) : t_C yX13_tellBreak cX13_tellBreak 6 none 0 [.ref 950, .int x1, .int x2] s (fun v s' => v = none ∧ s' = r) := by
  refine t_C.imp (P := fun v s' => v = none ∧ (fun q => q = r) (s')) (t_C.of (by decide +kernel) (Nat.le_of_ble_eq_true rfl) ?_) (fun v s' hp => hp)
  intro D cy ad bs X
  have hk : t_hk (f_X13_tellBreak x1 x2 s) (fun q => q = r) := ⟨r, hr, rfl⟩
  show mj_G D cy ad bs X cX13_tellBreak 6 yX13_tellBreak.cls none yX13_tellBreak.name 0 0 0 1065 (t_P (fun v s' => v = none ∧ (fun q => q = r) (s'))) 0 [(0, .ref 950), (1, .int x1), (2, .int x2)] [] (t_m s) 1065 0 0
  refine mj_iconst (v := 1) dX13_tellBreak_0 (by decide) ?_
  refine mj_istore_n 3 (lv2 := [(3, .int 1), (0, .ref 950), (1, .int x1), (2, .int x2)]) dX13_tellBreak_1 rfl (by decide) rfl ?_
  refine mj_iload_n dX13_tellBreak_2 2 rfl ?_
  refine mj_istore (lv2 := [(4, .int x1), (3, .int 1), (0, .ref 950), (1, .int x1), (2, .int x2)]) dX13_tellBreak_3 (by decide) rfl ?_
  refine mj_sublv [(0, .ref 950), (1, .int x1), (2, .int x2), (3, .int 1), (4, .int x1)] [2, 3, 4, 1, 0] rfl ?_
  exact LH_X13_tellBreak_5 _ x1 x2 1 x1 s _ hk

