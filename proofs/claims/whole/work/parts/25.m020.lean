/-! Methods as functions, 20: X1_writeList, X1_writeRecord, X1_writePart, X1_writeBits, X12_encode, X2_cut, X12_end -/
theorem qc_1 : t_okc 1 2 = true := by decide +kernel
theorem dX1_writeList_0 : decode cX1_writeList 0 = .ok (.aload_n 1, 1) := by decide +kernel
theorem dX1_writeList_1 : decode cX1_writeList 1 = .ok (.iload_n 2, 1) := by decide +kernel
theorem dX1_writeList_10 : decode cX1_writeList 10 = .ok (.iload 4, 2) := by decide +kernel
theorem dX1_writeList_12 : decode cX1_writeList 12 = .ok (.invokevirtual 169, 3) := by decide +kernel
theorem dX1_writeList_15 : decode cX1_writeList 15 = .ok (.iload 4, 2) := by decide +kernel
theorem dX1_writeList_17 : decode cX1_writeList 17 = .ok (.iconst 1, 1) := by decide +kernel
theorem dX1_writeList_18 : decode cX1_writeList 18 = .ok (.isub, 1) := by decide +kernel
theorem dX1_writeList_19 : decode cX1_writeList 19 = .ok (.istore 5, 2) := by decide +kernel
theorem dX1_writeList_2 : decode cX1_writeList 2 = .ok (.laload, 1) := by decide +kernel
theorem dX1_writeList_21 : decode cX1_writeList 21 = .ok (.iload 5, 2) := by decide +kernel
theorem dX1_writeList_23 : decode cX1_writeList 23 = .ok (.ifCond .lt 29, 3) := by decide +kernel
theorem dX1_writeList_26 : decode cX1_writeList 26 = .ok (.aload_n 0, 1) := by decide +kernel
theorem dX1_writeList_27 : decode cX1_writeList 27 = .ok (.aload_n 1, 1) := by decide +kernel
theorem dX1_writeList_28 : decode cX1_writeList 28 = .ok (.iload_n 2, 1) := by decide +kernel
theorem dX1_writeList_29 : decode cX1_writeList 29 = .ok (.iload 5, 2) := by decide +kernel
theorem dX1_writeList_3 : decode cX1_writeList 3 = .ok (.invokestatic 94, 3) := by decide +kernel
theorem dX1_writeList_31 : decode cX1_writeList 31 = .ok (.invokestatic 201, 3) := by decide +kernel
theorem dX1_writeList_34 : decode cX1_writeList 34 = .ok (.aload_n 0, 1) := by decide +kernel
theorem dX1_writeList_35 : decode cX1_writeList 35 = .ok (.getfield 39, 3) := by decide +kernel
theorem dX1_writeList_38 : decode cX1_writeList 38 = .ok (.getfield 181, 3) := by decide +kernel
theorem dX1_writeList_41 : decode cX1_writeList 41 = .ok (.iload_n 3, 1) := by decide +kernel
theorem dX1_writeList_42 : decode cX1_writeList 42 = .ok (.iaload, 1) := by decide +kernel
theorem dX1_writeList_43 : decode cX1_writeList 43 = .ok (.invokevirtual 135, 3) := by decide +kernel
theorem dX1_writeList_46 : decode cX1_writeList 46 = .ok (.iinc 5 (-1), 3) := by decide +kernel
theorem dX1_writeList_49 : decode cX1_writeList 49 = .ok (.goto (-28), 3) := by decide +kernel
theorem dX1_writeList_52 : decode cX1_writeList 52 = .ok (.return_, 1) := by decide +kernel
theorem dX1_writeList_6 : decode cX1_writeList 6 = .ok (.istore 4, 2) := by decide +kernel
theorem dX1_writeList_8 : decode cX1_writeList 8 = .ok (.aload_n 0, 1) := by decide +kernel
theorem dX1_writeList_9 : decode cX1_writeList 9 = .ok (.iload_n 3, 1) := by decide +kernel
noncomputable def k_X1_writeList_21 (l1 : Nat) (l2 : Int32) (l3 : Int32) (l5 : Int32) (s : t_S) : Option ((Nat × Int32 × Int32 × Int32 × t_S) ⊕ (t_S)) :=
 if l5 < (0 : Int32) then ((some (s)).map Sum.inr)
 else ((f_X8_elementAt l1 l2 l5 s).bind (fun r1 =>
 if t_ix l3 3001 = true then
  (f_X1_expect r1 (s.1 318 (l3.toNatClampNeg)) s).bind (fun r3 =>
 some (.inl (l1, l2, l3, (l5 + (-1)), r3)))
else none))
set_option maxRecDepth 4000 in
set_option maxHeartbeats 1000000 in
theorem B_X1_writeList_21 {D : va_G} {cy : Nat → ClassId} {ad : Nat → Nat} {bs : Nat} {X : State → Heap → Prop} (l1 : Nat) (l2 : Int32) (l3 : Int32) (l5 : Int32) (s : t_S) (Q : (Nat × Int32 × Int32 × Int32 × t_S) ⊕ (t_S) → Prop) (Hb21 : ∀ (y0 : Nat) (y1 : Int32) (y2 : Int32) (y3 : Int32) (y4 : t_S), Q (.inl (y0, y1, y2, y3, y4)) → mj_G D cy ad bs X cX1_writeList 6 yX1_writeList.cls none yX1_writeList.name 4 0 0 1065 (t_P (fun v s' => v = none ∧ Q (.inr (s')))) 21 [(0, .ref 856), (1, .ref (y0)), (2, .int (y1)), (3, .int (y2)), (5, .int (y3))] [] (t_m y4) 1065 0 0) (hk : t_hk (k_X1_writeList_21 l1 l2 l3 l5 s) Q) : mj_G D cy ad bs X cX1_writeList 6 yX1_writeList.cls none yX1_writeList.name 4 0 0 1065 (t_P (fun v s' => v = none ∧ Q (.inr (s')))) 21 [(0, .ref 856), (1, .ref l1), (2, .int l2), (3, .int l3), (5, .int l5)] [] (t_m s) 1065 0 0 := by
  refine mj_iload dX1_writeList_21 4 rfl ?_
  refine mj_if_lt 52 dX1_writeList_23 (by decide) (fun z => t_posK hk z (fun hk => ?_)) (fun z => t_negK hk z (fun hk => ?_))
  · refine t_mapK hk (fun hk => ?_)
    exact t_somK hk (fun hf => t_vret dX1_writeList_52 rfl ⟨rfl, hf⟩ (Nat.le_of_ble_eq_true rfl) (Nat.le_of_ble_eq_true rfl))
  · refine mj_aload_n dX1_writeList_26 0 rfl ?_
    refine mj_aload_n dX1_writeList_27 1 rfl ?_
    refine mj_iload_n dX1_writeList_28 2 rfl ?_
    refine mj_iload dX1_writeList_29 4 rfl ?_
    refine t_bndK hk (fun r1 er1 hk => ?_)
    refine t_callSiP dX1_writeList_31 M_X8_elementAt (C_X8_elementAt _ _ _ _ _ er1) ML_X1_201 SM_X8_elementAt (As := [.ref l1, .int l2, .int l5]) rfl rfl (Nat.le_of_ble_eq_true rfl) (Nat.le_of_ble_eq_true rfl) (Nat.le_of_ble_eq_true rfl) (Nat.le_of_ble_eq_true rfl) ?_
    refine mj_aload_n dX1_writeList_34 0 rfl ?_
    refine t_getR 316 dX1_writeList_35 F_X1_39 qr_856_1 ?_
    refine t_getR 318 dX1_writeList_38 F_X1_181 qr_316_1 ?_
    refine mj_iload_n dX1_writeList_41 3 rfl ?_
    refine t_chkK hk (fun c1 hk => ?_)
    refine t_iald dX1_writeList_42 qa_318 (t_ixv c1) ?_
    refine t_bndK hk (fun r3 er3 hk => ?_)
    refine t_callVvE dX1_writeList_43 M_X1_expect (C_X1_expect _ _ _ _ er3) ML_X1_135 IM_X1_expect SE_X1_expect qc_856 rfl (As := [.int r1, .int (s.1 318 (l3.toNatClampNeg))]) rfl rfl (Nat.le_of_ble_eq_true rfl) (Nat.le_of_ble_eq_true rfl) (Nat.le_of_ble_eq_true rfl) (Nat.le_of_ble_eq_true rfl) ?_
    refine mj_iinc (k := 4) (v := (l5 + (-1))) (lv2 := [(5, .int (l5 + (-1))), (0, .ref 856), (1, .ref l1), (2, .int l2), (3, .int l3)]) dX1_writeList_46 rfl rfl (by decide) rfl ?_
    refine mj_goto 21 dX1_writeList_49 (by decide) ?_
    refine mj_sublv [(0, .ref 856), (1, .ref l1), (2, .int l2), (3, .int l3), (5, .int (l5 + (-1)))] [1, 2, 3, 4, 0] rfl ?_
    exact t_somK hk (fun hf => Hb21 l1 l2 l3 (l5 + (-1)) r3 hf)
noncomputable def b_X1_writeList_21 (x : Nat × Int32 × Int32 × Int32 × t_S) : Option ((Nat × Int32 × Int32 × Int32 × t_S) ⊕ (t_S)) := k_X1_writeList_21 x.1 x.2.1 x.2.2.1 x.2.2.2.1 x.2.2.2.2
set_option maxRecDepth 4000 in
set_option maxHeartbeats 1000000 in
theorem LH_X1_writeList_21 {D : va_G} {cy : Nat → ClassId} {ad : Nat → Nat} {bs : Nat} {X : State → Heap → Prop} : ∀ (n : Nat) (y0 : Nat) (y1 : Int32) (y2 : Int32) (y3 : Int32) (y4 : t_S) (Q : t_S → Prop) (hk : t_hk (t_loop (b_X1_writeList_21) n (y0, y1, y2, y3, y4)) Q), mj_G D cy ad bs X cX1_writeList 6 yX1_writeList.cls none yX1_writeList.name 4 0 0 1065 (t_P (fun v s' => v = none ∧ Q (s'))) 21 [(0, .ref 856), (1, .ref (y0)), (2, .int (y1)), (3, .int (y2)), (5, .int (y3))] [] (t_m y4) 1065 0 0 := by
  intro n
  induction n with
  | zero => intro y0 y1 y2 y3 y4 Q hk; obtain ⟨r, hr, _⟩ := hk; cases hr
  | succ n ih =>
    intro y0 y1 y2 y3 y4 Q hk
    exact B_X1_writeList_21 y0 y1 y2 y3 y4 (fun y => t_lq (b_X1_writeList_21) n Q y) (fun y0' y1' y2' y3' y4' hy => ih y0' y1' y2' y3' y4' Q hy) (t_lp hk)
noncomputable def f_X1_writeList (x1 : Nat) (x2 : Int32) (x3 : Int32) (s : t_S) : Option (t_S) :=
 if t_oka x1 2 (t_ln x1) = true then
  if t_ix x2 (t_ln x1) = true then
  (f_X1_writeLength x3 (f_X8_partsOf (s.2.1 x1 (x2.toNatClampNeg)) s) s).bind (fun r4 =>
 t_loop (b_X1_writeList_21) t_N (x1, x2, x3, ((f_X8_partsOf (s.2.1 x1 (x2.toNatClampNeg)) s) - (1 : Int32)), r4))
else none
else none
set_option maxRecDepth 4000 in
set_option maxHeartbeats 1000000 in
theorem C_X1_writeList (x1 : Nat) (x2 : Int32) (x3 : Int32) (s : t_S) (r : t_S) (hr : f_X1_writeList x1 x2 x3 s = some r) : t_C yX1_writeList cX1_writeList 6 none 4 [.ref 856, .ref x1, .int x2, .int x3] s (fun v s' => v = none ∧ s' = r) := by
  refine t_C.imp (P := fun v s' => v = none ∧ (fun q => q = r) (s')) (t_C.of (by decide +kernel) (Nat.le_of_ble_eq_true rfl) ?_) (fun v s' hp => hp)
  intro D cy ad bs X
  have hk : t_hk (f_X1_writeList x1 x2 x3 s) (fun q => q = r) := ⟨r, hr, rfl⟩
  show mj_G D cy ad bs X cX1_writeList 6 yX1_writeList.cls none yX1_writeList.name 4 0 0 1065 (t_P (fun v s' => v = none ∧ (fun q => q = r) (s'))) 0 [(0, .ref 856), (1, .ref x1), (2, .int x2), (3, .int x3)] [] (t_m s) 1065 0 0
  refine mj_aload_n dX1_writeList_0 1 rfl ?_
  refine mj_iload_n dX1_writeList_1 2 rfl ?_
  refine t_chkK hk (fun c0 hk => ?_)
  refine t_chkK hk (fun c1 hk => ?_)
  refine t_lald dX1_writeList_2 c0 (t_ixv c1) ?_
  refine t_callSiP dX1_writeList_3 M_X8_partsOf (C_X8_partsOf _ _) ML_X1_94 SM_X8_partsOf (As := [.long (s.2.1 x1 (x2.toNatClampNeg))]) rfl rfl (Nat.le_of_ble_eq_true rfl) (Nat.le_of_ble_eq_true rfl) (Nat.le_of_ble_eq_true rfl) (Nat.le_of_ble_eq_true rfl) ?_
  refine mj_istore (lv2 := [(4, .int (f_X8_partsOf (s.2.1 x1 (x2.toNatClampNeg)) s)), (0, .ref 856), (1, .ref x1), (2, .int x2), (3, .int x3)]) dX1_writeList_6 (by decide) rfl ?_
  refine mj_aload_n dX1_writeList_8 1 rfl ?_
  refine mj_iload_n dX1_writeList_9 4 rfl ?_
  refine mj_iload dX1_writeList_10 0 rfl ?_
  refine t_bndK hk (fun r4 er4 hk => ?_)
  refine t_callVvE dX1_writeList_12 M_X1_writeLength (C_X1_writeLength _ _ _ _ er4) ML_X1_169 IM_X1_writeLength SE_X1_writeLength qc_856 rfl (As := [.int x3, .int (f_X8_partsOf (s.2.1 x1 (x2.toNatClampNeg)) s)]) rfl rfl (Nat.le_of_ble_eq_true rfl) (Nat.le_of_ble_eq_true rfl) (Nat.le_of_ble_eq_true rfl) (Nat.le_of_ble_eq_true rfl) ?_
  refine mj_iload dX1_writeList_15 0 rfl ?_
  refine mj_iconst (v := 1) dX1_writeList_17 (by decide) ?_
  refine mj_isub dX1_writeList_18 ?_
  refine mj_istore (lv2 := [(5, .int ((f_X8_partsOf (s.2.1 x1 (x2.toNatClampNeg)) s) - (1 : Int32))), (4, .int (f_X8_partsOf (s.2.1 x1 (x2.toNatClampNeg)) s)), (0, .ref 856), (1, .ref x1), (2, .int x2), (3, .int x3)]) dX1_writeList_19 (by decide) rfl ?_
  refine mj_sublv [(0, .ref 856), (1, .ref x1), (2, .int x2), (3, .int x3), (5, .int ((f_X8_partsOf (s.2.1 x1 (x2.toNatClampNeg)) s) - (1 : Int32)))] [2, 3, 4, 5, 0] rfl ?_
  exact LH_X1_writeList_21 _ x1 x2 x3 ((f_X8_partsOf (s.2.1 x1 (x2.toNatClampNeg)) s) - (1 : Int32)) r4 _ hk

theorem dX1_writeRecord_0 : decode cX1_writeRecord 0 = .ok (.aload_n 0, 1) := by decide +kernel
theorem dX1_writeRecord_1 : decode cX1_writeRecord 1 = .ok (.getfield 39, 3) := by decide +kernel
theorem dX1_writeRecord_100 : decode cX1_writeRecord 100 = .ok (.iaload, 1) := by decide +kernel
theorem dX1_writeRecord_101 : decode cX1_writeRecord 101 = .ok (.iconst 1, 1) := by decide +kernel
theorem dX1_writeRecord_102 : decode cX1_writeRecord 102 = .ok (.isub, 1) := by decide +kernel
theorem dX1_writeRecord_103 : decode cX1_writeRecord 103 = .ok (.istore 5, 2) := by decide +kernel
theorem dX1_writeRecord_105 : decode cX1_writeRecord 105 = .ok (.iload 5, 2) := by decide +kernel
theorem dX1_writeRecord_107 : decode cX1_writeRecord 107 = .ok (.ifCond .lt 65, 3) := by decide +kernel
theorem dX1_writeRecord_11 : decode cX1_writeRecord 11 = .ok (.iconst 0, 1) := by decide +kernel
theorem dX1_writeRecord_110 : decode cX1_writeRecord 110 = .ok (.aload_n 0, 1) := by decide +kernel
theorem dX1_writeRecord_111 : decode cX1_writeRecord 111 = .ok (.iload_n 3, 1) := by decide +kernel
theorem dX1_writeRecord_112 : decode cX1_writeRecord 112 = .ok (.iload 5, 2) := by decide +kernel
theorem dX1_writeRecord_114 : decode cX1_writeRecord 114 = .ok (.invokevirtual 210, 3) := by decide +kernel
theorem dX1_writeRecord_117 : decode cX1_writeRecord 117 = .ok (.istore 6, 2) := by decide +kernel
theorem dX1_writeRecord_119 : decode cX1_writeRecord 119 = .ok (.iload 6, 2) := by decide +kernel
theorem dX1_writeRecord_12 : decode cX1_writeRecord 12 = .ok (.istore 5, 2) := by decide +kernel
theorem dX1_writeRecord_121 : decode cX1_writeRecord 121 = .ok (.ifCond .ge 7, 3) := by decide +kernel
theorem dX1_writeRecord_124 : decode cX1_writeRecord 124 = .ok (.iconst (-1), 1) := by decide +kernel
theorem dX1_writeRecord_125 : decode cX1_writeRecord 125 = .ok (.goto 18, 3) := by decide +kernel
theorem dX1_writeRecord_128 : decode cX1_writeRecord 128 = .ok (.aload_n 1, 1) := by decide +kernel
theorem dX1_writeRecord_129 : decode cX1_writeRecord 129 = .ok (.iload_n 2, 1) := by decide +kernel
theorem dX1_writeRecord_130 : decode cX1_writeRecord 130 = .ok (.aload_n 0, 1) := by decide +kernel
theorem dX1_writeRecord_131 : decode cX1_writeRecord 131 = .ok (.getfield 39, 3) := by decide +kernel
theorem dX1_writeRecord_134 : decode cX1_writeRecord 134 = .ok (.getfield 204, 3) := by decide +kernel
theorem dX1_writeRecord_137 : decode cX1_writeRecord 137 = .ok (.iload 6, 2) := by decide +kernel
theorem dX1_writeRecord_139 : decode cX1_writeRecord 139 = .ok (.iaload, 1) := by decide +kernel
theorem dX1_writeRecord_14 : decode cX1_writeRecord 14 = .ok (.iload 5, 2) := by decide +kernel
theorem dX1_writeRecord_140 : decode cX1_writeRecord 140 = .ok (.invokestatic 207, 3) := by decide +kernel
theorem dX1_writeRecord_143 : decode cX1_writeRecord 143 = .ok (.istore 7, 2) := by decide +kernel
theorem dX1_writeRecord_145 : decode cX1_writeRecord 145 = .ok (.iload 7, 2) := by decide +kernel
theorem dX1_writeRecord_147 : decode cX1_writeRecord 147 = .ok (.ifCond .lt 19, 3) := by decide +kernel
theorem dX1_writeRecord_150 : decode cX1_writeRecord 150 = .ok (.aload_n 0, 1) := by decide +kernel
theorem dX1_writeRecord_151 : decode cX1_writeRecord 151 = .ok (.iload 7, 2) := by decide +kernel
theorem dX1_writeRecord_153 : decode cX1_writeRecord 153 = .ok (.aload_n 0, 1) := by decide +kernel
theorem dX1_writeRecord_154 : decode cX1_writeRecord 154 = .ok (.getfield 39, 3) := by decide +kernel
theorem dX1_writeRecord_157 : decode cX1_writeRecord 157 = .ok (.getfield 181, 3) := by decide +kernel
theorem dX1_writeRecord_16 : decode cX1_writeRecord 16 = .ok (.aload_n 0, 1) := by decide +kernel
theorem dX1_writeRecord_160 : decode cX1_writeRecord 160 = .ok (.iload 6, 2) := by decide +kernel
theorem dX1_writeRecord_162 : decode cX1_writeRecord 162 = .ok (.iaload, 1) := by decide +kernel
theorem dX1_writeRecord_163 : decode cX1_writeRecord 163 = .ok (.invokevirtual 135, 3) := by decide +kernel
theorem dX1_writeRecord_166 : decode cX1_writeRecord 166 = .ok (.iinc 5 (-1), 3) := by decide +kernel
theorem dX1_writeRecord_169 : decode cX1_writeRecord 169 = .ok (.goto (-64), 3) := by decide +kernel
theorem dX1_writeRecord_17 : decode cX1_writeRecord 17 = .ok (.getfield 39, 3) := by decide +kernel
theorem dX1_writeRecord_172 : decode cX1_writeRecord 172 = .ok (.return_, 1) := by decide +kernel
theorem dX1_writeRecord_20 : decode cX1_writeRecord 20 = .ok (.getfield 163, 3) := by decide +kernel
theorem dX1_writeRecord_23 : decode cX1_writeRecord 23 = .ok (.iload_n 3, 1) := by decide +kernel
theorem dX1_writeRecord_24 : decode cX1_writeRecord 24 = .ok (.iaload, 1) := by decide +kernel
theorem dX1_writeRecord_25 : decode cX1_writeRecord 25 = .ok (.if_icmp .ge 67, 3) := by decide +kernel
theorem dX1_writeRecord_28 : decode cX1_writeRecord 28 = .ok (.iload 4, 2) := by decide +kernel
theorem dX1_writeRecord_30 : decode cX1_writeRecord 30 = .ok (.ifCond .lt 62, 3) := by decide +kernel
theorem dX1_writeRecord_33 : decode cX1_writeRecord 33 = .ok (.aload_n 0, 1) := by decide +kernel
theorem dX1_writeRecord_34 : decode cX1_writeRecord 34 = .ok (.getfield 39, 3) := by decide +kernel
theorem dX1_writeRecord_37 : decode cX1_writeRecord 37 = .ok (.getfield 163, 3) := by decide +kernel
theorem dX1_writeRecord_4 : decode cX1_writeRecord 4 = .ok (.getfield 181, 3) := by decide +kernel
theorem dX1_writeRecord_40 : decode cX1_writeRecord 40 = .ok (.iload 4, 2) := by decide +kernel
theorem dX1_writeRecord_42 : decode cX1_writeRecord 42 = .ok (.iaload, 1) := by decide +kernel
theorem dX1_writeRecord_43 : decode cX1_writeRecord 43 = .ok (.ifCond .eq 31, 3) := by decide +kernel
theorem dX1_writeRecord_46 : decode cX1_writeRecord 46 = .ok (.aload_n 0, 1) := by decide +kernel
theorem dX1_writeRecord_47 : decode cX1_writeRecord 47 = .ok (.aload_n 1, 1) := by decide +kernel
theorem dX1_writeRecord_48 : decode cX1_writeRecord 48 = .ok (.iload_n 2, 1) := by decide +kernel
theorem dX1_writeRecord_49 : decode cX1_writeRecord 49 = .ok (.aload_n 0, 1) := by decide +kernel
theorem dX1_writeRecord_50 : decode cX1_writeRecord 50 = .ok (.getfield 39, 3) := by decide +kernel
theorem dX1_writeRecord_53 : decode cX1_writeRecord 53 = .ok (.getfield 204, 3) := by decide +kernel
theorem dX1_writeRecord_56 : decode cX1_writeRecord 56 = .ok (.iload 4, 2) := by decide +kernel
theorem dX1_writeRecord_58 : decode cX1_writeRecord 58 = .ok (.iaload, 1) := by decide +kernel
theorem dX1_writeRecord_59 : decode cX1_writeRecord 59 = .ok (.invokestatic 207, 3) := by decide +kernel
theorem dX1_writeRecord_62 : decode cX1_writeRecord 62 = .ok (.ifCond .lt 7, 3) := by decide +kernel
theorem dX1_writeRecord_65 : decode cX1_writeRecord 65 = .ok (.lconst 1, 1) := by decide +kernel
theorem dX1_writeRecord_66 : decode cX1_writeRecord 66 = .ok (.goto 4, 3) := by decide +kernel
theorem dX1_writeRecord_69 : decode cX1_writeRecord 69 = .ok (.lconst 0, 1) := by decide +kernel
theorem dX1_writeRecord_7 : decode cX1_writeRecord 7 = .ok (.iload_n 3, 1) := by decide +kernel
theorem dX1_writeRecord_70 : decode cX1_writeRecord 70 = .ok (.iconst 1, 1) := by decide +kernel
theorem dX1_writeRecord_71 : decode cX1_writeRecord 71 = .ok (.invokevirtual 155, 3) := by decide +kernel
theorem dX1_writeRecord_74 : decode cX1_writeRecord 74 = .ok (.aload_n 0, 1) := by decide +kernel
theorem dX1_writeRecord_75 : decode cX1_writeRecord 75 = .ok (.getfield 39, 3) := by decide +kernel
theorem dX1_writeRecord_78 : decode cX1_writeRecord 78 = .ok (.getfield 198, 3) := by decide +kernel
theorem dX1_writeRecord_8 : decode cX1_writeRecord 8 = .ok (.iaload, 1) := by decide +kernel
theorem dX1_writeRecord_81 : decode cX1_writeRecord 81 = .ok (.iload 4, 2) := by decide +kernel
theorem dX1_writeRecord_83 : decode cX1_writeRecord 83 = .ok (.iaload, 1) := by decide +kernel
theorem dX1_writeRecord_84 : decode cX1_writeRecord 84 = .ok (.istore 4, 2) := by decide +kernel
theorem dX1_writeRecord_86 : decode cX1_writeRecord 86 = .ok (.iinc 5 1, 3) := by decide +kernel
theorem dX1_writeRecord_89 : decode cX1_writeRecord 89 = .ok (.goto (-75), 3) := by decide +kernel
theorem dX1_writeRecord_9 : decode cX1_writeRecord 9 = .ok (.istore 4, 2) := by decide +kernel
theorem dX1_writeRecord_92 : decode cX1_writeRecord 92 = .ok (.aload_n 0, 1) := by decide +kernel
theorem dX1_writeRecord_93 : decode cX1_writeRecord 93 = .ok (.getfield 39, 3) := by decide +kernel
theorem dX1_writeRecord_96 : decode cX1_writeRecord 96 = .ok (.getfield 163, 3) := by decide +kernel
theorem dX1_writeRecord_99 : decode cX1_writeRecord 99 = .ok (.iload_n 3, 1) := by decide +kernel
noncomputable def k_X1_writeRecord_74 (l1 : Nat) (l2 : Int32) (l3 : Int32) (l4 : Int32) (l5 : Int32) (s : t_S) : Option ((Nat × Int32 × Int32 × Int32 × Int32 × t_S) ⊕ (t_S)) :=
 if t_ix l4 3001 = true then
  some (.inl (l1, l2, l3, (s.1 319 (l4.toNatClampNeg)), (l5 + 1), s))
else none
set_option maxRecDepth 4000 in
set_option maxHeartbeats 1000000 in
theorem B_X1_writeRecord_74 {D : va_G} {cy : Nat → ClassId} {ad : Nat → Nat} {bs : Nat} {X : State → Heap → Prop} (l1 : Nat) (l2 : Int32) (l3 : Int32) (l4 : Int32) (l5 : Int32) (s : t_S) (Q : (Nat × Int32 × Int32 × Int32 × Int32 × t_S) ⊕ (t_S) → Prop) (Hb14 : ∀ (y0 : Nat) (y1 : Int32) (y2 : Int32) (y3 : Int32) (y4 : Int32) (y5 : t_S), Q (.inl (y0, y1, y2, y3, y4, y5)) → mj_G D cy ad bs X cX1_writeRecord 8 yX1_writeRecord.cls none yX1_writeRecord.name 1 0 0 1065 (t_P (fun v s' => v = none ∧ Q (.inr (s')))) 14 [(0, .ref 856), (1, .ref (y0)), (2, .int (y1)), (3, .int (y2)), (4, .int (y3)), (5, .int (y4))] [] (t_m y5) 1065 0 0) (hk : t_hk (k_X1_writeRecord_74 l1 l2 l3 l4 l5 s) Q) : mj_G D cy ad bs X cX1_writeRecord 8 yX1_writeRecord.cls none yX1_writeRecord.name 1 0 0 1065 (t_P (fun v s' => v = none ∧ Q (.inr (s')))) 74 [(0, .ref 856), (1, .ref l1), (2, .int l2), (3, .int l3), (4, .int l4), (5, .int l5)] [] (t_m s) 1065 0 0 := by
  refine mj_aload_n dX1_writeRecord_74 0 rfl ?_
  refine t_getR 316 dX1_writeRecord_75 F_X1_39 qr_856_1 ?_
  refine t_getR 319 dX1_writeRecord_78 F_X1_198 qr_316_2 ?_
  refine mj_iload dX1_writeRecord_81 4 rfl ?_
  refine t_chkK hk (fun c0 hk => ?_)
  refine t_iald dX1_writeRecord_83 qa_319 (t_ixv c0) ?_
  refine mj_istore (lv2 := [(4, .int (s.1 319 (l4.toNatClampNeg))), (0, .ref 856), (1, .ref l1), (2, .int l2), (3, .int l3), (5, .int l5)]) dX1_writeRecord_84 (by decide) rfl ?_
  refine mj_iinc (k := 5) (v := (l5 + 1)) (lv2 := [(5, .int (l5 + 1)), (4, .int (s.1 319 (l4.toNatClampNeg))), (0, .ref 856), (1, .ref l1), (2, .int l2), (3, .int l3)]) dX1_writeRecord_86 rfl rfl (by decide) rfl ?_
  refine mj_goto 14 dX1_writeRecord_89 (by decide) ?_
  refine mj_sublv [(0, .ref 856), (1, .ref l1), (2, .int l2), (3, .int l3), (4, .int (s.1 319 (l4.toNatClampNeg))), (5, .int (l5 + 1))] [2, 3, 4, 5, 1, 0] rfl ?_
  exact t_somK hk (fun hf => Hb14 l1 l2 l3 (s.1 319 (l4.toNatClampNeg)) (l5 + 1) s hf)
noncomputable def k_X1_writeRecord_166 (l1 : Nat) (l2 : Int32) (l3 : Int32) (l5 : Int32) (s : t_S) : Option ((Nat × Int32 × Int32 × Int32 × t_S) ⊕ (t_S)) :=
 some (.inl (l1, l2, l3, (l5 + (-1)), s))
set_option maxRecDepth 4000 in
set_option maxHeartbeats 1000000 in
theorem B_X1_writeRecord_166 {D : va_G} {cy : Nat → ClassId} {ad : Nat → Nat} {bs : Nat} {X : State → Heap → Prop} (l1 : Nat) (l2 : Int32) (l3 : Int32) (l5 : Int32) (s : t_S) (Q : (Nat × Int32 × Int32 × Int32 × t_S) ⊕ (t_S) → Prop) (Hb105 : ∀ (y0 : Nat) (y1 : Int32) (y2 : Int32) (y3 : Int32) (y4 : t_S), Q (.inl (y0, y1, y2, y3, y4)) → mj_G D cy ad bs X cX1_writeRecord 8 yX1_writeRecord.cls none yX1_writeRecord.name 1 0 0 1065 (t_P (fun v s' => v = none ∧ Q (.inr (s')))) 105 [(0, .ref 856), (1, .ref (y0)), (2, .int (y1)), (3, .int (y2)), (5, .int (y3))] [] (t_m y4) 1065 0 0) (hk : t_hk (k_X1_writeRecord_166 l1 l2 l3 l5 s) Q) : mj_G D cy ad bs X cX1_writeRecord 8 yX1_writeRecord.cls none yX1_writeRecord.name 1 0 0 1065 (t_P (fun v s' => v = none ∧ Q (.inr (s')))) 166 [(0, .ref 856), (1, .ref l1), (2, .int l2), (3, .int l3), (5, .int l5)] [] (t_m s) 1065 0 0 := by
  refine mj_iinc (k := 4) (v := (l5 + (-1))) (lv2 := [(5, .int (l5 + (-1))), (0, .ref 856), (1, .ref l1), (2, .int l2), (3, .int l3)]) dX1_writeRecord_166 rfl rfl (by decide) rfl ?_
  refine mj_goto 105 dX1_writeRecord_169 (by decide) ?_
  refine mj_sublv [(0, .ref 856), (1, .ref l1), (2, .int l2), (3, .int l3), (5, .int (l5 + (-1)))] [1, 2, 3, 4, 0] rfl ?_
  exact t_somK hk (fun hf => Hb105 l1 l2 l3 (l5 + (-1)) s hf)
noncomputable def k_X1_writeRecord_143 (l1 : Nat) (l2 : Int32) (l3 : Int32) (l5 : Int32) (l6 : Int32) (k0 : Int32) (s : t_S) : Option ((Nat × Int32 × Int32 × Int32 × t_S) ⊕ (t_S)) :=
 if k0 < (0 : Int32) then (k_X1_writeRecord_166 l1 l2 l3 l5 s)
 else (if t_ix l6 3001 = true then
  (f_X1_expect k0 (s.1 318 (l6.toNatClampNeg)) s).bind (fun r2 =>
 k_X1_writeRecord_166 l1 l2 l3 l5 r2)
else none)
set_option maxRecDepth 4000 in
set_option maxHeartbeats 1000000 in
theorem B_X1_writeRecord_143 {D : va_G} {cy : Nat → ClassId} {ad : Nat → Nat} {bs : Nat} {X : State → Heap → Prop} (l1 : Nat) (l2 : Int32) (l3 : Int32) (l5 : Int32) (l6 : Int32) (k0 : Int32) (s : t_S) (Q : (Nat × Int32 × Int32 × Int32 × t_S) ⊕ (t_S) → Prop) (Hb105 : ∀ (y0 : Nat) (y1 : Int32) (y2 : Int32) (y3 : Int32) (y4 : t_S), Q (.inl (y0, y1, y2, y3, y4)) → mj_G D cy ad bs X cX1_writeRecord 8 yX1_writeRecord.cls none yX1_writeRecord.name 1 0 0 1065 (t_P (fun v s' => v = none ∧ Q (.inr (s')))) 105 [(0, .ref 856), (1, .ref (y0)), (2, .int (y1)), (3, .int (y2)), (5, .int (y3))] [] (t_m y4) 1065 0 0) (hk : t_hk (k_X1_writeRecord_143 l1 l2 l3 l5 l6 k0 s) Q) : mj_G D cy ad bs X cX1_writeRecord 8 yX1_writeRecord.cls none yX1_writeRecord.name 1 0 0 1065 (t_P (fun v s' => v = none ∧ Q (.inr (s')))) 143 [(0, .ref 856), (1, .ref l1), (2, .int l2), (3, .int l3), (5, .int l5), (6, .int l6)] [.int k0] (t_m s) 1065 0 0 := by
  refine mj_istore (lv2 := [(7, .int k0), (0, .ref 856), (1, .ref l1), (2, .int l2), (3, .int l3), (5, .int l5), (6, .int l6)]) dX1_writeRecord_143 (by decide) rfl ?_
  refine mj_iload dX1_writeRecord_145 0 rfl ?_
  refine mj_if_lt 166 dX1_writeRecord_147 (by decide) (fun z => t_posK hk z (fun hk => ?_)) (fun z => t_negK hk z (fun hk => ?_))
  · refine mj_sublv [(0, .ref 856), (1, .ref l1), (2, .int l2), (3, .int l3), (5, .int l5)] [1, 2, 3, 4, 5] rfl ?_
    exact B_X1_writeRecord_166 _ _ _ _ _ _ (fun y0 y1 y2 y3 y4 hx => Hb105 y0 y1 y2 y3 y4 hx) hk
  · refine mj_aload_n dX1_writeRecord_150 1 rfl ?_
    refine mj_iload dX1_writeRecord_151 0 rfl ?_
    refine mj_aload_n dX1_writeRecord_153 1 rfl ?_
    refine t_getR 316 dX1_writeRecord_154 F_X1_39 qr_856_1 ?_
    refine t_getR 318 dX1_writeRecord_157 F_X1_181 qr_316_1 ?_
    refine mj_iload dX1_writeRecord_160 6 rfl ?_
    refine t_chkK hk (fun c0 hk => ?_)
    refine t_iald dX1_writeRecord_162 qa_318 (t_ixv c0) ?_
    refine t_bndK hk (fun r2 er2 hk => ?_)
    refine t_callVvE dX1_writeRecord_163 M_X1_expect (C_X1_expect _ _ _ _ er2) ML_X1_135 IM_X1_expect SE_X1_expect qc_856 rfl (As := [.int k0, .int (s.1 318 (l6.toNatClampNeg))]) rfl rfl (Nat.le_of_ble_eq_true rfl) (Nat.le_of_ble_eq_true rfl) (Nat.le_of_ble_eq_true rfl) (Nat.le_of_ble_eq_true rfl) ?_
    refine mj_sublv [(0, .ref 856), (1, .ref l1), (2, .int l2), (3, .int l3), (5, .int l5)] [1, 2, 3, 4, 5] rfl ?_
    exact B_X1_writeRecord_166 _ _ _ _ _ _ (fun y0 y1 y2 y3 y4 hx => Hb105 y0 y1 y2 y3 y4 hx) hk
noncomputable def k_X1_writeRecord_105 (l1 : Nat) (l2 : Int32) (l3 : Int32) (l5 : Int32) (s : t_S) : Option ((Nat × Int32 × Int32 × Int32 × t_S) ⊕ (t_S)) :=
 if l5 < (0 : Int32) then ((some (s)).map Sum.inr)
 else ((f_X1_fieldAt l3 l5 s).bind (fun r1 =>
 if (0 : Int32) ≤ r1 then (if t_ix r1 3001 = true then
  (f_X8_fieldAt l1 l2 (s.1 320 (r1.toNatClampNeg)) s).bind (fun r3 =>
 k_X1_writeRecord_143 l1 l2 l3 l5 r1 r3 s)
else none)
 else (k_X1_writeRecord_143 l1 l2 l3 l5 r1 (-1) s)))
set_option maxRecDepth 4000 in
set_option maxHeartbeats 1000000 in
theorem B_X1_writeRecord_105 {D : va_G} {cy : Nat → ClassId} {ad : Nat → Nat} {bs : Nat} {X : State → Heap → Prop} (l1 : Nat) (l2 : Int32) (l3 : Int32) (l5 : Int32) (s : t_S) (Q : (Nat × Int32 × Int32 × Int32 × t_S) ⊕ (t_S) → Prop) (Hb105 : ∀ (y0 : Nat) (y1 : Int32) (y2 : Int32) (y3 : Int32) (y4 : t_S), Q (.inl (y0, y1, y2, y3, y4)) → mj_G D cy ad bs X cX1_writeRecord 8 yX1_writeRecord.cls none yX1_writeRecord.name 1 0 0 1065 (t_P (fun v s' => v = none ∧ Q (.inr (s')))) 105 [(0, .ref 856), (1, .ref (y0)), (2, .int (y1)), (3, .int (y2)), (5, .int (y3))] [] (t_m y4) 1065 0 0) (hk : t_hk (k_X1_writeRecord_105 l1 l2 l3 l5 s) Q) : mj_G D cy ad bs X cX1_writeRecord 8 yX1_writeRecord.cls none yX1_writeRecord.name 1 0 0 1065 (t_P (fun v s' => v = none ∧ Q (.inr (s')))) 105 [(0, .ref 856), (1, .ref l1), (2, .int l2), (3, .int l3), (5, .int l5)] [] (t_m s) 1065 0 0 := by
  refine mj_iload dX1_writeRecord_105 4 rfl ?_
  refine mj_if_lt 172 dX1_writeRecord_107 (by decide) (fun z => t_posK hk z (fun hk => ?_)) (fun z => t_negK hk z (fun hk => ?_))
  · refine t_mapK hk (fun hk => ?_)
    exact t_somK hk (fun hf => t_vret dX1_writeRecord_172 rfl ⟨rfl, hf⟩ (Nat.le_of_ble_eq_true rfl) (Nat.le_of_ble_eq_true rfl))
  · refine mj_aload_n dX1_writeRecord_110 0 rfl ?_
    refine mj_iload_n dX1_writeRecord_111 3 rfl ?_
    refine mj_iload dX1_writeRecord_112 4 rfl ?_
    refine t_bndK hk (fun r1 er1 hk => ?_)
    refine t_callViP dX1_writeRecord_114 M_X1_fieldAt (C_X1_fieldAt _ _ _ _ er1) ML_X1_210 IM_X1_fieldAt SE_X1_fieldAt qc_856 rfl (As := [.int l3, .int l5]) rfl rfl (Nat.le_of_ble_eq_true rfl) (Nat.le_of_ble_eq_true rfl) (Nat.le_of_ble_eq_true rfl) (Nat.le_of_ble_eq_true rfl) ?_
    refine mj_istore (lv2 := [(6, .int r1), (0, .ref 856), (1, .ref l1), (2, .int l2), (3, .int l3), (5, .int l5)]) dX1_writeRecord_117 (by decide) rfl ?_
    refine mj_iload dX1_writeRecord_119 0 rfl ?_
    refine mj_if_ge 128 dX1_writeRecord_121 (by decide) (fun z => t_posK hk z (fun hk => ?_)) (fun z => t_negK hk z (fun hk => ?_))
    · refine mj_aload_n dX1_writeRecord_128 2 rfl ?_
      refine mj_iload_n dX1_writeRecord_129 3 rfl ?_
      refine mj_aload_n dX1_writeRecord_130 1 rfl ?_
      refine t_getR 316 dX1_writeRecord_131 F_X1_39 qr_856_1 ?_
      refine t_getR 320 dX1_writeRecord_134 F_X1_204 qr_316_3 ?_
      refine mj_iload dX1_writeRecord_137 0 rfl ?_
      refine t_chkK hk (fun c1 hk => ?_)
      refine t_iald dX1_writeRecord_139 qa_320 (t_ixv c1) ?_
      refine t_bndK hk (fun r3 er3 hk => ?_)
      refine t_callSiP dX1_writeRecord_140 M_X8_fieldAt (C_X8_fieldAt _ _ _ _ _ er3) ML_X1_207 SM_X8_fieldAt (As := [.ref l1, .int l2, .int (s.1 320 (r1.toNatClampNeg))]) rfl rfl (Nat.le_of_ble_eq_true rfl) (Nat.le_of_ble_eq_true rfl) (Nat.le_of_ble_eq_true rfl) (Nat.le_of_ble_eq_true rfl) ?_
      refine mj_sublv [(0, .ref 856), (1, .ref l1), (2, .int l2), (3, .int l3), (5, .int l5), (6, .int r1)] [1, 2, 3, 4, 5, 0] rfl ?_
      exact B_X1_writeRecord_143 _ _ _ _ _ _ _ _ (fun y0 y1 y2 y3 y4 hx => Hb105 y0 y1 y2 y3 y4 hx) hk
    · refine mj_iconst (v := (-1)) dX1_writeRecord_124 (by decide) ?_
      refine mj_goto 143 dX1_writeRecord_125 (by decide) ?_
      refine mj_sublv [(0, .ref 856), (1, .ref l1), (2, .int l2), (3, .int l3), (5, .int l5), (6, .int r1)] [1, 2, 3, 4, 5, 0] rfl ?_
      exact B_X1_writeRecord_143 _ _ _ _ _ _ _ _ (fun y0 y1 y2 y3 y4 hx => Hb105 y0 y1 y2 y3 y4 hx) hk
noncomputable def b_X1_writeRecord_105 (x : Nat × Int32 × Int32 × Int32 × t_S) : Option ((Nat × Int32 × Int32 × Int32 × t_S) ⊕ (t_S)) := k_X1_writeRecord_105 x.1 x.2.1 x.2.2.1 x.2.2.2.1 x.2.2.2.2
set_option maxRecDepth 4000 in
set_option maxHeartbeats 1000000 in
theorem LH_X1_writeRecord_105 {D : va_G} {cy : Nat → ClassId} {ad : Nat → Nat} {bs : Nat} {X : State → Heap → Prop} : ∀ (n : Nat) (y0 : Nat) (y1 : Int32) (y2 : Int32) (y3 : Int32) (y4 : t_S) (Q : t_S → Prop) (hk : t_hk (t_loop (b_X1_writeRecord_105) n (y0, y1, y2, y3, y4)) Q), mj_G D cy ad bs X cX1_writeRecord 8 yX1_writeRecord.cls none yX1_writeRecord.name 1 0 0 1065 (t_P (fun v s' => v = none ∧ Q (s'))) 105 [(0, .ref 856), (1, .ref (y0)), (2, .int (y1)), (3, .int (y2)), (5, .int (y3))] [] (t_m y4) 1065 0 0 := by
  intro n
  induction n with
  | zero => intro y0 y1 y2 y3 y4 Q hk; obtain ⟨r, hr, _⟩ := hk; cases hr
  | succ n ih =>
    intro y0 y1 y2 y3 y4 Q hk
    exact B_X1_writeRecord_105 y0 y1 y2 y3 y4 (fun y => t_lq (b_X1_writeRecord_105) n Q y) (fun y0' y1' y2' y3' y4' hy => ih y0' y1' y2' y3' y4' Q hy) (t_lp hk)
noncomputable def k_X1_writeRecord_92 (l1 : Nat) (l2 : Int32) (l3 : Int32) (s : t_S) : Option (t_S) :=
 if t_ix l3 3001 = true then
  t_loop (b_X1_writeRecord_105) t_N (l1, l2, l3, ((s.1 321 (l3.toNatClampNeg)) - (1 : Int32)), s)
else none
set_option maxRecDepth 4000 in
set_option maxHeartbeats 1000000 in
theorem B_X1_writeRecord_92 {D : va_G} {cy : Nat → ClassId} {ad : Nat → Nat} {bs : Nat} {X : State → Heap → Prop} (l1 : Nat) (l2 : Int32) (l3 : Int32) (s : t_S) (Q : t_S → Prop) (hk : t_hk (k_X1_writeRecord_92 l1 l2 l3 s) Q) : mj_G D cy ad bs X cX1_writeRecord 8 yX1_writeRecord.cls none yX1_writeRecord.name 1 0 0 1065 (t_P (fun v s' => v = none ∧ Q (s'))) 92 [(0, .ref 856), (1, .ref l1), (2, .int l2), (3, .int l3)] [] (t_m s) 1065 0 0 := by
  refine mj_aload_n dX1_writeRecord_92 0 rfl ?_
  refine t_getR 316 dX1_writeRecord_93 F_X1_39 qr_856_1 ?_
  refine t_getR 321 dX1_writeRecord_96 F_X1_163 qr_316_4 ?_
  refine mj_iload_n dX1_writeRecord_99 3 rfl ?_
  refine t_chkK hk (fun c0 hk => ?_)
  refine t_iald dX1_writeRecord_100 qa_321 (t_ixv c0) ?_
  refine mj_iconst (v := 1) dX1_writeRecord_101 (by decide) ?_
  refine mj_isub dX1_writeRecord_102 ?_
  refine mj_istore (lv2 := [(5, .int ((s.1 321 (l3.toNatClampNeg)) - (1 : Int32))), (0, .ref 856), (1, .ref l1), (2, .int l2), (3, .int l3)]) dX1_writeRecord_103 (by decide) rfl ?_
  refine mj_sublv [(0, .ref 856), (1, .ref l1), (2, .int l2), (3, .int l3), (5, .int ((s.1 321 (l3.toNatClampNeg)) - (1 : Int32)))] [1, 2, 3, 4, 0] rfl ?_
  exact LH_X1_writeRecord_105 _ l1 l2 l3 ((s.1 321 (l3.toNatClampNeg)) - (1 : Int32)) s _ hk
noncomputable def k_X1_writeRecord_70 (l1 : Nat) (l2 : Int32) (l3 : Int32) (l4 : Int32) (l5 : Int32) (k0 : Int64) (s : t_S) : Option ((Nat × Int32 × Int32 × Int32 × Int32 × t_S) ⊕ (t_S)) :=
 (f_X1_put k0 (1 : Int32) s).bind (fun r1 =>
 k_X1_writeRecord_74 l1 l2 l3 l4 l5 r1)
set_option maxRecDepth 4000 in
set_option maxHeartbeats 1000000 in
theorem B_X1_writeRecord_70 {D : va_G} {cy : Nat → ClassId} {ad : Nat → Nat} {bs : Nat} {X : State → Heap → Prop} (l1 : Nat) (l2 : Int32) (l3 : Int32) (l4 : Int32) (l5 : Int32) (k0 : Int64) (s : t_S) (Q : (Nat × Int32 × Int32 × Int32 × Int32 × t_S) ⊕ (t_S) → Prop) (Hb14 : ∀ (y0 : Nat) (y1 : Int32) (y2 : Int32) (y3 : Int32) (y4 : Int32) (y5 : t_S), Q (.inl (y0, y1, y2, y3, y4, y5)) → mj_G D cy ad bs X cX1_writeRecord 8 yX1_writeRecord.cls none yX1_writeRecord.name 1 0 0 1065 (t_P (fun v s' => v = none ∧ Q (.inr (s')))) 14 [(0, .ref 856), (1, .ref (y0)), (2, .int (y1)), (3, .int (y2)), (4, .int (y3)), (5, .int (y4))] [] (t_m y5) 1065 0 0) (hk : t_hk (k_X1_writeRecord_70 l1 l2 l3 l4 l5 k0 s) Q) : mj_G D cy ad bs X cX1_writeRecord 8 yX1_writeRecord.cls none yX1_writeRecord.name 1 0 0 1065 (t_P (fun v s' => v = none ∧ Q (.inr (s')))) 70 [(0, .ref 856), (1, .ref l1), (2, .int l2), (3, .int l3), (4, .int l4), (5, .int l5)] [.long k0, .ref 856] (t_m s) 1065 0 0 := by
  refine mj_iconst (v := 1) dX1_writeRecord_70 (by decide) ?_
  refine t_bndK hk (fun r1 er1 hk => ?_)
  refine t_callVvE dX1_writeRecord_71 M_X1_put (C_X1_put _ _ _ _ er1) ML_X1_155 IM_X1_put SE_X1_put qc_856 rfl (As := [.long k0, .int 1]) rfl rfl (Nat.le_of_ble_eq_true rfl) (Nat.le_of_ble_eq_true rfl) (Nat.le_of_ble_eq_true rfl) (Nat.le_of_ble_eq_true rfl) ?_
  exact B_X1_writeRecord_74 _ _ _ _ _ _ _ (fun y0 y1 y2 y3 y4 y5 hx => Hb14 y0 y1 y2 y3 y4 y5 hx) hk
noncomputable def k_X1_writeRecord_14 (l1 : Nat) (l2 : Int32) (l3 : Int32) (l4 : Int32) (l5 : Int32) (s : t_S) : Option ((Nat × Int32 × Int32 × Int32 × Int32 × t_S) ⊕ (t_S)) :=
 if t_ix l3 3001 = true then
  if (s.1 321 (l3.toNatClampNeg)) ≤ l5 then ((k_X1_writeRecord_92 l1 l2 l3 s).map Sum.inr)
 else (if l4 < (0 : Int32) then ((k_X1_writeRecord_92 l1 l2 l3 s).map Sum.inr)
 else (if t_ix l4 3001 = true then
  if (s.1 321 (l4.toNatClampNeg)) = (0 : Int32) then (k_X1_writeRecord_74 l1 l2 l3 l4 l5 s)
 else ((f_X8_fieldAt l1 l2 (s.1 320 (l4.toNatClampNeg)) s).bind (fun r3 =>
 if r3 < (0 : Int32) then (k_X1_writeRecord_70 l1 l2 l3 l4 l5 0 s)
 else (k_X1_writeRecord_70 l1 l2 l3 l4 l5 1 s)))
else none))
else none
set_option maxRecDepth 4000 in
set_option maxHeartbeats 1000000 in
theorem B_X1_writeRecord_14 {D : va_G} {cy : Nat → ClassId} {ad : Nat → Nat} {bs : Nat} {X : State → Heap → Prop} (l1 : Nat) (l2 : Int32) (l3 : Int32) (l4 : Int32) (l5 : Int32) (s : t_S) (Q : (Nat × Int32 × Int32 × Int32 × Int32 × t_S) ⊕ (t_S) → Prop) (Hb14 : ∀ (y0 : Nat) (y1 : Int32) (y2 : Int32) (y3 : Int32) (y4 : Int32) (y5 : t_S), Q (.inl (y0, y1, y2, y3, y4, y5)) → mj_G D cy ad bs X cX1_writeRecord 8 yX1_writeRecord.cls none yX1_writeRecord.name 1 0 0 1065 (t_P (fun v s' => v = none ∧ Q (.inr (s')))) 14 [(0, .ref 856), (1, .ref (y0)), (2, .int (y1)), (3, .int (y2)), (4, .int (y3)), (5, .int (y4))] [] (t_m y5) 1065 0 0) (hk : t_hk (k_X1_writeRecord_14 l1 l2 l3 l4 l5 s) Q) : mj_G D cy ad bs X cX1_writeRecord 8 yX1_writeRecord.cls none yX1_writeRecord.name 1 0 0 1065 (t_P (fun v s' => v = none ∧ Q (.inr (s')))) 14 [(0, .ref 856), (1, .ref l1), (2, .int l2), (3, .int l3), (4, .int l4), (5, .int l5)] [] (t_m s) 1065 0 0 := by
  refine mj_iload dX1_writeRecord_14 5 rfl ?_
  refine mj_aload_n dX1_writeRecord_16 0 rfl ?_
  refine t_getR 316 dX1_writeRecord_17 F_X1_39 qr_856_1 ?_
  refine t_getR 321 dX1_writeRecord_20 F_X1_163 qr_316_4 ?_
  refine mj_iload_n dX1_writeRecord_23 3 rfl ?_
  refine t_chkK hk (fun c0 hk => ?_)
  refine t_iald dX1_writeRecord_24 qa_321 (t_ixv c0) ?_
  refine mj_icmp_ge 92 dX1_writeRecord_25 (by decide) (fun z => t_posK hk z (fun hk => ?_)) (fun z => t_negK hk z (fun hk => ?_))
  · refine mj_sublv [(0, .ref 856), (1, .ref l1), (2, .int l2), (3, .int l3)] [0, 1, 2, 3] rfl ?_
    refine t_mapK hk (fun hk => ?_)
    exact B_X1_writeRecord_92 _ _ _ _ _ hk
  · refine mj_iload dX1_writeRecord_28 4 rfl ?_
    refine mj_if_lt 92 dX1_writeRecord_30 (by decide) (fun z => t_posK hk z (fun hk => ?_)) (fun z => t_negK hk z (fun hk => ?_))
    · refine mj_sublv [(0, .ref 856), (1, .ref l1), (2, .int l2), (3, .int l3)] [0, 1, 2, 3] rfl ?_
      refine t_mapK hk (fun hk => ?_)
      exact B_X1_writeRecord_92 _ _ _ _ _ hk
    · refine mj_aload_n dX1_writeRecord_33 0 rfl ?_
      refine t_getR 316 dX1_writeRecord_34 F_X1_39 qr_856_1 ?_
      refine t_getR 321 dX1_writeRecord_37 F_X1_163 qr_316_4 ?_
      refine mj_iload dX1_writeRecord_40 4 rfl ?_
      refine t_chkK hk (fun c1 hk => ?_)
      refine t_iald dX1_writeRecord_42 qa_321 (t_ixv c1) ?_
      refine mj_if_eq 74 dX1_writeRecord_43 (by decide) (fun z => t_posK hk z (fun hk => ?_)) (fun z => t_negK hk z (fun hk => ?_))
      · exact B_X1_writeRecord_74 _ _ _ _ _ _ _ (fun y0 y1 y2 y3 y4 y5 hx => Hb14 y0 y1 y2 y3 y4 y5 hx) hk
      · refine mj_aload_n dX1_writeRecord_46 0 rfl ?_
        refine mj_aload_n dX1_writeRecord_47 1 rfl ?_
        refine mj_iload_n dX1_writeRecord_48 2 rfl ?_
        refine mj_aload_n dX1_writeRecord_49 0 rfl ?_
        refine t_getR 316 dX1_writeRecord_50 F_X1_39 qr_856_1 ?_
        refine t_getR 320 dX1_writeRecord_53 F_X1_204 qr_316_3 ?_
        refine mj_iload dX1_writeRecord_56 4 rfl ?_
        refine t_iald dX1_writeRecord_58 qa_320 (t_ixv c1) ?_
        refine t_bndK hk (fun r3 er3 hk => ?_)
        refine t_callSiP dX1_writeRecord_59 M_X8_fieldAt (C_X8_fieldAt _ _ _ _ _ er3) ML_X1_207 SM_X8_fieldAt (As := [.ref l1, .int l2, .int (s.1 320 (l4.toNatClampNeg))]) rfl rfl (Nat.le_of_ble_eq_true rfl) (Nat.le_of_ble_eq_true rfl) (Nat.le_of_ble_eq_true rfl) (Nat.le_of_ble_eq_true rfl) ?_
        refine mj_if_lt 69 dX1_writeRecord_62 (by decide) (fun z => t_posK hk z (fun hk => ?_)) (fun z => t_negK hk z (fun hk => ?_))
        · refine mj_lconst (v := 0) dX1_writeRecord_69 (by decide) ?_
          exact B_X1_writeRecord_70 _ _ _ _ _ _ _ _ (fun y0 y1 y2 y3 y4 y5 hx => Hb14 y0 y1 y2 y3 y4 y5 hx) hk
        · refine mj_lconst (v := 1) dX1_writeRecord_65 (by decide) ?_
          refine mj_goto 70 dX1_writeRecord_66 (by decide) ?_
          exact B_X1_writeRecord_70 _ _ _ _ _ _ _ _ (fun y0 y1 y2 y3 y4 y5 hx => Hb14 y0 y1 y2 y3 y4 y5 hx) hk
noncomputable def b_X1_writeRecord_14 (x : Nat × Int32 × Int32 × Int32 × Int32 × t_S) : Option ((Nat × Int32 × Int32 × Int32 × Int32 × t_S) ⊕ (t_S)) := k_X1_writeRecord_14 x.1 x.2.1 x.2.2.1 x.2.2.2.1 x.2.2.2.2.1 x.2.2.2.2.2
set_option maxRecDepth 4000 in
set_option maxHeartbeats 1000000 in
theorem LH_X1_writeRecord_14 {D : va_G} {cy : Nat → ClassId} {ad : Nat → Nat} {bs : Nat} {X : State → Heap → Prop} : ∀ (n : Nat) (y0 : Nat) (y1 : Int32) (y2 : Int32) (y3 : Int32) (y4 : Int32) (y5 : t_S) (Q : t_S → Prop) (hk : t_hk (t_loop (b_X1_writeRecord_14) n (y0, y1, y2, y3, y4, y5)) Q), mj_G D cy ad bs X cX1_writeRecord 8 yX1_writeRecord.cls none yX1_writeRecord.name 1 0 0 1065 (t_P (fun v s' => v = none ∧ Q (s'))) 14 [(0, .ref 856), (1, .ref (y0)), (2, .int (y1)), (3, .int (y2)), (4, .int (y3)), (5, .int (y4))] [] (t_m y5) 1065 0 0 := by
  intro n
  induction n with
  | zero => intro y0 y1 y2 y3 y4 y5 Q hk; obtain ⟨r, hr, _⟩ := hk; cases hr
  | succ n ih =>
    intro y0 y1 y2 y3 y4 y5 Q hk
    exact B_X1_writeRecord_14 y0 y1 y2 y3 y4 y5 (fun y => t_lq (b_X1_writeRecord_14) n Q y) (fun y0' y1' y2' y3' y4' y5' hy => ih y0' y1' y2' y3' y4' y5' Q hy) (t_lp hk)
noncomputable def f_X1_writeRecord (x1 : Nat) (x2 : Int32) (x3 : Int32) (s : t_S) : Option (t_S) :=
 if t_ix x3 3001 = true then
  t_loop (b_X1_writeRecord_14) t_N (x1, x2, x3, (s.1 318 (x3.toNatClampNeg)), 0, s)
else none
set_option maxRecDepth 4000 in
set_option maxHeartbeats 1000000 in
theorem C_X1_writeRecord (x1 : Nat) (x2 : Int32) (x3 : Int32) (s : t_S) (r : t_S) (hr : f_X1_writeRecord x1 x2 x3 s = some r) : t_C yX1_writeRecord cX1_writeRecord 8 none 1 [.ref 856, .ref x1, .int x2, .int x3] s (fun v s' => v = none ∧ s' = r) := by
  refine t_C.imp (P := fun v s' => v = none ∧ (fun q => q = r) (s')) (t_C.of (by decide +kernel) (Nat.le_of_ble_eq_true rfl) ?_) (fun v s' hp => hp)
  intro D cy ad bs X
  have hk : t_hk (f_X1_writeRecord x1 x2 x3 s) (fun q => q = r) := ⟨r, hr, rfl⟩
  show mj_G D cy ad bs X cX1_writeRecord 8 yX1_writeRecord.cls none yX1_writeRecord.name 1 0 0 1065 (t_P (fun v s' => v = none ∧ (fun q => q = r) (s'))) 0 [(0, .ref 856), (1, .ref x1), (2, .int x2), (3, .int x3)] [] (t_m s) 1065 0 0
  refine mj_aload_n dX1_writeRecord_0 0 rfl ?_
  refine t_getR 316 dX1_writeRecord_1 F_X1_39 qr_856_1 ?_
  refine t_getR 318 dX1_writeRecord_4 F_X1_181 qr_316_1 ?_
  refine mj_iload_n dX1_writeRecord_7 3 rfl ?_
  refine t_chkK hk (fun c0 hk => ?_)
  refine t_iald dX1_writeRecord_8 qa_318 (t_ixv c0) ?_
  refine mj_istore (lv2 := [(4, .int (s.1 318 (x3.toNatClampNeg))), (0, .ref 856), (1, .ref x1), (2, .int x2), (3, .int x3)]) dX1_writeRecord_9 (by decide) rfl ?_
  refine mj_iconst (v := 0) dX1_writeRecord_11 (by decide) ?_
  refine mj_istore (lv2 := [(5, .int 0), (4, .int (s.1 318 (x3.toNatClampNeg))), (0, .ref 856), (1, .ref x1), (2, .int x2), (3, .int x3)]) dX1_writeRecord_12 (by decide) rfl ?_
  refine mj_sublv [(0, .ref 856), (1, .ref x1), (2, .int x2), (3, .int x3), (4, .int (s.1 318 (x3.toNatClampNeg))), (5, .int 0)] [2, 3, 4, 5, 1, 0] rfl ?_
  exact LH_X1_writeRecord_14 _ x1 x2 x3 (s.1 318 (x3.toNatClampNeg)) 0 s _ hk

theorem dX1_writePart_0 : decode cX1_writePart 0 = .ok (.aload_n 1, 1) := by decide +kernel
theorem dX1_writePart_1 : decode cX1_writePart 1 = .ok (.iload_n 2, 1) := by decide +kernel
theorem dX1_writePart_101 : decode cX1_writePart 101 = .ok (.getfield 163, 3) := by decide +kernel
theorem dX1_writePart_104 : decode cX1_writePart 104 = .ok (.iload_n 3, 1) := by decide +kernel
theorem dX1_writePart_105 : decode cX1_writePart 105 = .ok (.iaload, 1) := by decide +kernel
theorem dX1_writePart_106 : decode cX1_writePart 106 = .ok (.iconst 1, 1) := by decide +kernel
theorem dX1_writePart_107 : decode cX1_writePart 107 = .ok (.isub, 1) := by decide +kernel
theorem dX1_writePart_108 : decode cX1_writePart 108 = .ok (.i2l, 1) := by decide +kernel
theorem dX1_writePart_109 : decode cX1_writePart 109 = .ok (.invokestatic 166, 3) := by decide +kernel
theorem dX1_writePart_112 : decode cX1_writePart 112 = .ok (.invokevirtual 155, 3) := by decide +kernel
theorem dX1_writePart_115 : decode cX1_writePart 115 = .ok (.goto 131, 3) := by decide +kernel
theorem dX1_writePart_118 : decode cX1_writePart 118 = .ok (.aload_n 0, 1) := by decide +kernel
theorem dX1_writePart_119 : decode cX1_writePart 119 = .ok (.iload_n 3, 1) := by decide +kernel
theorem dX1_writePart_12 : decode cX1_writePart 12 = .ok (.iload_n 3, 1) := by decide +kernel
theorem dX1_writePart_120 : decode cX1_writePart 120 = .ok (.lload 4, 2) := by decide +kernel
theorem dX1_writePart_122 : decode cX1_writePart 122 = .ok (.invokestatic 113, 3) := by decide +kernel
theorem dX1_writePart_125 : decode cX1_writePart 125 = .ok (.invokevirtual 169, 3) := by decide +kernel
theorem dX1_writePart_128 : decode cX1_writePart 128 = .ok (.iconst 0, 1) := by decide +kernel
theorem dX1_writePart_129 : decode cX1_writePart 129 = .ok (.istore 6, 2) := by decide +kernel
theorem dX1_writePart_13 : decode cX1_writePart 13 = .ok (.iaload, 1) := by decide +kernel
theorem dX1_writePart_131 : decode cX1_writePart 131 = .ok (.iload 6, 2) := by decide +kernel
theorem dX1_writePart_133 : decode cX1_writePart 133 = .ok (.lload 4, 2) := by decide +kernel
theorem dX1_writePart_135 : decode cX1_writePart 135 = .ok (.invokestatic 113, 3) := by decide +kernel
theorem dX1_writePart_138 : decode cX1_writePart 138 = .ok (.if_icmp .ge 26, 3) := by decide +kernel
theorem dX1_writePart_14 : decode cX1_writePart 14 = .ok (.tableswitch 225 1 7 #[42, 55, 104, 68, 225, 163, 153], 42) := by decide +kernel
theorem dX1_writePart_141 : decode cX1_writePart 141 = .ok (.aload_n 0, 1) := by decide +kernel
theorem dX1_writePart_142 : decode cX1_writePart 142 = .ok (.aload_n 1, 1) := by decide +kernel
theorem dX1_writePart_143 : decode cX1_writePart 143 = .ok (.iload_n 2, 1) := by decide +kernel
theorem dX1_writePart_144 : decode cX1_writePart 144 = .ok (.iload 6, 2) := by decide +kernel
theorem dX1_writePart_146 : decode cX1_writePart 146 = .ok (.invokestatic 116, 3) := by decide +kernel
theorem dX1_writePart_149 : decode cX1_writePart 149 = .ok (.bipush 32, 2) := by decide +kernel
theorem dX1_writePart_151 : decode cX1_writePart 151 = .ok (.isub, 1) := by decide +kernel
theorem dX1_writePart_152 : decode cX1_writePart 152 = .ok (.i2l, 1) := by decide +kernel
theorem dX1_writePart_153 : decode cX1_writePart 153 = .ok (.bipush 7, 2) := by decide +kernel
theorem dX1_writePart_155 : decode cX1_writePart 155 = .ok (.invokevirtual 155, 3) := by decide +kernel
theorem dX1_writePart_158 : decode cX1_writePart 158 = .ok (.iinc 6 1, 3) := by decide +kernel
theorem dX1_writePart_161 : decode cX1_writePart 161 = .ok (.goto (-30), 3) := by decide +kernel
theorem dX1_writePart_164 : decode cX1_writePart 164 = .ok (.goto 82, 3) := by decide +kernel
theorem dX1_writePart_167 : decode cX1_writePart 167 = .ok (.aload_n 0, 1) := by decide +kernel
theorem dX1_writePart_168 : decode cX1_writePart 168 = .ok (.aload_n 1, 1) := by decide +kernel
theorem dX1_writePart_169 : decode cX1_writePart 169 = .ok (.iload_n 2, 1) := by decide +kernel
theorem dX1_writePart_170 : decode cX1_writePart 170 = .ok (.iload_n 3, 1) := by decide +kernel
theorem dX1_writePart_171 : decode cX1_writePart 171 = .ok (.invokevirtual 172, 3) := by decide +kernel
theorem dX1_writePart_174 : decode cX1_writePart 174 = .ok (.goto 72, 3) := by decide +kernel
theorem dX1_writePart_177 : decode cX1_writePart 177 = .ok (.aload_n 0, 1) := by decide +kernel
theorem dX1_writePart_178 : decode cX1_writePart 178 = .ok (.getfield 39, 3) := by decide +kernel
theorem dX1_writePart_181 : decode cX1_writePart 181 = .ok (.iload_n 3, 1) := by decide +kernel
theorem dX1_writePart_182 : decode cX1_writePart 182 = .ok (.lload 4, 2) := by decide +kernel
theorem dX1_writePart_184 : decode cX1_writePart 184 = .ok (.invokestatic 77, 3) := by decide +kernel
theorem dX1_writePart_187 : decode cX1_writePart 187 = .ok (.invokevirtual 175, 3) := by decide +kernel
theorem dX1_writePart_190 : decode cX1_writePart 190 = .ok (.istore 6, 2) := by decide +kernel
theorem dX1_writePart_192 : decode cX1_writePart 192 = .ok (.aload_n 0, 1) := by decide +kernel
theorem dX1_writePart_193 : decode cX1_writePart 193 = .ok (.aload_n 0, 1) := by decide +kernel
theorem dX1_writePart_194 : decode cX1_writePart 194 = .ok (.iload_n 3, 1) := by decide +kernel
theorem dX1_writePart_195 : decode cX1_writePart 195 = .ok (.iload 6, 2) := by decide +kernel
theorem dX1_writePart_197 : decode cX1_writePart 197 = .ok (.invokevirtual 178, 3) := by decide +kernel
theorem dX1_writePart_2 : decode cX1_writePart 2 = .ok (.laload, 1) := by decide +kernel
theorem dX1_writePart_200 : decode cX1_writePart 200 = .ok (.i2l, 1) := by decide +kernel
theorem dX1_writePart_201 : decode cX1_writePart 201 = .ok (.aload_n 0, 1) := by decide +kernel
theorem dX1_writePart_202 : decode cX1_writePart 202 = .ok (.getfield 39, 3) := by decide +kernel
theorem dX1_writePart_205 : decode cX1_writePart 205 = .ok (.getfield 163, 3) := by decide +kernel
theorem dX1_writePart_208 : decode cX1_writePart 208 = .ok (.iload_n 3, 1) := by decide +kernel
theorem dX1_writePart_209 : decode cX1_writePart 209 = .ok (.iaload, 1) := by decide +kernel
theorem dX1_writePart_210 : decode cX1_writePart 210 = .ok (.iconst 1, 1) := by decide +kernel
theorem dX1_writePart_211 : decode cX1_writePart 211 = .ok (.isub, 1) := by decide +kernel
theorem dX1_writePart_212 : decode cX1_writePart 212 = .ok (.i2l, 1) := by decide +kernel
theorem dX1_writePart_213 : decode cX1_writePart 213 = .ok (.invokestatic 166, 3) := by decide +kernel
theorem dX1_writePart_216 : decode cX1_writePart 216 = .ok (.invokevirtual 155, 3) := by decide +kernel
theorem dX1_writePart_219 : decode cX1_writePart 219 = .ok (.aload_n 0, 1) := by decide +kernel
theorem dX1_writePart_220 : decode cX1_writePart 220 = .ok (.iload_n 2, 1) := by decide +kernel
theorem dX1_writePart_221 : decode cX1_writePart 221 = .ok (.iconst 1, 1) := by decide +kernel
theorem dX1_writePart_222 : decode cX1_writePart 222 = .ok (.iadd, 1) := by decide +kernel
theorem dX1_writePart_223 : decode cX1_writePart 223 = .ok (.aload_n 0, 1) := by decide +kernel
theorem dX1_writePart_224 : decode cX1_writePart 224 = .ok (.getfield 39, 3) := by decide +kernel
theorem dX1_writePart_227 : decode cX1_writePart 227 = .ok (.getfield 181, 3) := by decide +kernel
theorem dX1_writePart_230 : decode cX1_writePart 230 = .ok (.iload 6, 2) := by decide +kernel
theorem dX1_writePart_232 : decode cX1_writePart 232 = .ok (.iaload, 1) := by decide +kernel
theorem dX1_writePart_233 : decode cX1_writePart 233 = .ok (.invokevirtual 135, 3) := by decide +kernel
theorem dX1_writePart_236 : decode cX1_writePart 236 = .ok (.goto 10, 3) := by decide +kernel
theorem dX1_writePart_239 : decode cX1_writePart 239 = .ok (.aload_n 0, 1) := by decide +kernel
theorem dX1_writePart_240 : decode cX1_writePart 240 = .ok (.aload_n 1, 1) := by decide +kernel
theorem dX1_writePart_241 : decode cX1_writePart 241 = .ok (.iload_n 2, 1) := by decide +kernel
theorem dX1_writePart_242 : decode cX1_writePart 242 = .ok (.iload_n 3, 1) := by decide +kernel
theorem dX1_writePart_243 : decode cX1_writePart 243 = .ok (.invokevirtual 184, 3) := by decide +kernel
theorem dX1_writePart_246 : decode cX1_writePart 246 = .ok (.return_, 1) := by decide +kernel
theorem dX1_writePart_3 : decode cX1_writePart 3 = .ok (.lstore 4, 2) := by decide +kernel
theorem dX1_writePart_5 : decode cX1_writePart 5 = .ok (.aload_n 0, 1) := by decide +kernel
theorem dX1_writePart_56 : decode cX1_writePart 56 = .ok (.aload_n 0, 1) := by decide +kernel
theorem dX1_writePart_57 : decode cX1_writePart 57 = .ok (.iload_n 3, 1) := by decide +kernel
theorem dX1_writePart_58 : decode cX1_writePart 58 = .ok (.lload 4, 2) := by decide +kernel
theorem dX1_writePart_6 : decode cX1_writePart 6 = .ok (.getfield 39, 3) := by decide +kernel
theorem dX1_writePart_60 : decode cX1_writePart 60 = .ok (.invokestatic 57, 3) := by decide +kernel
theorem dX1_writePart_63 : decode cX1_writePart 63 = .ok (.invokevirtual 151, 3) := by decide +kernel
theorem dX1_writePart_66 : decode cX1_writePart 66 = .ok (.goto 180, 3) := by decide +kernel
theorem dX1_writePart_69 : decode cX1_writePart 69 = .ok (.aload_n 0, 1) := by decide +kernel
theorem dX1_writePart_70 : decode cX1_writePart 70 = .ok (.lload 4, 2) := by decide +kernel
theorem dX1_writePart_72 : decode cX1_writePart 72 = .ok (.invokestatic 57, 3) := by decide +kernel
theorem dX1_writePart_75 : decode cX1_writePart 75 = .ok (.iconst 1, 1) := by decide +kernel
theorem dX1_writePart_76 : decode cX1_writePart 76 = .ok (.invokevirtual 155, 3) := by decide +kernel
theorem dX1_writePart_79 : decode cX1_writePart 79 = .ok (.goto 167, 3) := by decide +kernel
theorem dX1_writePart_82 : decode cX1_writePart 82 = .ok (.aload_n 0, 1) := by decide +kernel
theorem dX1_writePart_83 : decode cX1_writePart 83 = .ok (.aload_n 0, 1) := by decide +kernel
theorem dX1_writePart_84 : decode cX1_writePart 84 = .ok (.getfield 39, 3) := by decide +kernel
theorem dX1_writePart_87 : decode cX1_writePart 87 = .ok (.iload_n 3, 1) := by decide +kernel
theorem dX1_writePart_88 : decode cX1_writePart 88 = .ok (.lload 4, 2) := by decide +kernel
theorem dX1_writePart_9 : decode cX1_writePart 9 = .ok (.getfield 149, 3) := by decide +kernel
theorem dX1_writePart_90 : decode cX1_writePart 90 = .ok (.invokestatic 77, 3) := by decide +kernel
theorem dX1_writePart_93 : decode cX1_writePart 93 = .ok (.invokevirtual 159, 3) := by decide +kernel
theorem dX1_writePart_96 : decode cX1_writePart 96 = .ok (.i2l, 1) := by decide +kernel
theorem dX1_writePart_97 : decode cX1_writePart 97 = .ok (.aload_n 0, 1) := by decide +kernel
theorem dX1_writePart_98 : decode cX1_writePart 98 = .ok (.getfield 39, 3) := by decide +kernel
noncomputable def k_X1_writePart_131 (l1 : Nat) (l2 : Int32) (l4 : Int64) (l6 : Int32) (s : t_S) : Option ((Nat × Int32 × Int64 × Int32 × t_S) ⊕ (t_S)) :=
 if (f_X8_extent l4 s) ≤ l6 then ((some (s)).map Sum.inr)
 else ((f_X8_sign l1 l2 l6 s).bind (fun r2 =>
 (f_X1_put ((r2 - (32 : Int32)).toInt64) (7 : Int32) s).bind (fun r3 =>
 some (.inl (l1, l2, l4, (l6 + 1), r3)))))
set_option maxRecDepth 4000 in
set_option maxHeartbeats 1000000 in
theorem B_X1_writePart_131 {D : va_G} {cy : Nat → ClassId} {ad : Nat → Nat} {bs : Nat} {X : State → Heap → Prop} (l1 : Nat) (l2 : Int32) (l4 : Int64) (l6 : Int32) (s : t_S) (Q : (Nat × Int32 × Int64 × Int32 × t_S) ⊕ (t_S) → Prop) (Hb131 : ∀ (y0 : Nat) (y1 : Int32) (y2 : Int64) (y3 : Int32) (y4 : t_S), Q (.inl (y0, y1, y2, y3, y4)) → mj_G D cy ad bs X cX1_writePart 7 yX1_writePart.cls none yX1_writePart.name 5 0 0 1065 (t_P (fun v s' => v = none ∧ Q (.inr (s')))) 131 [(0, .ref 856), (1, .ref (y0)), (2, .int (y1)), (4, .long (y2)), (6, .int (y3))] [] (t_m y4) 1065 0 0) (hk : t_hk (k_X1_writePart_131 l1 l2 l4 l6 s) Q) : mj_G D cy ad bs X cX1_writePart 7 yX1_writePart.cls none yX1_writePart.name 5 0 0 1065 (t_P (fun v s' => v = none ∧ Q (.inr (s')))) 131 [(0, .ref 856), (1, .ref l1), (2, .int l2), (4, .long l4), (6, .int l6)] [] (t_m s) 1065 0 0 := by
  refine mj_iload dX1_writePart_131 4 rfl ?_
  refine mj_lload dX1_writePart_133 3 rfl ?_
  refine t_callSiP dX1_writePart_135 M_X8_extent (C_X8_extent _ _) ML_X1_113 SM_X8_extent (As := [.long l4]) rfl rfl (Nat.le_of_ble_eq_true rfl) (Nat.le_of_ble_eq_true rfl) (Nat.le_of_ble_eq_true rfl) (Nat.le_of_ble_eq_true rfl) ?_
  refine mj_icmp_ge 164 dX1_writePart_138 (by decide) (fun z => t_posK hk z (fun hk => ?_)) (fun z => t_negK hk z (fun hk => ?_))
  · refine t_mapK hk (fun hk => ?_)
    refine mj_goto 246 dX1_writePart_164 (by decide) ?_
    exact t_somK hk (fun hf => t_vret dX1_writePart_246 rfl ⟨rfl, hf⟩ (Nat.le_of_ble_eq_true rfl) (Nat.le_of_ble_eq_true rfl))
  · refine mj_aload_n dX1_writePart_141 0 rfl ?_
    refine mj_aload_n dX1_writePart_142 1 rfl ?_
    refine mj_iload_n dX1_writePart_143 2 rfl ?_
    refine mj_iload dX1_writePart_144 4 rfl ?_
    refine t_bndK hk (fun r2 er2 hk => ?_)
    refine t_callSiP dX1_writePart_146 M_X8_sign (C_X8_sign _ _ _ _ _ er2) ML_X1_116 SM_X8_sign (As := [.ref l1, .int l2, .int l6]) rfl rfl (Nat.le_of_ble_eq_true rfl) (Nat.le_of_ble_eq_true rfl) (Nat.le_of_ble_eq_true rfl) (Nat.le_of_ble_eq_true rfl) ?_
    refine mj_bipush (v := 32) dX1_writePart_149 (by decide) ?_
    refine mj_isub dX1_writePart_151 ?_
    refine mj_i2l (v := (r2 - (32 : Int32)).toInt64) dX1_writePart_152 rfl ?_
    refine mj_bipush (v := 7) dX1_writePart_153 (by decide) ?_
    refine t_bndK hk (fun r3 er3 hk => ?_)
    refine t_callVvE dX1_writePart_155 M_X1_put (C_X1_put _ _ _ _ er3) ML_X1_155 IM_X1_put SE_X1_put qc_856 rfl (As := [.long ((r2 - (32 : Int32)).toInt64), .int 7]) rfl rfl (Nat.le_of_ble_eq_true rfl) (Nat.le_of_ble_eq_true rfl) (Nat.le_of_ble_eq_true rfl) (Nat.le_of_ble_eq_true rfl) ?_
    refine mj_iinc (k := 4) (v := (l6 + 1)) (lv2 := [(6, .int (l6 + 1)), (0, .ref 856), (1, .ref l1), (2, .int l2), (4, .long l4)]) dX1_writePart_158 rfl rfl (by decide) rfl ?_
    refine mj_goto 131 dX1_writePart_161 (by decide) ?_
    refine mj_sublv [(0, .ref 856), (1, .ref l1), (2, .int l2), (4, .long l4), (6, .int (l6 + 1))] [1, 2, 3, 4, 0] rfl ?_
    exact t_somK hk (fun hf => Hb131 l1 l2 l4 (l6 + 1) r3 hf)
noncomputable def b_X1_writePart_131 (x : Nat × Int32 × Int64 × Int32 × t_S) : Option ((Nat × Int32 × Int64 × Int32 × t_S) ⊕ (t_S)) := k_X1_writePart_131 x.1 x.2.1 x.2.2.1 x.2.2.2.1 x.2.2.2.2
set_option maxRecDepth 4000 in
set_option maxHeartbeats 1000000 in
theorem LH_X1_writePart_131 {D : va_G} {cy : Nat → ClassId} {ad : Nat → Nat} {bs : Nat} {X : State → Heap → Prop} : ∀ (n : Nat) (y0 : Nat) (y1 : Int32) (y2 : Int64) (y3 : Int32) (y4 : t_S) (Q : t_S → Prop) (hk : t_hk (t_loop (b_X1_writePart_131) n (y0, y1, y2, y3, y4)) Q), mj_G D cy ad bs X cX1_writePart 7 yX1_writePart.cls none yX1_writePart.name 5 0 0 1065 (t_P (fun v s' => v = none ∧ Q (s'))) 131 [(0, .ref 856), (1, .ref (y0)), (2, .int (y1)), (4, .long (y2)), (6, .int (y3))] [] (t_m y4) 1065 0 0 := by
  intro n
  induction n with
  | zero => intro y0 y1 y2 y3 y4 Q hk; obtain ⟨r, hr, _⟩ := hk; cases hr
  | succ n ih =>
    intro y0 y1 y2 y3 y4 Q hk
    exact B_X1_writePart_131 y0 y1 y2 y3 y4 (fun y => t_lq (b_X1_writePart_131) n Q y) (fun y0' y1' y2' y3' y4' hy => ih y0' y1' y2' y3' y4' Q hy) (t_lp hk)
noncomputable def f_X1_writePart (x1 : Nat) (x2 : Int32) (x3 : Int32) (s : t_S) : Option (t_S) :=
 if t_oka x1 2 (t_ln x1) = true then
  if t_ix x2 (t_ln x1) = true then
  if t_ix x3 3001 = true then
  if (s.1 317 (x3.toNatClampNeg)).toInt < 1 ∨ 7 < (s.1 317 (x3.toNatClampNeg)).toInt then ((f_X1_writeRecord x1 x2 x3 s).bind (fun r4 =>
 some (r4)))
 else if (s.1 317 (x3.toNatClampNeg)).toInt = 1 then ((f_X1_writeInt x3 (f_X8_told (s.2.1 x1 (x2.toNatClampNeg)) s) s).bind (fun r6 =>
 some (r6)))
 else if (s.1 317 (x3.toNatClampNeg)).toInt = 2 then ((f_X1_put (f_X8_told (s.2.1 x1 (x2.toNatClampNeg)) s) (1 : Int32) s).bind (fun r8 =>
 some (r8)))
 else if (s.1 317 (x3.toNatClampNeg)).toInt = 3 then ((f_X1_writeLength x3 (f_X8_extent (s.2.1 x1 (x2.toNatClampNeg)) s) s).bind (fun r10 =>
 t_loop (b_X1_writePart_131) t_N (x1, x2, (s.2.1 x1 (x2.toNatClampNeg)), 0, r10)))
 else if (s.1 317 (x3.toNatClampNeg)).toInt = 4 then ((f_X11_memberOf x3 (f_X8_wordOf (s.2.1 x1 (x2.toNatClampNeg)) s) s).bind (fun r12 =>
 (f_X1_put r12.toInt64 (f_X1_bitsFor (((s.1 321 (x3.toNatClampNeg)) - (1 : Int32)).toInt64) s) s).bind (fun r14 =>
 some (r14))))
 else if (s.1 317 (x3.toNatClampNeg)).toInt = 5 then ((f_X1_writeRecord x1 x2 x3 s).bind (fun r15 =>
 some (r15)))
 else if (s.1 317 (x3.toNatClampNeg)).toInt = 6 then ((f_X11_fieldOf x3 (f_X8_wordOf (s.2.1 x1 (x2.toNatClampNeg)) s) s).bind (fun r17 =>
 (f_X1_placeOf x3 r17 s).bind (fun r18 =>
 (f_X1_put r18.toInt64 (f_X1_bitsFor (((s.1 321 (x3.toNatClampNeg)) - (1 : Int32)).toInt64) s) s).bind (fun r20 =>
 if t_ix r17 3001 = true then
  (f_X1_expect (x2 + (1 : Int32)) (r20.1 318 (r17.toNatClampNeg)) r20).bind (fun r22 =>
 some (r22))
else none))))
 else ((f_X1_writeList x1 x2 x3 s).bind (fun r23 =>
 some (r23)))
else none
else none
else none
set_option maxRecDepth 4000 in
set_option maxHeartbeats 1000000 in
theorem C_X1_writePart (x1 : Nat) (x2 : Int32) (x3 : Int32) (s : t_S) (r : t_S) (hr : f_X1_writePart x1 x2 x3 s = some r) : t_C yX1_writePart cX1_writePart 7 none 5 [.ref 856, .ref x1, .int x2, .int x3] s (fun v s' => v = none ∧ s' = r) := by
  refine t_C.imp (P := fun v s' => v = none ∧ (fun q => q = r) (s')) (t_C.of (by decide +kernel) (Nat.le_of_ble_eq_true rfl) ?_) (fun v s' hp => hp)
  intro D cy ad bs X
  have hk : t_hk (f_X1_writePart x1 x2 x3 s) (fun q => q = r) := ⟨r, hr, rfl⟩
  show mj_G D cy ad bs X cX1_writePart 7 yX1_writePart.cls none yX1_writePart.name 5 0 0 1065 (t_P (fun v s' => v = none ∧ (fun q => q = r) (s'))) 0 [(0, .ref 856), (1, .ref x1), (2, .int x2), (3, .int x3)] [] (t_m s) 1065 0 0
  refine mj_aload_n dX1_writePart_0 1 rfl ?_
  refine mj_iload_n dX1_writePart_1 2 rfl ?_
  refine t_chkK hk (fun c0 hk => ?_)
  refine t_chkK hk (fun c1 hk => ?_)
  refine t_lald dX1_writePart_2 c0 (t_ixv c1) ?_
  refine mj_lstore (lv2 := [(4, .long (s.2.1 x1 (x2.toNatClampNeg))), (0, .ref 856), (1, .ref x1), (2, .int x2), (3, .int x3)]) dX1_writePart_3 (by decide) rfl ?_
  refine mj_aload_n dX1_writePart_5 1 rfl ?_
  refine t_getR 316 dX1_writePart_6 F_X1_39 qr_856_1 ?_
  refine t_getR 317 dX1_writePart_9 F_X1_149 qr_316_0 ?_
  refine mj_iload_n dX1_writePart_12 4 rfl ?_
  refine t_chkK hk (fun c2 hk => ?_)
  refine t_iald dX1_writePart_13 qa_317 (t_ixv c2) ?_
  by_cases hout : (s.1 317 (x3.toNatClampNeg)).toInt < 1 ∨ 7 < (s.1 317 (x3.toNatClampNeg)).toInt
  · replace hk := t_pos hk hout
    refine mj_tableOut 239 dX1_writePart_14 hout (by decide) ?_
    refine mj_aload_n dX1_writePart_239 1 rfl ?_
    refine mj_aload_n dX1_writePart_240 2 rfl ?_
    refine mj_iload_n dX1_writePart_241 3 rfl ?_
    refine mj_iload_n dX1_writePart_242 4 rfl ?_
    refine t_bndK hk (fun r4 er4 hk => ?_)
    refine t_callVvE dX1_writePart_243 M_X1_writeRecord (C_X1_writeRecord _ _ _ _ _ er4) ML_X1_184 IM_X1_writeRecord SE_X1_writeRecord qc_856 rfl (As := [.ref x1, .int x2, .int x3]) rfl rfl (Nat.le_of_ble_eq_true rfl) (Nat.le_of_ble_eq_true rfl) (Nat.le_of_ble_eq_true rfl) (Nat.le_of_ble_eq_true rfl) ?_
    exact t_somK hk (fun hf => t_vret dX1_writePart_246 rfl ⟨rfl, hf⟩ (Nat.le_of_ble_eq_true rfl) (Nat.le_of_ble_eq_true rfl))
  · replace hk := t_neg hk hout
    have hh1 : ¬ (s.1 317 (x3.toNatClampNeg)).toInt < 1 := fun z => hout (Or.inl z)
    have hh2 : ¬ (7 : Int) < (s.1 317 (x3.toNatClampNeg)).toInt := fun z => hout (Or.inr z)
    by_cases h0 : (s.1 317 (x3.toNatClampNeg)).toInt = 1
    · replace hk := t_pos hk h0
      refine mj_tableIn 56 dX1_writePart_14 hh1 hh2 (by rw [h0]; rfl) (by decide) ?_
      refine mj_aload_n dX1_writePart_56 1 rfl ?_
      refine mj_iload_n dX1_writePart_57 4 rfl ?_
      refine mj_lload dX1_writePart_58 0 rfl ?_
      refine t_callSlP dX1_writePart_60 M_X8_told (C_X8_told _ _) ML_X1_57 SM_X8_told (As := [.long (s.2.1 x1 (x2.toNatClampNeg))]) rfl rfl (Nat.le_of_ble_eq_true rfl) (Nat.le_of_ble_eq_true rfl) (Nat.le_of_ble_eq_true rfl) (Nat.le_of_ble_eq_true rfl) ?_
      refine t_bndK hk (fun r6 er6 hk => ?_)
      refine t_callVvE dX1_writePart_63 M_X1_writeInt (C_X1_writeInt _ _ _ _ er6) ML_X1_151 IM_X1_writeInt SE_X1_writeInt qc_856 rfl (As := [.int x3, .long (f_X8_told (s.2.1 x1 (x2.toNatClampNeg)) s)]) rfl rfl (Nat.le_of_ble_eq_true rfl) (Nat.le_of_ble_eq_true rfl) (Nat.le_of_ble_eq_true rfl) (Nat.le_of_ble_eq_true rfl) ?_
      refine mj_goto 246 dX1_writePart_66 (by decide) ?_
      exact t_somK hk (fun hf => t_vret dX1_writePart_246 rfl ⟨rfl, hf⟩ (Nat.le_of_ble_eq_true rfl) (Nat.le_of_ble_eq_true rfl))
    replace hk := t_neg hk h0
    by_cases h1 : (s.1 317 (x3.toNatClampNeg)).toInt = 2
    · replace hk := t_pos hk h1
      refine mj_tableIn 69 dX1_writePart_14 hh1 hh2 (by rw [h1]; rfl) (by decide) ?_
      refine mj_aload_n dX1_writePart_69 1 rfl ?_
      refine mj_lload dX1_writePart_70 0 rfl ?_
      refine t_callSlP dX1_writePart_72 M_X8_told (C_X8_told _ _) ML_X1_57 SM_X8_told (As := [.long (s.2.1 x1 (x2.toNatClampNeg))]) rfl rfl (Nat.le_of_ble_eq_true rfl) (Nat.le_of_ble_eq_true rfl) (Nat.le_of_ble_eq_true rfl) (Nat.le_of_ble_eq_true rfl) ?_
      refine mj_iconst (v := 1) dX1_writePart_75 (by decide) ?_
      refine t_bndK hk (fun r8 er8 hk => ?_)
      refine t_callVvE dX1_writePart_76 M_X1_put (C_X1_put _ _ _ _ er8) ML_X1_155 IM_X1_put SE_X1_put qc_856 rfl (As := [.long (f_X8_told (s.2.1 x1 (x2.toNatClampNeg)) s), .int 1]) rfl rfl (Nat.le_of_ble_eq_true rfl) (Nat.le_of_ble_eq_true rfl) (Nat.le_of_ble_eq_true rfl) (Nat.le_of_ble_eq_true rfl) ?_
      refine mj_goto 246 dX1_writePart_79 (by decide) ?_
      exact t_somK hk (fun hf => t_vret dX1_writePart_246 rfl ⟨rfl, hf⟩ (Nat.le_of_ble_eq_true rfl) (Nat.le_of_ble_eq_true rfl))
    replace hk := t_neg hk h1
    by_cases h2 : (s.1 317 (x3.toNatClampNeg)).toInt = 3
    · replace hk := t_pos hk h2
      refine mj_tableIn 118 dX1_writePart_14 hh1 hh2 (by rw [h2]; rfl) (by decide) ?_
      refine mj_aload_n dX1_writePart_118 1 rfl ?_
      refine mj_iload_n dX1_writePart_119 4 rfl ?_
      refine mj_lload dX1_writePart_120 0 rfl ?_
      refine t_callSiP dX1_writePart_122 M_X8_extent (C_X8_extent _ _) ML_X1_113 SM_X8_extent (As := [.long (s.2.1 x1 (x2.toNatClampNeg))]) rfl rfl (Nat.le_of_ble_eq_true rfl) (Nat.le_of_ble_eq_true rfl) (Nat.le_of_ble_eq_true rfl) (Nat.le_of_ble_eq_true rfl) ?_
      refine t_bndK hk (fun r10 er10 hk => ?_)
      refine t_callVvE dX1_writePart_125 M_X1_writeLength (C_X1_writeLength _ _ _ _ er10) ML_X1_169 IM_X1_writeLength SE_X1_writeLength qc_856 rfl (As := [.int x3, .int (f_X8_extent (s.2.1 x1 (x2.toNatClampNeg)) s)]) rfl rfl (Nat.le_of_ble_eq_true rfl) (Nat.le_of_ble_eq_true rfl) (Nat.le_of_ble_eq_true rfl) (Nat.le_of_ble_eq_true rfl) ?_
      refine mj_iconst (v := 0) dX1_writePart_128 (by decide) ?_
      refine mj_istore (lv2 := [(6, .int 0), (4, .long (s.2.1 x1 (x2.toNatClampNeg))), (0, .ref 856), (1, .ref x1), (2, .int x2), (3, .int x3)]) dX1_writePart_129 (by decide) rfl ?_
      refine mj_sublv [(0, .ref 856), (1, .ref x1), (2, .int x2), (4, .long (s.2.1 x1 (x2.toNatClampNeg))), (6, .int 0)] [2, 3, 4, 1, 0] rfl ?_
      exact LH_X1_writePart_131 _ x1 x2 (s.2.1 x1 (x2.toNatClampNeg)) 0 r10 _ hk
    replace hk := t_neg hk h2
    by_cases h3 : (s.1 317 (x3.toNatClampNeg)).toInt = 4
    · replace hk := t_pos hk h3
      refine mj_tableIn 82 dX1_writePart_14 hh1 hh2 (by rw [h3]; rfl) (by decide) ?_
      refine mj_aload_n dX1_writePart_82 1 rfl ?_
      refine mj_aload_n dX1_writePart_83 1 rfl ?_
      refine t_getR 316 dX1_writePart_84 F_X1_39 qr_856_1 ?_
      refine mj_iload_n dX1_writePart_87 4 rfl ?_
      refine mj_lload dX1_writePart_88 0 rfl ?_
      refine t_callSiP dX1_writePart_90 M_X8_wordOf (C_X8_wordOf _ _) ML_X1_77 SM_X8_wordOf (As := [.long (s.2.1 x1 (x2.toNatClampNeg))]) rfl rfl (Nat.le_of_ble_eq_true rfl) (Nat.le_of_ble_eq_true rfl) (Nat.le_of_ble_eq_true rfl) (Nat.le_of_ble_eq_true rfl) ?_
      refine t_bndK hk (fun r12 er12 hk => ?_)
      refine t_callViP dX1_writePart_93 M_X11_memberOf (C_X11_memberOf _ _ _ _ er12) ML_X1_159 IM_X11_memberOf SE_X11_memberOf qc_316 rfl (As := [.int x3, .int (f_X8_wordOf (s.2.1 x1 (x2.toNatClampNeg)) s)]) rfl rfl (Nat.le_of_ble_eq_true rfl) (Nat.le_of_ble_eq_true rfl) (Nat.le_of_ble_eq_true rfl) (Nat.le_of_ble_eq_true rfl) ?_
      refine mj_i2l (v := r12.toInt64) dX1_writePart_96 rfl ?_
      refine mj_aload_n dX1_writePart_97 1 rfl ?_
      refine t_getR 316 dX1_writePart_98 F_X1_39 qr_856_1 ?_
      refine t_getR 321 dX1_writePart_101 F_X1_163 qr_316_4 ?_
      refine mj_iload_n dX1_writePart_104 4 rfl ?_
      refine t_iald dX1_writePart_105 qa_321 (t_ixv c2) ?_
      refine mj_iconst (v := 1) dX1_writePart_106 (by decide) ?_
      refine mj_isub dX1_writePart_107 ?_
      refine mj_i2l (v := ((s.1 321 (x3.toNatClampNeg)) - (1 : Int32)).toInt64) dX1_writePart_108 rfl ?_
      refine t_callSiP dX1_writePart_109 M_X1_bitsFor (C_X1_bitsFor _ _) ML_X1_166 SM_X1_bitsFor (As := [.long (((s.1 321 (x3.toNatClampNeg)) - (1 : Int32)).toInt64)]) rfl rfl (Nat.le_of_ble_eq_true rfl) (Nat.le_of_ble_eq_true rfl) (Nat.le_of_ble_eq_true rfl) (Nat.le_of_ble_eq_true rfl) ?_
      refine t_bndK hk (fun r14 er14 hk => ?_)
      refine t_callVvE dX1_writePart_112 M_X1_put (C_X1_put _ _ _ _ er14) ML_X1_155 IM_X1_put SE_X1_put qc_856 rfl (As := [.long r12.toInt64, .int (f_X1_bitsFor (((s.1 321 (x3.toNatClampNeg)) - (1 : Int32)).toInt64) s)]) rfl rfl (Nat.le_of_ble_eq_true rfl) (Nat.le_of_ble_eq_true rfl) (Nat.le_of_ble_eq_true rfl) (Nat.le_of_ble_eq_true rfl) ?_
      refine mj_goto 246 dX1_writePart_115 (by decide) ?_
      exact t_somK hk (fun hf => t_vret dX1_writePart_246 rfl ⟨rfl, hf⟩ (Nat.le_of_ble_eq_true rfl) (Nat.le_of_ble_eq_true rfl))
    replace hk := t_neg hk h3
    by_cases h4 : (s.1 317 (x3.toNatClampNeg)).toInt = 5
    · replace hk := t_pos hk h4
      refine mj_tableIn 239 dX1_writePart_14 hh1 hh2 (by rw [h4]; rfl) (by decide) ?_
      refine mj_aload_n dX1_writePart_239 1 rfl ?_
      refine mj_aload_n dX1_writePart_240 2 rfl ?_
      refine mj_iload_n dX1_writePart_241 3 rfl ?_
      refine mj_iload_n dX1_writePart_242 4 rfl ?_
      refine t_bndK hk (fun r15 er15 hk => ?_)
      refine t_callVvE dX1_writePart_243 M_X1_writeRecord (C_X1_writeRecord _ _ _ _ _ er15) ML_X1_184 IM_X1_writeRecord SE_X1_writeRecord qc_856 rfl (As := [.ref x1, .int x2, .int x3]) rfl rfl (Nat.le_of_ble_eq_true rfl) (Nat.le_of_ble_eq_true rfl) (Nat.le_of_ble_eq_true rfl) (Nat.le_of_ble_eq_true rfl) ?_
      exact t_somK hk (fun hf => t_vret dX1_writePart_246 rfl ⟨rfl, hf⟩ (Nat.le_of_ble_eq_true rfl) (Nat.le_of_ble_eq_true rfl))
    replace hk := t_neg hk h4
    by_cases h5 : (s.1 317 (x3.toNatClampNeg)).toInt = 6
    · replace hk := t_pos hk h5
      refine mj_tableIn 177 dX1_writePart_14 hh1 hh2 (by rw [h5]; rfl) (by decide) ?_
      refine mj_aload_n dX1_writePart_177 1 rfl ?_
      refine t_getR 316 dX1_writePart_178 F_X1_39 qr_856_1 ?_
      refine mj_iload_n dX1_writePart_181 4 rfl ?_
      refine mj_lload dX1_writePart_182 0 rfl ?_
      refine t_callSiP dX1_writePart_184 M_X8_wordOf (C_X8_wordOf _ _) ML_X1_77 SM_X8_wordOf (As := [.long (s.2.1 x1 (x2.toNatClampNeg))]) rfl rfl (Nat.le_of_ble_eq_true rfl) (Nat.le_of_ble_eq_true rfl) (Nat.le_of_ble_eq_true rfl) (Nat.le_of_ble_eq_true rfl) ?_
      refine t_bndK hk (fun r17 er17 hk => ?_)
      refine t_callViP dX1_writePart_187 M_X11_fieldOf (C_X11_fieldOf _ _ _ _ er17) ML_X1_175 IM_X11_fieldOf SE_X11_fieldOf qc_316 rfl (As := [.int x3, .int (f_X8_wordOf (s.2.1 x1 (x2.toNatClampNeg)) s)]) rfl rfl (Nat.le_of_ble_eq_true rfl) (Nat.le_of_ble_eq_true rfl) (Nat.le_of_ble_eq_true rfl) (Nat.le_of_ble_eq_true rfl) ?_
      refine mj_istore (lv2 := [(6, .int r17), (4, .long (s.2.1 x1 (x2.toNatClampNeg))), (0, .ref 856), (1, .ref x1), (2, .int x2), (3, .int x3)]) dX1_writePart_190 (by decide) rfl ?_
      refine mj_aload_n dX1_writePart_192 2 rfl ?_
      refine mj_aload_n dX1_writePart_193 2 rfl ?_
      refine mj_iload_n dX1_writePart_194 5 rfl ?_
      refine mj_iload dX1_writePart_195 0 rfl ?_
      refine t_bndK hk (fun r18 er18 hk => ?_)
      refine t_callViP dX1_writePart_197 M_X1_placeOf (C_X1_placeOf _ _ _ _ er18) ML_X1_178 IM_X1_placeOf SE_X1_placeOf qc_856 rfl (As := [.int x3, .int r17]) rfl rfl (Nat.le_of_ble_eq_true rfl) (Nat.le_of_ble_eq_true rfl) (Nat.le_of_ble_eq_true rfl) (Nat.le_of_ble_eq_true rfl) ?_
      refine mj_i2l (v := r18.toInt64) dX1_writePart_200 rfl ?_
      refine mj_aload_n dX1_writePart_201 2 rfl ?_
      refine t_getR 316 dX1_writePart_202 F_X1_39 qr_856_1 ?_
      refine t_getR 321 dX1_writePart_205 F_X1_163 qr_316_4 ?_
      refine mj_iload_n dX1_writePart_208 5 rfl ?_
      refine t_iald dX1_writePart_209 qa_321 (t_ixv c2) ?_
      refine mj_iconst (v := 1) dX1_writePart_210 (by decide) ?_
      refine mj_isub dX1_writePart_211 ?_
      refine mj_i2l (v := ((s.1 321 (x3.toNatClampNeg)) - (1 : Int32)).toInt64) dX1_writePart_212 rfl ?_
      refine t_callSiP dX1_writePart_213 M_X1_bitsFor (C_X1_bitsFor _ _) ML_X1_166 SM_X1_bitsFor (As := [.long (((s.1 321 (x3.toNatClampNeg)) - (1 : Int32)).toInt64)]) rfl rfl (Nat.le_of_ble_eq_true rfl) (Nat.le_of_ble_eq_true rfl) (Nat.le_of_ble_eq_true rfl) (Nat.le_of_ble_eq_true rfl) ?_
      refine t_bndK hk (fun r20 er20 hk => ?_)
      refine t_callVvE dX1_writePart_216 M_X1_put (C_X1_put _ _ _ _ er20) ML_X1_155 IM_X1_put SE_X1_put qc_856 rfl (As := [.long r18.toInt64, .int (f_X1_bitsFor (((s.1 321 (x3.toNatClampNeg)) - (1 : Int32)).toInt64) s)]) rfl rfl (Nat.le_of_ble_eq_true rfl) (Nat.le_of_ble_eq_true rfl) (Nat.le_of_ble_eq_true rfl) (Nat.le_of_ble_eq_true rfl) ?_
      refine mj_aload_n dX1_writePart_219 2 rfl ?_
      refine mj_iload_n dX1_writePart_220 4 rfl ?_
      refine mj_iconst (v := 1) dX1_writePart_221 (by decide) ?_
      refine mj_iadd dX1_writePart_222 ?_
      refine mj_aload_n dX1_writePart_223 2 rfl ?_
      refine t_getR 316 dX1_writePart_224 F_X1_39 qr_856_1 ?_
      refine t_getR 318 dX1_writePart_227 F_X1_181 qr_316_1 ?_
      refine mj_iload dX1_writePart_230 0 rfl ?_
      refine t_chkK hk (fun c20 hk => ?_)
      refine t_iald dX1_writePart_232 qa_318 (t_ixv c20) ?_
      refine t_bndK hk (fun r22 er22 hk => ?_)
      refine t_callVvE dX1_writePart_233 M_X1_expect (C_X1_expect _ _ _ _ er22) ML_X1_135 IM_X1_expect SE_X1_expect qc_856 rfl (As := [.int (x2 + (1 : Int32)), .int (r20.1 318 (r17.toNatClampNeg))]) rfl rfl (Nat.le_of_ble_eq_true rfl) (Nat.le_of_ble_eq_true rfl) (Nat.le_of_ble_eq_true rfl) (Nat.le_of_ble_eq_true rfl) ?_
      refine mj_goto 246 dX1_writePart_236 (by decide) ?_
      exact t_somK hk (fun hf => t_vret dX1_writePart_246 rfl ⟨rfl, hf⟩ (Nat.le_of_ble_eq_true rfl) (Nat.le_of_ble_eq_true rfl))
    replace hk := t_neg hk h5
    have h6 : (s.1 317 (x3.toNatClampNeg)).toInt = 7 := by omega
    refine mj_tableIn 167 dX1_writePart_14 hh1 hh2 (by rw [h6]; rfl) (by decide) ?_
    refine mj_aload_n dX1_writePart_167 1 rfl ?_
    refine mj_aload_n dX1_writePart_168 2 rfl ?_
    refine mj_iload_n dX1_writePart_169 3 rfl ?_
    refine mj_iload_n dX1_writePart_170 4 rfl ?_
    refine t_bndK hk (fun r23 er23 hk => ?_)
    refine t_callVvE dX1_writePart_171 M_X1_writeList (C_X1_writeList _ _ _ _ _ er23) ML_X1_172 IM_X1_writeList SE_X1_writeList qc_856 rfl (As := [.ref x1, .int x2, .int x3]) rfl rfl (Nat.le_of_ble_eq_true rfl) (Nat.le_of_ble_eq_true rfl) (Nat.le_of_ble_eq_true rfl) (Nat.le_of_ble_eq_true rfl) ?_
    refine mj_goto 246 dX1_writePart_174 (by decide) ?_
    exact t_somK hk (fun hf => t_vret dX1_writePart_246 rfl ⟨rfl, hf⟩ (Nat.le_of_ble_eq_true rfl) (Nat.le_of_ble_eq_true rfl))

theorem dX1_writeBits_0 : decode cX1_writeBits 0 = .ok (.aload_n 0, 1) := by decide +kernel
theorem dX1_writeBits_1 : decode cX1_writeBits 1 = .ok (.iconst 0, 1) := by decide +kernel
theorem dX1_writeBits_10 : decode cX1_writeBits 10 = .ok (.aload_n 0, 1) := by decide +kernel
theorem dX1_writeBits_11 : decode cX1_writeBits 11 = .ok (.iload_n 2, 1) := by decide +kernel
theorem dX1_writeBits_12 : decode cX1_writeBits 12 = .ok (.iload_n 3, 1) := by decide +kernel
theorem dX1_writeBits_13 : decode cX1_writeBits 13 = .ok (.invokevirtual 135, 3) := by decide +kernel
theorem dX1_writeBits_16 : decode cX1_writeBits 16 = .ok (.iconst 0, 1) := by decide +kernel
theorem dX1_writeBits_17 : decode cX1_writeBits 17 = .ok (.istore 4, 2) := by decide +kernel
theorem dX1_writeBits_19 : decode cX1_writeBits 19 = .ok (.aload_n 0, 1) := by decide +kernel
theorem dX1_writeBits_2 : decode cX1_writeBits 2 = .ok (.putfield 132, 3) := by decide +kernel
theorem dX1_writeBits_20 : decode cX1_writeBits 20 = .ok (.getfield 47, 3) := by decide +kernel
theorem dX1_writeBits_23 : decode cX1_writeBits 23 = .ok (.ifCond .le 59, 3) := by decide +kernel
theorem dX1_writeBits_26 : decode cX1_writeBits 26 = .ok (.iload 4, 2) := by decide +kernel
theorem dX1_writeBits_28 : decode cX1_writeBits 28 = .ok (.aload_n 0, 1) := by decide +kernel
theorem dX1_writeBits_29 : decode cX1_writeBits 29 = .ok (.getfield 25, 3) := by decide +kernel
theorem dX1_writeBits_32 : decode cX1_writeBits 32 = .ok (.arraylength, 1) := by decide +kernel
theorem dX1_writeBits_33 : decode cX1_writeBits 33 = .ok (.if_icmp .ge 49, 3) := by decide +kernel
theorem dX1_writeBits_36 : decode cX1_writeBits 36 = .ok (.aload_n 0, 1) := by decide +kernel
theorem dX1_writeBits_37 : decode cX1_writeBits 37 = .ok (.dup, 1) := by decide +kernel
theorem dX1_writeBits_38 : decode cX1_writeBits 38 = .ok (.getfield 47, 3) := by decide +kernel
theorem dX1_writeBits_41 : decode cX1_writeBits 41 = .ok (.iconst 1, 1) := by decide +kernel
theorem dX1_writeBits_42 : decode cX1_writeBits 42 = .ok (.isub, 1) := by decide +kernel
theorem dX1_writeBits_43 : decode cX1_writeBits 43 = .ok (.putfield 47, 3) := by decide +kernel
theorem dX1_writeBits_46 : decode cX1_writeBits 46 = .ok (.aload_n 0, 1) := by decide +kernel
theorem dX1_writeBits_47 : decode cX1_writeBits 47 = .ok (.aload_n 1, 1) := by decide +kernel
theorem dX1_writeBits_48 : decode cX1_writeBits 48 = .ok (.aload_n 0, 1) := by decide +kernel
theorem dX1_writeBits_49 : decode cX1_writeBits 49 = .ok (.getfield 25, 3) := by decide +kernel
theorem dX1_writeBits_5 : decode cX1_writeBits 5 = .ok (.aload_n 0, 1) := by decide +kernel
theorem dX1_writeBits_52 : decode cX1_writeBits 52 = .ok (.aload_n 0, 1) := by decide +kernel
theorem dX1_writeBits_53 : decode cX1_writeBits 53 = .ok (.getfield 47, 3) := by decide +kernel
theorem dX1_writeBits_56 : decode cX1_writeBits 56 = .ok (.iaload, 1) := by decide +kernel
theorem dX1_writeBits_57 : decode cX1_writeBits 57 = .ok (.aload_n 0, 1) := by decide +kernel
theorem dX1_writeBits_58 : decode cX1_writeBits 58 = .ok (.getfield 39, 3) := by decide +kernel
theorem dX1_writeBits_6 : decode cX1_writeBits 6 = .ok (.iconst 0, 1) := by decide +kernel
theorem dX1_writeBits_61 : decode cX1_writeBits 61 = .ok (.aload_n 0, 1) := by decide +kernel
theorem dX1_writeBits_62 : decode cX1_writeBits 62 = .ok (.getfield 29, 3) := by decide +kernel
theorem dX1_writeBits_65 : decode cX1_writeBits 65 = .ok (.aload_n 0, 1) := by decide +kernel
theorem dX1_writeBits_66 : decode cX1_writeBits 66 = .ok (.getfield 47, 3) := by decide +kernel
theorem dX1_writeBits_69 : decode cX1_writeBits 69 = .ok (.iaload, 1) := by decide +kernel
theorem dX1_writeBits_7 : decode cX1_writeBits 7 = .ok (.putfield 47, 3) := by decide +kernel
theorem dX1_writeBits_70 : decode cX1_writeBits 70 = .ok (.invokevirtual 139, 3) := by decide +kernel
theorem dX1_writeBits_73 : decode cX1_writeBits 73 = .ok (.invokevirtual 145, 3) := by decide +kernel
theorem dX1_writeBits_76 : decode cX1_writeBits 76 = .ok (.iinc 4 1, 3) := by decide +kernel
theorem dX1_writeBits_79 : decode cX1_writeBits 79 = .ok (.goto (-60), 3) := by decide +kernel
theorem dX1_writeBits_82 : decode cX1_writeBits 82 = .ok (.aload_n 0, 1) := by decide +kernel
theorem dX1_writeBits_83 : decode cX1_writeBits 83 = .ok (.getfield 132, 3) := by decide +kernel
theorem dX1_writeBits_86 : decode cX1_writeBits 86 = .ok (.ireturn, 1) := by decide +kernel
noncomputable def k_X1_writeBits_19 (l1 : Nat) (l4 : Int32) (s : t_S) : Option ((Nat × Int32 × t_S) ⊕ (Int32 × t_S)) :=
 if (s.1 856 15) ≤ (0 : Int32) then ((some ((s.1 856 5), s)).map Sum.inr)
 else (if (240 : Int32) ≤ l4 then ((some ((s.1 856 5), s)).map Sum.inr)
 else (t_let (t_setI s 856 15 ((s.1 856 15) - (1 : Int32))) (fun s1 =>
 if t_ix (s1.1 856 15) 240 = true then
  (f_X11_resolve (s1.1 862 ((s1.1 856 15).toNatClampNeg)) s1).bind (fun r2 =>
 (f_X1_writePart l1 (s1.1 861 ((s1.1 856 15).toNatClampNeg)) r2 s1).bind (fun r3 =>
 some (.inl (l1, (l4 + 1), r3))))
else none)))
set_option maxRecDepth 4000 in
set_option maxHeartbeats 1000000 in
theorem B_X1_writeBits_19 {D : va_G} {cy : Nat → ClassId} {ad : Nat → Nat} {bs : Nat} {X : State → Heap → Prop} (l1 : Nat) (l4 : Int32) (s : t_S) (Q : (Nat × Int32 × t_S) ⊕ (Int32 × t_S) → Prop) (Hb19 : ∀ (y0 : Nat) (y1 : Int32) (y2 : t_S), Q (.inl (y0, y1, y2)) → mj_G D cy ad bs X cX1_writeBits 5 yX1_writeBits.cls (some .int) yX1_writeBits.name 6 0 0 1065 (t_P (fun v s' => ∃ x, v = some (.int x) ∧ Q (.inr ((x, s'))))) 19 [(0, .ref 856), (1, .ref (y0)), (4, .int (y1))] [] (t_m y2) 1065 0 0) (hk : t_hk (k_X1_writeBits_19 l1 l4 s) Q) : mj_G D cy ad bs X cX1_writeBits 5 yX1_writeBits.cls (some .int) yX1_writeBits.name 6 0 0 1065 (t_P (fun v s' => ∃ x, v = some (.int x) ∧ Q (.inr ((x, s'))))) 19 [(0, .ref 856), (1, .ref l1), (4, .int l4)] [] (t_m s) 1065 0 0 := by
  refine mj_aload_n dX1_writeBits_19 0 rfl ?_
  refine t_getI dX1_writeBits_20 F_X1_47 qf_856_15 ?_
  refine mj_if_le 82 dX1_writeBits_23 (by decide) (fun z => t_posK hk z (fun hk => ?_)) (fun z => t_negK hk z (fun hk => ?_))
  · refine t_mapK hk (fun hk => ?_)
    refine mj_aload_n dX1_writeBits_82 0 rfl ?_
    refine t_getI dX1_writeBits_83 F_X1_132 qf_856_5 ?_
    exact t_somK hk (fun hf => t_iret dX1_writeBits_86 rfl rfl ⟨_, rfl, hf⟩ (Nat.le_of_ble_eq_true rfl) (Nat.le_of_ble_eq_true rfl))
  · refine mj_iload dX1_writeBits_26 2 rfl ?_
    refine mj_aload_n dX1_writeBits_28 0 rfl ?_
    refine t_getR 861 dX1_writeBits_29 F_X1_25 qr_856_12 ?_
    refine t_alen1 (v := 240) dX1_writeBits_32 qa_861 (by decide) ?_
    refine mj_icmp_ge 82 dX1_writeBits_33 (by decide) (fun z => t_posK hk z (fun hk => ?_)) (fun z => t_negK hk z (fun hk => ?_))
    · refine t_mapK hk (fun hk => ?_)
      refine mj_aload_n dX1_writeBits_82 0 rfl ?_
      refine t_getI dX1_writeBits_83 F_X1_132 qf_856_5 ?_
      exact t_somK hk (fun hf => t_iret dX1_writeBits_86 rfl rfl ⟨_, rfl, hf⟩ (Nat.le_of_ble_eq_true rfl) (Nat.le_of_ble_eq_true rfl))
    · refine mj_aload_n dX1_writeBits_36 0 rfl ?_
      refine mj_dup dX1_writeBits_37 rfl ?_
      refine t_getI dX1_writeBits_38 F_X1_47 qf_856_15 ?_
      refine mj_iconst (v := 1) dX1_writeBits_41 (by decide) ?_
      refine mj_isub dX1_writeBits_42 ?_
      refine t_putIK dX1_writeBits_43 F_X1_47 qf_856_15 rfl (fun s1 ws1 => t_letE hk ws1 (fun hk => ?_))
      refine mj_aload_n dX1_writeBits_46 0 rfl ?_
      refine mj_aload_n dX1_writeBits_47 1 rfl ?_
      refine mj_aload_n dX1_writeBits_48 0 rfl ?_
      refine t_getR 861 dX1_writeBits_49 F_X1_25 qr_856_12 ?_
      refine mj_aload_n dX1_writeBits_52 0 rfl ?_
      refine t_getI dX1_writeBits_53 F_X1_47 qf_856_15 ?_
      refine t_chkK hk (fun c0 hk => ?_)
      refine t_iald dX1_writeBits_56 qa_861 (t_ixv c0) ?_
      refine mj_aload_n dX1_writeBits_57 0 rfl ?_
      refine t_getR 316 dX1_writeBits_58 F_X1_39 qr_856_1 ?_
      refine mj_aload_n dX1_writeBits_61 0 rfl ?_
      refine t_getR 862 dX1_writeBits_62 F_X1_29 qr_856_13 ?_
      refine mj_aload_n dX1_writeBits_65 0 rfl ?_
      refine t_getI dX1_writeBits_66 F_X1_47 qf_856_15 ?_
      refine t_iald dX1_writeBits_69 qa_862 (t_ixv c0) ?_
      refine t_bndK hk (fun r2 er2 hk => ?_)
      refine t_callViP dX1_writeBits_70 M_X11_resolve (C_X11_resolve _ _ _ er2) ML_X1_139 IM_X11_resolve SE_X11_resolve qc_316 rfl (As := [.int (s1.1 862 ((s1.1 856 15).toNatClampNeg))]) rfl rfl (Nat.le_of_ble_eq_true rfl) (Nat.le_of_ble_eq_true rfl) (Nat.le_of_ble_eq_true rfl) (Nat.le_of_ble_eq_true rfl) ?_
      refine t_bndK hk (fun r3 er3 hk => ?_)
      refine t_callVvE dX1_writeBits_73 M_X1_writePart (C_X1_writePart _ _ _ _ _ er3) ML_X1_145 IM_X1_writePart SE_X1_writePart qc_856 rfl (As := [.ref l1, .int (s1.1 861 ((s1.1 856 15).toNatClampNeg)), .int r2]) rfl rfl (Nat.le_of_ble_eq_true rfl) (Nat.le_of_ble_eq_true rfl) (Nat.le_of_ble_eq_true rfl) (Nat.le_of_ble_eq_true rfl) ?_
      refine mj_iinc (k := 2) (v := (l4 + 1)) (lv2 := [(4, .int (l4 + 1)), (0, .ref 856), (1, .ref l1)]) dX1_writeBits_76 rfl rfl (by decide) rfl ?_
      refine mj_goto 19 dX1_writeBits_79 (by decide) ?_
      refine mj_sublv [(0, .ref 856), (1, .ref l1), (4, .int (l4 + 1))] [1, 2, 0] rfl ?_
      exact t_somK hk (fun hf => Hb19 l1 (l4 + 1) r3 hf)
noncomputable def b_X1_writeBits_19 (x : Nat × Int32 × t_S) : Option ((Nat × Int32 × t_S) ⊕ (Int32 × t_S)) := k_X1_writeBits_19 x.1 x.2.1 x.2.2
set_option maxRecDepth 4000 in
set_option maxHeartbeats 1000000 in
theorem LH_X1_writeBits_19 {D : va_G} {cy : Nat → ClassId} {ad : Nat → Nat} {bs : Nat} {X : State → Heap → Prop} : ∀ (n : Nat) (y0 : Nat) (y1 : Int32) (y2 : t_S) (Q : Int32 × t_S → Prop) (hk : t_hk (t_loop (b_X1_writeBits_19) n (y0, y1, y2)) Q), mj_G D cy ad bs X cX1_writeBits 5 yX1_writeBits.cls (some .int) yX1_writeBits.name 6 0 0 1065 (t_P (fun v s' => ∃ x, v = some (.int x) ∧ Q ((x, s')))) 19 [(0, .ref 856), (1, .ref (y0)), (4, .int (y1))] [] (t_m y2) 1065 0 0 := by
  intro n
  induction n with
  | zero => intro y0 y1 y2 Q hk; obtain ⟨r, hr, _⟩ := hk; cases hr
  | succ n ih =>
    intro y0 y1 y2 Q hk
    exact B_X1_writeBits_19 y0 y1 y2 (fun y => t_lq (b_X1_writeBits_19) n Q y) (fun y0' y1' y2' hy => ih y0' y1' y2' Q hy) (t_lp hk)
noncomputable def f_X1_writeBits (x1 : Nat) (x2 : Int32) (x3 : Int32) (s : t_S) : Option (Int32 × t_S) :=
 t_let (t_setI s 856 5 (0 : Int32)) (fun s1 =>
 t_let (t_setI s1 856 15 (0 : Int32)) (fun s2 =>
 (f_X1_expect x2 x3 s2).bind (fun r1 =>
 t_loop (b_X1_writeBits_19) t_N (x1, 0, r1))))
set_option maxRecDepth 4000 in
set_option maxHeartbeats 1000000 in
theorem C_X1_writeBits (x1 : Nat) (x2 : Int32) (x3 : Int32) (s : t_S) (r : Int32 × t_S) (hr : f_X1_writeBits x1 x2 x3 s = some r) : t_C yX1_writeBits cX1_writeBits 5 (some .int) 6 [.ref 856, .ref x1, .int x2, .int x3] s (fun v s' => v = some (.int r.1) ∧ s' = r.2) := by
  refine t_C.imp (P := fun v s' => ∃ x, v = some (.int x) ∧ (fun q => q = r) ((x, s'))) (t_C.of (by decide +kernel) (Nat.le_of_ble_eq_true rfl) ?_) (fun v s' hp => by obtain ⟨x, rfl, rfl⟩ := hp; exact ⟨rfl, rfl⟩)
  intro D cy ad bs X
  have hk : t_hk (f_X1_writeBits x1 x2 x3 s) (fun q => q = r) := ⟨r, hr, rfl⟩
  show mj_G D cy ad bs X cX1_writeBits 5 yX1_writeBits.cls (some .int) yX1_writeBits.name 6 0 0 1065 (t_P (fun v s' => ∃ x, v = some (.int x) ∧ (fun q => q = r) ((x, s')))) 0 [(0, .ref 856), (1, .ref x1), (2, .int x2), (3, .int x3)] [] (t_m s) 1065 0 0
  refine mj_aload_n dX1_writeBits_0 0 rfl ?_
  refine mj_iconst (v := 0) dX1_writeBits_1 (by decide) ?_
  refine t_putIK dX1_writeBits_2 F_X1_132 qf_856_5 rfl (fun s1 ws1 => t_letE hk ws1 (fun hk => ?_))
  refine mj_aload_n dX1_writeBits_5 0 rfl ?_
  refine mj_iconst (v := 0) dX1_writeBits_6 (by decide) ?_
  refine t_putIK dX1_writeBits_7 F_X1_47 qf_856_15 rfl (fun s2 ws2 => t_letE hk ws2 (fun hk => ?_))
  refine mj_aload_n dX1_writeBits_10 0 rfl ?_
  refine mj_iload_n dX1_writeBits_11 2 rfl ?_
  refine mj_iload_n dX1_writeBits_12 3 rfl ?_
  refine t_bndK hk (fun r1 er1 hk => ?_)
  refine t_callVvE dX1_writeBits_13 M_X1_expect (C_X1_expect _ _ _ _ er1) ML_X1_135 IM_X1_expect SE_X1_expect qc_856 rfl (As := [.int x2, .int x3]) rfl rfl (Nat.le_of_ble_eq_true rfl) (Nat.le_of_ble_eq_true rfl) (Nat.le_of_ble_eq_true rfl) (Nat.le_of_ble_eq_true rfl) ?_
  refine mj_iconst (v := 0) dX1_writeBits_16 (by decide) ?_
  refine mj_istore (lv2 := [(4, .int 0), (0, .ref 856), (1, .ref x1), (2, .int x2), (3, .int x3)]) dX1_writeBits_17 (by decide) rfl ?_
  refine mj_sublv [(0, .ref 856), (1, .ref x1), (4, .int 0)] [1, 2, 0] rfl ?_
  exact LH_X1_writeBits_19 _ x1 0 r1 _ hk

theorem dX12_encode_0 : decode cX12_encode 0 = .ok (.aload_n 0, 1) := by decide +kernel
theorem dX12_encode_1 : decode cX12_encode 1 = .ok (.iload_n 1, 1) := by decide +kernel
theorem dX12_encode_10 : decode cX12_encode 10 = .ok (.invokevirtual 196, 3) := by decide +kernel
theorem dX12_encode_13 : decode cX12_encode 13 = .ok (.ifCond .ne 5, 3) := by decide +kernel
theorem dX12_encode_16 : decode cX12_encode 16 = .ok (.iconst (-1), 1) := by decide +kernel
theorem dX12_encode_17 : decode cX12_encode 17 = .ok (.ireturn, 1) := by decide +kernel
theorem dX12_encode_18 : decode cX12_encode 18 = .ok (.aload_n 0, 1) := by decide +kernel
theorem dX12_encode_19 : decode cX12_encode 19 = .ok (.getfield 26, 3) := by decide +kernel
theorem dX12_encode_2 : decode cX12_encode 2 = .ok (.invokevirtual 169, 3) := by decide +kernel
theorem dX12_encode_22 : decode cX12_encode 22 = .ok (.getfield 199, 3) := by decide +kernel
theorem dX12_encode_25 : decode cX12_encode 25 = .ok (.iload_n 2, 1) := by decide +kernel
theorem dX12_encode_26 : decode cX12_encode 26 = .ok (.iaload, 1) := by decide +kernel
theorem dX12_encode_27 : decode cX12_encode 27 = .ok (.istore_n 3, 1) := by decide +kernel
theorem dX12_encode_28 : decode cX12_encode 28 = .ok (.aload_n 0, 1) := by decide +kernel
theorem dX12_encode_29 : decode cX12_encode 29 = .ok (.getfield 26, 3) := by decide +kernel
theorem dX12_encode_32 : decode cX12_encode 32 = .ok (.aload_n 0, 1) := by decide +kernel
theorem dX12_encode_33 : decode cX12_encode 33 = .ok (.getfield 19, 3) := by decide +kernel
theorem dX12_encode_36 : decode cX12_encode 36 = .ok (.getfield 173, 3) := by decide +kernel
theorem dX12_encode_39 : decode cX12_encode 39 = .ok (.iload_n 1, 1) := by decide +kernel
theorem dX12_encode_40 : decode cX12_encode 40 = .ok (.invokestatic 176, 3) := by decide +kernel
theorem dX12_encode_43 : decode cX12_encode 43 = .ok (.iload_n 3, 1) := by decide +kernel
theorem dX12_encode_44 : decode cX12_encode 44 = .ok (.invokevirtual 203, 3) := by decide +kernel
theorem dX12_encode_47 : decode cX12_encode 47 = .ok (.ifCond .ne 6, 3) := by decide +kernel
theorem dX12_encode_5 : decode cX12_encode 5 = .ok (.ifCond .eq 11, 3) := by decide +kernel
theorem dX12_encode_50 : decode cX12_encode 50 = .ok (.bipush (-2), 2) := by decide +kernel
theorem dX12_encode_52 : decode cX12_encode 52 = .ok (.ireturn, 1) := by decide +kernel
theorem dX12_encode_53 : decode cX12_encode 53 = .ok (.aload_n 0, 1) := by decide +kernel
theorem dX12_encode_54 : decode cX12_encode 54 = .ok (.getfield 75, 3) := by decide +kernel
theorem dX12_encode_57 : decode cX12_encode 57 = .ok (.aload_n 0, 1) := by decide +kernel
theorem dX12_encode_58 : decode cX12_encode 58 = .ok (.getfield 19, 3) := by decide +kernel
theorem dX12_encode_61 : decode cX12_encode 61 = .ok (.getfield 173, 3) := by decide +kernel
theorem dX12_encode_64 : decode cX12_encode 64 = .ok (.iload_n 1, 1) := by decide +kernel
theorem dX12_encode_65 : decode cX12_encode 65 = .ok (.invokestatic 176, 3) := by decide +kernel
theorem dX12_encode_68 : decode cX12_encode 68 = .ok (.iload_n 3, 1) := by decide +kernel
theorem dX12_encode_69 : decode cX12_encode 69 = .ok (.invokevirtual 248, 3) := by decide +kernel
theorem dX12_encode_72 : decode cX12_encode 72 = .ok (.ireturn, 1) := by decide +kernel
theorem dX12_encode_8 : decode cX12_encode 8 = .ok (.aload_n 0, 1) := by decide +kernel
theorem dX12_encode_9 : decode cX12_encode 9 = .ok (.iload_n 2, 1) := by decide +kernel
noncomputable def f_X12_encode (x1 : Int32) (x2 : Int32) (s : t_S) : Option (Int32 × t_S) :=
 if (f_X12_isKept x1 s) = (0 : Int32) then (some ((-1 : Int32), s))
 else (if (f_X12_isType x2 s) = (0 : Int32) then (some ((-1 : Int32), s))
 else (if t_ix x2 60 = true then
  (f_X11_holds 13 (f_X12_keptAt x1 s) (s.1 326 (x2.toNatClampNeg)) s).bind (fun r5 =>
 if r5.1 = (0 : Int32) then (some ((-2 : Int32), r5.2))
 else ((f_X1_writeBits 13 (f_X12_keptAt x1 r5.2) (s.1 326 (x2.toNatClampNeg)) r5.2).bind (fun r7 =>
 some (r7.1, r7.2))))
else none))
set_option maxRecDepth 4000 in
set_option maxHeartbeats 1000000 in
theorem C_X12_encode (x1 : Int32) (x2 : Int32) (s : t_S) (r : Int32 × t_S) (hr : f_X12_encode x1 x2 s = some r) : t_C yX12_encode cX12_encode 4 (some .int) 7 [.ref 0, .int x1, .int x2] s (fun v s' => v = some (.int r.1) ∧ s' = r.2) := by
  refine t_C.imp (P := fun v s' => ∃ x, v = some (.int x) ∧ (fun q => q = r) ((x, s'))) (t_C.of (by decide +kernel) (Nat.le_of_ble_eq_true rfl) ?_) (fun v s' hp => by obtain ⟨x, rfl, rfl⟩ := hp; exact ⟨rfl, rfl⟩)
  intro D cy ad bs X
  have hk : t_hk (f_X12_encode x1 x2 s) (fun q => q = r) := ⟨r, hr, rfl⟩
  show mj_G D cy ad bs X cX12_encode 4 yX12_encode.cls (some .int) yX12_encode.name 7 0 0 1065 (t_P (fun v s' => ∃ x, v = some (.int x) ∧ (fun q => q = r) ((x, s')))) 0 [(0, .ref 0), (1, .int x1), (2, .int x2)] [] (t_m s) 1065 0 0
  refine mj_aload_n dX12_encode_0 0 rfl ?_
  refine mj_iload_n dX12_encode_1 1 rfl ?_
  refine t_callViP dX12_encode_2 M_X12_isKept (C_X12_isKept _ _) ML_X12_169 IM_X12_isKept SE_X12_isKept qc_0 rfl (As := [.int x1]) rfl rfl (Nat.le_of_ble_eq_true rfl) (Nat.le_of_ble_eq_true rfl) (Nat.le_of_ble_eq_true rfl) (Nat.le_of_ble_eq_true rfl) ?_
  refine mj_if_eq 16 dX12_encode_5 (by decide) (fun z => t_posK hk z (fun hk => ?_)) (fun z => t_negK hk z (fun hk => ?_))
  · refine mj_iconst (v := (-1)) dX12_encode_16 (by decide) ?_
    exact t_somK hk (fun hf => t_iret dX12_encode_17 rfl rfl ⟨_, rfl, hf⟩ (Nat.le_of_ble_eq_true rfl) (Nat.le_of_ble_eq_true rfl))
  · refine mj_aload_n dX12_encode_8 0 rfl ?_
    refine mj_iload_n dX12_encode_9 2 rfl ?_
    refine t_callViP dX12_encode_10 M_X12_isType (C_X12_isType _ _) ML_X12_196 IM_X12_isType SE_X12_isType qc_0 rfl (As := [.int x2]) rfl rfl (Nat.le_of_ble_eq_true rfl) (Nat.le_of_ble_eq_true rfl) (Nat.le_of_ble_eq_true rfl) (Nat.le_of_ble_eq_true rfl) ?_
    refine mj_if_ne 18 dX12_encode_13 (by decide) (fun z => t_negK hk z (fun hk => ?_)) (fun z => t_posK hk z (fun hk => ?_))
    · refine mj_aload_n dX12_encode_18 0 rfl ?_
      refine t_getR 316 dX12_encode_19 F_X12_26 qr_0_2 ?_
      refine t_getR 326 dX12_encode_22 F_X12_199 qr_316_11 ?_
      refine mj_iload_n dX12_encode_25 2 rfl ?_
      refine t_chkK hk (fun c2 hk => ?_)
      refine t_iald dX12_encode_26 qa_326 (t_ixv c2) ?_
      refine mj_istore_n 3 (lv2 := [(3, .int (s.1 326 (x2.toNatClampNeg))), (0, .ref 0), (1, .int x1), (2, .int x2)]) dX12_encode_27 rfl (by decide) rfl ?_
      refine mj_aload_n dX12_encode_28 1 rfl ?_
      refine t_getR 316 dX12_encode_29 F_X12_26 qr_0_2 ?_
      refine mj_aload_n dX12_encode_32 1 rfl ?_
      refine t_getR 12 dX12_encode_33 F_X12_19 qr_0_1 ?_
      refine t_getR 13 dX12_encode_36 F_X12_173 qr_12_0 ?_
      refine mj_iload_n dX12_encode_39 2 rfl ?_
      refine t_callSiP dX12_encode_40 M_X12_keptAt (C_X12_keptAt _ _) ML_X12_176 SM_X12_keptAt (As := [.int x1]) rfl rfl (Nat.le_of_ble_eq_true rfl) (Nat.le_of_ble_eq_true rfl) (Nat.le_of_ble_eq_true rfl) (Nat.le_of_ble_eq_true rfl) ?_
      refine mj_iload_n dX12_encode_43 0 rfl ?_
      refine t_bndK hk (fun r5 er5 hk => ?_)
      refine t_callViE dX12_encode_44 M_X11_holds (C_X11_holds _ _ _ _ _ er5) ML_X12_203 IM_X11_holds SE_X11_holds qc_316 rfl (As := [.ref 13, .int (f_X12_keptAt x1 s), .int (s.1 326 (x2.toNatClampNeg))]) rfl rfl (Nat.le_of_ble_eq_true rfl) (Nat.le_of_ble_eq_true rfl) (Nat.le_of_ble_eq_true rfl) (Nat.le_of_ble_eq_true rfl) ?_
      refine mj_if_ne 53 dX12_encode_47 (by decide) (fun z => t_negK hk z (fun hk => ?_)) (fun z => t_posK hk z (fun hk => ?_))
      · refine mj_aload_n dX12_encode_53 1 rfl ?_
        refine t_getR 856 dX12_encode_54 F_X12_75 qr_0_7 ?_
        refine mj_aload_n dX12_encode_57 1 rfl ?_
        refine t_getR 12 dX12_encode_58 F_X12_19 qr_0_1 ?_
        refine t_getR 13 dX12_encode_61 F_X12_173 qr_12_0 ?_
        refine mj_iload_n dX12_encode_64 2 rfl ?_
        refine t_callSiP dX12_encode_65 M_X12_keptAt (C_X12_keptAt _ _) ML_X12_176 SM_X12_keptAt (As := [.int x1]) rfl rfl (Nat.le_of_ble_eq_true rfl) (Nat.le_of_ble_eq_true rfl) (Nat.le_of_ble_eq_true rfl) (Nat.le_of_ble_eq_true rfl) ?_
        refine mj_iload_n dX12_encode_68 0 rfl ?_
        refine t_bndK hk (fun r7 er7 hk => ?_)
        refine t_callViE dX12_encode_69 M_X1_writeBits (C_X1_writeBits _ _ _ _ _ er7) ML_X12_248 IM_X1_writeBits SE_X1_writeBits qc_856 rfl (As := [.ref 13, .int (f_X12_keptAt x1 r5.2), .int (s.1 326 (x2.toNatClampNeg))]) rfl rfl (Nat.le_of_ble_eq_true rfl) (Nat.le_of_ble_eq_true rfl) (Nat.le_of_ble_eq_true rfl) (Nat.le_of_ble_eq_true rfl) ?_
        exact t_somK hk (fun hf => t_iret dX12_encode_72 rfl rfl ⟨_, rfl, hf⟩ (Nat.le_of_ble_eq_true rfl) (Nat.le_of_ble_eq_true rfl))
      · refine mj_bipush (v := (-2)) dX12_encode_50 (by decide) ?_
        exact t_somK hk (fun hf => t_iret dX12_encode_52 rfl rfl ⟨_, rfl, hf⟩ (Nat.le_of_ble_eq_true rfl) (Nat.le_of_ble_eq_true rfl))
    · refine mj_iconst (v := (-1)) dX12_encode_16 (by decide) ?_
      exact t_somK hk (fun hf => t_iret dX12_encode_17 rfl rfl ⟨_, rfl, hf⟩ (Nat.le_of_ble_eq_true rfl) (Nat.le_of_ble_eq_true rfl))

theorem dX2_cut_0 : decode cX2_cut 0 = .ok (.iload_n 1, 1) := by decide +kernel
theorem dX2_cut_1 : decode cX2_cut 1 = .ok (.ifCond .lt 18, 3) := by decide +kernel
theorem dX2_cut_10 : decode cX2_cut 10 = .ok (.aload_n 0, 1) := by decide +kernel
theorem dX2_cut_11 : decode cX2_cut 11 = .ok (.getfield 61, 3) := by decide +kernel
theorem dX2_cut_14 : decode cX2_cut 14 = .ok (.bipush 20, 2) := by decide +kernel
theorem dX2_cut_16 : decode cX2_cut 16 = .ok (.if_icmp .ge 5, 3) := by decide +kernel
theorem dX2_cut_19 : decode cX2_cut 19 = .ok (.iconst (-1), 1) := by decide +kernel
theorem dX2_cut_20 : decode cX2_cut 20 = .ok (.ireturn, 1) := by decide +kernel
theorem dX2_cut_21 : decode cX2_cut 21 = .ok (.aload_n 0, 1) := by decide +kernel
theorem dX2_cut_22 : decode cX2_cut 22 = .ok (.aload_n 0, 1) := by decide +kernel
theorem dX2_cut_23 : decode cX2_cut 23 = .ok (.getfield 61, 3) := by decide +kernel
theorem dX2_cut_26 : decode cX2_cut 26 = .ok (.bipush 20, 2) := by decide +kernel
theorem dX2_cut_28 : decode cX2_cut 28 = .ok (.isub, 1) := by decide +kernel
theorem dX2_cut_29 : decode cX2_cut 29 = .ok (.iload_n 1, 1) := by decide +kernel
theorem dX2_cut_30 : decode cX2_cut 30 = .ok (.iadd, 1) := by decide +kernel
theorem dX2_cut_31 : decode cX2_cut 31 = .ok (.putfield 61, 3) := by decide +kernel
theorem dX2_cut_34 : decode cX2_cut 34 = .ok (.aload_n 0, 1) := by decide +kernel
theorem dX2_cut_35 : decode cX2_cut 35 = .ok (.getfield 61, 3) := by decide +kernel
theorem dX2_cut_38 : decode cX2_cut 38 = .ok (.ireturn, 1) := by decide +kernel
theorem dX2_cut_4 : decode cX2_cut 4 = .ok (.iload_n 1, 1) := by decide +kernel
theorem dX2_cut_5 : decode cX2_cut 5 = .ok (.bipush 20, 2) := by decide +kernel
theorem dX2_cut_7 : decode cX2_cut 7 = .ok (.if_icmp .gt 12, 3) := by decide +kernel
noncomputable def f_X2_cut (x1 : Int32) (s : t_S) : Option (Int32 × t_S) :=
 if x1 < (0 : Int32) then (some ((-1 : Int32), s))
 else (if (20 : Int32) < x1 then (some ((-1 : Int32), s))
 else (if (20 : Int32) ≤ (s.1 1 1) then (t_let (t_setI s 1 1 (((s.1 1 1) - (20 : Int32)) + x1)) (fun s1 =>
 some ((s1.1 1 1), s1)))
 else (some ((-1 : Int32), s))))
set_option maxRecDepth 4000 in
set_option maxHeartbeats 1000000 in
theorem C_X2_cut (x1 : Int32) (s : t_S) (r : Int32 × t_S) (hr : f_X2_cut x1 s = some r) : t_C yX2_cut cX2_cut 2 (some .int) 0 [.ref 1, .int x1] s (fun v s' => v = some (.int r.1) ∧ s' = r.2) := by
  refine t_C.imp (P := fun v s' => ∃ x, v = some (.int x) ∧ (fun q => q = r) ((x, s'))) (t_C.of (by decide +kernel) (Nat.le_of_ble_eq_true rfl) ?_) (fun v s' hp => by obtain ⟨x, rfl, rfl⟩ := hp; exact ⟨rfl, rfl⟩)
  intro D cy ad bs X
  have hk : t_hk (f_X2_cut x1 s) (fun q => q = r) := ⟨r, hr, rfl⟩
  show mj_G D cy ad bs X cX2_cut 2 yX2_cut.cls (some .int) yX2_cut.name 0 0 0 1065 (t_P (fun v s' => ∃ x, v = some (.int x) ∧ (fun q => q = r) ((x, s')))) 0 [(0, .ref 1), (1, .int x1)] [] (t_m s) 1065 0 0
  refine mj_iload_n dX2_cut_0 1 rfl ?_
  refine mj_if_lt 19 dX2_cut_1 (by decide) (fun z => t_posK hk z (fun hk => ?_)) (fun z => t_negK hk z (fun hk => ?_))
  · refine mj_iconst (v := (-1)) dX2_cut_19 (by decide) ?_
    exact t_somK hk (fun hf => t_iret dX2_cut_20 rfl rfl ⟨_, rfl, hf⟩ (Nat.le_of_ble_eq_true rfl) (Nat.le_of_ble_eq_true rfl))
  · refine mj_iload_n dX2_cut_4 1 rfl ?_
    refine mj_bipush (v := 20) dX2_cut_5 (by decide) ?_
    refine mj_icmp_gt 19 dX2_cut_7 (by decide) (fun z => t_posK hk z (fun hk => ?_)) (fun z => t_negK hk z (fun hk => ?_))
    · refine mj_iconst (v := (-1)) dX2_cut_19 (by decide) ?_
      exact t_somK hk (fun hf => t_iret dX2_cut_20 rfl rfl ⟨_, rfl, hf⟩ (Nat.le_of_ble_eq_true rfl) (Nat.le_of_ble_eq_true rfl))
    · refine mj_aload_n dX2_cut_10 0 rfl ?_
      refine t_getI dX2_cut_11 F_X2_61 qf_1_1 ?_
      refine mj_bipush (v := 20) dX2_cut_14 (by decide) ?_
      refine mj_icmp_ge 21 dX2_cut_16 (by decide) (fun z => t_posK hk z (fun hk => ?_)) (fun z => t_negK hk z (fun hk => ?_))
      · refine mj_aload_n dX2_cut_21 0 rfl ?_
        refine mj_aload_n dX2_cut_22 0 rfl ?_
        refine t_getI dX2_cut_23 F_X2_61 qf_1_1 ?_
        refine mj_bipush (v := 20) dX2_cut_26 (by decide) ?_
        refine mj_isub dX2_cut_28 ?_
        refine mj_iload_n dX2_cut_29 1 rfl ?_
        refine mj_iadd dX2_cut_30 ?_
        refine t_putIK dX2_cut_31 F_X2_61 qf_1_1 rfl (fun s1 ws1 => t_letE hk ws1 (fun hk => ?_))
        refine mj_aload_n dX2_cut_34 0 rfl ?_
        refine t_getI dX2_cut_35 F_X2_61 qf_1_1 ?_
        exact t_somK hk (fun hf => t_iret dX2_cut_38 rfl rfl ⟨_, rfl, hf⟩ (Nat.le_of_ble_eq_true rfl) (Nat.le_of_ble_eq_true rfl))
      · refine mj_iconst (v := (-1)) dX2_cut_19 (by decide) ?_
        exact t_somK hk (fun hf => t_iret dX2_cut_20 rfl rfl ⟨_, rfl, hf⟩ (Nat.le_of_ble_eq_true rfl) (Nat.le_of_ble_eq_true rfl))

theorem dX12_end_0 : decode cX12_end 0 = .ok (.aload_n 0, 1) := by decide +kernel
theorem dX12_end_1 : decode cX12_end 1 = .ok (.getfield 10, 3) := by decide +kernel
theorem dX12_end_4 : decode cX12_end 4 = .ok (.iload_n 1, 1) := by decide +kernel
theorem dX12_end_5 : decode cX12_end 5 = .ok (.invokevirtual 103, 3) := by decide +kernel
theorem dX12_end_8 : decode cX12_end 8 = .ok (.ireturn, 1) := by decide +kernel
noncomputable def f_X12_end (x1 : Int32) (s : t_S) : Option (Int32 × t_S) :=
 (f_X2_cut x1 s).bind (fun r1 =>
 some (r1.1, r1.2))
set_option maxRecDepth 4000 in
set_option maxHeartbeats 1000000 in
theorem C_X12_end (x1 : Int32) (s : t_S) (r : Int32 × t_S) (hr : f_X12_end x1 s = some r) : t_C yX12_end cX12_end 2 (some .int) 1 [.ref 0, .int x1] s (fun v s' => v = some (.int r.1) ∧ s' = r.2) := by
  refine t_C.imp (P := fun v s' => ∃ x, v = some (.int x) ∧ (fun q => q = r) ((x, s'))) (t_C.of (by decide +kernel) (Nat.le_of_ble_eq_true rfl) ?_) (fun v s' hp => by obtain ⟨x, rfl, rfl⟩ := hp; exact ⟨rfl, rfl⟩)
  intro D cy ad bs X
  have hk : t_hk (f_X12_end x1 s) (fun q => q = r) := ⟨r, hr, rfl⟩
  show mj_G D cy ad bs X cX12_end 2 yX12_end.cls (some .int) yX12_end.name 1 0 0 1065 (t_P (fun v s' => ∃ x, v = some (.int x) ∧ (fun q => q = r) ((x, s')))) 0 [(0, .ref 0), (1, .int x1)] [] (t_m s) 1065 0 0
  refine mj_aload_n dX12_end_0 0 rfl ?_
  refine t_getR 1 dX12_end_1 F_X12_10 qr_0_0 ?_
  refine mj_iload_n dX12_end_4 1 rfl ?_
  refine t_bndK hk (fun r1 er1 hk => ?_)
  refine t_callViE dX12_end_5 M_X2_cut (C_X2_cut _ _ _ er1) ML_X12_103 IM_X2_cut SE_X2_cut qc_1 rfl (As := [.int x1]) rfl rfl (Nat.le_of_ble_eq_true rfl) (Nat.le_of_ble_eq_true rfl) (Nat.le_of_ble_eq_true rfl) (Nat.le_of_ble_eq_true rfl) ?_
  exact t_somK hk (fun hf => t_iret dX12_end_8 rfl rfl ⟨_, rfl, hf⟩ (Nat.le_of_ble_eq_true rfl) (Nat.le_of_ble_eq_true rfl))

