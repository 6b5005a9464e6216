/-! Methods as functions, 44: X2_writeWord, X1_writeName, X1_writeNumber, X1_writeSigns, X1_writeWords, X1_writeText, X12_tell, X12_timer -/
theorem qr_856_0 : t_okr 856 1 0 1 = true := by decide +kernel
theorem dX2_writeWord_0 : decode cX2_writeWord 0 = .ok (.iload_n 1, 1) := by decide +kernel
theorem dX2_writeWord_1 : decode cX2_writeWord 1 = .ok (.ifCond .lt 11, 3) := by decide +kernel
theorem dX2_writeWord_100 : decode cX2_writeWord 100 = .ok (.iinc 5 1, 3) := by decide +kernel
theorem dX2_writeWord_103 : decode cX2_writeWord 103 = .ok (.goto (-83), 3) := by decide +kernel
theorem dX2_writeWord_106 : decode cX2_writeWord 106 = .ok (.iload 4, 2) := by decide +kernel
theorem dX2_writeWord_108 : decode cX2_writeWord 108 = .ok (.ireturn, 1) := by decide +kernel
theorem dX2_writeWord_12 : decode cX2_writeWord 12 = .ok (.iload_n 3, 1) := by decide +kernel
theorem dX2_writeWord_13 : decode cX2_writeWord 13 = .ok (.ireturn, 1) := by decide +kernel
theorem dX2_writeWord_14 : decode cX2_writeWord 14 = .ok (.iload_n 3, 1) := by decide +kernel
theorem dX2_writeWord_15 : decode cX2_writeWord 15 = .ok (.istore 4, 2) := by decide +kernel
theorem dX2_writeWord_17 : decode cX2_writeWord 17 = .ok (.iconst 0, 1) := by decide +kernel
theorem dX2_writeWord_18 : decode cX2_writeWord 18 = .ok (.istore 5, 2) := by decide +kernel
theorem dX2_writeWord_20 : decode cX2_writeWord 20 = .ok (.iload 5, 2) := by decide +kernel
theorem dX2_writeWord_22 : decode cX2_writeWord 22 = .ok (.bipush 12, 2) := by decide +kernel
theorem dX2_writeWord_24 : decode cX2_writeWord 24 = .ok (.if_icmp .ge 82, 3) := by decide +kernel
theorem dX2_writeWord_27 : decode cX2_writeWord 27 = .ok (.iload 5, 2) := by decide +kernel
theorem dX2_writeWord_29 : decode cX2_writeWord 29 = .ok (.bipush 8, 2) := by decide +kernel
theorem dX2_writeWord_31 : decode cX2_writeWord 31 = .ok (.if_icmp .ge 26, 3) := by decide +kernel
theorem dX2_writeWord_34 : decode cX2_writeWord 34 = .ok (.aload_n 0, 1) := by decide +kernel
theorem dX2_writeWord_35 : decode cX2_writeWord 35 = .ok (.getfield 33, 3) := by decide +kernel
theorem dX2_writeWord_38 : decode cX2_writeWord 38 = .ok (.iload_n 1, 1) := by decide +kernel
theorem dX2_writeWord_39 : decode cX2_writeWord 39 = .ok (.laload, 1) := by decide +kernel
theorem dX2_writeWord_4 : decode cX2_writeWord 4 = .ok (.iload_n 1, 1) := by decide +kernel
theorem dX2_writeWord_40 : decode cX2_writeWord 40 = .ok (.bipush 56, 2) := by decide +kernel
theorem dX2_writeWord_42 : decode cX2_writeWord 42 = .ok (.bipush 8, 2) := by decide +kernel
theorem dX2_writeWord_44 : decode cX2_writeWord 44 = .ok (.iload 5, 2) := by decide +kernel
theorem dX2_writeWord_46 : decode cX2_writeWord 46 = .ok (.imul, 1) := by decide +kernel
theorem dX2_writeWord_47 : decode cX2_writeWord 47 = .ok (.isub, 1) := by decide +kernel
theorem dX2_writeWord_48 : decode cX2_writeWord 48 = .ok (.lushr, 1) := by decide +kernel
theorem dX2_writeWord_49 : decode cX2_writeWord 49 = .ok (.l2i, 1) := by decide +kernel
theorem dX2_writeWord_5 : decode cX2_writeWord 5 = .ok (.aload_n 0, 1) := by decide +kernel
theorem dX2_writeWord_50 : decode cX2_writeWord 50 = .ok (.sipush 255, 3) := by decide +kernel
theorem dX2_writeWord_53 : decode cX2_writeWord 53 = .ok (.iand, 1) := by decide +kernel
theorem dX2_writeWord_54 : decode cX2_writeWord 54 = .ok (.goto 22, 3) := by decide +kernel
theorem dX2_writeWord_57 : decode cX2_writeWord 57 = .ok (.aload_n 0, 1) := by decide +kernel
theorem dX2_writeWord_58 : decode cX2_writeWord 58 = .ok (.getfield 36, 3) := by decide +kernel
theorem dX2_writeWord_6 : decode cX2_writeWord 6 = .ok (.getfield 68, 3) := by decide +kernel
theorem dX2_writeWord_61 : decode cX2_writeWord 61 = .ok (.iload_n 1, 1) := by decide +kernel
theorem dX2_writeWord_62 : decode cX2_writeWord 62 = .ok (.iaload, 1) := by decide +kernel
theorem dX2_writeWord_63 : decode cX2_writeWord 63 = .ok (.bipush 88, 2) := by decide +kernel
theorem dX2_writeWord_65 : decode cX2_writeWord 65 = .ok (.bipush 8, 2) := by decide +kernel
theorem dX2_writeWord_67 : decode cX2_writeWord 67 = .ok (.iload 5, 2) := by decide +kernel
theorem dX2_writeWord_69 : decode cX2_writeWord 69 = .ok (.imul, 1) := by decide +kernel
theorem dX2_writeWord_70 : decode cX2_writeWord 70 = .ok (.isub, 1) := by decide +kernel
theorem dX2_writeWord_71 : decode cX2_writeWord 71 = .ok (.iushr, 1) := by decide +kernel
theorem dX2_writeWord_72 : decode cX2_writeWord 72 = .ok (.sipush 255, 3) := by decide +kernel
theorem dX2_writeWord_75 : decode cX2_writeWord 75 = .ok (.iand, 1) := by decide +kernel
theorem dX2_writeWord_76 : decode cX2_writeWord 76 = .ok (.istore 6, 2) := by decide +kernel
theorem dX2_writeWord_78 : decode cX2_writeWord 78 = .ok (.iload 6, 2) := by decide +kernel
theorem dX2_writeWord_80 : decode cX2_writeWord 80 = .ok (.ifCond .eq 20, 3) := by decide +kernel
theorem dX2_writeWord_83 : decode cX2_writeWord 83 = .ok (.iload 4, 2) := by decide +kernel
theorem dX2_writeWord_85 : decode cX2_writeWord 85 = .ok (.aload_n 2, 1) := by decide +kernel
theorem dX2_writeWord_86 : decode cX2_writeWord 86 = .ok (.arraylength, 1) := by decide +kernel
theorem dX2_writeWord_87 : decode cX2_writeWord 87 = .ok (.if_icmp .ge 13, 3) := by decide +kernel
theorem dX2_writeWord_9 : decode cX2_writeWord 9 = .ok (.if_icmp .lt 5, 3) := by decide +kernel
theorem dX2_writeWord_90 : decode cX2_writeWord 90 = .ok (.aload_n 2, 1) := by decide +kernel
theorem dX2_writeWord_91 : decode cX2_writeWord 91 = .ok (.iload 4, 2) := by decide +kernel
theorem dX2_writeWord_93 : decode cX2_writeWord 93 = .ok (.iload 6, 2) := by decide +kernel
theorem dX2_writeWord_95 : decode cX2_writeWord 95 = .ok (.i2b, 1) := by decide +kernel
theorem dX2_writeWord_96 : decode cX2_writeWord 96 = .ok (.bastore, 1) := by decide +kernel
theorem dX2_writeWord_97 : decode cX2_writeWord 97 = .ok (.iinc 4 1, 3) := by decide +kernel
noncomputable def k_X2_writeWord_100 (l1 : Int32) (l2 : Nat) (l4 : Int32) (l5 : Int32) (s : t_S) : Option ((Int32 × Nat × Int32 × Int32 × t_S) ⊕ (Int32 × t_S)) :=
 some (.inl (l1, l2, l4, (l5 + 1), s))
set_option maxRecDepth 4000 in
set_option maxHeartbeats 1000000 in
theorem B_X2_writeWord_100 {D : va_G} {cy : Nat → ClassId} {ad : Nat → Nat} {bs : Nat} {X : State → Heap → Prop} (l1 : Int32) (l2 : Nat) (l4 : Int32) (l5 : Int32) (s : t_S) (Q : (Int32 × Nat × Int32 × Int32 × t_S) ⊕ (Int32 × t_S) → Prop) (Hb20 : ∀ (y0 : Int32) (y1 : Nat) (y2 : Int32) (y3 : Int32) (y4 : t_S), Q (.inl (y0, y1, y2, y3, y4)) → mj_G D cy ad bs X cX2_writeWord 7 yX2_writeWord.cls (some .int) yX2_writeWord.name 0 0 0 1065 (t_P (fun v s' => ∃ x, v = some (.int x) ∧ Q (.inr ((x, s'))))) 20 [(0, .ref 1), (1, .int (y0)), (2, .ref (y1)), (4, .int (y2)), (5, .int (y3))] [] (t_m y4) 1065 0 0) (hk : t_hk (k_X2_writeWord_100 l1 l2 l4 l5 s) Q) : mj_G D cy ad bs X cX2_writeWord 7 yX2_writeWord.cls (some .int) yX2_writeWord.name 0 0 0 1065 (t_P (fun v s' => ∃ x, v = some (.int x) ∧ Q (.inr ((x, s'))))) 100 [(0, .ref 1), (1, .int l1), (2, .ref l2), (4, .int l4), (5, .int l5)] [] (t_m s) 1065 0 0 := by
  refine mj_iinc (k := 4) (v := (l5 + 1)) (lv2 := [(5, .int (l5 + 1)), (0, .ref 1), (1, .int l1), (2, .ref l2), (4, .int l4)]) dX2_writeWord_100 rfl rfl (by decide) rfl ?_
  refine mj_goto 20 dX2_writeWord_103 (by decide) ?_
  refine mj_sublv [(0, .ref 1), (1, .int l1), (2, .ref l2), (4, .int l4), (5, .int (l5 + 1))] [1, 2, 3, 4, 0] rfl ?_
  exact t_somK hk (fun hf => Hb20 l1 l2 l4 (l5 + 1) s hf)
noncomputable def k_X2_writeWord_76 (l1 : Int32) (l2 : Nat) (l4 : Int32) (l5 : Int32) (k0 : Int32) (s : t_S) : Option ((Int32 × Nat × Int32 × Int32 × t_S) ⊕ (Int32 × t_S)) :=
 if k0 = (0 : Int32) then (k_X2_writeWord_100 l1 l2 l4 l5 s)
 else (if t_oka l2 0 (t_ln l2) = true then
  if (Int32.ofNat (t_ln l2)) ≤ l4 then (k_X2_writeWord_100 l1 l2 l4 l5 s)
 else (if t_ix l4 (t_ln l2) = true then
  t_let (t_setI s l2 (l4.toNatClampNeg) (k0.toInt8.toInt32.toInt8.toInt32)) (fun s1 =>
 k_X2_writeWord_100 l1 l2 (l4 + 1) l5 s1)
else none)
else none)
set_option maxRecDepth 4000 in
set_option maxHeartbeats 1000000 in
theorem B_X2_writeWord_76 {D : va_G} {cy : Nat → ClassId} {ad : Nat → Nat} {bs : Nat} {X : State → Heap → Prop} (l1 : Int32) (l2 : Nat) (l4 : Int32) (l5 : Int32) (k0 : Int32) (s : t_S) (Q : (Int32 × Nat × Int32 × Int32 × t_S) ⊕ (Int32 × t_S) → Prop) (Hb20 : ∀ (y0 : Int32) (y1 : Nat) (y2 : Int32) (y3 : Int32) (y4 : t_S), Q (.inl (y0, y1, y2, y3, y4)) → mj_G D cy ad bs X cX2_writeWord 7 yX2_writeWord.cls (some .int) yX2_writeWord.name 0 0 0 1065 (t_P (fun v s' => ∃ x, v = some (.int x) ∧ Q (.inr ((x, s'))))) 20 [(0, .ref 1), (1, .int (y0)), (2, .ref (y1)), (4, .int (y2)), (5, .int (y3))] [] (t_m y4) 1065 0 0) (hk : t_hk (k_X2_writeWord_76 l1 l2 l4 l5 k0 s) Q) : mj_G D cy ad bs X cX2_writeWord 7 yX2_writeWord.cls (some .int) yX2_writeWord.name 0 0 0 1065 (t_P (fun v s' => ∃ x, v = some (.int x) ∧ Q (.inr ((x, s'))))) 76 [(0, .ref 1), (1, .int l1), (2, .ref l2), (4, .int l4), (5, .int l5)] [.int k0] (t_m s) 1065 0 0 := by
  refine mj_istore (lv2 := [(6, .int k0), (0, .ref 1), (1, .int l1), (2, .ref l2), (4, .int l4), (5, .int l5)]) dX2_writeWord_76 (by decide) rfl ?_
  refine mj_iload dX2_writeWord_78 0 rfl ?_
  refine mj_if_eq 100 dX2_writeWord_80 (by decide) (fun z => t_posK hk z (fun hk => ?_)) (fun z => t_negK hk z (fun hk => ?_))
  · refine mj_sublv [(0, .ref 1), (1, .int l1), (2, .ref l2), (4, .int l4), (5, .int l5)] [1, 2, 3, 4, 5] rfl ?_
    exact B_X2_writeWord_100 _ _ _ _ _ _ (fun y0 y1 y2 y3 y4 hx => Hb20 y0 y1 y2 y3 y4 hx) hk
  · refine mj_iload dX2_writeWord_83 4 rfl ?_
    refine mj_aload_n dX2_writeWord_85 3 rfl ?_
    refine t_chkK hk (fun c0 hk => ?_)
    refine t_alen0 (v := (Int32.ofNat (t_ln l2))) dX2_writeWord_86 c0 rfl ?_
    refine mj_icmp_ge 100 dX2_writeWord_87 (by decide) (fun z => t_posK hk z (fun hk => ?_)) (fun z => t_negK hk z (fun hk => ?_))
    · refine mj_sublv [(0, .ref 1), (1, .int l1), (2, .ref l2), (4, .int l4), (5, .int l5)] [1, 2, 3, 4, 5] rfl ?_
      exact B_X2_writeWord_100 _ _ _ _ _ _ (fun y0 y1 y2 y3 y4 hx => Hb20 y0 y1 y2 y3 y4 hx) hk
    · refine mj_aload_n dX2_writeWord_90 3 rfl ?_
      refine mj_iload dX2_writeWord_91 4 rfl ?_
      refine mj_iload dX2_writeWord_93 0 rfl ?_
      refine mj_i2b (v := k0.toInt8.toInt32) dX2_writeWord_95 rfl ?_
      refine t_chkK hk (fun c1 hk => ?_)
      refine t_bastK dX2_writeWord_96 c0 (t_ixv c1) (fun s1 ws1 => t_letE hk ws1 (fun hk => ?_))
      refine mj_iinc (k := 4) (v := (l4 + 1)) (lv2 := [(4, .int (l4 + 1)), (6, .int k0), (0, .ref 1), (1, .int l1), (2, .ref l2), (5, .int l5)]) dX2_writeWord_97 rfl rfl (by decide) rfl ?_
      refine mj_sublv [(0, .ref 1), (1, .int l1), (2, .ref l2), (4, .int (l4 + 1)), (5, .int l5)] [2, 3, 4, 0, 5] rfl ?_
      exact B_X2_writeWord_100 _ _ _ _ _ _ (fun y0 y1 y2 y3 y4 hx => Hb20 y0 y1 y2 y3 y4 hx) hk
noncomputable def k_X2_writeWord_20 (l1 : Int32) (l2 : Nat) (l4 : Int32) (l5 : Int32) (s : t_S) : Option ((Int32 × Nat × Int32 × Int32 × t_S) ⊕ (Int32 × t_S)) :=
 if (12 : Int32) ≤ l5 then ((some (l4, s)).map Sum.inr)
 else (if (8 : Int32) ≤ l5 then (if t_ix l1 8000 = true then
  k_X2_writeWord_76 l1 l2 l4 l5 ((((s.1 9 (l1.toNatClampNeg)).toUInt32 >>> (((88 : Int32) - ((8 : Int32) * l5)).toUInt32 &&& Int32.toUInt32 31)).toInt32) &&& (255 : Int32)) s
else none)
 else (if t_ix l1 8000 = true then
  k_X2_writeWord_76 l1 l2 l4 l5 (((((s.2.1 8 (l1.toNatClampNeg)).toUInt64 >>> (((56 : Int32) - ((8 : Int32) * l5)).toInt64.toUInt64 &&& Int64.toUInt64 63)).toInt64).toInt32) &&& (255 : Int32)) s
else none))
set_option maxRecDepth 4000 in
set_option maxHeartbeats 1000000 in
theorem B_X2_writeWord_20 {D : va_G} {cy : Nat → ClassId} {ad : Nat → Nat} {bs : Nat} {X : State → Heap → Prop} (l1 : Int32) (l2 : Nat) (l4 : Int32) (l5 : Int32) (s : t_S) (Q : (Int32 × Nat × Int32 × Int32 × t_S) ⊕ (Int32 × t_S) → Prop) (Hb20 : ∀ (y0 : Int32) (y1 : Nat) (y2 : Int32) (y3 : Int32) (y4 : t_S), Q (.inl (y0, y1, y2, y3, y4)) → mj_G D cy ad bs X cX2_writeWord 7 yX2_writeWord.cls (some .int) yX2_writeWord.name 0 0 0 1065 (t_P (fun v s' => ∃ x, v = some (.int x) ∧ Q (.inr ((x, s'))))) 20 [(0, .ref 1), (1, .int (y0)), (2, .ref (y1)), (4, .int (y2)), (5, .int (y3))] [] (t_m y4) 1065 0 0) (hk : t_hk (k_X2_writeWord_20 l1 l2 l4 l5 s) Q) : mj_G D cy ad bs X cX2_writeWord 7 yX2_writeWord.cls (some .int) yX2_writeWord.name 0 0 0 1065 (t_P (fun v s' => ∃ x, v = some (.int x) ∧ Q (.inr ((x, s'))))) 20 [(0, .ref 1), (1, .int l1), (2, .ref l2), (4, .int l4), (5, .int l5)] [] (t_m s) 1065 0 0 := by
  refine mj_iload dX2_writeWord_20 4 rfl ?_
  refine mj_bipush (v := 12) dX2_writeWord_22 (by decide) ?_
  refine mj_icmp_ge 106 dX2_writeWord_24 (by decide) (fun z => t_posK hk z (fun hk => ?_)) (fun z => t_negK hk z (fun hk => ?_))
  · refine t_mapK hk (fun hk => ?_)
    refine mj_iload dX2_writeWord_106 3 rfl ?_
    exact t_somK hk (fun hf => t_iret dX2_writeWord_108 rfl rfl ⟨_, rfl, hf⟩ (Nat.le_of_ble_eq_true rfl) (Nat.le_of_ble_eq_true rfl))
  · refine mj_iload dX2_writeWord_27 4 rfl ?_
    refine mj_bipush (v := 8) dX2_writeWord_29 (by decide) ?_
    refine mj_icmp_ge 57 dX2_writeWord_31 (by decide) (fun z => t_posK hk z (fun hk => ?_)) (fun z => t_negK hk z (fun hk => ?_))
    · refine mj_aload_n dX2_writeWord_57 0 rfl ?_
      refine t_getR 9 dX2_writeWord_58 F_X2_36 qr_1_17 ?_
      refine mj_iload_n dX2_writeWord_61 1 rfl ?_
      refine t_chkK hk (fun c0 hk => ?_)
      refine t_iald dX2_writeWord_62 qa_9 (t_ixv c0) ?_
      refine mj_bipush (v := 88) dX2_writeWord_63 (by decide) ?_
      refine mj_bipush (v := 8) dX2_writeWord_65 (by decide) ?_
      refine mj_iload dX2_writeWord_67 4 rfl ?_
      refine mj_imul dX2_writeWord_69 ?_
      refine mj_isub dX2_writeWord_70 ?_
      refine mj_iushr dX2_writeWord_71 rfl ?_
      refine mj_sipush (v := 255) dX2_writeWord_72 (by decide) ?_
      refine mj_iand dX2_writeWord_75 ?_
      exact B_X2_writeWord_76 _ _ _ _ _ _ _ (fun y0 y1 y2 y3 y4 hx => Hb20 y0 y1 y2 y3 y4 hx) hk
    · refine mj_aload_n dX2_writeWord_34 0 rfl ?_
      refine t_getR 8 dX2_writeWord_35 F_X2_33 qr_1_16 ?_
      refine mj_iload_n dX2_writeWord_38 1 rfl ?_
      refine t_chkK hk (fun c1 hk => ?_)
      refine t_lald dX2_writeWord_39 qa_8 (t_ixv c1) ?_
      refine mj_bipush (v := 56) dX2_writeWord_40 (by decide) ?_
      refine mj_bipush (v := 8) dX2_writeWord_42 (by decide) ?_
      refine mj_iload dX2_writeWord_44 4 rfl ?_
      refine mj_imul dX2_writeWord_46 ?_
      refine mj_isub dX2_writeWord_47 ?_
      refine mj_lushr dX2_writeWord_48 rfl ?_
      refine mj_l2i (v := (((s.2.1 8 (l1.toNatClampNeg)).toUInt64 >>> (((56 : Int32) - ((8 : Int32) * l5)).toInt64.toUInt64 &&& Int64.toUInt64 63)).toInt64).toInt32) dX2_writeWord_49 rfl ?_
      refine mj_sipush (v := 255) dX2_writeWord_50 (by decide) ?_
      refine mj_iand dX2_writeWord_53 ?_
      refine mj_goto 76 dX2_writeWord_54 (by decide) ?_
      exact B_X2_writeWord_76 _ _ _ _ _ _ _ (fun y0 y1 y2 y3 y4 hx => Hb20 y0 y1 y2 y3 y4 hx) hk
noncomputable def b_X2_writeWord_20 (x : Int32 × Nat × Int32 × Int32 × t_S) : Option ((Int32 × Nat × Int32 × Int32 × t_S) ⊕ (Int32 × t_S)) := k_X2_writeWord_20 x.1 x.2.1 x.2.2.1 x.2.2.2.1 x.2.2.2.2
set_option maxRecDepth 4000 in
set_option maxHeartbeats 1000000 in
theorem LH_X2_writeWord_20 {D : va_G} {cy : Nat → ClassId} {ad : Nat → Nat} {bs : Nat} {X : State → Heap → Prop} : ∀ (n : Nat) (y0 : Int32) (y1 : Nat) (y2 : Int32) (y3 : Int32) (y4 : t_S) (Q : Int32 × t_S → Prop) (hk : t_hk (t_loop (b_X2_writeWord_20) n (y0, y1, y2, y3, y4)) Q), mj_G D cy ad bs X cX2_writeWord 7 yX2_writeWord.cls (some .int) yX2_writeWord.name 0 0 0 1065 (t_P (fun v s' => ∃ x, v = some (.int x) ∧ Q ((x, s')))) 20 [(0, .ref 1), (1, .int (y0)), (2, .ref (y1)), (4, .int (y2)), (5, .int (y3))] [] (t_m y4) 1065 0 0 := by
  intro n
  induction n with
  | zero => intro y0 y1 y2 y3 y4 Q hk; obtain ⟨r, hr, _⟩ := hk; cases hr
  | succ n ih =>
    intro y0 y1 y2 y3 y4 Q hk
    exact B_X2_writeWord_20 y0 y1 y2 y3 y4 (fun y => t_lq (b_X2_writeWord_20) n Q y) (fun y0' y1' y2' y3' y4' hy => ih y0' y1' y2' y3' y4' Q hy) (t_lp hk)
noncomputable def f_X2_writeWord (x1 : Int32) (x2 : Nat) (x3 : Int32) (s : t_S) : Option (Int32 × t_S) :=
 if x1 < (0 : Int32) then (some (x3, s))
 else (if x1 < (s.1 1 13) then (t_loop (b_X2_writeWord_20) t_N (x1, x2, x3, 0, s))
 else (some (x3, s)))
set_option maxRecDepth 4000 in
set_option maxHeartbeats 1000000 in
theorem C_X2_writeWord (x1 : Int32) (x2 : Nat) (x3 : Int32) (s : t_S) (r : Int32 × t_S) (hr : f_X2_writeWord x1 x2 x3 s = some r) : t_C yX2_writeWord cX2_writeWord 7 (some .int) 0 [.ref 1, .int x1, .ref x2, .int x3] s (fun v s' => v = some (.int r.1) ∧ s' = r.2) := by
  refine t_C.imp (P := fun v s' => ∃ x, v = some (.int x) ∧ (fun q => q = r) ((x, s'))) (t_C.of (by decide +kernel) (Nat.le_of_ble_eq_true rfl) ?_) (fun v s' hp => by obtain ⟨x, rfl, rfl⟩ := hp; exact ⟨rfl, rfl⟩)
  intro D cy ad bs X
  have hk : t_hk (f_X2_writeWord x1 x2 x3 s) (fun q => q = r) := ⟨r, hr, rfl⟩
  show mj_G D cy ad bs X cX2_writeWord 7 yX2_writeWord.cls (some .int) yX2_writeWord.name 0 0 0 1065 (t_P (fun v s' => ∃ x, v = some (.int x) ∧ (fun q => q = r) ((x, s')))) 0 [(0, .ref 1), (1, .int x1), (2, .ref x2), (3, .int x3)] [] (t_m s) 1065 0 0
  refine mj_iload_n dX2_writeWord_0 1 rfl ?_
  refine mj_if_lt 12 dX2_writeWord_1 (by decide) (fun z => t_posK hk z (fun hk => ?_)) (fun z => t_negK hk z (fun hk => ?_))
  · refine mj_iload_n dX2_writeWord_12 3 rfl ?_
    exact t_somK hk (fun hf => t_iret dX2_writeWord_13 rfl rfl ⟨_, rfl, hf⟩ (Nat.le_of_ble_eq_true rfl) (Nat.le_of_ble_eq_true rfl))
  · refine mj_iload_n dX2_writeWord_4 1 rfl ?_
    refine mj_aload_n dX2_writeWord_5 0 rfl ?_
    refine t_getI dX2_writeWord_6 F_X2_68 qf_1_13 ?_
    refine mj_icmp_lt 14 dX2_writeWord_9 (by decide) (fun z => t_posK hk z (fun hk => ?_)) (fun z => t_negK hk z (fun hk => ?_))
    · refine mj_iload_n dX2_writeWord_14 3 rfl ?_
      refine mj_istore (lv2 := [(4, .int x3), (0, .ref 1), (1, .int x1), (2, .ref x2), (3, .int x3)]) dX2_writeWord_15 (by decide) rfl ?_
      refine mj_iconst (v := 0) dX2_writeWord_17 (by decide) ?_
      refine mj_istore (lv2 := [(5, .int 0), (4, .int x3), (0, .ref 1), (1, .int x1), (2, .ref x2), (3, .int x3)]) dX2_writeWord_18 (by decide) rfl ?_
      refine mj_sublv [(0, .ref 1), (1, .int x1), (2, .ref x2), (4, .int x3), (5, .int 0)] [2, 3, 4, 1, 0] rfl ?_
      exact LH_X2_writeWord_20 _ x1 x2 x3 0 s _ hk
    · refine mj_iload_n dX2_writeWord_12 3 rfl ?_
      exact t_somK hk (fun hf => t_iret dX2_writeWord_13 rfl rfl ⟨_, rfl, hf⟩ (Nat.le_of_ble_eq_true rfl) (Nat.le_of_ble_eq_true rfl))

theorem dX1_writeName_0 : decode cX1_writeName 0 = .ok (.aload_n 0, 1) := by decide +kernel
theorem dX1_writeName_1 : decode cX1_writeName 1 = .ok (.aload_n 0, 1) := by decide +kernel
theorem dX1_writeName_10 : decode cX1_writeName 10 = .ok (.aload_n 0, 1) := by decide +kernel
theorem dX1_writeName_11 : decode cX1_writeName 11 = .ok (.getfield 43, 3) := by decide +kernel
theorem dX1_writeName_14 : decode cX1_writeName 14 = .ok (.invokevirtual 107, 3) := by decide +kernel
theorem dX1_writeName_17 : decode cX1_writeName 17 = .ok (.putfield 43, 3) := by decide +kernel
theorem dX1_writeName_2 : decode cX1_writeName 2 = .ok (.getfield 35, 3) := by decide +kernel
theorem dX1_writeName_20 : decode cX1_writeName 20 = .ok (.return_, 1) := by decide +kernel
theorem dX1_writeName_5 : decode cX1_writeName 5 = .ok (.iload_n 1, 1) := by decide +kernel
theorem dX1_writeName_6 : decode cX1_writeName 6 = .ok (.aload_n 0, 1) := by decide +kernel
theorem dX1_writeName_7 : decode cX1_writeName 7 = .ok (.getfield 9, 3) := by decide +kernel
noncomputable def f_X1_writeName (x1 : Int32) (s : t_S) : Option (t_S) :=
 (f_X2_writeWord x1 857 (s.1 856 3) s).bind (fun r1 =>
 t_let (t_setI r1.2 856 3 r1.1) (fun s1 =>
 some (s1)))
set_option maxRecDepth 4000 in
set_option maxHeartbeats 1000000 in
theorem C_X1_writeName (x1 : Int32) (s : t_S) (r : t_S) (hr : f_X1_writeName x1 s = some r) : t_C yX1_writeName cX1_writeName 2 none 1 [.ref 856, .int x1] s (fun v s' => v = none ∧ s' = r) := by
  refine t_C.imp (P := fun v s' => v = none ∧ (fun q => q = r) (s')) (t_C.of (by decide +kernel) (Nat.le_of_ble_eq_true rfl) ?_) (fun v s' hp => hp)
  intro D cy ad bs X
  have hk : t_hk (f_X1_writeName x1 s) (fun q => q = r) := ⟨r, hr, rfl⟩
  show mj_G D cy ad bs X cX1_writeName 2 yX1_writeName.cls none yX1_writeName.name 1 0 0 1065 (t_P (fun v s' => v = none ∧ (fun q => q = r) (s'))) 0 [(0, .ref 856), (1, .int x1)] [] (t_m s) 1065 0 0
  refine mj_aload_n dX1_writeName_0 0 rfl ?_
  refine mj_aload_n dX1_writeName_1 0 rfl ?_
  refine t_getR 1 dX1_writeName_2 F_X1_35 qr_856_0 ?_
  refine mj_iload_n dX1_writeName_5 1 rfl ?_
  refine mj_aload_n dX1_writeName_6 0 rfl ?_
  refine t_getR 857 dX1_writeName_7 F_X1_9 qr_856_2 ?_
  refine mj_aload_n dX1_writeName_10 0 rfl ?_
  refine t_getI dX1_writeName_11 F_X1_43 qf_856_3 ?_
  refine t_bndK hk (fun r1 er1 hk => ?_)
  refine t_callViE dX1_writeName_14 M_X2_writeWord (C_X2_writeWord _ _ _ _ _ er1) ML_X1_107 IM_X2_writeWord SE_X2_writeWord qc_1 rfl (As := [.int x1, .ref 857, .int (s.1 856 3)]) rfl rfl (Nat.le_of_ble_eq_true rfl) (Nat.le_of_ble_eq_true rfl) (Nat.le_of_ble_eq_true rfl) (Nat.le_of_ble_eq_true rfl) ?_
  refine t_putIK dX1_writeName_17 F_X1_43 qf_856_3 rfl (fun s1 ws1 => t_letE hk ws1 (fun hk => ?_))
  exact t_somK hk (fun hf => t_vret dX1_writeName_20 rfl ⟨rfl, hf⟩ (Nat.le_of_ble_eq_true rfl) (Nat.le_of_ble_eq_true rfl))

theorem dX1_writeNumber_0 : decode cX1_writeNumber 0 = .ok (.lload_n 1, 1) := by decide +kernel
theorem dX1_writeNumber_1 : decode cX1_writeNumber 1 = .ok (.lconst 0, 1) := by decide +kernel
theorem dX1_writeNumber_102 : decode cX1_writeNumber 102 = .ok (.return_, 1) := by decide +kernel
theorem dX1_writeNumber_12 : decode cX1_writeNumber 12 = .ok (.lload_n 1, 1) := by decide +kernel
theorem dX1_writeNumber_13 : decode cX1_writeNumber 13 = .ok (.invokestatic 120, 3) := by decide +kernel
theorem dX1_writeNumber_16 : decode cX1_writeNumber 16 = .ok (.lstore_n 3, 1) := by decide +kernel
theorem dX1_writeNumber_17 : decode cX1_writeNumber 17 = .ok (.lconst 1, 1) := by decide +kernel
theorem dX1_writeNumber_18 : decode cX1_writeNumber 18 = .ok (.lstore 5, 2) := by decide +kernel
theorem dX1_writeNumber_2 : decode cX1_writeNumber 2 = .ok (.lcmp, 1) := by decide +kernel
theorem dX1_writeNumber_20 : decode cX1_writeNumber 20 = .ok (.iconst 0, 1) := by decide +kernel
theorem dX1_writeNumber_21 : decode cX1_writeNumber 21 = .ok (.istore 7, 2) := by decide +kernel
theorem dX1_writeNumber_23 : decode cX1_writeNumber 23 = .ok (.iload 7, 2) := by decide +kernel
theorem dX1_writeNumber_25 : decode cX1_writeNumber 25 = .ok (.bipush 17, 2) := by decide +kernel
theorem dX1_writeNumber_27 : decode cX1_writeNumber 27 = .ok (.if_icmp .ge 28, 3) := by decide +kernel
theorem dX1_writeNumber_3 : decode cX1_writeNumber 3 = .ok (.ifCond .ge 9, 3) := by decide +kernel
theorem dX1_writeNumber_30 : decode cX1_writeNumber 30 = .ok (.lload_n 3, 1) := by decide +kernel
theorem dX1_writeNumber_31 : decode cX1_writeNumber 31 = .ok (.lload 5, 2) := by decide +kernel
theorem dX1_writeNumber_33 : decode cX1_writeNumber 33 = .ok (.ldiv, 1) := by decide +kernel
theorem dX1_writeNumber_34 : decode cX1_writeNumber 34 = .ok (.ldc2_w 125, 3) := by decide +kernel
theorem dX1_writeNumber_37 : decode cX1_writeNumber 37 = .ok (.lcmp, 1) := by decide +kernel
theorem dX1_writeNumber_38 : decode cX1_writeNumber 38 = .ok (.ifCond .lt 17, 3) := by decide +kernel
theorem dX1_writeNumber_41 : decode cX1_writeNumber 41 = .ok (.lload 5, 2) := by decide +kernel
theorem dX1_writeNumber_43 : decode cX1_writeNumber 43 = .ok (.ldc2_w 125, 3) := by decide +kernel
theorem dX1_writeNumber_46 : decode cX1_writeNumber 46 = .ok (.lmul, 1) := by decide +kernel
theorem dX1_writeNumber_47 : decode cX1_writeNumber 47 = .ok (.lstore 5, 2) := by decide +kernel
theorem dX1_writeNumber_49 : decode cX1_writeNumber 49 = .ok (.iinc 7 1, 3) := by decide +kernel
theorem dX1_writeNumber_52 : decode cX1_writeNumber 52 = .ok (.goto (-29), 3) := by decide +kernel
theorem dX1_writeNumber_55 : decode cX1_writeNumber 55 = .ok (.iconst 0, 1) := by decide +kernel
theorem dX1_writeNumber_56 : decode cX1_writeNumber 56 = .ok (.istore 7, 2) := by decide +kernel
theorem dX1_writeNumber_58 : decode cX1_writeNumber 58 = .ok (.iload 7, 2) := by decide +kernel
theorem dX1_writeNumber_6 : decode cX1_writeNumber 6 = .ok (.aload_n 0, 1) := by decide +kernel
theorem dX1_writeNumber_60 : decode cX1_writeNumber 60 = .ok (.bipush 18, 2) := by decide +kernel
theorem dX1_writeNumber_62 : decode cX1_writeNumber 62 = .ok (.if_icmp .ge 40, 3) := by decide +kernel
theorem dX1_writeNumber_65 : decode cX1_writeNumber 65 = .ok (.lload 5, 2) := by decide +kernel
theorem dX1_writeNumber_67 : decode cX1_writeNumber 67 = .ok (.lconst 0, 1) := by decide +kernel
theorem dX1_writeNumber_68 : decode cX1_writeNumber 68 = .ok (.lcmp, 1) := by decide +kernel
theorem dX1_writeNumber_69 : decode cX1_writeNumber 69 = .ok (.ifCond .le 33, 3) := by decide +kernel
theorem dX1_writeNumber_7 : decode cX1_writeNumber 7 = .ok (.bipush 45, 2) := by decide +kernel
theorem dX1_writeNumber_72 : decode cX1_writeNumber 72 = .ok (.aload_n 0, 1) := by decide +kernel
theorem dX1_writeNumber_73 : decode cX1_writeNumber 73 = .ok (.bipush 48, 2) := by decide +kernel
theorem dX1_writeNumber_75 : decode cX1_writeNumber 75 = .ok (.lload_n 3, 1) := by decide +kernel
theorem dX1_writeNumber_76 : decode cX1_writeNumber 76 = .ok (.lload 5, 2) := by decide +kernel
theorem dX1_writeNumber_78 : decode cX1_writeNumber 78 = .ok (.ldiv, 1) := by decide +kernel
theorem dX1_writeNumber_79 : decode cX1_writeNumber 79 = .ok (.ldc2_w 125, 3) := by decide +kernel
theorem dX1_writeNumber_82 : decode cX1_writeNumber 82 = .ok (.lrem, 1) := by decide +kernel
theorem dX1_writeNumber_83 : decode cX1_writeNumber 83 = .ok (.l2i, 1) := by decide +kernel
theorem dX1_writeNumber_84 : decode cX1_writeNumber 84 = .ok (.iadd, 1) := by decide +kernel
theorem dX1_writeNumber_85 : decode cX1_writeNumber 85 = .ok (.invokevirtual 86, 3) := by decide +kernel
theorem dX1_writeNumber_88 : decode cX1_writeNumber 88 = .ok (.lload 5, 2) := by decide +kernel
theorem dX1_writeNumber_9 : decode cX1_writeNumber 9 = .ok (.invokevirtual 86, 3) := by decide +kernel
theorem dX1_writeNumber_90 : decode cX1_writeNumber 90 = .ok (.ldc2_w 125, 3) := by decide +kernel
theorem dX1_writeNumber_93 : decode cX1_writeNumber 93 = .ok (.ldiv, 1) := by decide +kernel
theorem dX1_writeNumber_94 : decode cX1_writeNumber 94 = .ok (.lstore 5, 2) := by decide +kernel
theorem dX1_writeNumber_96 : decode cX1_writeNumber 96 = .ok (.iinc 7 1, 3) := by decide +kernel
theorem dX1_writeNumber_99 : decode cX1_writeNumber 99 = .ok (.goto (-41), 3) := by decide +kernel
noncomputable def k_X1_writeNumber_58 (l3 : Int64) (l5 : Int64) (l7 : Int32) (s : t_S) : Option ((Int64 × Int64 × Int32 × t_S) ⊕ (t_S)) :=
 if (18 : Int32) ≤ l7 then ((some (s)).map Sum.inr)
 else (if (lg_cmp l5 (0 : Int64)) ≤ (0 : Int32) then ((some (s)).map Sum.inr)
 else (if ¬ l5 = 0 then
  (f_X1_writeSign ((48 : Int32) + (((l3 / l5) - (l3 / l5) / (10 : Int64) * (10 : Int64)).toInt32)) s).bind (fun r2 =>
 some (.inl (l3, (l5 / (10 : Int64)), (l7 + 1), r2)))
else none))
set_option maxRecDepth 4000 in
set_option maxHeartbeats 1000000 in
theorem B_X1_writeNumber_58 {D : va_G} {cy : Nat → ClassId} {ad : Nat → Nat} {bs : Nat} {X : State → Heap → Prop} (l3 : Int64) (l5 : Int64) (l7 : Int32) (s : t_S) (Q : (Int64 × Int64 × Int32 × t_S) ⊕ (t_S) → Prop) (Hb58 : ∀ (y0 : Int64) (y1 : Int64) (y2 : Int32) (y3 : t_S), Q (.inl (y0, y1, y2, y3)) → mj_G D cy ad bs X cX1_writeNumber 8 yX1_writeNumber.cls none yX1_writeNumber.name 1 0 0 1065 (t_P (fun v s' => v = none ∧ Q (.inr (s')))) 58 [(0, .ref 856), (3, .long (y0)), (5, .long (y1)), (7, .int (y2))] [] (t_m y3) 1065 0 0) (hk : t_hk (k_X1_writeNumber_58 l3 l5 l7 s) Q) : mj_G D cy ad bs X cX1_writeNumber 8 yX1_writeNumber.cls none yX1_writeNumber.name 1 0 0 1065 (t_P (fun v s' => v = none ∧ Q (.inr (s')))) 58 [(0, .ref 856), (3, .long l3), (5, .long l5), (7, .int l7)] [] (t_m s) 1065 0 0 := by
  refine mj_iload dX1_writeNumber_58 3 rfl ?_
  refine mj_bipush (v := 18) dX1_writeNumber_60 (by decide) ?_
  refine mj_icmp_ge 102 dX1_writeNumber_62 (by decide) (fun z => t_posK hk z (fun hk => ?_)) (fun z => t_negK hk z (fun hk => ?_))
  · refine t_mapK hk (fun hk => ?_)
    exact t_somK hk (fun hf => t_vret dX1_writeNumber_102 rfl ⟨rfl, hf⟩ (Nat.le_of_ble_eq_true rfl) (Nat.le_of_ble_eq_true rfl))
  · refine mj_lload dX1_writeNumber_65 2 rfl ?_
    refine mj_lconst (v := 0) dX1_writeNumber_67 (by decide) ?_
    refine mj_lcmp dX1_writeNumber_68 ?_
    refine mj_if_le 102 dX1_writeNumber_69 (by decide) (fun z => t_posK hk z (fun hk => ?_)) (fun z => t_negK hk z (fun hk => ?_))
    · refine t_mapK hk (fun hk => ?_)
      exact t_somK hk (fun hf => t_vret dX1_writeNumber_102 rfl ⟨rfl, hf⟩ (Nat.le_of_ble_eq_true rfl) (Nat.le_of_ble_eq_true rfl))
    · refine mj_aload_n dX1_writeNumber_72 0 rfl ?_
      refine mj_bipush (v := 48) dX1_writeNumber_73 (by decide) ?_
      refine mj_lload_n dX1_writeNumber_75 1 rfl ?_
      refine mj_lload dX1_writeNumber_76 2 rfl ?_
      refine t_chkK hk (fun c0 hk => ?_)
      refine mj_ldiv dX1_writeNumber_78 c0 ?_
      refine mj_ldc2 dX1_writeNumber_79 K_X1_125 ?_
      refine mj_lrem dX1_writeNumber_82 (by decide) ?_
      refine mj_l2i (v := ((l3 / l5) - (l3 / l5) / (10 : Int64) * (10 : Int64)).toInt32) dX1_writeNumber_83 rfl ?_
      refine mj_iadd dX1_writeNumber_84 ?_
      refine t_bndK hk (fun r2 er2 hk => ?_)
      refine t_callVvE dX1_writeNumber_85 M_X1_writeSign (C_X1_writeSign _ _ _ er2) ML_X1_86 IM_X1_writeSign SE_X1_writeSign qc_856 rfl (As := [.int ((48 : Int32) + (((l3 / l5) - (l3 / l5) / (10 : Int64) * (10 : Int64)).toInt32))]) rfl rfl (Nat.le_of_ble_eq_true rfl) (Nat.le_of_ble_eq_true rfl) (Nat.le_of_ble_eq_true rfl) (Nat.le_of_ble_eq_true rfl) ?_
      refine mj_lload dX1_writeNumber_88 2 rfl ?_
      refine mj_ldc2 dX1_writeNumber_90 K_X1_125 ?_
      refine mj_ldiv dX1_writeNumber_93 (by decide) ?_
      refine mj_lstore (lv2 := [(5, .long (l5 / (10 : Int64))), (0, .ref 856), (3, .long l3), (7, .int l7)]) dX1_writeNumber_94 (by decide) rfl ?_
      refine mj_iinc (k := 3) (v := (l7 + 1)) (lv2 := [(7, .int (l7 + 1)), (5, .long (l5 / (10 : Int64))), (0, .ref 856), (3, .long l3)]) dX1_writeNumber_96 rfl rfl (by decide) rfl ?_
      refine mj_goto 58 dX1_writeNumber_99 (by decide) ?_
      refine mj_sublv [(0, .ref 856), (3, .long l3), (5, .long (l5 / (10 : Int64))), (7, .int (l7 + 1))] [2, 3, 1, 0] rfl ?_
      exact t_somK hk (fun hf => Hb58 l3 (l5 / (10 : Int64)) (l7 + 1) r2 hf)
noncomputable def b_X1_writeNumber_58 (x : Int64 × Int64 × Int32 × t_S) : Option ((Int64 × Int64 × Int32 × t_S) ⊕ (t_S)) := k_X1_writeNumber_58 x.1 x.2.1 x.2.2.1 x.2.2.2
set_option maxRecDepth 4000 in
set_option maxHeartbeats 1000000 in
theorem LH_X1_writeNumber_58 {D : va_G} {cy : Nat → ClassId} {ad : Nat → Nat} {bs : Nat} {X : State → Heap → Prop} : ∀ (n : Nat) (y0 : Int64) (y1 : Int64) (y2 : Int32) (y3 : t_S) (Q : t_S → Prop) (hk : t_hk (t_loop (b_X1_writeNumber_58) n (y0, y1, y2, y3)) Q), mj_G D cy ad bs X cX1_writeNumber 8 yX1_writeNumber.cls none yX1_writeNumber.name 1 0 0 1065 (t_P (fun v s' => v = none ∧ Q (s'))) 58 [(0, .ref 856), (3, .long (y0)), (5, .long (y1)), (7, .int (y2))] [] (t_m y3) 1065 0 0 := by
  intro n
  induction n with
  | zero => intro y0 y1 y2 y3 Q hk; obtain ⟨r, hr, _⟩ := hk; cases hr
  | succ n ih =>
    intro y0 y1 y2 y3 Q hk
    exact B_X1_writeNumber_58 y0 y1 y2 y3 (fun y => t_lq (b_X1_writeNumber_58) n Q y) (fun y0' y1' y2' y3' hy => ih y0' y1' y2' y3' Q hy) (t_lp hk)
noncomputable def k_X1_writeNumber_55 (l3 : Int64) (l5 : Int64) (s : t_S) : Option (t_S) :=
 t_loop (b_X1_writeNumber_58) t_N (l3, l5, 0, s)
set_option maxRecDepth 4000 in
set_option maxHeartbeats 1000000 in
theorem B_X1_writeNumber_55 {D : va_G} {cy : Nat → ClassId} {ad : Nat → Nat} {bs : Nat} {X : State → Heap → Prop} (l3 : Int64) (l5 : Int64) (s : t_S) (Q : t_S → Prop) (hk : t_hk (k_X1_writeNumber_55 l3 l5 s) Q) : mj_G D cy ad bs X cX1_writeNumber 8 yX1_writeNumber.cls none yX1_writeNumber.name 1 0 0 1065 (t_P (fun v s' => v = none ∧ Q (s'))) 55 [(0, .ref 856), (3, .long l3), (5, .long l5)] [] (t_m s) 1065 0 0 := by
  refine mj_iconst (v := 0) dX1_writeNumber_55 (by decide) ?_
  refine mj_istore (lv2 := [(7, .int 0), (0, .ref 856), (3, .long l3), (5, .long l5)]) dX1_writeNumber_56 (by decide) rfl ?_
  refine mj_sublv [(0, .ref 856), (3, .long l3), (5, .long l5), (7, .int 0)] [1, 2, 3, 0] rfl ?_
  exact LH_X1_writeNumber_58 _ l3 l5 0 s _ hk
noncomputable def k_X1_writeNumber_23 (l3 : Int64) (l5 : Int64) (l7 : Int32) (s : t_S) : Option ((Int64 × Int64 × Int32 × t_S) ⊕ (t_S)) :=
 if (17 : Int32) ≤ l7 then ((k_X1_writeNumber_55 l3 l5 s).map Sum.inr)
 else (if ¬ l5 = 0 then
  if (lg_cmp (l3 / l5) (10 : Int64)) < (0 : Int32) then ((k_X1_writeNumber_55 l3 l5 s).map Sum.inr)
 else (some (.inl (l3, (l5 * (10 : Int64)), (l7 + 1), s)))
else none)
set_option maxRecDepth 4000 in
set_option maxHeartbeats 1000000 in
theorem B_X1_writeNumber_23 {D : va_G} {cy : Nat → ClassId} {ad : Nat → Nat} {bs : Nat} {X : State → Heap → Prop} (l3 : Int64) (l5 : Int64) (l7 : Int32) (s : t_S) (Q : (Int64 × Int64 × Int32 × t_S) ⊕ (t_S) → Prop) (Hb23 : ∀ (y0 : Int64) (y1 : Int64) (y2 : Int32) (y3 : t_S), Q (.inl (y0, y1, y2, y3)) → mj_G D cy ad bs X cX1_writeNumber 8 yX1_writeNumber.cls none yX1_writeNumber.name 1 0 0 1065 (t_P (fun v s' => v = none ∧ Q (.inr (s')))) 23 [(0, .ref 856), (3, .long (y0)), (5, .long (y1)), (7, .int (y2))] [] (t_m y3) 1065 0 0) (hk : t_hk (k_X1_writeNumber_23 l3 l5 l7 s) Q) : mj_G D cy ad bs X cX1_writeNumber 8 yX1_writeNumber.cls none yX1_writeNumber.name 1 0 0 1065 (t_P (fun v s' => v = none ∧ Q (.inr (s')))) 23 [(0, .ref 856), (3, .long l3), (5, .long l5), (7, .int l7)] [] (t_m s) 1065 0 0 := by
  refine mj_iload dX1_writeNumber_23 3 rfl ?_
  refine mj_bipush (v := 17) dX1_writeNumber_25 (by decide) ?_
  refine mj_icmp_ge 55 dX1_writeNumber_27 (by decide) (fun z => t_posK hk z (fun hk => ?_)) (fun z => t_negK hk z (fun hk => ?_))
  · refine mj_sublv [(0, .ref 856), (3, .long l3), (5, .long l5)] [0, 1, 2] rfl ?_
    refine t_mapK hk (fun hk => ?_)
    exact B_X1_writeNumber_55 _ _ _ _ hk
  · refine mj_lload_n dX1_writeNumber_30 1 rfl ?_
    refine mj_lload dX1_writeNumber_31 2 rfl ?_
    refine t_chkK hk (fun c0 hk => ?_)
    refine mj_ldiv dX1_writeNumber_33 c0 ?_
    refine mj_ldc2 dX1_writeNumber_34 K_X1_125 ?_
    refine mj_lcmp dX1_writeNumber_37 ?_
    refine mj_if_lt 55 dX1_writeNumber_38 (by decide) (fun z => t_posK hk z (fun hk => ?_)) (fun z => t_negK hk z (fun hk => ?_))
    · refine mj_sublv [(0, .ref 856), (3, .long l3), (5, .long l5)] [0, 1, 2] rfl ?_
      refine t_mapK hk (fun hk => ?_)
      exact B_X1_writeNumber_55 _ _ _ _ hk
    · refine mj_lload dX1_writeNumber_41 2 rfl ?_
      refine mj_ldc2 dX1_writeNumber_43 K_X1_125 ?_
      refine mj_lmul dX1_writeNumber_46 ?_
      refine mj_lstore (lv2 := [(5, .long (l5 * (10 : Int64))), (0, .ref 856), (3, .long l3), (7, .int l7)]) dX1_writeNumber_47 (by decide) rfl ?_
      refine mj_iinc (k := 3) (v := (l7 + 1)) (lv2 := [(7, .int (l7 + 1)), (5, .long (l5 * (10 : Int64))), (0, .ref 856), (3, .long l3)]) dX1_writeNumber_49 rfl rfl (by decide) rfl ?_
      refine mj_goto 23 dX1_writeNumber_52 (by decide) ?_
      refine mj_sublv [(0, .ref 856), (3, .long l3), (5, .long (l5 * (10 : Int64))), (7, .int (l7 + 1))] [2, 3, 1, 0] rfl ?_
      exact t_somK hk (fun hf => Hb23 l3 (l5 * (10 : Int64)) (l7 + 1) s hf)
noncomputable def b_X1_writeNumber_23 (x : Int64 × Int64 × Int32 × t_S) : Option ((Int64 × Int64 × Int32 × t_S) ⊕ (t_S)) := k_X1_writeNumber_23 x.1 x.2.1 x.2.2.1 x.2.2.2
set_option maxRecDepth 4000 in
set_option maxHeartbeats 1000000 in
theorem LH_X1_writeNumber_23 {D : va_G} {cy : Nat → ClassId} {ad : Nat → Nat} {bs : Nat} {X : State → Heap → Prop} : ∀ (n : Nat) (y0 : Int64) (y1 : Int64) (y2 : Int32) (y3 : t_S) (Q : t_S → Prop) (hk : t_hk (t_loop (b_X1_writeNumber_23) n (y0, y1, y2, y3)) Q), mj_G D cy ad bs X cX1_writeNumber 8 yX1_writeNumber.cls none yX1_writeNumber.name 1 0 0 1065 (t_P (fun v s' => v = none ∧ Q (s'))) 23 [(0, .ref 856), (3, .long (y0)), (5, .long (y1)), (7, .int (y2))] [] (t_m y3) 1065 0 0 := by
  intro n
  induction n with
  | zero => intro y0 y1 y2 y3 Q hk; obtain ⟨r, hr, _⟩ := hk; cases hr
  | succ n ih =>
    intro y0 y1 y2 y3 Q hk
    exact B_X1_writeNumber_23 y0 y1 y2 y3 (fun y => t_lq (b_X1_writeNumber_23) n Q y) (fun y0' y1' y2' y3' hy => ih y0' y1' y2' y3' Q hy) (t_lp hk)
noncomputable def k_X1_writeNumber_12 (l1 : Int64) (s : t_S) : Option (t_S) :=
 t_loop (b_X1_writeNumber_23) t_N ((if 0 < l1 then l1 else -l1), 1, 0, s)
set_option maxRecDepth 4000 in
set_option maxHeartbeats 1000000 in
theorem B_X1_writeNumber_12 {D : va_G} {cy : Nat → ClassId} {ad : Nat → Nat} {bs : Nat} {X : State → Heap → Prop} (l1 : Int64) (s : t_S) (Q : t_S → Prop) (hk : t_hk (k_X1_writeNumber_12 l1 s) Q) : mj_G D cy ad bs X cX1_writeNumber 8 yX1_writeNumber.cls none yX1_writeNumber.name 1 0 0 1065 (t_P (fun v s' => v = none ∧ Q (s'))) 12 [(0, .ref 856), (1, .long l1)] [] (t_m s) 1065 0 0 := by
  refine mj_lload_n dX1_writeNumber_12 1 rfl ?_
  refine mj_labs dX1_writeNumber_13 MJ_abs_X1_120 (Nat.le_of_ble_eq_true rfl) (Nat.le_of_ble_eq_true rfl) (Nat.le_of_ble_eq_true rfl) (Nat.le_of_ble_eq_true rfl) ?_
  refine mj_lstore_n 3 (lv2 := [(3, .long (if 0 < l1 then l1 else -l1)), (0, .ref 856), (1, .long l1)]) dX1_writeNumber_16 rfl (by decide) rfl ?_
  refine mj_lconst (v := 1) dX1_writeNumber_17 (by decide) ?_
  refine mj_lstore (lv2 := [(5, .long 1), (3, .long (if 0 < l1 then l1 else -l1)), (0, .ref 856), (1, .long l1)]) dX1_writeNumber_18 (by decide) rfl ?_
  refine mj_iconst (v := 0) dX1_writeNumber_20 (by decide) ?_
  refine mj_istore (lv2 := [(7, .int 0), (5, .long 1), (3, .long (if 0 < l1 then l1 else -l1)), (0, .ref 856), (1, .long l1)]) dX1_writeNumber_21 (by decide) rfl ?_
  refine mj_sublv [(0, .ref 856), (3, .long (if 0 < l1 then l1 else -l1)), (5, .long 1), (7, .int 0)] [3, 2, 1, 0] rfl ?_
  exact LH_X1_writeNumber_23 _ (if 0 < l1 then l1 else -l1) 1 0 s _ hk
noncomputable def f_X1_writeNumber (x1 : Int64) (s : t_S) : Option (t_S) :=
 if (0 : Int32) ≤ (lg_cmp x1 (0 : Int64)) then (k_X1_writeNumber_12 x1 s)
 else ((f_X1_writeSign (45 : Int32) s).bind (fun r1 =>
 k_X1_writeNumber_12 x1 r1))
set_option maxRecDepth 4000 in
set_option maxHeartbeats 1000000 in
theorem C_X1_writeNumber (x1 : Int64) (s : t_S) (r : t_S) (hr : f_X1_writeNumber x1 s = some r) : t_C yX1_writeNumber cX1_writeNumber 8 none 1 [.ref 856, .long x1] s (fun v s' => v = none ∧ s' = r) := by
  refine t_C.imp (P := fun v s' => v = none ∧ (fun q => q = r) (s')) (t_C.of (by decide +kernel) (Nat.le_of_ble_eq_true rfl) ?_) (fun v s' hp => hp)
  intro D cy ad bs X
  have hk : t_hk (f_X1_writeNumber x1 s) (fun q => q = r) := ⟨r, hr, rfl⟩
  show mj_G D cy ad bs X cX1_writeNumber 8 yX1_writeNumber.cls none yX1_writeNumber.name 1 0 0 1065 (t_P (fun v s' => v = none ∧ (fun q => q = r) (s'))) 0 [(0, .ref 856), (1, .long x1)] [] (t_m s) 1065 0 0
  refine mj_lload_n dX1_writeNumber_0 1 rfl ?_
  refine mj_lconst (v := 0) dX1_writeNumber_1 (by decide) ?_
  refine mj_lcmp dX1_writeNumber_2 ?_
  refine mj_if_ge 12 dX1_writeNumber_3 (by decide) (fun z => t_posK hk z (fun hk => ?_)) (fun z => t_negK hk z (fun hk => ?_))
  · exact B_X1_writeNumber_12 _ _ _ hk
  · refine mj_aload_n dX1_writeNumber_6 0 rfl ?_
    refine mj_bipush (v := 45) dX1_writeNumber_7 (by decide) ?_
    refine t_bndK hk (fun r1 er1 hk => ?_)
    refine t_callVvE dX1_writeNumber_9 M_X1_writeSign (C_X1_writeSign _ _ _ er1) ML_X1_86 IM_X1_writeSign SE_X1_writeSign qc_856 rfl (As := [.int 45]) rfl rfl (Nat.le_of_ble_eq_true rfl) (Nat.le_of_ble_eq_true rfl) (Nat.le_of_ble_eq_true rfl) (Nat.le_of_ble_eq_true rfl) ?_
    exact B_X1_writeNumber_12 _ _ _ hk

theorem dX1_writeSigns_0 : decode cX1_writeSigns 0 = .ok (.aload_n 1, 1) := by decide +kernel
theorem dX1_writeSigns_1 : decode cX1_writeSigns 1 = .ok (.iload_n 2, 1) := by decide +kernel
theorem dX1_writeSigns_10 : decode cX1_writeSigns 10 = .ok (.invokevirtual 86, 3) := by decide +kernel
theorem dX1_writeSigns_13 : decode cX1_writeSigns 13 = .ok (.iconst 0, 1) := by decide +kernel
theorem dX1_writeSigns_14 : decode cX1_writeSigns 14 = .ok (.istore 4, 2) := by decide +kernel
theorem dX1_writeSigns_16 : decode cX1_writeSigns 16 = .ok (.iload 4, 2) := by decide +kernel
theorem dX1_writeSigns_18 : decode cX1_writeSigns 18 = .ok (.iload_n 3, 1) := by decide +kernel
theorem dX1_writeSigns_19 : decode cX1_writeSigns 19 = .ok (.if_icmp .ge 20, 3) := by decide +kernel
theorem dX1_writeSigns_2 : decode cX1_writeSigns 2 = .ok (.laload, 1) := by decide +kernel
theorem dX1_writeSigns_22 : decode cX1_writeSigns 22 = .ok (.aload_n 0, 1) := by decide +kernel
theorem dX1_writeSigns_23 : decode cX1_writeSigns 23 = .ok (.aload_n 1, 1) := by decide +kernel
theorem dX1_writeSigns_24 : decode cX1_writeSigns 24 = .ok (.iload_n 2, 1) := by decide +kernel
theorem dX1_writeSigns_25 : decode cX1_writeSigns 25 = .ok (.iload 4, 2) := by decide +kernel
theorem dX1_writeSigns_27 : decode cX1_writeSigns 27 = .ok (.invokestatic 116, 3) := by decide +kernel
theorem dX1_writeSigns_3 : decode cX1_writeSigns 3 = .ok (.invokestatic 113, 3) := by decide +kernel
theorem dX1_writeSigns_30 : decode cX1_writeSigns 30 = .ok (.invokevirtual 86, 3) := by decide +kernel
theorem dX1_writeSigns_33 : decode cX1_writeSigns 33 = .ok (.iinc 4 1, 3) := by decide +kernel
theorem dX1_writeSigns_36 : decode cX1_writeSigns 36 = .ok (.goto (-20), 3) := by decide +kernel
theorem dX1_writeSigns_39 : decode cX1_writeSigns 39 = .ok (.aload_n 0, 1) := by decide +kernel
theorem dX1_writeSigns_40 : decode cX1_writeSigns 40 = .ok (.bipush 34, 2) := by decide +kernel
theorem dX1_writeSigns_42 : decode cX1_writeSigns 42 = .ok (.invokevirtual 86, 3) := by decide +kernel
theorem dX1_writeSigns_45 : decode cX1_writeSigns 45 = .ok (.return_, 1) := by decide +kernel
theorem dX1_writeSigns_6 : decode cX1_writeSigns 6 = .ok (.istore_n 3, 1) := by decide +kernel
theorem dX1_writeSigns_7 : decode cX1_writeSigns 7 = .ok (.aload_n 0, 1) := by decide +kernel
theorem dX1_writeSigns_8 : decode cX1_writeSigns 8 = .ok (.bipush 34, 2) := by decide +kernel
noncomputable def k_X1_writeSigns_16 (l1 : Nat) (l2 : Int32) (l3 : Int32) (l4 : Int32) (s : t_S) : Option ((Nat × Int32 × Int32 × Int32 × t_S) ⊕ (t_S)) :=
 if l3 ≤ l4 then (((f_X1_writeSign (34 : Int32) s).bind (fun r1 =>
 some (r1))).map Sum.inr)
 else ((f_X8_sign l1 l2 l4 s).bind (fun r2 =>
 (f_X1_writeSign r2 s).bind (fun r3 =>
 some (.inl (l1, l2, l3, (l4 + 1), r3)))))
set_option maxRecDepth 4000 in
set_option maxHeartbeats 1000000 in
theorem B_X1_writeSigns_16 {D : va_G} {cy : Nat → ClassId} {ad : Nat → Nat} {bs : Nat} {X : State → Heap → Prop} (l1 : Nat) (l2 : Int32) (l3 : Int32) (l4 : Int32) (s : t_S) (Q : (Nat × Int32 × Int32 × Int32 × t_S) ⊕ (t_S) → Prop) (Hb16 : ∀ (y0 : Nat) (y1 : Int32) (y2 : Int32) (y3 : Int32) (y4 : t_S), Q (.inl (y0, y1, y2, y3, y4)) → mj_G D cy ad bs X cX1_writeSigns 5 yX1_writeSigns.cls none yX1_writeSigns.name 1 0 0 1065 (t_P (fun v s' => v = none ∧ Q (.inr (s')))) 16 [(0, .ref 856), (1, .ref (y0)), (2, .int (y1)), (3, .int (y2)), (4, .int (y3))] [] (t_m y4) 1065 0 0) (hk : t_hk (k_X1_writeSigns_16 l1 l2 l3 l4 s) Q) : mj_G D cy ad bs X cX1_writeSigns 5 yX1_writeSigns.cls none yX1_writeSigns.name 1 0 0 1065 (t_P (fun v s' => v = none ∧ Q (.inr (s')))) 16 [(0, .ref 856), (1, .ref l1), (2, .int l2), (3, .int l3), (4, .int l4)] [] (t_m s) 1065 0 0 := by
  refine mj_iload dX1_writeSigns_16 4 rfl ?_
  refine mj_iload_n dX1_writeSigns_18 3 rfl ?_
  refine mj_icmp_ge 39 dX1_writeSigns_19 (by decide) (fun z => t_posK hk z (fun hk => ?_)) (fun z => t_negK hk z (fun hk => ?_))
  · refine t_mapK hk (fun hk => ?_)
    refine mj_aload_n dX1_writeSigns_39 0 rfl ?_
    refine mj_bipush (v := 34) dX1_writeSigns_40 (by decide) ?_
    refine t_bndK hk (fun r1 er1 hk => ?_)
    refine t_callVvE dX1_writeSigns_42 M_X1_writeSign (C_X1_writeSign _ _ _ er1) ML_X1_86 IM_X1_writeSign SE_X1_writeSign qc_856 rfl (As := [.int 34]) rfl rfl (Nat.le_of_ble_eq_true rfl) (Nat.le_of_ble_eq_true rfl) (Nat.le_of_ble_eq_true rfl) (Nat.le_of_ble_eq_true rfl) ?_
    exact t_somK hk (fun hf => t_vret dX1_writeSigns_45 rfl ⟨rfl, hf⟩ (Nat.le_of_ble_eq_true rfl) (Nat.le_of_ble_eq_true rfl))
  · refine mj_aload_n dX1_writeSigns_22 0 rfl ?_
    refine mj_aload_n dX1_writeSigns_23 1 rfl ?_
    refine mj_iload_n dX1_writeSigns_24 2 rfl ?_
    refine mj_iload dX1_writeSigns_25 4 rfl ?_
    refine t_bndK hk (fun r2 er2 hk => ?_)
    refine t_callSiP dX1_writeSigns_27 M_X8_sign (C_X8_sign _ _ _ _ _ er2) ML_X1_116 SM_X8_sign (As := [.ref l1, .int l2, .int l4]) rfl rfl (Nat.le_of_ble_eq_true rfl) (Nat.le_of_ble_eq_true rfl) (Nat.le_of_ble_eq_true rfl) (Nat.le_of_ble_eq_true rfl) ?_
    refine t_bndK hk (fun r3 er3 hk => ?_)
    refine t_callVvE dX1_writeSigns_30 M_X1_writeSign (C_X1_writeSign _ _ _ er3) ML_X1_86 IM_X1_writeSign SE_X1_writeSign qc_856 rfl (As := [.int r2]) rfl rfl (Nat.le_of_ble_eq_true rfl) (Nat.le_of_ble_eq_true rfl) (Nat.le_of_ble_eq_true rfl) (Nat.le_of_ble_eq_true rfl) ?_
    refine mj_iinc (k := 4) (v := (l4 + 1)) (lv2 := [(4, .int (l4 + 1)), (0, .ref 856), (1, .ref l1), (2, .int l2), (3, .int l3)]) dX1_writeSigns_33 rfl rfl (by decide) rfl ?_
    refine mj_goto 16 dX1_writeSigns_36 (by decide) ?_
    refine mj_sublv [(0, .ref 856), (1, .ref l1), (2, .int l2), (3, .int l3), (4, .int (l4 + 1))] [1, 2, 3, 4, 0] rfl ?_
    exact t_somK hk (fun hf => Hb16 l1 l2 l3 (l4 + 1) r3 hf)
noncomputable def b_X1_writeSigns_16 (x : Nat × Int32 × Int32 × Int32 × t_S) : Option ((Nat × Int32 × Int32 × Int32 × t_S) ⊕ (t_S)) := k_X1_writeSigns_16 x.1 x.2.1 x.2.2.1 x.2.2.2.1 x.2.2.2.2
set_option maxRecDepth 4000 in
set_option maxHeartbeats 1000000 in
theorem LH_X1_writeSigns_16 {D : va_G} {cy : Nat → ClassId} {ad : Nat → Nat} {bs : Nat} {X : State → Heap → Prop} : ∀ (n : Nat) (y0 : Nat) (y1 : Int32) (y2 : Int32) (y3 : Int32) (y4 : t_S) (Q : t_S → Prop) (hk : t_hk (t_loop (b_X1_writeSigns_16) n (y0, y1, y2, y3, y4)) Q), mj_G D cy ad bs X cX1_writeSigns 5 yX1_writeSigns.cls none yX1_writeSigns.name 1 0 0 1065 (t_P (fun v s' => v = none ∧ Q (s'))) 16 [(0, .ref 856), (1, .ref (y0)), (2, .int (y1)), (3, .int (y2)), (4, .int (y3))] [] (t_m y4) 1065 0 0 := by
  intro n
  induction n with
  | zero => intro y0 y1 y2 y3 y4 Q hk; obtain ⟨r, hr, _⟩ := hk; cases hr
  | succ n ih =>
    intro y0 y1 y2 y3 y4 Q hk
    exact B_X1_writeSigns_16 y0 y1 y2 y3 y4 (fun y => t_lq (b_X1_writeSigns_16) n Q y) (fun y0' y1' y2' y3' y4' hy => ih y0' y1' y2' y3' y4' Q hy) (t_lp hk)
noncomputable def f_X1_writeSigns (x1 : Nat) (x2 : Int32) (s : t_S) : Option (t_S) :=
 if t_oka x1 2 (t_ln x1) = true then
  if t_ix x2 (t_ln x1) = true then
  (f_X1_writeSign (34 : Int32) s).bind (fun r4 =>
 t_loop (b_X1_writeSigns_16) t_N (x1, x2, (f_X8_extent (s.2.1 x1 (x2.toNatClampNeg)) s), 0, r4))
else none
else none
set_option maxRecDepth 4000 in
set_option maxHeartbeats 1000000 in
theorem C_X1_writeSigns (x1 : Nat) (x2 : Int32) (s : t_S) (r : t_S) (hr : f_X1_writeSigns x1 x2 s = some r) : t_C yX1_writeSigns cX1_writeSigns 5 none 1 [.ref 856, .ref x1, .int x2] s (fun v s' => v = none ∧ s' = r) := by
  refine t_C.imp (P := fun v s' => v = none ∧ (fun q => q = r) (s')) (t_C.of (by decide +kernel) (Nat.le_of_ble_eq_true rfl) ?_) (fun v s' hp => hp)
  intro D cy ad bs X
  have hk : t_hk (f_X1_writeSigns x1 x2 s) (fun q => q = r) := ⟨r, hr, rfl⟩
  show mj_G D cy ad bs X cX1_writeSigns 5 yX1_writeSigns.cls none yX1_writeSigns.name 1 0 0 1065 (t_P (fun v s' => v = none ∧ (fun q => q = r) (s'))) 0 [(0, .ref 856), (1, .ref x1), (2, .int x2)] [] (t_m s) 1065 0 0
  refine mj_aload_n dX1_writeSigns_0 1 rfl ?_
  refine mj_iload_n dX1_writeSigns_1 2 rfl ?_
  refine t_chkK hk (fun c0 hk => ?_)
  refine t_chkK hk (fun c1 hk => ?_)
  refine t_lald dX1_writeSigns_2 c0 (t_ixv c1) ?_
  refine t_callSiP dX1_writeSigns_3 M_X8_extent (C_X8_extent _ _) ML_X1_113 SM_X8_extent (As := [.long (s.2.1 x1 (x2.toNatClampNeg))]) rfl rfl (Nat.le_of_ble_eq_true rfl) (Nat.le_of_ble_eq_true rfl) (Nat.le_of_ble_eq_true rfl) (Nat.le_of_ble_eq_true rfl) ?_
  refine mj_istore_n 3 (lv2 := [(3, .int (f_X8_extent (s.2.1 x1 (x2.toNatClampNeg)) s)), (0, .ref 856), (1, .ref x1), (2, .int x2)]) dX1_writeSigns_6 rfl (by decide) rfl ?_
  refine mj_aload_n dX1_writeSigns_7 1 rfl ?_
  refine mj_bipush (v := 34) dX1_writeSigns_8 (by decide) ?_
  refine t_bndK hk (fun r4 er4 hk => ?_)
  refine t_callVvE dX1_writeSigns_10 M_X1_writeSign (C_X1_writeSign _ _ _ er4) ML_X1_86 IM_X1_writeSign SE_X1_writeSign qc_856 rfl (As := [.int 34]) rfl rfl (Nat.le_of_ble_eq_true rfl) (Nat.le_of_ble_eq_true rfl) (Nat.le_of_ble_eq_true rfl) (Nat.le_of_ble_eq_true rfl) ?_
  refine mj_iconst (v := 0) dX1_writeSigns_13 (by decide) ?_
  refine mj_istore (lv2 := [(4, .int 0), (3, .int (f_X8_extent (s.2.1 x1 (x2.toNatClampNeg)) s)), (0, .ref 856), (1, .ref x1), (2, .int x2)]) dX1_writeSigns_14 (by decide) rfl ?_
  refine mj_sublv [(0, .ref 856), (1, .ref x1), (2, .int x2), (3, .int (f_X8_extent (s.2.1 x1 (x2.toNatClampNeg)) s)), (4, .int 0)] [2, 3, 4, 1, 0] rfl ?_
  exact LH_X1_writeSigns_16 _ x1 x2 (f_X8_extent (s.2.1 x1 (x2.toNatClampNeg)) s) 0 r4 _ hk

theorem dX1_writeWords_0 : decode cX1_writeWords 0 = .ok (.iconst 0, 1) := by decide +kernel
theorem dX1_writeWords_1 : decode cX1_writeWords 1 = .ok (.istore_n 2, 1) := by decide +kernel
theorem dX1_writeWords_10 : decode cX1_writeWords 10 = .ok (.aload_n 0, 1) := by decide +kernel
theorem dX1_writeWords_11 : decode cX1_writeWords 11 = .ok (.aload_n 1, 1) := by decide +kernel
theorem dX1_writeWords_12 : decode cX1_writeWords 12 = .ok (.iload_n 2, 1) := by decide +kernel
theorem dX1_writeWords_13 : decode cX1_writeWords 13 = .ok (.invokevirtual 103, 3) := by decide +kernel
theorem dX1_writeWords_16 : decode cX1_writeWords 16 = .ok (.invokevirtual 86, 3) := by decide +kernel
theorem dX1_writeWords_19 : decode cX1_writeWords 19 = .ok (.iinc 2 1, 3) := by decide +kernel
theorem dX1_writeWords_2 : decode cX1_writeWords 2 = .ok (.iload_n 2, 1) := by decide +kernel
theorem dX1_writeWords_22 : decode cX1_writeWords 22 = .ok (.goto (-20), 3) := by decide +kernel
theorem dX1_writeWords_25 : decode cX1_writeWords 25 = .ok (.return_, 1) := by decide +kernel
theorem dX1_writeWords_3 : decode cX1_writeWords 3 = .ok (.aload_n 1, 1) := by decide +kernel
theorem dX1_writeWords_4 : decode cX1_writeWords 4 = .ok (.invokevirtual 97, 3) := by decide +kernel
theorem dX1_writeWords_7 : decode cX1_writeWords 7 = .ok (.if_icmp .ge 18, 3) := by decide +kernel
noncomputable def k_X1_writeWords_2 (l1 : Nat) (l2 : Int32) (s : t_S) : Option ((Nat × Int32 × t_S) ⊕ (t_S)) :=
 if l1 < 7 then
  if (nI (mj_len.getD l1 0)) ≤ l2 then ((some (s)).map Sum.inr)
 else (if t_ix l2 (mj_len.getD l1 0) = true then
  (f_X1_writeSign (mj_ch l1 l2.toNatClampNeg) s).bind (fun r3 =>
 some (.inl (l1, (l2 + 1), r3)))
else none)
else none
set_option maxRecDepth 4000 in
set_option maxHeartbeats 1000000 in
theorem B_X1_writeWords_2 {D : va_G} {cy : Nat → ClassId} {ad : Nat → Nat} {bs : Nat} {X : State → Heap → Prop} (l1 : Nat) (l2 : Int32) (s : t_S) (Q : (Nat × Int32 × t_S) ⊕ (t_S) → Prop) (Hb2 : ∀ (y0 : Nat) (y1 : Int32) (y2 : t_S), Q (.inl (y0, y1, y2)) → mj_G D cy ad bs X cX1_writeWords 3 yX1_writeWords.cls none yX1_writeWords.name 4 0 0 1065 (t_P (fun v s' => v = none ∧ Q (.inr (s')))) 2 [(0, .ref 856), (1, .ref (1000000 + (y0))), (2, .int (y1))] [] (t_m y2) 1065 0 0) (hk : t_hk (k_X1_writeWords_2 l1 l2 s) Q) : mj_G D cy ad bs X cX1_writeWords 3 yX1_writeWords.cls none yX1_writeWords.name 4 0 0 1065 (t_P (fun v s' => v = none ∧ Q (.inr (s')))) 2 [(0, .ref 856), (1, .ref (1000000 + l1)), (2, .int l2)] [] (t_m s) 1065 0 0 := by
  refine mj_iload_n dX1_writeWords_2 2 rfl ?_
  refine mj_aload_n dX1_writeWords_3 1 rfl ?_
  refine t_chkK hk (fun c0 hk => ?_)
  refine mj_txlen dX1_writeWords_4 ML_X1_97 c0 (Nat.le_of_ble_eq_true rfl) (Nat.le_of_ble_eq_true rfl) (Nat.le_of_ble_eq_true rfl) (Nat.le_of_ble_eq_true rfl) ?_
  refine mj_icmp_ge 25 dX1_writeWords_7 (by decide) (fun z => t_posK hk z (fun hk => ?_)) (fun z => t_negK hk z (fun hk => ?_))
  · refine t_mapK hk (fun hk => ?_)
    exact t_somK hk (fun hf => t_vret dX1_writeWords_25 rfl ⟨rfl, hf⟩ (Nat.le_of_ble_eq_true rfl) (Nat.le_of_ble_eq_true rfl))
  · refine mj_aload_n dX1_writeWords_10 0 rfl ?_
    refine mj_aload_n dX1_writeWords_11 1 rfl ?_
    refine mj_iload_n dX1_writeWords_12 2 rfl ?_
    refine t_chkK hk (fun c1 hk => ?_)
    refine mj_txch dX1_writeWords_13 ML_X1_103 c0 c1 (Nat.le_of_ble_eq_true rfl) (Nat.le_of_ble_eq_true rfl) (Nat.le_of_ble_eq_true rfl) (Nat.le_of_ble_eq_true rfl) ?_
    refine t_bndK hk (fun r3 er3 hk => ?_)
    refine t_callVvE dX1_writeWords_16 M_X1_writeSign (C_X1_writeSign _ _ _ er3) ML_X1_86 IM_X1_writeSign SE_X1_writeSign qc_856 rfl (As := [.int (mj_ch l1 l2.toNatClampNeg)]) rfl rfl (Nat.le_of_ble_eq_true rfl) (Nat.le_of_ble_eq_true rfl) (Nat.le_of_ble_eq_true rfl) (Nat.le_of_ble_eq_true rfl) ?_
    refine mj_iinc (k := 2) (v := (l2 + 1)) (lv2 := [(2, .int (l2 + 1)), (0, .ref 856), (1, .ref (1000000 + l1))]) dX1_writeWords_19 rfl rfl (by decide) rfl ?_
    refine mj_goto 2 dX1_writeWords_22 (by decide) ?_
    refine mj_sublv [(0, .ref 856), (1, .ref (1000000 + l1)), (2, .int (l2 + 1))] [1, 2, 0] rfl ?_
    exact t_somK hk (fun hf => Hb2 l1 (l2 + 1) r3 hf)
noncomputable def b_X1_writeWords_2 (x : Nat × Int32 × t_S) : Option ((Nat × Int32 × t_S) ⊕ (t_S)) := k_X1_writeWords_2 x.1 x.2.1 x.2.2
set_option maxRecDepth 4000 in
set_option maxHeartbeats 1000000 in
theorem LH_X1_writeWords_2 {D : va_G} {cy : Nat → ClassId} {ad : Nat → Nat} {bs : Nat} {X : State → Heap → Prop} : ∀ (n : Nat) (y0 : Nat) (y1 : Int32) (y2 : t_S) (Q : t_S → Prop) (hk : t_hk (t_loop (b_X1_writeWords_2) n (y0, y1, y2)) Q), mj_G D cy ad bs X cX1_writeWords 3 yX1_writeWords.cls none yX1_writeWords.name 4 0 0 1065 (t_P (fun v s' => v = none ∧ Q (s'))) 2 [(0, .ref 856), (1, .ref (1000000 + (y0))), (2, .int (y1))] [] (t_m y2) 1065 0 0 := by
  intro n
  induction n with
  | zero => intro y0 y1 y2 Q hk; obtain ⟨r, hr, _⟩ := hk; cases hr
  | succ n ih =>
    intro y0 y1 y2 Q hk
    exact B_X1_writeWords_2 y0 y1 y2 (fun y => t_lq (b_X1_writeWords_2) n Q y) (fun y0' y1' y2' hy => ih y0' y1' y2' Q hy) (t_lp hk)
noncomputable def f_X1_writeWords (x1 : Nat) (s : t_S) : Option (t_S) :=
 t_loop (b_X1_writeWords_2) t_N (x1, 0, s)
set_option maxRecDepth 4000 in
set_option maxHeartbeats 1000000 in
theorem C_X1_writeWords (x1 : Nat) (s : t_S) (r : t_S) (hr : f_X1_writeWords x1 s = some r) : t_C yX1_writeWords cX1_writeWords 3 none 4 [.ref 856, .ref (1000000 + x1)] s (fun v s' => v = none ∧ s' = r) := by
  refine t_C.imp (P := fun v s' => v = none ∧ (fun q => q = r) (s')) (t_C.of (by decide +kernel) (Nat.le_of_ble_eq_true rfl) ?_) (fun v s' hp => hp)
  intro D cy ad bs X
  have hk : t_hk (f_X1_writeWords x1 s) (fun q => q = r) := ⟨r, hr, rfl⟩
  show mj_G D cy ad bs X cX1_writeWords 3 yX1_writeWords.cls none yX1_writeWords.name 4 0 0 1065 (t_P (fun v s' => v = none ∧ (fun q => q = r) (s'))) 0 [(0, .ref 856), (1, .ref (1000000 + x1))] [] (t_m s) 1065 0 0
  refine mj_iconst (v := 0) dX1_writeWords_0 (by decide) ?_
  refine mj_istore_n 2 (lv2 := [(2, .int 0), (0, .ref 856), (1, .ref (1000000 + x1))]) dX1_writeWords_1 rfl (by decide) rfl ?_
  refine mj_sublv [(0, .ref 856), (1, .ref (1000000 + x1)), (2, .int 0)] [1, 2, 0] rfl ?_
  exact LH_X1_writeWords_2 _ x1 0 s _ hk

theorem dX1_writeText_0 : decode cX1_writeText 0 = .ok (.aload_n 0, 1) := by decide +kernel
theorem dX1_writeText_1 : decode cX1_writeText 1 = .ok (.iconst 0, 1) := by decide +kernel
theorem dX1_writeText_10 : decode cX1_writeText 10 = .ok (.aload_n 1, 1) := by decide +kernel
theorem dX1_writeText_101 : decode cX1_writeText 101 = .ok (.goto 153, 3) := by decide +kernel
theorem dX1_writeText_104 : decode cX1_writeText 104 = .ok (.aload_n 0, 1) := by decide +kernel
theorem dX1_writeText_105 : decode cX1_writeText 105 = .ok (.lload 5, 2) := by decide +kernel
theorem dX1_writeText_107 : decode cX1_writeText 107 = .ok (.invokestatic 57, 3) := by decide +kernel
theorem dX1_writeText_11 : decode cX1_writeText 11 = .ok (.iload_n 2, 1) := by decide +kernel
theorem dX1_writeText_110 : decode cX1_writeText 110 = .ok (.lconst 0, 1) := by decide +kernel
theorem dX1_writeText_111 : decode cX1_writeText 111 = .ok (.lcmp, 1) := by decide +kernel
theorem dX1_writeText_112 : decode cX1_writeText 112 = .ok (.ifCond .eq 8, 3) := by decide +kernel
theorem dX1_writeText_115 : decode cX1_writeText 115 = .ok (.ldc 65, 2) := by decide +kernel
theorem dX1_writeText_117 : decode cX1_writeText 117 = .ok (.goto 5, 3) := by decide +kernel
theorem dX1_writeText_12 : decode cX1_writeText 12 = .ok (.laload, 1) := by decide +kernel
theorem dX1_writeText_120 : decode cX1_writeText 120 = .ok (.ldc 67, 2) := by decide +kernel
theorem dX1_writeText_122 : decode cX1_writeText 122 = .ok (.invokevirtual 69, 3) := by decide +kernel
theorem dX1_writeText_125 : decode cX1_writeText 125 = .ok (.goto 129, 3) := by decide +kernel
theorem dX1_writeText_128 : decode cX1_writeText 128 = .ok (.aload_n 0, 1) := by decide +kernel
theorem dX1_writeText_129 : decode cX1_writeText 129 = .ok (.aload_n 1, 1) := by decide +kernel
theorem dX1_writeText_13 : decode cX1_writeText 13 = .ok (.invokestatic 50, 3) := by decide +kernel
theorem dX1_writeText_130 : decode cX1_writeText 130 = .ok (.iload_n 2, 1) := by decide +kernel
theorem dX1_writeText_131 : decode cX1_writeText 131 = .ok (.iload 4, 2) := by decide +kernel
theorem dX1_writeText_133 : decode cX1_writeText 133 = .ok (.iadd, 1) := by decide +kernel
theorem dX1_writeText_134 : decode cX1_writeText 134 = .ok (.invokevirtual 73, 3) := by decide +kernel
theorem dX1_writeText_137 : decode cX1_writeText 137 = .ok (.iload 4, 2) := by decide +kernel
theorem dX1_writeText_139 : decode cX1_writeText 139 = .ok (.lload 5, 2) := by decide +kernel
theorem dX1_writeText_141 : decode cX1_writeText 141 = .ok (.invokestatic 50, 3) := by decide +kernel
theorem dX1_writeText_144 : decode cX1_writeText 144 = .ok (.iconst 1, 1) := by decide +kernel
theorem dX1_writeText_145 : decode cX1_writeText 145 = .ok (.isub, 1) := by decide +kernel
theorem dX1_writeText_146 : decode cX1_writeText 146 = .ok (.iadd, 1) := by decide +kernel
theorem dX1_writeText_147 : decode cX1_writeText 147 = .ok (.istore 4, 2) := by decide +kernel
theorem dX1_writeText_149 : decode cX1_writeText 149 = .ok (.goto 105, 3) := by decide +kernel
theorem dX1_writeText_152 : decode cX1_writeText 152 = .ok (.aload_n 0, 1) := by decide +kernel
theorem dX1_writeText_153 : decode cX1_writeText 153 = .ok (.lload 5, 2) := by decide +kernel
theorem dX1_writeText_155 : decode cX1_writeText 155 = .ok (.invokestatic 77, 3) := by decide +kernel
theorem dX1_writeText_158 : decode cX1_writeText 158 = .ok (.invokevirtual 80, 3) := by decide +kernel
theorem dX1_writeText_16 : decode cX1_writeText 16 = .ok (.istore_n 3, 1) := by decide +kernel
theorem dX1_writeText_161 : decode cX1_writeText 161 = .ok (.goto 93, 3) := by decide +kernel
theorem dX1_writeText_164 : decode cX1_writeText 164 = .ok (.aload_n 0, 1) := by decide +kernel
theorem dX1_writeText_165 : decode cX1_writeText 165 = .ok (.ldc 84, 2) := by decide +kernel
theorem dX1_writeText_167 : decode cX1_writeText 167 = .ok (.invokevirtual 69, 3) := by decide +kernel
theorem dX1_writeText_17 : decode cX1_writeText 17 = .ok (.iconst 0, 1) := by decide +kernel
theorem dX1_writeText_170 : decode cX1_writeText 170 = .ok (.goto 84, 3) := by decide +kernel
theorem dX1_writeText_173 : decode cX1_writeText 173 = .ok (.aload_n 0, 1) := by decide +kernel
theorem dX1_writeText_174 : decode cX1_writeText 174 = .ok (.bipush 35, 2) := by decide +kernel
theorem dX1_writeText_176 : decode cX1_writeText 176 = .ok (.invokevirtual 86, 3) := by decide +kernel
theorem dX1_writeText_179 : decode cX1_writeText 179 = .ok (.aload_n 0, 1) := by decide +kernel
theorem dX1_writeText_18 : decode cX1_writeText 18 = .ok (.istore 4, 2) := by decide +kernel
theorem dX1_writeText_180 : decode cX1_writeText 180 = .ok (.lload 5, 2) := by decide +kernel
theorem dX1_writeText_182 : decode cX1_writeText 182 = .ok (.invokestatic 57, 3) := by decide +kernel
theorem dX1_writeText_185 : decode cX1_writeText 185 = .ok (.invokevirtual 61, 3) := by decide +kernel
theorem dX1_writeText_188 : decode cX1_writeText 188 = .ok (.goto 66, 3) := by decide +kernel
theorem dX1_writeText_191 : decode cX1_writeText 191 = .ok (.aload_n 0, 1) := by decide +kernel
theorem dX1_writeText_192 : decode cX1_writeText 192 = .ok (.lload 5, 2) := by decide +kernel
theorem dX1_writeText_194 : decode cX1_writeText 194 = .ok (.invokestatic 77, 3) := by decide +kernel
theorem dX1_writeText_197 : decode cX1_writeText 197 = .ok (.invokevirtual 80, 3) := by decide +kernel
theorem dX1_writeText_2 : decode cX1_writeText 2 = .ok (.putfield 43, 3) := by decide +kernel
theorem dX1_writeText_20 : decode cX1_writeText 20 = .ok (.iload 4, 2) := by decide +kernel
theorem dX1_writeText_200 : decode cX1_writeText 200 = .ok (.aload_n 0, 1) := by decide +kernel
theorem dX1_writeText_201 : decode cX1_writeText 201 = .ok (.ldc 89, 2) := by decide +kernel
theorem dX1_writeText_203 : decode cX1_writeText 203 = .ok (.invokevirtual 69, 3) := by decide +kernel
theorem dX1_writeText_206 : decode cX1_writeText 206 = .ok (.goto 54, 3) := by decide +kernel
theorem dX1_writeText_209 : decode cX1_writeText 209 = .ok (.aload_n 0, 1) := by decide +kernel
theorem dX1_writeText_210 : decode cX1_writeText 210 = .ok (.bipush 64, 2) := by decide +kernel
theorem dX1_writeText_212 : decode cX1_writeText 212 = .ok (.invokevirtual 86, 3) := by decide +kernel
theorem dX1_writeText_215 : decode cX1_writeText 215 = .ok (.aload_n 0, 1) := by decide +kernel
theorem dX1_writeText_216 : decode cX1_writeText 216 = .ok (.lload 5, 2) := by decide +kernel
theorem dX1_writeText_218 : decode cX1_writeText 218 = .ok (.invokestatic 77, 3) := by decide +kernel
theorem dX1_writeText_22 : decode cX1_writeText 22 = .ok (.iload_n 3, 1) := by decide +kernel
theorem dX1_writeText_221 : decode cX1_writeText 221 = .ok (.invokevirtual 80, 3) := by decide +kernel
theorem dX1_writeText_224 : decode cX1_writeText 224 = .ok (.aload_n 0, 1) := by decide +kernel
theorem dX1_writeText_225 : decode cX1_writeText 225 = .ok (.bipush 32, 2) := by decide +kernel
theorem dX1_writeText_227 : decode cX1_writeText 227 = .ok (.invokevirtual 86, 3) := by decide +kernel
theorem dX1_writeText_23 : decode cX1_writeText 23 = .ok (.if_icmp .ge 243, 3) := by decide +kernel
theorem dX1_writeText_230 : decode cX1_writeText 230 = .ok (.goto 24, 3) := by decide +kernel
theorem dX1_writeText_233 : decode cX1_writeText 233 = .ok (.aload_n 0, 1) := by decide +kernel
theorem dX1_writeText_234 : decode cX1_writeText 234 = .ok (.lload 5, 2) := by decide +kernel
theorem dX1_writeText_236 : decode cX1_writeText 236 = .ok (.invokestatic 54, 3) := by decide +kernel
theorem dX1_writeText_239 : decode cX1_writeText 239 = .ok (.bipush 6, 2) := by decide +kernel
theorem dX1_writeText_241 : decode cX1_writeText 241 = .ok (.if_icmp .ne 8, 3) := by decide +kernel
theorem dX1_writeText_244 : decode cX1_writeText 244 = .ok (.bipush 123, 2) := by decide +kernel
theorem dX1_writeText_246 : decode cX1_writeText 246 = .ok (.goto 5, 3) := by decide +kernel
theorem dX1_writeText_249 : decode cX1_writeText 249 = .ok (.bipush 91, 2) := by decide +kernel
theorem dX1_writeText_251 : decode cX1_writeText 251 = .ok (.invokevirtual 86, 3) := by decide +kernel
theorem dX1_writeText_254 : decode cX1_writeText 254 = .ok (.aload_n 0, 1) := by decide +kernel
theorem dX1_writeText_255 : decode cX1_writeText 255 = .ok (.lload 5, 2) := by decide +kernel
theorem dX1_writeText_257 : decode cX1_writeText 257 = .ok (.invokevirtual 91, 3) := by decide +kernel
theorem dX1_writeText_26 : decode cX1_writeText 26 = .ok (.aload_n 1, 1) := by decide +kernel
theorem dX1_writeText_260 : decode cX1_writeText 260 = .ok (.iinc 4 1, 3) := by decide +kernel
theorem dX1_writeText_263 : decode cX1_writeText 263 = .ok (.goto (-243), 3) := by decide +kernel
theorem dX1_writeText_266 : decode cX1_writeText 266 = .ok (.aload_n 0, 1) := by decide +kernel
theorem dX1_writeText_267 : decode cX1_writeText 267 = .ok (.getfield 43, 3) := by decide +kernel
theorem dX1_writeText_27 : decode cX1_writeText 27 = .ok (.iload_n 2, 1) := by decide +kernel
theorem dX1_writeText_270 : decode cX1_writeText 270 = .ok (.ireturn, 1) := by decide +kernel
theorem dX1_writeText_28 : decode cX1_writeText 28 = .ok (.iload 4, 2) := by decide +kernel
theorem dX1_writeText_30 : decode cX1_writeText 30 = .ok (.iadd, 1) := by decide +kernel
theorem dX1_writeText_31 : decode cX1_writeText 31 = .ok (.laload, 1) := by decide +kernel
theorem dX1_writeText_32 : decode cX1_writeText 32 = .ok (.lstore 5, 2) := by decide +kernel
theorem dX1_writeText_34 : decode cX1_writeText 34 = .ok (.lload 5, 2) := by decide +kernel
theorem dX1_writeText_36 : decode cX1_writeText 36 = .ok (.invokestatic 54, 3) := by decide +kernel
theorem dX1_writeText_39 : decode cX1_writeText 39 = .ok (.tableswitch 194 0 9 #[53, 65, 89, 113, 125, 134, 194, 170, 194, 152], 53) := by decide +kernel
theorem dX1_writeText_5 : decode cX1_writeText 5 = .ok (.aload_n 0, 1) := by decide +kernel
theorem dX1_writeText_6 : decode cX1_writeText 6 = .ok (.iconst 0, 1) := by decide +kernel
theorem dX1_writeText_7 : decode cX1_writeText 7 = .ok (.putfield 47, 3) := by decide +kernel
theorem dX1_writeText_92 : decode cX1_writeText 92 = .ok (.aload_n 0, 1) := by decide +kernel
theorem dX1_writeText_93 : decode cX1_writeText 93 = .ok (.lload 5, 2) := by decide +kernel
theorem dX1_writeText_95 : decode cX1_writeText 95 = .ok (.invokestatic 57, 3) := by decide +kernel
theorem dX1_writeText_98 : decode cX1_writeText 98 = .ok (.invokevirtual 61, 3) := by decide +kernel
noncomputable def k_X1_writeText_260 (l1 : Nat) (l2 : Int32) (l3 : Int32) (l4 : Int32) (s : t_S) : Option ((Nat × Int32 × Int32 × Int32 × t_S) ⊕ (Int32 × t_S)) :=
 some (.inl (l1, l2, l3, (l4 + 1), s))
set_option maxRecDepth 4000 in
set_option maxHeartbeats 1000000 in
theorem B_X1_writeText_260 {D : va_G} {cy : Nat → ClassId} {ad : Nat → Nat} {bs : Nat} {X : State → Heap → Prop} (l1 : Nat) (l2 : Int32) (l3 : Int32) (l4 : Int32) (s : t_S) (Q : (Nat × Int32 × Int32 × Int32 × t_S) ⊕ (Int32 × t_S) → Prop) (Hb20 : ∀ (y0 : Nat) (y1 : Int32) (y2 : Int32) (y3 : Int32) (y4 : t_S), Q (.inl (y0, y1, y2, y3, y4)) → mj_G D cy ad bs X cX1_writeText 7 yX1_writeText.cls (some .int) yX1_writeText.name 5 0 0 1065 (t_P (fun v s' => ∃ x, v = some (.int x) ∧ Q (.inr ((x, s'))))) 20 [(0, .ref 856), (1, .ref (y0)), (2, .int (y1)), (3, .int (y2)), (4, .int (y3))] [] (t_m y4) 1065 0 0) (hk : t_hk (k_X1_writeText_260 l1 l2 l3 l4 s) Q) : mj_G D cy ad bs X cX1_writeText 7 yX1_writeText.cls (some .int) yX1_writeText.name 5 0 0 1065 (t_P (fun v s' => ∃ x, v = some (.int x) ∧ Q (.inr ((x, s'))))) 260 [(0, .ref 856), (1, .ref l1), (2, .int l2), (3, .int l3), (4, .int l4)] [] (t_m s) 1065 0 0 := by
  refine mj_iinc (k := 4) (v := (l4 + 1)) (lv2 := [(4, .int (l4 + 1)), (0, .ref 856), (1, .ref l1), (2, .int l2), (3, .int l3)]) dX1_writeText_260 rfl rfl (by decide) rfl ?_
  refine mj_goto 20 dX1_writeText_263 (by decide) ?_
  refine mj_sublv [(0, .ref 856), (1, .ref l1), (2, .int l2), (3, .int l3), (4, .int (l4 + 1))] [1, 2, 3, 4, 0] rfl ?_
  exact t_somK hk (fun hf => Hb20 l1 l2 l3 (l4 + 1) s hf)
noncomputable def k_X1_writeText_254 (l1 : Nat) (l2 : Int32) (l3 : Int32) (l4 : Int32) (l5 : Int64) (s : t_S) : Option ((Nat × Int32 × Int32 × Int32 × t_S) ⊕ (Int32 × t_S)) :=
 (f_X1_closeWritten l5 s).bind (fun r1 =>
 k_X1_writeText_260 l1 l2 l3 l4 r1)
set_option maxRecDepth 4000 in
set_option maxHeartbeats 1000000 in
theorem B_X1_writeText_254 {D : va_G} {cy : Nat → ClassId} {ad : Nat → Nat} {bs : Nat} {X : State → Heap → Prop} (l1 : Nat) (l2 : Int32) (l3 : Int32) (l4 : Int32) (l5 : Int64) (s : t_S) (Q : (Nat × Int32 × Int32 × Int32 × t_S) ⊕ (Int32 × t_S) → Prop) (Hb20 : ∀ (y0 : Nat) (y1 : Int32) (y2 : Int32) (y3 : Int32) (y4 : t_S), Q (.inl (y0, y1, y2, y3, y4)) → mj_G D cy ad bs X cX1_writeText 7 yX1_writeText.cls (some .int) yX1_writeText.name 5 0 0 1065 (t_P (fun v s' => ∃ x, v = some (.int x) ∧ Q (.inr ((x, s'))))) 20 [(0, .ref 856), (1, .ref (y0)), (2, .int (y1)), (3, .int (y2)), (4, .int (y3))] [] (t_m y4) 1065 0 0) (hk : t_hk (k_X1_writeText_254 l1 l2 l3 l4 l5 s) Q) : mj_G D cy ad bs X cX1_writeText 7 yX1_writeText.cls (some .int) yX1_writeText.name 5 0 0 1065 (t_P (fun v s' => ∃ x, v = some (.int x) ∧ Q (.inr ((x, s'))))) 254 [(0, .ref 856), (1, .ref l1), (2, .int l2), (3, .int l3), (4, .int l4), (5, .long l5)] [] (t_m s) 1065 0 0 := by
  refine mj_aload_n dX1_writeText_254 0 rfl ?_
  refine mj_lload dX1_writeText_255 5 rfl ?_
  refine t_bndK hk (fun r1 er1 hk => ?_)
  refine t_callVvE dX1_writeText_257 M_X1_closeWritten (C_X1_closeWritten _ _ _ er1) ML_X1_91 IM_X1_closeWritten SE_X1_closeWritten qc_856 rfl (As := [.long l5]) rfl rfl (Nat.le_of_ble_eq_true rfl) (Nat.le_of_ble_eq_true rfl) (Nat.le_of_ble_eq_true rfl) (Nat.le_of_ble_eq_true rfl) ?_
  refine mj_sublv [(0, .ref 856), (1, .ref l1), (2, .int l2), (3, .int l3), (4, .int l4)] [0, 1, 2, 3, 4] rfl ?_
  exact B_X1_writeText_260 _ _ _ _ _ _ (fun y0 y1 y2 y3 y4 hx => Hb20 y0 y1 y2 y3 y4 hx) hk
noncomputable def k_X1_writeText_122 (l1 : Nat) (l2 : Int32) (l3 : Int32) (l4 : Int32) (l5 : Int64) (k0 : Nat) (s : t_S) : Option ((Nat × Int32 × Int32 × Int32 × t_S) ⊕ (Int32 × t_S)) :=
 (f_X1_writeWords k0 s).bind (fun r1 =>
 k_X1_writeText_254 l1 l2 l3 l4 l5 r1)
set_option maxRecDepth 4000 in
set_option maxHeartbeats 1000000 in
theorem B_X1_writeText_122 {D : va_G} {cy : Nat → ClassId} {ad : Nat → Nat} {bs : Nat} {X : State → Heap → Prop} (l1 : Nat) (l2 : Int32) (l3 : Int32) (l4 : Int32) (l5 : Int64) (k0 : Nat) (s : t_S) (Q : (Nat × Int32 × Int32 × Int32 × t_S) ⊕ (Int32 × t_S) → Prop) (Hb20 : ∀ (y0 : Nat) (y1 : Int32) (y2 : Int32) (y3 : Int32) (y4 : t_S), Q (.inl (y0, y1, y2, y3, y4)) → mj_G D cy ad bs X cX1_writeText 7 yX1_writeText.cls (some .int) yX1_writeText.name 5 0 0 1065 (t_P (fun v s' => ∃ x, v = some (.int x) ∧ Q (.inr ((x, s'))))) 20 [(0, .ref 856), (1, .ref (y0)), (2, .int (y1)), (3, .int (y2)), (4, .int (y3))] [] (t_m y4) 1065 0 0) (hk : t_hk (k_X1_writeText_122 l1 l2 l3 l4 l5 k0 s) Q) : mj_G D cy ad bs X cX1_writeText 7 yX1_writeText.cls (some .int) yX1_writeText.name 5 0 0 1065 (t_P (fun v s' => ∃ x, v = some (.int x) ∧ Q (.inr ((x, s'))))) 122 [(0, .ref 856), (1, .ref l1), (2, .int l2), (3, .int l3), (4, .int l4), (5, .long l5)] [.ref (1000000 + k0), .ref 856] (t_m s) 1065 0 0 := by
  refine t_bndK hk (fun r1 er1 hk => ?_)
  refine t_callVvE dX1_writeText_122 M_X1_writeWords (C_X1_writeWords _ _ _ er1) ML_X1_69 IM_X1_writeWords SE_X1_writeWords qc_856 rfl (As := [.ref (1000000 + k0)]) rfl rfl (Nat.le_of_ble_eq_true rfl) (Nat.le_of_ble_eq_true rfl) (Nat.le_of_ble_eq_true rfl) (Nat.le_of_ble_eq_true rfl) ?_
  refine mj_goto 254 dX1_writeText_125 (by decide) ?_
  exact B_X1_writeText_254 _ _ _ _ _ _ _ (fun y0 y1 y2 y3 y4 hx => Hb20 y0 y1 y2 y3 y4 hx) hk
noncomputable def k_X1_writeText_251 (l1 : Nat) (l2 : Int32) (l3 : Int32) (l4 : Int32) (l5 : Int64) (k0 : Int32) (s : t_S) : Option ((Nat × Int32 × Int32 × Int32 × t_S) ⊕ (Int32 × t_S)) :=
 (f_X1_writeSign k0 s).bind (fun r1 =>
 k_X1_writeText_254 l1 l2 l3 l4 l5 r1)
set_option maxRecDepth 4000 in
set_option maxHeartbeats 1000000 in
theorem B_X1_writeText_251 {D : va_G} {cy : Nat → ClassId} {ad : Nat → Nat} {bs : Nat} {X : State → Heap → Prop} (l1 : Nat) (l2 : Int32) (l3 : Int32) (l4 : Int32) (l5 : Int64) (k0 : Int32) (s : t_S) (Q : (Nat × Int32 × Int32 × Int32 × t_S) ⊕ (Int32 × t_S) → Prop) (Hb20 : ∀ (y0 : Nat) (y1 : Int32) (y2 : Int32) (y3 : Int32) (y4 : t_S), Q (.inl (y0, y1, y2, y3, y4)) → mj_G D cy ad bs X cX1_writeText 7 yX1_writeText.cls (some .int) yX1_writeText.name 5 0 0 1065 (t_P (fun v s' => ∃ x, v = some (.int x) ∧ Q (.inr ((x, s'))))) 20 [(0, .ref 856), (1, .ref (y0)), (2, .int (y1)), (3, .int (y2)), (4, .int (y3))] [] (t_m y4) 1065 0 0) (hk : t_hk (k_X1_writeText_251 l1 l2 l3 l4 l5 k0 s) Q) : mj_G D cy ad bs X cX1_writeText 7 yX1_writeText.cls (some .int) yX1_writeText.name 5 0 0 1065 (t_P (fun v s' => ∃ x, v = some (.int x) ∧ Q (.inr ((x, s'))))) 251 [(0, .ref 856), (1, .ref l1), (2, .int l2), (3, .int l3), (4, .int l4), (5, .long l5)] [.int k0, .ref 856] (t_m s) 1065 0 0 := by
  refine t_bndK hk (fun r1 er1 hk => ?_)
  refine t_callVvE dX1_writeText_251 M_X1_writeSign (C_X1_writeSign _ _ _ er1) ML_X1_86 IM_X1_writeSign SE_X1_writeSign qc_856 rfl (As := [.int k0]) rfl rfl (Nat.le_of_ble_eq_true rfl) (Nat.le_of_ble_eq_true rfl) (Nat.le_of_ble_eq_true rfl) (Nat.le_of_ble_eq_true rfl) ?_
  exact B_X1_writeText_254 _ _ _ _ _ _ _ (fun y0 y1 y2 y3 y4 hx => Hb20 y0 y1 y2 y3 y4 hx) hk
noncomputable def k_X1_writeText_20 (l1 : Nat) (l2 : Int32) (l3 : Int32) (l4 : Int32) (s : t_S) : Option ((Nat × Int32 × Int32 × Int32 × t_S) ⊕ (Int32 × t_S)) :=
 if l3 ≤ l4 then ((some ((s.1 856 3), s)).map Sum.inr)
 else (if t_oka l1 2 (t_ln l1) = true then
  if t_ix (l2 + l4) (t_ln l1) = true then
  if (f_X8_kind (s.2.1 l1 ((l2 + l4).toNatClampNeg)) s).toInt < 0 ∨ 9 < (f_X8_kind (s.2.1 l1 ((l2 + l4).toNatClampNeg)) s).toInt then (if (f_X8_kind (s.2.1 l1 ((l2 + l4).toNatClampNeg)) s) = (6 : Int32) then (k_X1_writeText_251 l1 l2 l3 l4 (s.2.1 l1 ((l2 + l4).toNatClampNeg)) 123 s)
 else (k_X1_writeText_251 l1 l2 l3 l4 (s.2.1 l1 ((l2 + l4).toNatClampNeg)) 91 s))
 else if (f_X8_kind (s.2.1 l1 ((l2 + l4).toNatClampNeg)) s).toInt = 0 then ((f_X1_writeNumber (f_X8_told (s.2.1 l1 ((l2 + l4).toNatClampNeg)) s) s).bind (fun r6 =>
 k_X1_writeText_254 l1 l2 l3 l4 (s.2.1 l1 ((l2 + l4).toNatClampNeg)) r6))
 else if (f_X8_kind (s.2.1 l1 ((l2 + l4).toNatClampNeg)) s).toInt = 1 then (if (lg_cmp (f_X8_told (s.2.1 l1 ((l2 + l4).toNatClampNeg)) s) (0 : Int64)) = (0 : Int32) then (k_X1_writeText_122 l1 l2 l3 l4 (s.2.1 l1 ((l2 + l4).toNatClampNeg)) 2 s)
 else (k_X1_writeText_122 l1 l2 l3 l4 (s.2.1 l1 ((l2 + l4).toNatClampNeg)) 1 s))
 else if (f_X8_kind (s.2.1 l1 ((l2 + l4).toNatClampNeg)) s).toInt = 2 then ((f_X1_writeSigns l1 (l2 + l4) s).bind (fun r8 =>
 k_X1_writeText_254 l1 l2 l3 (l4 + ((f_X8_size (s.2.1 l1 ((l2 + l4).toNatClampNeg)) r8) - (1 : Int32))) (s.2.1 l1 ((l2 + l4).toNatClampNeg)) r8))
 else if (f_X8_kind (s.2.1 l1 ((l2 + l4).toNatClampNeg)) s).toInt = 3 then ((f_X1_writeName (f_X8_wordOf (s.2.1 l1 ((l2 + l4).toNatClampNeg)) s) s).bind (fun r11 =>
 k_X1_writeText_254 l1 l2 l3 l4 (s.2.1 l1 ((l2 + l4).toNatClampNeg)) r11))
 else if (f_X8_kind (s.2.1 l1 ((l2 + l4).toNatClampNeg)) s).toInt = 4 then ((f_X1_writeWords 3 s).bind (fun r12 =>
 k_X1_writeText_254 l1 l2 l3 l4 (s.2.1 l1 ((l2 + l4).toNatClampNeg)) r12))
 else if (f_X8_kind (s.2.1 l1 ((l2 + l4).toNatClampNeg)) s).toInt = 5 then ((f_X1_writeSign (35 : Int32) s).bind (fun r13 =>
 (f_X1_writeNumber (f_X8_told (s.2.1 l1 ((l2 + l4).toNatClampNeg)) r13) r13).bind (fun r15 =>
 k_X1_writeText_254 l1 l2 l3 l4 (s.2.1 l1 ((l2 + l4).toNatClampNeg)) r15)))
 else if (f_X8_kind (s.2.1 l1 ((l2 + l4).toNatClampNeg)) s).toInt = 6 then (if (f_X8_kind (s.2.1 l1 ((l2 + l4).toNatClampNeg)) s) = (6 : Int32) then (k_X1_writeText_251 l1 l2 l3 l4 (s.2.1 l1 ((l2 + l4).toNatClampNeg)) 123 s)
 else (k_X1_writeText_251 l1 l2 l3 l4 (s.2.1 l1 ((l2 + l4).toNatClampNeg)) 91 s))
 else if (f_X8_kind (s.2.1 l1 ((l2 + l4).toNatClampNeg)) s).toInt = 7 then ((f_X1_writeSign (64 : Int32) s).bind (fun r17 =>
 (f_X1_writeName (f_X8_wordOf (s.2.1 l1 ((l2 + l4).toNatClampNeg)) r17) r17).bind (fun r19 =>
 (f_X1_writeSign (32 : Int32) r19).bind (fun r20 =>
 k_X1_writeText_254 l1 l2 l3 l4 (s.2.1 l1 ((l2 + l4).toNatClampNeg)) r20))))
 else if (f_X8_kind (s.2.1 l1 ((l2 + l4).toNatClampNeg)) s).toInt = 8 then (if (f_X8_kind (s.2.1 l1 ((l2 + l4).toNatClampNeg)) s) = (6 : Int32) then (k_X1_writeText_251 l1 l2 l3 l4 (s.2.1 l1 ((l2 + l4).toNatClampNeg)) 123 s)
 else (k_X1_writeText_251 l1 l2 l3 l4 (s.2.1 l1 ((l2 + l4).toNatClampNeg)) 91 s))
 else ((f_X1_writeName (f_X8_wordOf (s.2.1 l1 ((l2 + l4).toNatClampNeg)) s) s).bind (fun r23 =>
 (f_X1_writeWords 4 r23).bind (fun r24 =>
 k_X1_writeText_260 l1 l2 l3 l4 r24)))
else none
else none)
set_option maxRecDepth 4000 in
set_option maxHeartbeats 1000000 in
theorem B_X1_writeText_20 {D : va_G} {cy : Nat → ClassId} {ad : Nat → Nat} {bs : Nat} {X : State → Heap → Prop} (l1 : Nat) (l2 : Int32) (l3 : Int32) (l4 : Int32) (s : t_S) (Q : (Nat × Int32 × Int32 × Int32 × t_S) ⊕ (Int32 × t_S) → Prop) (Hb20 : ∀ (y0 : Nat) (y1 : Int32) (y2 : Int32) (y3 : Int32) (y4 : t_S), Q (.inl (y0, y1, y2, y3, y4)) → mj_G D cy ad bs X cX1_writeText 7 yX1_writeText.cls (some .int) yX1_writeText.name 5 0 0 1065 (t_P (fun v s' => ∃ x, v = some (.int x) ∧ Q (.inr ((x, s'))))) 20 [(0, .ref 856), (1, .ref (y0)), (2, .int (y1)), (3, .int (y2)), (4, .int (y3))] [] (t_m y4) 1065 0 0) (hk : t_hk (k_X1_writeText_20 l1 l2 l3 l4 s) Q) : mj_G D cy ad bs X cX1_writeText 7 yX1_writeText.cls (some .int) yX1_writeText.name 5 0 0 1065 (t_P (fun v s' => ∃ x, v = some (.int x) ∧ Q (.inr ((x, s'))))) 20 [(0, .ref 856), (1, .ref l1), (2, .int l2), (3, .int l3), (4, .int l4)] [] (t_m s) 1065 0 0 := by
  refine mj_iload dX1_writeText_20 4 rfl ?_
  refine mj_iload_n dX1_writeText_22 3 rfl ?_
  refine mj_icmp_ge 266 dX1_writeText_23 (by decide) (fun z => t_posK hk z (fun hk => ?_)) (fun z => t_negK hk z (fun hk => ?_))
  · refine t_mapK hk (fun hk => ?_)
    refine mj_aload_n dX1_writeText_266 0 rfl ?_
    refine t_getI dX1_writeText_267 F_X1_43 qf_856_3 ?_
    exact t_somK hk (fun hf => t_iret dX1_writeText_270 rfl rfl ⟨_, rfl, hf⟩ (Nat.le_of_ble_eq_true rfl) (Nat.le_of_ble_eq_true rfl))
  · refine mj_aload_n dX1_writeText_26 1 rfl ?_
    refine mj_iload_n dX1_writeText_27 2 rfl ?_
    refine mj_iload dX1_writeText_28 4 rfl ?_
    refine mj_iadd dX1_writeText_30 ?_
    refine t_chkK hk (fun c0 hk => ?_)
    refine t_chkK hk (fun c1 hk => ?_)
    refine t_lald dX1_writeText_31 c0 (t_ixv c1) ?_
    refine mj_lstore (lv2 := [(5, .long (s.2.1 l1 ((l2 + l4).toNatClampNeg))), (0, .ref 856), (1, .ref l1), (2, .int l2), (3, .int l3), (4, .int l4)]) dX1_writeText_32 (by decide) rfl ?_
    refine mj_lload dX1_writeText_34 0 rfl ?_
    refine t_callSiP dX1_writeText_36 M_X8_kind (C_X8_kind _ _) ML_X1_54 SM_X8_kind (As := [.long (s.2.1 l1 ((l2 + l4).toNatClampNeg))]) rfl rfl (Nat.le_of_ble_eq_true rfl) (Nat.le_of_ble_eq_true rfl) (Nat.le_of_ble_eq_true rfl) (Nat.le_of_ble_eq_true rfl) ?_
    by_cases hout : (f_X8_kind (s.2.1 l1 ((l2 + l4).toNatClampNeg)) s).toInt < 0 ∨ 9 < (f_X8_kind (s.2.1 l1 ((l2 + l4).toNatClampNeg)) s).toInt
    · replace hk := t_pos hk hout
      refine mj_tableOut 233 dX1_writeText_39 hout (by decide) ?_
      refine mj_aload_n dX1_writeText_233 1 rfl ?_
      refine mj_lload dX1_writeText_234 0 rfl ?_
      refine t_callSiP dX1_writeText_236 M_X8_kind (C_X8_kind _ _) ML_X1_54 SM_X8_kind (As := [.long (s.2.1 l1 ((l2 + l4).toNatClampNeg))]) rfl rfl (Nat.le_of_ble_eq_true rfl) (Nat.le_of_ble_eq_true rfl) (Nat.le_of_ble_eq_true rfl) (Nat.le_of_ble_eq_true rfl) ?_
      refine mj_bipush (v := 6) dX1_writeText_239 (by decide) ?_
      refine mj_icmp_ne 249 dX1_writeText_241 (by decide) (fun z => t_negK hk z (fun hk => ?_)) (fun z => t_posK hk z (fun hk => ?_))
      · refine mj_bipush (v := 91) dX1_writeText_249 (by decide) ?_
        refine mj_sublv [(0, .ref 856), (1, .ref l1), (2, .int l2), (3, .int l3), (4, .int l4), (5, .long (s.2.1 l1 ((l2 + l4).toNatClampNeg)))] [1, 2, 3, 4, 5, 0] rfl ?_
        exact B_X1_writeText_251 _ _ _ _ _ _ _ _ (fun y0 y1 y2 y3 y4 hx => Hb20 y0 y1 y2 y3 y4 hx) hk
      · refine mj_bipush (v := 123) dX1_writeText_244 (by decide) ?_
        refine mj_goto 251 dX1_writeText_246 (by decide) ?_
        refine mj_sublv [(0, .ref 856), (1, .ref l1), (2, .int l2), (3, .int l3), (4, .int l4), (5, .long (s.2.1 l1 ((l2 + l4).toNatClampNeg)))] [1, 2, 3, 4, 5, 0] rfl ?_
        exact B_X1_writeText_251 _ _ _ _ _ _ _ _ (fun y0 y1 y2 y3 y4 hx => Hb20 y0 y1 y2 y3 y4 hx) hk
    · replace hk := t_neg hk hout
      have hh1 : ¬ (f_X8_kind (s.2.1 l1 ((l2 + l4).toNatClampNeg)) s).toInt < 0 := fun z => hout (Or.inl z)
      have hh2 : ¬ (9 : Int) < (f_X8_kind (s.2.1 l1 ((l2 + l4).toNatClampNeg)) s).toInt := fun z => hout (Or.inr z)
      by_cases h0 : (f_X8_kind (s.2.1 l1 ((l2 + l4).toNatClampNeg)) s).toInt = 0
      · replace hk := t_pos hk h0
        refine mj_tableIn 92 dX1_writeText_39 hh1 hh2 (by rw [h0]; rfl) (by decide) ?_
        refine mj_aload_n dX1_writeText_92 1 rfl ?_
        refine mj_lload dX1_writeText_93 0 rfl ?_
        refine t_callSlP dX1_writeText_95 M_X8_told (C_X8_told _ _) ML_X1_57 SM_X8_told (As := [.long (s.2.1 l1 ((l2 + l4).toNatClampNeg))]) rfl rfl (Nat.le_of_ble_eq_true rfl) (Nat.le_of_ble_eq_true rfl) (Nat.le_of_ble_eq_true rfl) (Nat.le_of_ble_eq_true rfl) ?_
        refine t_bndK hk (fun r6 er6 hk => ?_)
        refine t_callVvE dX1_writeText_98 M_X1_writeNumber (C_X1_writeNumber _ _ _ er6) ML_X1_61 IM_X1_writeNumber SE_X1_writeNumber qc_856 rfl (As := [.long (f_X8_told (s.2.1 l1 ((l2 + l4).toNatClampNeg)) s)]) rfl rfl (Nat.le_of_ble_eq_true rfl) (Nat.le_of_ble_eq_true rfl) (Nat.le_of_ble_eq_true rfl) (Nat.le_of_ble_eq_true rfl) ?_
        refine mj_goto 254 dX1_writeText_101 (by decide) ?_
        refine mj_sublv [(0, .ref 856), (1, .ref l1), (2, .int l2), (3, .int l3), (4, .int l4), (5, .long (s.2.1 l1 ((l2 + l4).toNatClampNeg)))] [1, 2, 3, 4, 5, 0] rfl ?_
        exact B_X1_writeText_254 _ _ _ _ _ _ _ (fun y0 y1 y2 y3 y4 hx => Hb20 y0 y1 y2 y3 y4 hx) hk
      replace hk := t_neg hk h0
      by_cases h1 : (f_X8_kind (s.2.1 l1 ((l2 + l4).toNatClampNeg)) s).toInt = 1
      · replace hk := t_pos hk h1
        refine mj_tableIn 104 dX1_writeText_39 hh1 hh2 (by rw [h1]; rfl) (by decide) ?_
        refine mj_aload_n dX1_writeText_104 1 rfl ?_
        refine mj_lload dX1_writeText_105 0 rfl ?_
        refine t_callSlP dX1_writeText_107 M_X8_told (C_X8_told _ _) ML_X1_57 SM_X8_told (As := [.long (s.2.1 l1 ((l2 + l4).toNatClampNeg))]) rfl rfl (Nat.le_of_ble_eq_true rfl) (Nat.le_of_ble_eq_true rfl) (Nat.le_of_ble_eq_true rfl) (Nat.le_of_ble_eq_true rfl) ?_
        refine mj_lconst (v := 0) dX1_writeText_110 (by decide) ?_
        refine mj_lcmp dX1_writeText_111 ?_
        refine mj_if_eq 120 dX1_writeText_112 (by decide) (fun z => t_posK hk z (fun hk => ?_)) (fun z => t_negK hk z (fun hk => ?_))
        · refine mj_ldcE dX1_writeText_120 TX_X1_67 ?_
          refine mj_sublv [(0, .ref 856), (1, .ref l1), (2, .int l2), (3, .int l3), (4, .int l4), (5, .long (s.2.1 l1 ((l2 + l4).toNatClampNeg)))] [1, 2, 3, 4, 5, 0] rfl ?_
          exact B_X1_writeText_122 _ _ _ _ _ _ _ _ (fun y0 y1 y2 y3 y4 hx => Hb20 y0 y1 y2 y3 y4 hx) hk
        · refine mj_ldcE dX1_writeText_115 TX_X1_65 ?_
          refine mj_goto 122 dX1_writeText_117 (by decide) ?_
          refine mj_sublv [(0, .ref 856), (1, .ref l1), (2, .int l2), (3, .int l3), (4, .int l4), (5, .long (s.2.1 l1 ((l2 + l4).toNatClampNeg)))] [1, 2, 3, 4, 5, 0] rfl ?_
          exact B_X1_writeText_122 _ _ _ _ _ _ _ _ (fun y0 y1 y2 y3 y4 hx => Hb20 y0 y1 y2 y3 y4 hx) hk
      replace hk := t_neg hk h1
      by_cases h2 : (f_X8_kind (s.2.1 l1 ((l2 + l4).toNatClampNeg)) s).toInt = 2
      · replace hk := t_pos hk h2
        refine mj_tableIn 128 dX1_writeText_39 hh1 hh2 (by rw [h2]; rfl) (by decide) ?_
        refine mj_aload_n dX1_writeText_128 1 rfl ?_
        refine mj_aload_n dX1_writeText_129 2 rfl ?_
        refine mj_iload_n dX1_writeText_130 3 rfl ?_
        refine mj_iload dX1_writeText_131 5 rfl ?_
        refine mj_iadd dX1_writeText_133 ?_
        refine t_bndK hk (fun r8 er8 hk => ?_)
        refine t_callVvE dX1_writeText_134 M_X1_writeSigns (C_X1_writeSigns _ _ _ _ er8) ML_X1_73 IM_X1_writeSigns SE_X1_writeSigns qc_856 rfl (As := [.ref l1, .int (l2 + l4)]) rfl rfl (Nat.le_of_ble_eq_true rfl) (Nat.le_of_ble_eq_true rfl) (Nat.le_of_ble_eq_true rfl) (Nat.le_of_ble_eq_true rfl) ?_
        refine mj_iload dX1_writeText_137 5 rfl ?_
        refine mj_lload dX1_writeText_139 0 rfl ?_
        refine t_callSiP dX1_writeText_141 M_X8_size (C_X8_size _ _) ML_X1_50 SM_X8_size (As := [.long (s.2.1 l1 ((l2 + l4).toNatClampNeg))]) rfl rfl (Nat.le_of_ble_eq_true rfl) (Nat.le_of_ble_eq_true rfl) (Nat.le_of_ble_eq_true rfl) (Nat.le_of_ble_eq_true rfl) ?_
        refine mj_iconst (v := 1) dX1_writeText_144 (by decide) ?_
        refine mj_isub dX1_writeText_145 ?_
        refine mj_iadd dX1_writeText_146 ?_
        refine mj_istore (lv2 := [(4, .int (l4 + ((f_X8_size (s.2.1 l1 ((l2 + l4).toNatClampNeg)) r8) - (1 : Int32)))), (5, .long (s.2.1 l1 ((l2 + l4).toNatClampNeg))), (0, .ref 856), (1, .ref l1), (2, .int l2), (3, .int l3)]) dX1_writeText_147 (by decide) rfl ?_
        refine mj_goto 254 dX1_writeText_149 (by decide) ?_
        refine mj_sublv [(0, .ref 856), (1, .ref l1), (2, .int l2), (3, .int l3), (4, .int (l4 + ((f_X8_size (s.2.1 l1 ((l2 + l4).toNatClampNeg)) r8) - (1 : Int32)))), (5, .long (s.2.1 l1 ((l2 + l4).toNatClampNeg)))] [2, 3, 4, 5, 0, 1] rfl ?_
        exact B_X1_writeText_254 _ _ _ _ _ _ _ (fun y0 y1 y2 y3 y4 hx => Hb20 y0 y1 y2 y3 y4 hx) hk
      replace hk := t_neg hk h2
      by_cases h3 : (f_X8_kind (s.2.1 l1 ((l2 + l4).toNatClampNeg)) s).toInt = 3
      · replace hk := t_pos hk h3
        refine mj_tableIn 152 dX1_writeText_39 hh1 hh2 (by rw [h3]; rfl) (by decide) ?_
        refine mj_aload_n dX1_writeText_152 1 rfl ?_
        refine mj_lload dX1_writeText_153 0 rfl ?_
        refine t_callSiP dX1_writeText_155 M_X8_wordOf (C_X8_wordOf _ _) ML_X1_77 SM_X8_wordOf (As := [.long (s.2.1 l1 ((l2 + l4).toNatClampNeg))]) rfl rfl (Nat.le_of_ble_eq_true rfl) (Nat.le_of_ble_eq_true rfl) (Nat.le_of_ble_eq_true rfl) (Nat.le_of_ble_eq_true rfl) ?_
        refine t_bndK hk (fun r11 er11 hk => ?_)
        refine t_callVvE dX1_writeText_158 M_X1_writeName (C_X1_writeName _ _ _ er11) ML_X1_80 IM_X1_writeName SE_X1_writeName qc_856 rfl (As := [.int (f_X8_wordOf (s.2.1 l1 ((l2 + l4).toNatClampNeg)) s)]) rfl rfl (Nat.le_of_ble_eq_true rfl) (Nat.le_of_ble_eq_true rfl) (Nat.le_of_ble_eq_true rfl) (Nat.le_of_ble_eq_true rfl) ?_
        refine mj_goto 254 dX1_writeText_161 (by decide) ?_
        refine mj_sublv [(0, .ref 856), (1, .ref l1), (2, .int l2), (3, .int l3), (4, .int l4), (5, .long (s.2.1 l1 ((l2 + l4).toNatClampNeg)))] [1, 2, 3, 4, 5, 0] rfl ?_
        exact B_X1_writeText_254 _ _ _ _ _ _ _ (fun y0 y1 y2 y3 y4 hx => Hb20 y0 y1 y2 y3 y4 hx) hk
      replace hk := t_neg hk h3
      by_cases h4 : (f_X8_kind (s.2.1 l1 ((l2 + l4).toNatClampNeg)) s).toInt = 4
      · replace hk := t_pos hk h4
        refine mj_tableIn 164 dX1_writeText_39 hh1 hh2 (by rw [h4]; rfl) (by decide) ?_
        refine mj_aload_n dX1_writeText_164 1 rfl ?_
        refine mj_ldcE dX1_writeText_165 TX_X1_84 ?_
        refine t_bndK hk (fun r12 er12 hk => ?_)
        refine t_callVvE dX1_writeText_167 M_X1_writeWords (C_X1_writeWords _ _ _ er12) ML_X1_69 IM_X1_writeWords SE_X1_writeWords qc_856 rfl (As := [.ref (1000000 + 3)]) rfl rfl (Nat.le_of_ble_eq_true rfl) (Nat.le_of_ble_eq_true rfl) (Nat.le_of_ble_eq_true rfl) (Nat.le_of_ble_eq_true rfl) ?_
        refine mj_goto 254 dX1_writeText_170 (by decide) ?_
        refine mj_sublv [(0, .ref 856), (1, .ref l1), (2, .int l2), (3, .int l3), (4, .int l4), (5, .long (s.2.1 l1 ((l2 + l4).toNatClampNeg)))] [1, 2, 3, 4, 5, 0] rfl ?_
        exact B_X1_writeText_254 _ _ _ _ _ _ _ (fun y0 y1 y2 y3 y4 hx => Hb20 y0 y1 y2 y3 y4 hx) hk
      replace hk := t_neg hk h4
      by_cases h5 : (f_X8_kind (s.2.1 l1 ((l2 + l4).toNatClampNeg)) s).toInt = 5
      · replace hk := t_pos hk h5
        refine mj_tableIn 173 dX1_writeText_39 hh1 hh2 (by rw [h5]; rfl) (by decide) ?_
        refine mj_aload_n dX1_writeText_173 1 rfl ?_
        refine mj_bipush (v := 35) dX1_writeText_174 (by decide) ?_
        refine t_bndK hk (fun r13 er13 hk => ?_)
        refine t_callVvE dX1_writeText_176 M_X1_writeSign (C_X1_writeSign _ _ _ er13) ML_X1_86 IM_X1_writeSign SE_X1_writeSign qc_856 rfl (As := [.int 35]) rfl rfl (Nat.le_of_ble_eq_true rfl) (Nat.le_of_ble_eq_true rfl) (Nat.le_of_ble_eq_true rfl) (Nat.le_of_ble_eq_true rfl) ?_
        refine mj_aload_n dX1_writeText_179 1 rfl ?_
        refine mj_lload dX1_writeText_180 0 rfl ?_
        refine t_callSlP dX1_writeText_182 M_X8_told (C_X8_told _ _) ML_X1_57 SM_X8_told (As := [.long (s.2.1 l1 ((l2 + l4).toNatClampNeg))]) rfl rfl (Nat.le_of_ble_eq_true rfl) (Nat.le_of_ble_eq_true rfl) (Nat.le_of_ble_eq_true rfl) (Nat.le_of_ble_eq_true rfl) ?_
        refine t_bndK hk (fun r15 er15 hk => ?_)
        refine t_callVvE dX1_writeText_185 M_X1_writeNumber (C_X1_writeNumber _ _ _ er15) ML_X1_61 IM_X1_writeNumber SE_X1_writeNumber qc_856 rfl (As := [.long (f_X8_told (s.2.1 l1 ((l2 + l4).toNatClampNeg)) r13)]) rfl rfl (Nat.le_of_ble_eq_true rfl) (Nat.le_of_ble_eq_true rfl) (Nat.le_of_ble_eq_true rfl) (Nat.le_of_ble_eq_true rfl) ?_
        refine mj_goto 254 dX1_writeText_188 (by decide) ?_
        refine mj_sublv [(0, .ref 856), (1, .ref l1), (2, .int l2), (3, .int l3), (4, .int l4), (5, .long (s.2.1 l1 ((l2 + l4).toNatClampNeg)))] [1, 2, 3, 4, 5, 0] rfl ?_
        exact B_X1_writeText_254 _ _ _ _ _ _ _ (fun y0 y1 y2 y3 y4 hx => Hb20 y0 y1 y2 y3 y4 hx) hk
      replace hk := t_neg hk h5
      by_cases h6 : (f_X8_kind (s.2.1 l1 ((l2 + l4).toNatClampNeg)) s).toInt = 6
      · replace hk := t_pos hk h6
        refine mj_tableIn 233 dX1_writeText_39 hh1 hh2 (by rw [h6]; rfl) (by decide) ?_
        refine mj_aload_n dX1_writeText_233 1 rfl ?_
        refine mj_lload dX1_writeText_234 0 rfl ?_
        refine t_callSiP dX1_writeText_236 M_X8_kind (C_X8_kind _ _) ML_X1_54 SM_X8_kind (As := [.long (s.2.1 l1 ((l2 + l4).toNatClampNeg))]) rfl rfl (Nat.le_of_ble_eq_true rfl) (Nat.le_of_ble_eq_true rfl) (Nat.le_of_ble_eq_true rfl) (Nat.le_of_ble_eq_true rfl) ?_
        refine mj_bipush (v := 6) dX1_writeText_239 (by decide) ?_
        refine mj_icmp_ne 249 dX1_writeText_241 (by decide) (fun z => t_negK hk z (fun hk => ?_)) (fun z => t_posK hk z (fun hk => ?_))
        · refine mj_bipush (v := 91) dX1_writeText_249 (by decide) ?_
          refine mj_sublv [(0, .ref 856), (1, .ref l1), (2, .int l2), (3, .int l3), (4, .int l4), (5, .long (s.2.1 l1 ((l2 + l4).toNatClampNeg)))] [1, 2, 3, 4, 5, 0] rfl ?_
          exact B_X1_writeText_251 _ _ _ _ _ _ _ _ (fun y0 y1 y2 y3 y4 hx => Hb20 y0 y1 y2 y3 y4 hx) hk
        · refine mj_bipush (v := 123) dX1_writeText_244 (by decide) ?_
          refine mj_goto 251 dX1_writeText_246 (by decide) ?_
          refine mj_sublv [(0, .ref 856), (1, .ref l1), (2, .int l2), (3, .int l3), (4, .int l4), (5, .long (s.2.1 l1 ((l2 + l4).toNatClampNeg)))] [1, 2, 3, 4, 5, 0] rfl ?_
          exact B_X1_writeText_251 _ _ _ _ _ _ _ _ (fun y0 y1 y2 y3 y4 hx => Hb20 y0 y1 y2 y3 y4 hx) hk
      replace hk := t_neg hk h6
      by_cases h7 : (f_X8_kind (s.2.1 l1 ((l2 + l4).toNatClampNeg)) s).toInt = 7
      · replace hk := t_pos hk h7
        refine mj_tableIn 209 dX1_writeText_39 hh1 hh2 (by rw [h7]; rfl) (by decide) ?_
        refine mj_aload_n dX1_writeText_209 1 rfl ?_
        refine mj_bipush (v := 64) dX1_writeText_210 (by decide) ?_
        refine t_bndK hk (fun r17 er17 hk => ?_)
        refine t_callVvE dX1_writeText_212 M_X1_writeSign (C_X1_writeSign _ _ _ er17) ML_X1_86 IM_X1_writeSign SE_X1_writeSign qc_856 rfl (As := [.int 64]) rfl rfl (Nat.le_of_ble_eq_true rfl) (Nat.le_of_ble_eq_true rfl) (Nat.le_of_ble_eq_true rfl) (Nat.le_of_ble_eq_true rfl) ?_
        refine mj_aload_n dX1_writeText_215 1 rfl ?_
        refine mj_lload dX1_writeText_216 0 rfl ?_
        refine t_callSiP dX1_writeText_218 M_X8_wordOf (C_X8_wordOf _ _) ML_X1_77 SM_X8_wordOf (As := [.long (s.2.1 l1 ((l2 + l4).toNatClampNeg))]) rfl rfl (Nat.le_of_ble_eq_true rfl) (Nat.le_of_ble_eq_true rfl) (Nat.le_of_ble_eq_true rfl) (Nat.le_of_ble_eq_true rfl) ?_
        refine t_bndK hk (fun r19 er19 hk => ?_)
        refine t_callVvE dX1_writeText_221 M_X1_writeName (C_X1_writeName _ _ _ er19) ML_X1_80 IM_X1_writeName SE_X1_writeName qc_856 rfl (As := [.int (f_X8_wordOf (s.2.1 l1 ((l2 + l4).toNatClampNeg)) r17)]) rfl rfl (Nat.le_of_ble_eq_true rfl) (Nat.le_of_ble_eq_true rfl) (Nat.le_of_ble_eq_true rfl) (Nat.le_of_ble_eq_true rfl) ?_
        refine mj_aload_n dX1_writeText_224 1 rfl ?_
        refine mj_bipush (v := 32) dX1_writeText_225 (by decide) ?_
        refine t_bndK hk (fun r20 er20 hk => ?_)
        refine t_callVvE dX1_writeText_227 M_X1_writeSign (C_X1_writeSign _ _ _ er20) ML_X1_86 IM_X1_writeSign SE_X1_writeSign qc_856 rfl (As := [.int 32]) rfl rfl (Nat.le_of_ble_eq_true rfl) (Nat.le_of_ble_eq_true rfl) (Nat.le_of_ble_eq_true rfl) (Nat.le_of_ble_eq_true rfl) ?_
        refine mj_goto 254 dX1_writeText_230 (by decide) ?_
        refine mj_sublv [(0, .ref 856), (1, .ref l1), (2, .int l2), (3, .int l3), (4, .int l4), (5, .long (s.2.1 l1 ((l2 + l4).toNatClampNeg)))] [1, 2, 3, 4, 5, 0] rfl ?_
        exact B_X1_writeText_254 _ _ _ _ _ _ _ (fun y0 y1 y2 y3 y4 hx => Hb20 y0 y1 y2 y3 y4 hx) hk
      replace hk := t_neg hk h7
      by_cases h8 : (f_X8_kind (s.2.1 l1 ((l2 + l4).toNatClampNeg)) s).toInt = 8
      · replace hk := t_pos hk h8
        refine mj_tableIn 233 dX1_writeText_39 hh1 hh2 (by rw [h8]; rfl) (by decide) ?_
        refine mj_aload_n dX1_writeText_233 1 rfl ?_
        refine mj_lload dX1_writeText_234 0 rfl ?_
        refine t_callSiP dX1_writeText_236 M_X8_kind (C_X8_kind _ _) ML_X1_54 SM_X8_kind (As := [.long (s.2.1 l1 ((l2 + l4).toNatClampNeg))]) rfl rfl (Nat.le_of_ble_eq_true rfl) (Nat.le_of_ble_eq_true rfl) (Nat.le_of_ble_eq_true rfl) (Nat.le_of_ble_eq_true rfl) ?_
        refine mj_bipush (v := 6) dX1_writeText_239 (by decide) ?_
        refine mj_icmp_ne 249 dX1_writeText_241 (by decide) (fun z => t_negK hk z (fun hk => ?_)) (fun z => t_posK hk z (fun hk => ?_))
        · refine mj_bipush (v := 91) dX1_writeText_249 (by decide) ?_
          refine mj_sublv [(0, .ref 856), (1, .ref l1), (2, .int l2), (3, .int l3), (4, .int l4), (5, .long (s.2.1 l1 ((l2 + l4).toNatClampNeg)))] [1, 2, 3, 4, 5, 0] rfl ?_
          exact B_X1_writeText_251 _ _ _ _ _ _ _ _ (fun y0 y1 y2 y3 y4 hx => Hb20 y0 y1 y2 y3 y4 hx) hk
        · refine mj_bipush (v := 123) dX1_writeText_244 (by decide) ?_
          refine mj_goto 251 dX1_writeText_246 (by decide) ?_
          refine mj_sublv [(0, .ref 856), (1, .ref l1), (2, .int l2), (3, .int l3), (4, .int l4), (5, .long (s.2.1 l1 ((l2 + l4).toNatClampNeg)))] [1, 2, 3, 4, 5, 0] rfl ?_
          exact B_X1_writeText_251 _ _ _ _ _ _ _ _ (fun y0 y1 y2 y3 y4 hx => Hb20 y0 y1 y2 y3 y4 hx) hk
      replace hk := t_neg hk h8
      have h9 : (f_X8_kind (s.2.1 l1 ((l2 + l4).toNatClampNeg)) s).toInt = 9 := by omega
      refine mj_tableIn 191 dX1_writeText_39 hh1 hh2 (by rw [h9]; rfl) (by decide) ?_
      refine mj_aload_n dX1_writeText_191 1 rfl ?_
      refine mj_lload dX1_writeText_192 0 rfl ?_
      refine t_callSiP dX1_writeText_194 M_X8_wordOf (C_X8_wordOf _ _) ML_X1_77 SM_X8_wordOf (As := [.long (s.2.1 l1 ((l2 + l4).toNatClampNeg))]) rfl rfl (Nat.le_of_ble_eq_true rfl) (Nat.le_of_ble_eq_true rfl) (Nat.le_of_ble_eq_true rfl) (Nat.le_of_ble_eq_true rfl) ?_
      refine t_bndK hk (fun r23 er23 hk => ?_)
      refine t_callVvE dX1_writeText_197 M_X1_writeName (C_X1_writeName _ _ _ er23) ML_X1_80 IM_X1_writeName SE_X1_writeName qc_856 rfl (As := [.int (f_X8_wordOf (s.2.1 l1 ((l2 + l4).toNatClampNeg)) s)]) rfl rfl (Nat.le_of_ble_eq_true rfl) (Nat.le_of_ble_eq_true rfl) (Nat.le_of_ble_eq_true rfl) (Nat.le_of_ble_eq_true rfl) ?_
      refine mj_aload_n dX1_writeText_200 1 rfl ?_
      refine mj_ldcE dX1_writeText_201 TX_X1_89 ?_
      refine t_bndK hk (fun r24 er24 hk => ?_)
      refine t_callVvE dX1_writeText_203 M_X1_writeWords (C_X1_writeWords _ _ _ er24) ML_X1_69 IM_X1_writeWords SE_X1_writeWords qc_856 rfl (As := [.ref (1000000 + 4)]) rfl rfl (Nat.le_of_ble_eq_true rfl) (Nat.le_of_ble_eq_true rfl) (Nat.le_of_ble_eq_true rfl) (Nat.le_of_ble_eq_true rfl) ?_
      refine mj_goto 260 dX1_writeText_206 (by decide) ?_
      refine mj_sublv [(0, .ref 856), (1, .ref l1), (2, .int l2), (3, .int l3), (4, .int l4)] [1, 2, 3, 4, 5] rfl ?_
      exact B_X1_writeText_260 _ _ _ _ _ _ (fun y0 y1 y2 y3 y4 hx => Hb20 y0 y1 y2 y3 y4 hx) hk
noncomputable def b_X1_writeText_20 (x : Nat × Int32 × Int32 × Int32 × t_S) : Option ((Nat × Int32 × Int32 × Int32 × t_S) ⊕ (Int32 × t_S)) := k_X1_writeText_20 x.1 x.2.1 x.2.2.1 x.2.2.2.1 x.2.2.2.2
set_option maxRecDepth 4000 in
set_option maxHeartbeats 1000000 in
theorem LH_X1_writeText_20 {D : va_G} {cy : Nat → ClassId} {ad : Nat → Nat} {bs : Nat} {X : State → Heap → Prop} : ∀ (n : Nat) (y0 : Nat) (y1 : Int32) (y2 : Int32) (y3 : Int32) (y4 : t_S) (Q : Int32 × t_S → Prop) (hk : t_hk (t_loop (b_X1_writeText_20) n (y0, y1, y2, y3, y4)) Q), mj_G D cy ad bs X cX1_writeText 7 yX1_writeText.cls (some .int) yX1_writeText.name 5 0 0 1065 (t_P (fun v s' => ∃ x, v = some (.int x) ∧ Q ((x, s')))) 20 [(0, .ref 856), (1, .ref (y0)), (2, .int (y1)), (3, .int (y2)), (4, .int (y3))] [] (t_m y4) 1065 0 0 := by
  intro n
  induction n with
  | zero => intro y0 y1 y2 y3 y4 Q hk; obtain ⟨r, hr, _⟩ := hk; cases hr
  | succ n ih =>
    intro y0 y1 y2 y3 y4 Q hk
    exact B_X1_writeText_20 y0 y1 y2 y3 y4 (fun y => t_lq (b_X1_writeText_20) n Q y) (fun y0' y1' y2' y3' y4' hy => ih y0' y1' y2' y3' y4' Q hy) (t_lp hk)
noncomputable def f_X1_writeText (x1 : Nat) (x2 : Int32) (s : t_S) : Option (Int32 × t_S) :=
 t_let (t_setI s 856 3 (0 : Int32)) (fun s1 =>
 t_let (t_setI s1 856 15 (0 : Int32)) (fun s2 =>
 if t_oka x1 2 (t_ln x1) = true then
  if t_ix x2 (t_ln x1) = true then
  t_loop (b_X1_writeText_20) t_N (x1, x2, (f_X8_size (s2.2.1 x1 (x2.toNatClampNeg)) s2), 0, s2)
else none
else none))
set_option maxRecDepth 4000 in
set_option maxHeartbeats 1000000 in
theorem C_X1_writeText (x1 : Nat) (x2 : Int32) (s : t_S) (r : Int32 × t_S) (hr : f_X1_writeText x1 x2 s = some r) : t_C yX1_writeText cX1_writeText 7 (some .int) 5 [.ref 856, .ref x1, .int x2] s (fun v s' => v = some (.int r.1) ∧ s' = r.2) := by
  refine t_C.imp (P := fun v s' => ∃ x, v = some (.int x) ∧ (fun q => q = r) ((x, s'))) (t_C.of (by decide +kernel) (Nat.le_of_ble_eq_true rfl) ?_) (fun v s' hp => by obtain ⟨x, rfl, rfl⟩ := hp; exact ⟨rfl, rfl⟩)
  intro D cy ad bs X
  have hk : t_hk (f_X1_writeText x1 x2 s) (fun q => q = r) := ⟨r, hr, rfl⟩
  show mj_G D cy ad bs X cX1_writeText 7 yX1_writeText.cls (some .int) yX1_writeText.name 5 0 0 1065 (t_P (fun v s' => ∃ x, v = some (.int x) ∧ (fun q => q = r) ((x, s')))) 0 [(0, .ref 856), (1, .ref x1), (2, .int x2)] [] (t_m s) 1065 0 0
  refine mj_aload_n dX1_writeText_0 0 rfl ?_
  refine mj_iconst (v := 0) dX1_writeText_1 (by decide) ?_
  refine t_putIK dX1_writeText_2 F_X1_43 qf_856_3 rfl (fun s1 ws1 => t_letE hk ws1 (fun hk => ?_))
  refine mj_aload_n dX1_writeText_5 0 rfl ?_
  refine mj_iconst (v := 0) dX1_writeText_6 (by decide) ?_
  refine t_putIK dX1_writeText_7 F_X1_47 qf_856_15 rfl (fun s2 ws2 => t_letE hk ws2 (fun hk => ?_))
  refine mj_aload_n dX1_writeText_10 1 rfl ?_
  refine mj_iload_n dX1_writeText_11 2 rfl ?_
  refine t_chkK hk (fun c0 hk => ?_)
  refine t_chkK hk (fun c1 hk => ?_)
  refine t_lald dX1_writeText_12 c0 (t_ixv c1) ?_
  refine t_callSiP dX1_writeText_13 M_X8_size (C_X8_size _ _) ML_X1_50 SM_X8_size (As := [.long (s2.2.1 x1 (x2.toNatClampNeg))]) rfl rfl (Nat.le_of_ble_eq_true rfl) (Nat.le_of_ble_eq_true rfl) (Nat.le_of_ble_eq_true rfl) (Nat.le_of_ble_eq_true rfl) ?_
  refine mj_istore_n 3 (lv2 := [(3, .int (f_X8_size (s2.2.1 x1 (x2.toNatClampNeg)) s2)), (0, .ref 856), (1, .ref x1), (2, .int x2)]) dX1_writeText_16 rfl (by decide) rfl ?_
  refine mj_iconst (v := 0) dX1_writeText_17 (by decide) ?_
  refine mj_istore (lv2 := [(4, .int 0), (3, .int (f_X8_size (s2.2.1 x1 (x2.toNatClampNeg)) s2)), (0, .ref 856), (1, .ref x1), (2, .int x2)]) dX1_writeText_18 (by decide) rfl ?_
  refine mj_sublv [(0, .ref 856), (1, .ref x1), (2, .int x2), (3, .int (f_X8_size (s2.2.1 x1 (x2.toNatClampNeg)) s2)), (4, .int 0)] [2, 3, 4, 1, 0] rfl ?_
  exact LH_X1_writeText_20 _ x1 x2 (f_X8_size (s2.2.1 x1 (x2.toNatClampNeg)) s2) 0 s2 _ hk

theorem dX12_tell_0 : decode cX12_tell 0 = .ok (.aload_n 0, 1) := by decide +kernel
theorem dX12_tell_1 : decode cX12_tell 1 = .ok (.iload_n 1, 1) := by decide +kernel
theorem dX12_tell_10 : decode cX12_tell 10 = .ok (.aload_n 0, 1) := by decide +kernel
theorem dX12_tell_11 : decode cX12_tell 11 = .ok (.getfield 75, 3) := by decide +kernel
theorem dX12_tell_14 : decode cX12_tell 14 = .ok (.aload_n 0, 1) := by decide +kernel
theorem dX12_tell_15 : decode cX12_tell 15 = .ok (.getfield 19, 3) := by decide +kernel
theorem dX12_tell_18 : decode cX12_tell 18 = .ok (.getfield 173, 3) := by decide +kernel
theorem dX12_tell_2 : decode cX12_tell 2 = .ok (.invokevirtual 169, 3) := by decide +kernel
theorem dX12_tell_21 : decode cX12_tell 21 = .ok (.iload_n 1, 1) := by decide +kernel
theorem dX12_tell_22 : decode cX12_tell 22 = .ok (.invokestatic 176, 3) := by decide +kernel
theorem dX12_tell_25 : decode cX12_tell 25 = .ok (.invokevirtual 220, 3) := by decide +kernel
theorem dX12_tell_28 : decode cX12_tell 28 = .ok (.ireturn, 1) := by decide +kernel
theorem dX12_tell_5 : decode cX12_tell 5 = .ok (.ifCond .ne 5, 3) := by decide +kernel
theorem dX12_tell_8 : decode cX12_tell 8 = .ok (.iconst (-1), 1) := by decide +kernel
theorem dX12_tell_9 : decode cX12_tell 9 = .ok (.ireturn, 1) := by decide +kernel
noncomputable def f_X12_tell (x1 : Int32) (s : t_S) : Option (Int32 × t_S) :=
 if (f_X12_isKept x1 s) = (0 : Int32) then (some ((-1 : Int32), s))
 else ((f_X1_writeText 13 (f_X12_keptAt x1 s) s).bind (fun r3 =>
 some (r3.1, r3.2)))
set_option maxRecDepth 4000 in
set_option maxHeartbeats 1000000 in
theorem C_X12_tell (x1 : Int32) (s : t_S) (r : Int32 × t_S) (hr : f_X12_tell x1 s = some r) : t_C yX12_tell cX12_tell 2 (some .int) 6 [.ref 0, .int x1] s (fun v s' => v = some (.int r.1) ∧ s' = r.2) := by
  refine t_C.imp (P := fun v s' => ∃ x, v = some (.int x) ∧ (fun q => q = r) ((x, s'))) (t_C.of (by decide +kernel) (Nat.le_of_ble_eq_true rfl) ?_) (fun v s' hp => by obtain ⟨x, rfl, rfl⟩ := hp; exact ⟨rfl, rfl⟩)
  intro D cy ad bs X
  have hk : t_hk (f_X12_tell x1 s) (fun q => q = r) := ⟨r, hr, rfl⟩
  show mj_G D cy ad bs X cX12_tell 2 yX12_tell.cls (some .int) yX12_tell.name 6 0 0 1065 (t_P (fun v s' => ∃ x, v = some (.int x) ∧ (fun q => q = r) ((x, s')))) 0 [(0, .ref 0), (1, .int x1)] [] (t_m s) 1065 0 0
  refine mj_aload_n dX12_tell_0 0 rfl ?_
  refine mj_iload_n dX12_tell_1 1 rfl ?_
  refine t_callViP dX12_tell_2 M_X12_isKept (C_X12_isKept _ _) ML_X12_169 IM_X12_isKept SE_X12_isKept qc_0 rfl (As := [.int x1]) rfl rfl (Nat.le_of_ble_eq_true rfl) (Nat.le_of_ble_eq_true rfl) (Nat.le_of_ble_eq_true rfl) (Nat.le_of_ble_eq_true rfl) ?_
  refine mj_if_ne 10 dX12_tell_5 (by decide) (fun z => t_negK hk z (fun hk => ?_)) (fun z => t_posK hk z (fun hk => ?_))
  · refine mj_aload_n dX12_tell_10 0 rfl ?_
    refine t_getR 856 dX12_tell_11 F_X12_75 qr_0_7 ?_
    refine mj_aload_n dX12_tell_14 0 rfl ?_
    refine t_getR 12 dX12_tell_15 F_X12_19 qr_0_1 ?_
    refine t_getR 13 dX12_tell_18 F_X12_173 qr_12_0 ?_
    refine mj_iload_n dX12_tell_21 1 rfl ?_
    refine t_callSiP dX12_tell_22 M_X12_keptAt (C_X12_keptAt _ _) ML_X12_176 SM_X12_keptAt (As := [.int x1]) rfl rfl (Nat.le_of_ble_eq_true rfl) (Nat.le_of_ble_eq_true rfl) (Nat.le_of_ble_eq_true rfl) (Nat.le_of_ble_eq_true rfl) ?_
    refine t_bndK hk (fun r3 er3 hk => ?_)
    refine t_callViE dX12_tell_25 M_X1_writeText (C_X1_writeText _ _ _ _ er3) ML_X12_220 IM_X1_writeText SE_X1_writeText qc_856 rfl (As := [.ref 13, .int (f_X12_keptAt x1 s)]) rfl rfl (Nat.le_of_ble_eq_true rfl) (Nat.le_of_ble_eq_true rfl) (Nat.le_of_ble_eq_true rfl) (Nat.le_of_ble_eq_true rfl) ?_
    exact t_somK hk (fun hf => t_iret dX12_tell_28 rfl rfl ⟨_, rfl, hf⟩ (Nat.le_of_ble_eq_true rfl) (Nat.le_of_ble_eq_true rfl))
  · refine mj_iconst (v := (-1)) dX12_tell_8 (by decide) ?_
    exact t_somK hk (fun hf => t_iret dX12_tell_9 rfl rfl ⟨_, rfl, hf⟩ (Nat.le_of_ble_eq_true rfl) (Nat.le_of_ble_eq_true rfl))

theorem dX12_timer_0 : decode cX12_timer 0 = .ok (.aload_n 0, 1) := by decide +kernel
theorem dX12_timer_1 : decode cX12_timer 1 = .ok (.iload_n 1, 1) := by decide +kernel
theorem dX12_timer_10 : decode cX12_timer 10 = .ok (.aload_n 0, 1) := by decide +kernel
theorem dX12_timer_11 : decode cX12_timer 11 = .ok (.getfield 84, 3) := by decide +kernel
theorem dX12_timer_14 : decode cX12_timer 14 = .ok (.getfield 292, 3) := by decide +kernel
theorem dX12_timer_17 : decode cX12_timer 17 = .ok (.iload_n 1, 1) := by decide +kernel
theorem dX12_timer_18 : decode cX12_timer 18 = .ok (.aaload, 1) := by decide +kernel
theorem dX12_timer_19 : decode cX12_timer 19 = .ok (.astore_n 3, 1) := by decide +kernel
theorem dX12_timer_2 : decode cX12_timer 2 = .ok (.invokevirtual 271, 3) := by decide +kernel
theorem dX12_timer_20 : decode cX12_timer 20 = .ok (.iload_n 2, 1) := by decide +kernel
theorem dX12_timer_21 : decode cX12_timer 21 = .ok (.ifCond .lt 19, 3) := by decide +kernel
theorem dX12_timer_24 : decode cX12_timer 24 = .ok (.iload_n 2, 1) := by decide +kernel
theorem dX12_timer_25 : decode cX12_timer 25 = .ok (.aload_n 0, 1) := by decide +kernel
theorem dX12_timer_26 : decode cX12_timer 26 = .ok (.getfield 52, 3) := by decide +kernel
theorem dX12_timer_29 : decode cX12_timer 29 = .ok (.getfield 348, 3) := by decide +kernel
theorem dX12_timer_32 : decode cX12_timer 32 = .ok (.aload_n 3, 1) := by decide +kernel
theorem dX12_timer_33 : decode cX12_timer 33 = .ok (.getfield 308, 3) := by decide +kernel
theorem dX12_timer_36 : decode cX12_timer 36 = .ok (.iaload, 1) := by decide +kernel
theorem dX12_timer_37 : decode cX12_timer 37 = .ok (.if_icmp .lt 5, 3) := by decide +kernel
theorem dX12_timer_40 : decode cX12_timer 40 = .ok (.iconst (-1), 1) := by decide +kernel
theorem dX12_timer_41 : decode cX12_timer 41 = .ok (.ireturn, 1) := by decide +kernel
theorem dX12_timer_42 : decode cX12_timer 42 = .ok (.aload_n 3, 1) := by decide +kernel
theorem dX12_timer_43 : decode cX12_timer 43 = .ok (.getfield 351, 3) := by decide +kernel
theorem dX12_timer_46 : decode cX12_timer 46 = .ok (.iload_n 2, 1) := by decide +kernel
theorem dX12_timer_47 : decode cX12_timer 47 = .ok (.laload, 1) := by decide +kernel
theorem dX12_timer_48 : decode cX12_timer 48 = .ok (.lconst 0, 1) := by decide +kernel
theorem dX12_timer_49 : decode cX12_timer 49 = .ok (.lcmp, 1) := by decide +kernel
theorem dX12_timer_5 : decode cX12_timer 5 = .ok (.ifCond .ne 5, 3) := by decide +kernel
theorem dX12_timer_50 : decode cX12_timer 50 = .ok (.ifCond .ge 6, 3) := by decide +kernel
theorem dX12_timer_53 : decode cX12_timer 53 = .ok (.bipush (-2), 2) := by decide +kernel
theorem dX12_timer_55 : decode cX12_timer 55 = .ok (.ireturn, 1) := by decide +kernel
theorem dX12_timer_56 : decode cX12_timer 56 = .ok (.lconst 0, 1) := by decide +kernel
theorem dX12_timer_57 : decode cX12_timer 57 = .ok (.aload_n 3, 1) := by decide +kernel
theorem dX12_timer_58 : decode cX12_timer 58 = .ok (.getfield 351, 3) := by decide +kernel
theorem dX12_timer_61 : decode cX12_timer 61 = .ok (.iload_n 2, 1) := by decide +kernel
theorem dX12_timer_62 : decode cX12_timer 62 = .ok (.laload, 1) := by decide +kernel
theorem dX12_timer_63 : decode cX12_timer 63 = .ok (.aload_n 0, 1) := by decide +kernel
theorem dX12_timer_64 : decode cX12_timer 64 = .ok (.getfield 84, 3) := by decide +kernel
theorem dX12_timer_67 : decode cX12_timer 67 = .ok (.getfield 280, 3) := by decide +kernel
theorem dX12_timer_70 : decode cX12_timer 70 = .ok (.lsub, 1) := by decide +kernel
theorem dX12_timer_71 : decode cX12_timer 71 = .ok (.invokestatic 354, 3) := by decide +kernel
theorem dX12_timer_74 : decode cX12_timer 74 = .ok (.l2i, 1) := by decide +kernel
theorem dX12_timer_75 : decode cX12_timer 75 = .ok (.ireturn, 1) := by decide +kernel
theorem dX12_timer_8 : decode cX12_timer 8 = .ok (.iconst (-1), 1) := by decide +kernel
theorem dX12_timer_9 : decode cX12_timer 9 = .ok (.ireturn, 1) := by decide +kernel
noncomputable def f_X12_timer (x1 : Int32) (x2 : Int32) (s : t_S) : Option (Int32) :=
 if (f_X12_isPart x1 s) = (0 : Int32) then (some (-1 : Int32))
 else (if t_ix x1 8 = true then
  if x2 < (0 : Int32) then (some (-1 : Int32))
 else (if t_isP (866 + 10 * (x1.toNatClampNeg)) = true then
  if t_ix (s.1 (866 + 10 * (x1.toNatClampNeg)) 1) 8 = true then
  if x2 < (s.1 431 ((s.1 (866 + 10 * (x1.toNatClampNeg)) 1).toNatClampNeg)) then (if t_ix x2 4 = true then
  if (0 : Int32) ≤ (lg_cmp (s.2.1 ((866 + 10 * (x1.toNatClampNeg)) + 9) (x2.toNatClampNeg)) (0 : Int64)) then (some ((if ((s.2.1 ((866 + 10 * (x1.toNatClampNeg)) + 9) (x2.toNatClampNeg)) - (s.2.1 864 7)) < (0 : Int64) then (0 : Int64) else ((s.2.1 ((866 + 10 * (x1.toNatClampNeg)) + 9) (x2.toNatClampNeg)) - (s.2.1 864 7))).toInt32))
 else (some (-2 : Int32))
else none)
 else (some (-1 : Int32))
else none
else none)
else none)
set_option maxRecDepth 4000 in
set_option maxHeartbeats 1000000 in
theorem C_X12_timer (x1 : Int32) (x2 : Int32) (s : t_S) (r : Int32) (hr : f_X12_timer x1 x2 s = some r) : t_C yX12_timer cX12_timer 4 (some .int) 1 [.ref 0, .int x1, .int x2] s (fun v s' => v = some (.int r) ∧ s' = s) := by
  refine t_C.imp (P := fun v s' => s' = s ∧ ∃ x, v = some (.int x) ∧ (fun q => q = r) (x)) (t_C.of (by decide +kernel) (Nat.le_of_ble_eq_true rfl) ?_) (fun v s' hp => by obtain ⟨rfl, x, rfl, rfl⟩ := hp; exact ⟨rfl, rfl⟩)
  intro D cy ad bs X
  have hk : t_hk (f_X12_timer x1 x2 s) (fun q => q = r) := ⟨r, hr, rfl⟩
  show mj_G D cy ad bs X cX12_timer 4 yX12_timer.cls (some .int) yX12_timer.name 1 0 0 1065 (t_P (fun v s' => s' = s ∧ ∃ x, v = some (.int x) ∧ (fun q => q = r) (x))) 0 [(0, .ref 0), (1, .int x1), (2, .int x2)] [] (t_m s) 1065 0 0
  refine mj_aload_n dX12_timer_0 0 rfl ?_
  refine mj_iload_n dX12_timer_1 1 rfl ?_
  refine t_callViP dX12_timer_2 M_X12_isPart (C_X12_isPart _ _) ML_X12_271 IM_X12_isPart SE_X12_isPart qc_0 rfl (As := [.int x1]) rfl rfl (Nat.le_of_ble_eq_true rfl) (Nat.le_of_ble_eq_true rfl) (Nat.le_of_ble_eq_true rfl) (Nat.le_of_ble_eq_true rfl) ?_
  refine mj_if_ne 10 dX12_timer_5 (by decide) (fun z => t_negK hk z (fun hk => ?_)) (fun z => t_posK hk z (fun hk => ?_))
  · refine mj_aload_n dX12_timer_10 0 rfl ?_
    refine t_getR 864 dX12_timer_11 F_X12_84 qr_0_8 ?_
    refine t_getR 865 dX12_timer_14 F_X12_292 qr_864_5 ?_
    refine mj_iload_n dX12_timer_17 1 rfl ?_
    refine t_chkK hk (fun c1 hk => ?_)
    refine t_aaldP dX12_timer_18 qq_865 (t_ixv c1) ?_
    refine mj_astore_n 3 (lv2 := [(3, .ref (866 + 10 * (x1.toNatClampNeg))), (0, .ref 0), (1, .int x1), (2, .int x2)]) dX12_timer_19 rfl (by decide) rfl ?_
    refine mj_iload_n dX12_timer_20 3 rfl ?_
    refine mj_if_lt 40 dX12_timer_21 (by decide) (fun z => t_posK hk z (fun hk => ?_)) (fun z => t_negK hk z (fun hk => ?_))
    · refine mj_iconst (v := (-1)) dX12_timer_40 (by decide) ?_
      exact t_somK hk (fun hf => t_iret dX12_timer_41 rfl rfl ⟨rfl, _, rfl, hf⟩ (Nat.le_of_ble_eq_true rfl) (Nat.le_of_ble_eq_true rfl))
    · refine mj_iload_n dX12_timer_24 3 rfl ?_
      refine mj_aload_n dX12_timer_25 1 rfl ?_
      refine t_getR 428 dX12_timer_26 F_X12_52 qr_0_5 ?_
      refine t_getR 431 dX12_timer_29 F_X12_348 qr_428_3 ?_
      refine mj_aload_n dX12_timer_32 0 rfl ?_
      refine t_chkK hk (fun c2 hk => ?_)
      refine t_getI dX12_timer_33 F_X12_308 (t_pf1 c2) ?_
      refine t_chkK hk (fun c3 hk => ?_)
      refine t_iald dX12_timer_36 qa_431 (t_ixv c3) ?_
      refine mj_icmp_lt 42 dX12_timer_37 (by decide) (fun z => t_posK hk z (fun hk => ?_)) (fun z => t_negK hk z (fun hk => ?_))
      · refine mj_aload_n dX12_timer_42 0 rfl ?_
        refine t_getR ((866 + 10 * (x1.toNatClampNeg)) + 9) dX12_timer_43 F_X12_351 (t_pr16 c2) ?_
        refine mj_iload_n dX12_timer_46 3 rfl ?_
        refine t_chkK hk (fun c4 hk => ?_)
        refine t_lald dX12_timer_47 (t_pa16 c2) (t_ixv c4) ?_
        refine mj_lconst (v := 0) dX12_timer_48 (by decide) ?_
        refine mj_lcmp dX12_timer_49 ?_
        refine mj_if_ge 56 dX12_timer_50 (by decide) (fun z => t_posK hk z (fun hk => ?_)) (fun z => t_negK hk z (fun hk => ?_))
        · refine mj_lconst (v := 0) dX12_timer_56 (by decide) ?_
          refine mj_aload_n dX12_timer_57 0 rfl ?_
          refine t_getR ((866 + 10 * (x1.toNatClampNeg)) + 9) dX12_timer_58 F_X12_351 (t_pr16 c2) ?_
          refine mj_iload_n dX12_timer_61 3 rfl ?_
          refine t_lald dX12_timer_62 (t_pa16 c2) (t_ixv c4) ?_
          refine mj_aload_n dX12_timer_63 1 rfl ?_
          refine t_getR 864 dX12_timer_64 F_X12_84 qr_0_8 ?_
          refine t_getJ dX12_timer_67 F_X12_280 qf_864_7 ?_
          refine mj_lsub dX12_timer_70 ?_
          refine mj_lmax dX12_timer_71 MJ_max_X12_354 (Nat.le_of_ble_eq_true rfl) (Nat.le_of_ble_eq_true rfl) (Nat.le_of_ble_eq_true rfl) (Nat.le_of_ble_eq_true rfl) ?_
          refine mj_l2i (v := (if ((s.2.1 ((866 + 10 * (x1.toNatClampNeg)) + 9) (x2.toNatClampNeg)) - (s.2.1 864 7)) < (0 : Int64) then (0 : Int64) else ((s.2.1 ((866 + 10 * (x1.toNatClampNeg)) + 9) (x2.toNatClampNeg)) - (s.2.1 864 7))).toInt32) dX12_timer_74 rfl ?_
          exact t_somK hk (fun hf => t_iret dX12_timer_75 rfl rfl ⟨rfl, _, rfl, hf⟩ (Nat.le_of_ble_eq_true rfl) (Nat.le_of_ble_eq_true rfl))
        · refine mj_bipush (v := (-2)) dX12_timer_53 (by decide) ?_
          exact t_somK hk (fun hf => t_iret dX12_timer_55 rfl rfl ⟨rfl, _, rfl, hf⟩ (Nat.le_of_ble_eq_true rfl) (Nat.le_of_ble_eq_true rfl))
      · refine mj_iconst (v := (-1)) dX12_timer_40 (by decide) ?_
        exact t_somK hk (fun hf => t_iret dX12_timer_41 rfl rfl ⟨rfl, _, rfl, hf⟩ (Nat.le_of_ble_eq_true rfl) (Nat.le_of_ble_eq_true rfl))
  · refine mj_iconst (v := (-1)) dX12_timer_8 (by decide) ?_
    exact t_somK hk (fun hf => t_iret dX12_timer_9 rfl rfl ⟨rfl, _, rfl, hf⟩ (Nat.le_of_ble_eq_true rfl) (Nat.le_of_ble_eq_true rfl))

