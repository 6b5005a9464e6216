/-! Methods as functions, 47: X13_isLocal, X13_isFigure, X13_isLetter, X13_peek, X13_readSign, X13_reserved, X13_skip -/
theorem qf_950_1 : t_okf 950 13 1 0 = true := by decide +kernel
theorem qf_950_4 : t_okf 950 13 4 0 = true := by decide +kernel
theorem qf_950_8 : t_okf 950 13 8 1 = true := by decide +kernel
theorem qf_950_9 : t_okf 950 13 9 0 = true := by decide +kernel
theorem dX13_isLocal_0 : decode cX13_isLocal 0 = .ok (.iconst 0, 1) := by decide +kernel
theorem dX13_isLocal_1 : decode cX13_isLocal 1 = .ok (.istore_n 3, 1) := by decide +kernel
theorem dX13_isLocal_102 : decode cX13_isLocal 102 = .ok (.iload_n 3, 1) := by decide +kernel
theorem dX13_isLocal_103 : decode cX13_isLocal 103 = .ok (.ireturn, 1) := by decide +kernel
theorem dX13_isLocal_11 : decode cX13_isLocal 11 = .ok (.iload_n 1, 1) := by decide +kernel
theorem dX13_isLocal_12 : decode cX13_isLocal 12 = .ok (.iaload, 1) := by decide +kernel
theorem dX13_isLocal_13 : decode cX13_isLocal 13 = .ok (.if_icmp .ge 35, 3) := by decide +kernel
theorem dX13_isLocal_16 : decode cX13_isLocal 16 = .ok (.iload_n 3, 1) := by decide +kernel
theorem dX13_isLocal_17 : decode cX13_isLocal 17 = .ok (.ifCond .ne 19, 3) := by decide +kernel
theorem dX13_isLocal_2 : decode cX13_isLocal 2 = .ok (.iconst 0, 1) := by decide +kernel
theorem dX13_isLocal_20 : decode cX13_isLocal 20 = .ok (.aload_n 0, 1) := by decide +kernel
theorem dX13_isLocal_21 : decode cX13_isLocal 21 = .ok (.getfield 114, 3) := by decide +kernel
theorem dX13_isLocal_24 : decode cX13_isLocal 24 = .ok (.bipush 8, 2) := by decide +kernel
theorem dX13_isLocal_26 : decode cX13_isLocal 26 = .ok (.iload_n 1, 1) := by decide +kernel
theorem dX13_isLocal_27 : decode cX13_isLocal 27 = .ok (.imul, 1) := by decide +kernel
theorem dX13_isLocal_28 : decode cX13_isLocal 28 = .ok (.iload 4, 2) := by decide +kernel
theorem dX13_isLocal_3 : decode cX13_isLocal 3 = .ok (.istore 4, 2) := by decide +kernel
theorem dX13_isLocal_30 : decode cX13_isLocal 30 = .ok (.iadd, 1) := by decide +kernel
theorem dX13_isLocal_31 : decode cX13_isLocal 31 = .ok (.iaload, 1) := by decide +kernel
theorem dX13_isLocal_32 : decode cX13_isLocal 32 = .ok (.iload_n 2, 1) := by decide +kernel
theorem dX13_isLocal_33 : decode cX13_isLocal 33 = .ok (.if_icmp .ne 7, 3) := by decide +kernel
theorem dX13_isLocal_36 : decode cX13_isLocal 36 = .ok (.iconst 1, 1) := by decide +kernel
theorem dX13_isLocal_37 : decode cX13_isLocal 37 = .ok (.goto 4, 3) := by decide +kernel
theorem dX13_isLocal_40 : decode cX13_isLocal 40 = .ok (.iconst 0, 1) := by decide +kernel
theorem dX13_isLocal_41 : decode cX13_isLocal 41 = .ok (.istore_n 3, 1) := by decide +kernel
theorem dX13_isLocal_42 : decode cX13_isLocal 42 = .ok (.iinc 4 1, 3) := by decide +kernel
theorem dX13_isLocal_45 : decode cX13_isLocal 45 = .ok (.goto (-40), 3) := by decide +kernel
theorem dX13_isLocal_48 : decode cX13_isLocal 48 = .ok (.iconst 0, 1) := by decide +kernel
theorem dX13_isLocal_49 : decode cX13_isLocal 49 = .ok (.istore 4, 2) := by decide +kernel
theorem dX13_isLocal_5 : decode cX13_isLocal 5 = .ok (.iload 4, 2) := by decide +kernel
theorem dX13_isLocal_51 : decode cX13_isLocal 51 = .ok (.iload 4, 2) := by decide +kernel
theorem dX13_isLocal_53 : decode cX13_isLocal 53 = .ok (.aload_n 0, 1) := by decide +kernel
theorem dX13_isLocal_54 : decode cX13_isLocal 54 = .ok (.getfield 630, 3) := by decide +kernel
theorem dX13_isLocal_57 : decode cX13_isLocal 57 = .ok (.if_icmp .ge 45, 3) := by decide +kernel
theorem dX13_isLocal_60 : decode cX13_isLocal 60 = .ok (.iload_n 3, 1) := by decide +kernel
theorem dX13_isLocal_61 : decode cX13_isLocal 61 = .ok (.ifCond .ne 41, 3) := by decide +kernel
theorem dX13_isLocal_64 : decode cX13_isLocal 64 = .ok (.aload_n 0, 1) := by decide +kernel
theorem dX13_isLocal_65 : decode cX13_isLocal 65 = .ok (.getfield 72, 3) := by decide +kernel
theorem dX13_isLocal_68 : decode cX13_isLocal 68 = .ok (.iload 4, 2) := by decide +kernel
theorem dX13_isLocal_7 : decode cX13_isLocal 7 = .ok (.aload_n 0, 1) := by decide +kernel
theorem dX13_isLocal_70 : decode cX13_isLocal 70 = .ok (.iaload, 1) := by decide +kernel
theorem dX13_isLocal_71 : decode cX13_isLocal 71 = .ok (.aload_n 0, 1) := by decide +kernel
theorem dX13_isLocal_72 : decode cX13_isLocal 72 = .ok (.getfield 108, 3) := by decide +kernel
theorem dX13_isLocal_75 : decode cX13_isLocal 75 = .ok (.iload_n 1, 1) := by decide +kernel
theorem dX13_isLocal_76 : decode cX13_isLocal 76 = .ok (.iaload, 1) := by decide +kernel
theorem dX13_isLocal_77 : decode cX13_isLocal 77 = .ok (.if_icmp .ne 17, 3) := by decide +kernel
theorem dX13_isLocal_8 : decode cX13_isLocal 8 = .ok (.getfield 120, 3) := by decide +kernel
theorem dX13_isLocal_80 : decode cX13_isLocal 80 = .ok (.aload_n 0, 1) := by decide +kernel
theorem dX13_isLocal_81 : decode cX13_isLocal 81 = .ok (.iload 4, 2) := by decide +kernel
theorem dX13_isLocal_83 : decode cX13_isLocal 83 = .ok (.iload_n 2, 1) := by decide +kernel
theorem dX13_isLocal_84 : decode cX13_isLocal 84 = .ok (.invokevirtual 701, 3) := by decide +kernel
theorem dX13_isLocal_87 : decode cX13_isLocal 87 = .ok (.ifCond .eq 7, 3) := by decide +kernel
theorem dX13_isLocal_90 : decode cX13_isLocal 90 = .ok (.iconst 1, 1) := by decide +kernel
theorem dX13_isLocal_91 : decode cX13_isLocal 91 = .ok (.goto 4, 3) := by decide +kernel
theorem dX13_isLocal_94 : decode cX13_isLocal 94 = .ok (.iconst 0, 1) := by decide +kernel
theorem dX13_isLocal_95 : decode cX13_isLocal 95 = .ok (.istore_n 3, 1) := by decide +kernel
theorem dX13_isLocal_96 : decode cX13_isLocal 96 = .ok (.iinc 4 1, 3) := by decide +kernel
theorem dX13_isLocal_99 : decode cX13_isLocal 99 = .ok (.goto (-48), 3) := by decide +kernel
noncomputable def k_X13_isLocal_41 (l1 : Int32) (l2 : Int32) (l4 : Int32) (k0 : Int32) (s : t_S) : Option ((Int32 × Int32 × Int32 × Int32) ⊕ (Int32)) :=
 some (.inl (l1, l2, k0, (l4 + 1)))
set_option maxRecDepth 4000 in
set_option maxHeartbeats 1000000 in
theorem B_X13_isLocal_41 {D : va_G} {cy : Nat → ClassId} {ad : Nat → Nat} {bs : Nat} {X : State → Heap → Prop} (l1 : Int32) (l2 : Int32) (l4 : Int32) (k0 : Int32) (s : t_S) (Q : (Int32 × Int32 × Int32 × Int32) ⊕ (Int32) → Prop) (Hb5 : ∀ (y0 : Int32) (y1 : Int32) (y2 : Int32) (y3 : Int32), Q (.inl (y0, y1, y2, y3)) → mj_G D cy ad bs X cX13_isLocal 5 yX13_isLocal.cls (some .boolean) yX13_isLocal.name 1 0 0 1065 (t_P (fun v s' => s' = s ∧ ∃ x, v = some (.int x) ∧ Q (.inr (x)))) 5 [(0, .ref 950), (1, .int (y0)), (2, .int (y1)), (3, .int (y2)), (4, .int (y3))] [] (t_m s) 1065 0 0) (hk : t_hk (k_X13_isLocal_41 l1 l2 l4 k0 s) Q) : mj_G D cy ad bs X cX13_isLocal 5 yX13_isLocal.cls (some .boolean) yX13_isLocal.name 1 0 0 1065 (t_P (fun v s' => s' = s ∧ ∃ x, v = some (.int x) ∧ Q (.inr (x)))) 41 [(0, .ref 950), (1, .int l1), (2, .int l2), (4, .int l4)] [.int k0] (t_m s) 1065 0 0 := by
  refine mj_istore_n 3 (lv2 := [(3, .int k0), (0, .ref 950), (1, .int l1), (2, .int l2), (4, .int l4)]) dX13_isLocal_41 rfl (by decide) rfl ?_
  refine mj_iinc (k := 4) (v := (l4 + 1)) (lv2 := [(4, .int (l4 + 1)), (3, .int k0), (0, .ref 950), (1, .int l1), (2, .int l2)]) dX13_isLocal_42 rfl rfl (by decide) rfl ?_
  refine mj_goto 5 dX13_isLocal_45 (by decide) ?_
  refine mj_sublv [(0, .ref 950), (1, .int l1), (2, .int l2), (3, .int k0), (4, .int (l4 + 1))] [2, 3, 4, 1, 0] rfl ?_
  exact t_somK hk (fun hf => Hb5 l1 l2 k0 (l4 + 1) hf)
noncomputable def k_X13_isLocal_95 (l1 : Int32) (l2 : Int32) (l4 : Int32) (k0 : Int32) (s : t_S) : Option ((Int32 × Int32 × Int32 × Int32) ⊕ (Int32)) :=
 some (.inl (l1, l2, k0, (l4 + 1)))
set_option maxRecDepth 4000 in
set_option maxHeartbeats 1000000 in
theorem B_X13_isLocal_95 {D : va_G} {cy : Nat → ClassId} {ad : Nat → Nat} {bs : Nat} {X : State → Heap → Prop} (l1 : Int32) (l2 : Int32) (l4 : Int32) (k0 : Int32) (s : t_S) (Q : (Int32 × Int32 × Int32 × Int32) ⊕ (Int32) → Prop) (Hb51 : ∀ (y0 : Int32) (y1 : Int32) (y2 : Int32) (y3 : Int32), Q (.inl (y0, y1, y2, y3)) → mj_G D cy ad bs X cX13_isLocal 5 yX13_isLocal.cls (some .boolean) yX13_isLocal.name 1 0 0 1065 (t_P (fun v s' => s' = s ∧ ∃ x, v = some (.int x) ∧ Q (.inr (x)))) 51 [(0, .ref 950), (1, .int (y0)), (2, .int (y1)), (3, .int (y2)), (4, .int (y3))] [] (t_m s) 1065 0 0) (hk : t_hk (k_X13_isLocal_95 l1 l2 l4 k0 s) Q) : mj_G D cy ad bs X cX13_isLocal 5 yX13_isLocal.cls (some .boolean) yX13_isLocal.name 1 0 0 1065 (t_P (fun v s' => s' = s ∧ ∃ x, v = some (.int x) ∧ Q (.inr (x)))) 95 [(0, .ref 950), (1, .int l1), (2, .int l2), (4, .int l4)] [.int k0] (t_m s) 1065 0 0 := by
  refine mj_istore_n 3 (lv2 := [(3, .int k0), (0, .ref 950), (1, .int l1), (2, .int l2), (4, .int l4)]) dX13_isLocal_95 rfl (by decide) rfl ?_
  refine mj_iinc (k := 4) (v := (l4 + 1)) (lv2 := [(4, .int (l4 + 1)), (3, .int k0), (0, .ref 950), (1, .int l1), (2, .int l2)]) dX13_isLocal_96 rfl rfl (by decide) rfl ?_
  refine mj_goto 51 dX13_isLocal_99 (by decide) ?_
  refine mj_sublv [(0, .ref 950), (1, .int l1), (2, .int l2), (3, .int k0), (4, .int (l4 + 1))] [2, 3, 4, 1, 0] rfl ?_
  exact t_somK hk (fun hf => Hb51 l1 l2 k0 (l4 + 1) hf)
noncomputable def k_X13_isLocal_94 (l1 : Int32) (l2 : Int32) (l4 : Int32) (s : t_S) : Option ((Int32 × Int32 × Int32 × Int32) ⊕ (Int32)) :=
 k_X13_isLocal_95 l1 l2 l4 0 s
set_option maxRecDepth 4000 in
set_option maxHeartbeats 1000000 in
theorem B_X13_isLocal_94 {D : va_G} {cy : Nat → ClassId} {ad : Nat → Nat} {bs : Nat} {X : State → Heap → Prop} (l1 : Int32) (l2 : Int32) (l4 : Int32) (s : t_S) (Q : (Int32 × Int32 × Int32 × Int32) ⊕ (Int32) → Prop) (Hb51 : ∀ (y0 : Int32) (y1 : Int32) (y2 : Int32) (y3 : Int32), Q (.inl (y0, y1, y2, y3)) → mj_G D cy ad bs X cX13_isLocal 5 yX13_isLocal.cls (some .boolean) yX13_isLocal.name 1 0 0 1065 (t_P (fun v s' => s' = s ∧ ∃ x, v = some (.int x) ∧ Q (.inr (x)))) 51 [(0, .ref 950), (1, .int (y0)), (2, .int (y1)), (3, .int (y2)), (4, .int (y3))] [] (t_m s) 1065 0 0) (hk : t_hk (k_X13_isLocal_94 l1 l2 l4 s) Q) : mj_G D cy ad bs X cX13_isLocal 5 yX13_isLocal.cls (some .boolean) yX13_isLocal.name 1 0 0 1065 (t_P (fun v s' => s' = s ∧ ∃ x, v = some (.int x) ∧ Q (.inr (x)))) 94 [(0, .ref 950), (1, .int l1), (2, .int l2), (4, .int l4)] [] (t_m s) 1065 0 0 := by
  refine mj_iconst (v := 0) dX13_isLocal_94 (by decide) ?_
  exact B_X13_isLocal_95 _ _ _ _ _ _ (fun y0 y1 y2 y3 hx => Hb51 y0 y1 y2 y3 hx) hk
noncomputable def k_X13_isLocal_51 (l1 : Int32) (l2 : Int32) (l3 : Int32) (l4 : Int32) (s : t_S) : Option ((Int32 × Int32 × Int32 × Int32) ⊕ (Int32)) :=
 if (s.1 950 55) ≤ l4 then ((if l3 = 0 ∨ l3 = 1 then
  some (l3)
else none).map Sum.inr)
 else (if l3 = (0 : Int32) then (if t_ix l4 8 = true then
  if t_ix l1 40 = true then
  if (s.1 970 (l4.toNatClampNeg)) = (s.1 982 (l1.toNatClampNeg)) then ((f_X13_isOwn l4 l2 s).bind (fun r5 =>
 if r5 = (0 : Int32) then (k_X13_isLocal_94 l1 l2 l4 s)
 else (k_X13_isLocal_95 l1 l2 l4 1 s)))
 else (k_X13_isLocal_94 l1 l2 l4 s)
else none
else none)
 else ((if l3 = 0 ∨ l3 = 1 then
  some (l3)
else none).map Sum.inr))
set_option maxRecDepth 4000 in
set_option maxHeartbeats 1000000 in
theorem B_X13_isLocal_51 {D : va_G} {cy : Nat → ClassId} {ad : Nat → Nat} {bs : Nat} {X : State → Heap → Prop} (l1 : Int32) (l2 : Int32) (l3 : Int32) (l4 : Int32) (s : t_S) (Q : (Int32 × Int32 × Int32 × Int32) ⊕ (Int32) → Prop) (Hb51 : ∀ (y0 : Int32) (y1 : Int32) (y2 : Int32) (y3 : Int32), Q (.inl (y0, y1, y2, y3)) → mj_G D cy ad bs X cX13_isLocal 5 yX13_isLocal.cls (some .boolean) yX13_isLocal.name 1 0 0 1065 (t_P (fun v s' => s' = s ∧ ∃ x, v = some (.int x) ∧ Q (.inr (x)))) 51 [(0, .ref 950), (1, .int (y0)), (2, .int (y1)), (3, .int (y2)), (4, .int (y3))] [] (t_m s) 1065 0 0) (hk : t_hk (k_X13_isLocal_51 l1 l2 l3 l4 s) Q) : mj_G D cy ad bs X cX13_isLocal 5 yX13_isLocal.cls (some .boolean) yX13_isLocal.name 1 0 0 1065 (t_P (fun v s' => s' = s ∧ ∃ x, v = some (.int x) ∧ Q (.inr (x)))) 51 [(0, .ref 950), (1, .int l1), (2, .int l2), (3, .int l3), (4, .int l4)] [] (t_m s) 1065 0 0 := by
  refine mj_iload dX13_isLocal_51 4 rfl ?_
  refine mj_aload_n dX13_isLocal_53 0 rfl ?_
  refine t_getI dX13_isLocal_54 F_X13_630 qf_950_55 ?_
  refine mj_icmp_ge 102 dX13_isLocal_57 (by decide) (fun z => t_posK hk z (fun hk => ?_)) (fun z => t_negK hk z (fun hk => ?_))
  · refine t_mapK hk (fun hk => ?_)
    refine mj_iload_n dX13_isLocal_102 3 rfl ?_
    refine t_chkK hk (fun c0 hk => ?_)
    exact t_somK hk (fun hf => t_iret dX13_isLocal_103 rfl (t_zfit c0) ⟨rfl, _, rfl, hf⟩ (Nat.le_of_ble_eq_true rfl) (Nat.le_of_ble_eq_true rfl))
  · refine mj_iload_n dX13_isLocal_60 3 rfl ?_
    refine mj_if_ne 102 dX13_isLocal_61 (by decide) (fun z => t_negK hk z (fun hk => ?_)) (fun z => t_posK hk z (fun hk => ?_))
    · refine t_mapK hk (fun hk => ?_)
      refine mj_iload_n dX13_isLocal_102 3 rfl ?_
      refine t_chkK hk (fun c1 hk => ?_)
      exact t_somK hk (fun hf => t_iret dX13_isLocal_103 rfl (t_zfit c1) ⟨rfl, _, rfl, hf⟩ (Nat.le_of_ble_eq_true rfl) (Nat.le_of_ble_eq_true rfl))
    · refine mj_aload_n dX13_isLocal_64 0 rfl ?_
      refine t_getR 970 dX13_isLocal_65 F_X13_72 qr_950_45 ?_
      refine mj_iload dX13_isLocal_68 4 rfl ?_
      refine t_chkK hk (fun c2 hk => ?_)
      refine t_iald dX13_isLocal_70 qa_970 (t_ixv c2) ?_
      refine mj_aload_n dX13_isLocal_71 0 rfl ?_
      refine t_getR 982 dX13_isLocal_72 F_X13_108 qr_950_58 ?_
      refine mj_iload_n dX13_isLocal_75 1 rfl ?_
      refine t_chkK hk (fun c3 hk => ?_)
      refine t_iald dX13_isLocal_76 qa_982 (t_ixv c3) ?_
      refine mj_icmp_ne 94 dX13_isLocal_77 (by decide) (fun z => t_negK hk z (fun hk => ?_)) (fun z => t_posK hk z (fun hk => ?_))
      · refine mj_sublv [(0, .ref 950), (1, .int l1), (2, .int l2), (4, .int l4)] [0, 1, 2, 4] rfl ?_
        exact B_X13_isLocal_94 _ _ _ _ _ (fun y0 y1 y2 y3 hx => Hb51 y0 y1 y2 y3 hx) hk
      · refine mj_aload_n dX13_isLocal_80 0 rfl ?_
        refine mj_iload dX13_isLocal_81 4 rfl ?_
        refine mj_iload_n dX13_isLocal_83 2 rfl ?_
        refine t_bndK hk (fun r5 er5 hk => ?_)
        refine t_callViP dX13_isLocal_84 M_X13_isOwn (C_X13_isOwn _ _ _ _ er5) ML_X13_701 IM_X13_isOwn SE_X13_isOwn qc_950 rfl (As := [.int l4, .int l2]) rfl rfl (Nat.le_of_ble_eq_true rfl) (Nat.le_of_ble_eq_true rfl) (Nat.le_of_ble_eq_true rfl) (Nat.le_of_ble_eq_true rfl) ?_
        refine mj_if_eq 94 dX13_isLocal_87 (by decide) (fun z => t_posK hk z (fun hk => ?_)) (fun z => t_negK hk z (fun hk => ?_))
        · refine mj_sublv [(0, .ref 950), (1, .int l1), (2, .int l2), (4, .int l4)] [0, 1, 2, 4] rfl ?_
          exact B_X13_isLocal_94 _ _ _ _ _ (fun y0 y1 y2 y3 hx => Hb51 y0 y1 y2 y3 hx) hk
        · refine mj_iconst (v := 1) dX13_isLocal_90 (by decide) ?_
          refine mj_goto 95 dX13_isLocal_91 (by decide) ?_
          refine mj_sublv [(0, .ref 950), (1, .int l1), (2, .int l2), (4, .int l4)] [0, 1, 2, 4] rfl ?_
          exact B_X13_isLocal_95 _ _ _ _ _ _ (fun y0 y1 y2 y3 hx => Hb51 y0 y1 y2 y3 hx) hk
noncomputable def b_X13_isLocal_51 (s : t_S) (x : Int32 × Int32 × Int32 × Int32) : Option ((Int32 × Int32 × Int32 × Int32) ⊕ (Int32)) := k_X13_isLocal_51 x.1 x.2.1 x.2.2.1 x.2.2.2 s
set_option maxRecDepth 4000 in
set_option maxHeartbeats 1000000 in
theorem LH_X13_isLocal_51 {D : va_G} {cy : Nat → ClassId} {ad : Nat → Nat} {bs : Nat} {X : State → Heap → Prop} (s : t_S) : ∀ (n : Nat) (y0 : Int32) (y1 : Int32) (y2 : Int32) (y3 : Int32) (Q : Int32 → Prop) (hk : t_hk (t_loop (b_X13_isLocal_51 s) n (y0, y1, y2, y3)) Q), mj_G D cy ad bs X cX13_isLocal 5 yX13_isLocal.cls (some .boolean) yX13_isLocal.name 1 0 0 1065 (t_P (fun v s' => s' = s ∧ ∃ x, v = some (.int x) ∧ Q (x))) 51 [(0, .ref 950), (1, .int (y0)), (2, .int (y1)), (3, .int (y2)), (4, .int (y3))] [] (t_m s) 1065 0 0 := by
  intro n
  induction n with
  | zero => intro y0 y1 y2 y3 Q hk; obtain ⟨r, hr, _⟩ := hk; cases hr
  | succ n ih =>
    intro y0 y1 y2 y3 Q hk
    exact B_X13_isLocal_51 y0 y1 y2 y3 s (fun y => t_lq (b_X13_isLocal_51 s) n Q y) (fun y0' y1' y2' y3' hy => ih y0' y1' y2' y3' Q hy) (t_lp hk)
noncomputable def k_X13_isLocal_36 (l1 : Int32) (l2 : Int32) (l4 : Int32) (s : t_S) : Option ((Int32 × Int32 × Int32 × Int32) ⊕ (Int32)) :=
 k_X13_isLocal_41 l1 l2 l4 1 s
set_option maxRecDepth 4000 in
set_option maxHeartbeats 1000000 in
theorem B_X13_isLocal_36 {D : va_G} {cy : Nat → ClassId} {ad : Nat → Nat} {bs : Nat} {X : State → Heap → Prop} (l1 : Int32) (l2 : Int32) (l4 : Int32) (s : t_S) (Q : (Int32 × Int32 × Int32 × Int32) ⊕ (Int32) → Prop) (Hb5 : ∀ (y0 : Int32) (y1 : Int32) (y2 : Int32) (y3 : Int32), Q (.inl (y0, y1, y2, y3)) → mj_G D cy ad bs X cX13_isLocal 5 yX13_isLocal.cls (some .boolean) yX13_isLocal.name 1 0 0 1065 (t_P (fun v s' => s' = s ∧ ∃ x, v = some (.int x) ∧ Q (.inr (x)))) 5 [(0, .ref 950), (1, .int (y0)), (2, .int (y1)), (3, .int (y2)), (4, .int (y3))] [] (t_m s) 1065 0 0) (hk : t_hk (k_X13_isLocal_36 l1 l2 l4 s) Q) : mj_G D cy ad bs X cX13_isLocal 5 yX13_isLocal.cls (some .boolean) yX13_isLocal.name 1 0 0 1065 (t_P (fun v s' => s' = s ∧ ∃ x, v = some (.int x) ∧ Q (.inr (x)))) 36 [(0, .ref 950), (1, .int l1), (2, .int l2), (4, .int l4)] [] (t_m s) 1065 0 0 := by
  refine mj_iconst (v := 1) dX13_isLocal_36 (by decide) ?_
  refine mj_goto 41 dX13_isLocal_37 (by decide) ?_
  exact B_X13_isLocal_41 _ _ _ _ _ _ (fun y0 y1 y2 y3 hx => Hb5 y0 y1 y2 y3 hx) hk
noncomputable def k_X13_isLocal_5 (l1 : Int32) (l2 : Int32) (l3 : Int32) (l4 : Int32) (s : t_S) : Option ((Int32 × Int32 × Int32 × Int32) ⊕ (Int32)) :=
 if t_ix l1 40 = true then
  if (s.1 986 (l1.toNatClampNeg)) ≤ l4 then ((t_loop (b_X13_isLocal_51 s) t_N (l1, l2, l3, 0)).map Sum.inr)
 else (if l3 = (0 : Int32) then (if t_ix (((8 : Int32) * l1) + l4) 320 = true then
  if (s.1 984 ((((8 : Int32) * l1) + l4).toNatClampNeg)) = l2 then (k_X13_isLocal_36 l1 l2 l4 s)
 else (k_X13_isLocal_41 l1 l2 l4 0 s)
else none)
 else (k_X13_isLocal_36 l1 l2 l4 s))
else none
set_option maxRecDepth 4000 in
set_option maxHeartbeats 1000000 in
theorem B_X13_isLocal_5 {D : va_G} {cy : Nat → ClassId} {ad : Nat → Nat} {bs : Nat} {X : State → Heap → Prop} (l1 : Int32) (l2 : Int32) (l3 : Int32) (l4 : Int32) (s : t_S) (Q : (Int32 × Int32 × Int32 × Int32) ⊕ (Int32) → Prop) (Hb5 : ∀ (y0 : Int32) (y1 : Int32) (y2 : Int32) (y3 : Int32), Q (.inl (y0, y1, y2, y3)) → mj_G D cy ad bs X cX13_isLocal 5 yX13_isLocal.cls (some .boolean) yX13_isLocal.name 1 0 0 1065 (t_P (fun v s' => s' = s ∧ ∃ x, v = some (.int x) ∧ Q (.inr (x)))) 5 [(0, .ref 950), (1, .int (y0)), (2, .int (y1)), (3, .int (y2)), (4, .int (y3))] [] (t_m s) 1065 0 0) (hk : t_hk (k_X13_isLocal_5 l1 l2 l3 l4 s) Q) : mj_G D cy ad bs X cX13_isLocal 5 yX13_isLocal.cls (some .boolean) yX13_isLocal.name 1 0 0 1065 (t_P (fun v s' => s' = s ∧ ∃ x, v = some (.int x) ∧ Q (.inr (x)))) 5 [(0, .ref 950), (1, .int l1), (2, .int l2), (3, .int l3), (4, .int l4)] [] (t_m s) 1065 0 0 := by
  refine mj_iload dX13_isLocal_5 4 rfl ?_
  refine mj_aload_n dX13_isLocal_7 0 rfl ?_
  refine t_getR 986 dX13_isLocal_8 F_X13_120 qr_950_62 ?_
  refine mj_iload_n dX13_isLocal_11 1 rfl ?_
  refine t_chkK hk (fun c0 hk => ?_)
  refine t_iald dX13_isLocal_12 qa_986 (t_ixv c0) ?_
  refine mj_icmp_ge 48 dX13_isLocal_13 (by decide) (fun z => t_posK hk z (fun hk => ?_)) (fun z => t_negK hk z (fun hk => ?_))
  · refine t_mapK hk (fun hk => ?_)
    refine mj_iconst (v := 0) dX13_isLocal_48 (by decide) ?_
    refine mj_istore (lv2 := [(4, .int 0), (0, .ref 950), (1, .int l1), (2, .int l2), (3, .int l3)]) dX13_isLocal_49 (by decide) rfl ?_
    refine mj_sublv [(0, .ref 950), (1, .int l1), (2, .int l2), (3, .int l3), (4, .int 0)] [1, 2, 3, 4, 0] rfl ?_
    exact LH_X13_isLocal_51 _ _ l1 l2 l3 0 _ hk
  · refine mj_iload_n dX13_isLocal_16 3 rfl ?_
    refine mj_if_ne 36 dX13_isLocal_17 (by decide) (fun z => t_negK hk z (fun hk => ?_)) (fun z => t_posK hk z (fun hk => ?_))
    · refine mj_sublv [(0, .ref 950), (1, .int l1), (2, .int l2), (4, .int l4)] [0, 1, 2, 4] rfl ?_
      exact B_X13_isLocal_36 _ _ _ _ _ (fun y0 y1 y2 y3 hx => Hb5 y0 y1 y2 y3 hx) hk
    · refine mj_aload_n dX13_isLocal_20 0 rfl ?_
      refine t_getR 984 dX13_isLocal_21 F_X13_114 qr_950_60 ?_
      refine mj_bipush (v := 8) dX13_isLocal_24 (by decide) ?_
      refine mj_iload_n dX13_isLocal_26 1 rfl ?_
      refine mj_imul dX13_isLocal_27 ?_
      refine mj_iload dX13_isLocal_28 4 rfl ?_
      refine mj_iadd dX13_isLocal_30 ?_
      refine t_chkK hk (fun c1 hk => ?_)
      refine t_iald dX13_isLocal_31 qa_984 (t_ixv c1) ?_
      refine mj_iload_n dX13_isLocal_32 2 rfl ?_
      refine mj_icmp_ne 40 dX13_isLocal_33 (by decide) (fun z => t_negK hk z (fun hk => ?_)) (fun z => t_posK hk z (fun hk => ?_))
      · refine mj_iconst (v := 0) dX13_isLocal_40 (by decide) ?_
        refine mj_sublv [(0, .ref 950), (1, .int l1), (2, .int l2), (4, .int l4)] [0, 1, 2, 4] rfl ?_
        exact B_X13_isLocal_41 _ _ _ _ _ _ (fun y0 y1 y2 y3 hx => Hb5 y0 y1 y2 y3 hx) hk
      · refine mj_sublv [(0, .ref 950), (1, .int l1), (2, .int l2), (4, .int l4)] [0, 1, 2, 4] rfl ?_
        exact B_X13_isLocal_36 _ _ _ _ _ (fun y0 y1 y2 y3 hx => Hb5 y0 y1 y2 y3 hx) hk
noncomputable def b_X13_isLocal_5 (s : t_S) (x : Int32 × Int32 × Int32 × Int32) : Option ((Int32 × Int32 × Int32 × Int32) ⊕ (Int32)) := k_X13_isLocal_5 x.1 x.2.1 x.2.2.1 x.2.2.2 s
set_option maxRecDepth 4000 in
set_option maxHeartbeats 1000000 in
theorem LH_X13_isLocal_5 {D : va_G} {cy : Nat → ClassId} {ad : Nat → Nat} {bs : Nat} {X : State → Heap → Prop} (s : t_S) : ∀ (n : Nat) (y0 : Int32) (y1 : Int32) (y2 : Int32) (y3 : Int32) (Q : Int32 → Prop) (hk : t_hk (t_loop (b_X13_isLocal_5 s) n (y0, y1, y2, y3)) Q), mj_G D cy ad bs X cX13_isLocal 5 yX13_isLocal.cls (some .boolean) yX13_isLocal.name 1 0 0 1065 (t_P (fun v s' => s' = s ∧ ∃ x, v = some (.int x) ∧ Q (x))) 5 [(0, .ref 950), (1, .int (y0)), (2, .int (y1)), (3, .int (y2)), (4, .int (y3))] [] (t_m s) 1065 0 0 := by
  intro n
  induction n with
  | zero => intro y0 y1 y2 y3 Q hk; obtain ⟨r, hr, _⟩ := hk; cases hr
  | succ n ih =>
    intro y0 y1 y2 y3 Q hk
    exact B_X13_isLocal_5 y0 y1 y2 y3 s (fun y => t_lq (b_X13_isLocal_5 s) n Q y) (fun y0' y1' y2' y3' hy => ih y0' y1' y2' y3' Q hy) (t_lp hk)
noncomputable def f_X13_isLocal (x1 : Int32) (x2 : Int32) (s : t_S) : Option (Int32) :=
 t_loop (b_X13_isLocal_5 s) t_N (x1, x2, 0, 0)
set_option maxRecDepth 4000 in
set_option maxHeartbeats 1000000 in
theorem C_X13_isLocal (x1 : Int32) (x2 : Int32) (s : t_S) (r : Int32) (hr : f_X13_isLocal x1 x2 s = some r) : t_C yX13_isLocal cX13_isLocal 5 (some .boolean) 1 [.ref 950, .int x1, .int x2] s (fun v s' => v = some (.int r) ∧ s' = s) := by
  refine t_C.imp (P := fun v s' => s' = s ∧ ∃ x, v = some (.int x) ∧ (fun q => q = r) (x)) (t_C.of (by decide +kernel) (Nat.le_of_ble_eq_true rfl) ?_) (fun v s' hp => by obtain ⟨rfl, x, rfl, rfl⟩ := hp; exact ⟨rfl, rfl⟩)
  intro D cy ad bs X
  have hk : t_hk (f_X13_isLocal x1 x2 s) (fun q => q = r) := ⟨r, hr, rfl⟩
  show mj_G D cy ad bs X cX13_isLocal 5 yX13_isLocal.cls (some .boolean) yX13_isLocal.name 1 0 0 1065 (t_P (fun v s' => s' = s ∧ ∃ x, v = some (.int x) ∧ (fun q => q = r) (x))) 0 [(0, .ref 950), (1, .int x1), (2, .int x2)] [] (t_m s) 1065 0 0
  refine mj_iconst (v := 0) dX13_isLocal_0 (by decide) ?_
  refine mj_istore_n 3 (lv2 := [(3, .int 0), (0, .ref 950), (1, .int x1), (2, .int x2)]) dX13_isLocal_1 rfl (by decide) rfl ?_
  refine mj_iconst (v := 0) dX13_isLocal_2 (by decide) ?_
  refine mj_istore (lv2 := [(4, .int 0), (3, .int 0), (0, .ref 950), (1, .int x1), (2, .int x2)]) dX13_isLocal_3 (by decide) rfl ?_
  refine mj_sublv [(0, .ref 950), (1, .int x1), (2, .int x2), (3, .int 0), (4, .int 0)] [2, 3, 4, 1, 0] rfl ?_
  exact LH_X13_isLocal_5 _ _ x1 x2 0 0 _ hk

theorem dX13_isFigure_0 : decode cX13_isFigure 0 = .ok (.iload_n 0, 1) := by decide +kernel
theorem dX13_isFigure_1 : decode cX13_isFigure 1 = .ok (.bipush 48, 2) := by decide +kernel
theorem dX13_isFigure_12 : decode cX13_isFigure 12 = .ok (.iconst 1, 1) := by decide +kernel
theorem dX13_isFigure_13 : decode cX13_isFigure 13 = .ok (.goto 4, 3) := by decide +kernel
theorem dX13_isFigure_16 : decode cX13_isFigure 16 = .ok (.iconst 0, 1) := by decide +kernel
theorem dX13_isFigure_17 : decode cX13_isFigure 17 = .ok (.ireturn, 1) := by decide +kernel
theorem dX13_isFigure_3 : decode cX13_isFigure 3 = .ok (.if_icmp .lt 13, 3) := by decide +kernel
theorem dX13_isFigure_6 : decode cX13_isFigure 6 = .ok (.iload_n 0, 1) := by decide +kernel
theorem dX13_isFigure_7 : decode cX13_isFigure 7 = .ok (.bipush 57, 2) := by decide +kernel
theorem dX13_isFigure_9 : decode cX13_isFigure 9 = .ok (.if_icmp .gt 7, 3) := by decide +kernel
noncomputable def f_X13_isFigure (x1 : Int32) (s : t_S) : Int32 :=
 if x1 < (48 : Int32) then ((0 : Int32))
 else (if (57 : Int32) < x1 then ((0 : Int32))
 else ((1 : Int32)))
set_option maxRecDepth 4000 in
set_option maxHeartbeats 1000000 in
theorem C_X13_isFigure (x1 : Int32) (s : t_S) : t_C yX13_isFigure cX13_isFigure 1 (some .boolean) 0 [.int x1] s (fun v s' => v = some (.int (f_X13_isFigure x1 s)) ∧ s' = s) := by
  refine t_C.imp (P := fun v s' => s' = s ∧ ∃ x, v = some (.int x) ∧ (fun r => r = f_X13_isFigure x1 s) (x)) (t_C.of (by decide +kernel) (Nat.le_of_ble_eq_true rfl) ?_) (fun v s' hp => by obtain ⟨rfl, x, rfl, rfl⟩ := hp; exact ⟨rfl, rfl⟩)
  intro D cy ad bs X
  have hk : t_ht (f_X13_isFigure x1 s) (fun r => r = f_X13_isFigure x1 s) := rfl
  show mj_G D cy ad bs X cX13_isFigure 1 yX13_isFigure.cls (some .boolean) yX13_isFigure.name 0 0 0 1065 (t_P (fun v s' => s' = s ∧ ∃ x, v = some (.int x) ∧ (fun r => r = f_X13_isFigure x1 s) (x))) 0 [(0, .int x1)] [] (t_m s) 1065 0 0
  refine mj_iload_n dX13_isFigure_0 0 rfl ?_
  refine mj_bipush (v := 48) dX13_isFigure_1 (by decide) ?_
  refine mj_icmp_lt 16 dX13_isFigure_3 (by decide) (fun z => t_posTK hk z (fun hk => ?_)) (fun z => t_negTK hk z (fun hk => ?_))
  · refine mj_iconst (v := 0) dX13_isFigure_16 (by decide) ?_
    exact t_iret dX13_isFigure_17 rfl (by decide) ⟨rfl, _, rfl, hk⟩ (Nat.le_of_ble_eq_true rfl) (Nat.le_of_ble_eq_true rfl)
  · refine mj_iload_n dX13_isFigure_6 0 rfl ?_
    refine mj_bipush (v := 57) dX13_isFigure_7 (by decide) ?_
    refine mj_icmp_gt 16 dX13_isFigure_9 (by decide) (fun z => t_posTK hk z (fun hk => ?_)) (fun z => t_negTK hk z (fun hk => ?_))
    · refine mj_iconst (v := 0) dX13_isFigure_16 (by decide) ?_
      exact t_iret dX13_isFigure_17 rfl (by decide) ⟨rfl, _, rfl, hk⟩ (Nat.le_of_ble_eq_true rfl) (Nat.le_of_ble_eq_true rfl)
    · refine mj_iconst (v := 1) dX13_isFigure_12 (by decide) ?_
      refine mj_goto 17 dX13_isFigure_13 (by decide) ?_
      exact t_iret dX13_isFigure_17 rfl (by decide) ⟨rfl, _, rfl, hk⟩ (Nat.le_of_ble_eq_true rfl) (Nat.le_of_ble_eq_true rfl)

theorem dX13_isLetter_0 : decode cX13_isLetter 0 = .ok (.iload_n 0, 1) := by decide +kernel
theorem dX13_isLetter_1 : decode cX13_isLetter 1 = .ok (.bipush 97, 2) := by decide +kernel
theorem dX13_isLetter_12 : decode cX13_isLetter 12 = .ok (.iload_n 0, 1) := by decide +kernel
theorem dX13_isLetter_13 : decode cX13_isLetter 13 = .ok (.bipush 65, 2) := by decide +kernel
theorem dX13_isLetter_15 : decode cX13_isLetter 15 = .ok (.if_icmp .lt 13, 3) := by decide +kernel
theorem dX13_isLetter_18 : decode cX13_isLetter 18 = .ok (.iload_n 0, 1) := by decide +kernel
theorem dX13_isLetter_19 : decode cX13_isLetter 19 = .ok (.bipush 90, 2) := by decide +kernel
theorem dX13_isLetter_21 : decode cX13_isLetter 21 = .ok (.if_icmp .gt 7, 3) := by decide +kernel
theorem dX13_isLetter_24 : decode cX13_isLetter 24 = .ok (.iconst 1, 1) := by decide +kernel
theorem dX13_isLetter_25 : decode cX13_isLetter 25 = .ok (.goto 4, 3) := by decide +kernel
theorem dX13_isLetter_28 : decode cX13_isLetter 28 = .ok (.iconst 0, 1) := by decide +kernel
theorem dX13_isLetter_29 : decode cX13_isLetter 29 = .ok (.ireturn, 1) := by decide +kernel
theorem dX13_isLetter_3 : decode cX13_isLetter 3 = .ok (.if_icmp .lt 9, 3) := by decide +kernel
theorem dX13_isLetter_6 : decode cX13_isLetter 6 = .ok (.iload_n 0, 1) := by decide +kernel
theorem dX13_isLetter_7 : decode cX13_isLetter 7 = .ok (.bipush 122, 2) := by decide +kernel
theorem dX13_isLetter_9 : decode cX13_isLetter 9 = .ok (.if_icmp .le 15, 3) := by decide +kernel
noncomputable def k_X13_isLetter_24 (s : t_S) : Int32 :=
 (1 : Int32)
set_option maxRecDepth 4000 in
set_option maxHeartbeats 1000000 in
theorem B_X13_isLetter_24 {D : va_G} {cy : Nat → ClassId} {ad : Nat → Nat} {bs : Nat} {X : State → Heap → Prop} (s : t_S) (Q : Int32 → Prop) (hk : t_ht (k_X13_isLetter_24 s) Q) : mj_G D cy ad bs X cX13_isLetter 1 yX13_isLetter.cls (some .boolean) yX13_isLetter.name 0 0 0 1065 (t_P (fun v s' => s' = s ∧ ∃ x, v = some (.int x) ∧ Q (x))) 24 [] [] (t_m s) 1065 0 0 := by
  refine mj_iconst (v := 1) dX13_isLetter_24 (by decide) ?_
  refine mj_goto 29 dX13_isLetter_25 (by decide) ?_
  exact t_iret dX13_isLetter_29 rfl (by decide) ⟨rfl, _, rfl, hk⟩ (Nat.le_of_ble_eq_true rfl) (Nat.le_of_ble_eq_true rfl)
noncomputable def k_X13_isLetter_12 (l0 : Int32) (s : t_S) : Int32 :=
 if l0 < (65 : Int32) then ((0 : Int32))
 else (if (90 : Int32) < l0 then ((0 : Int32))
 else (k_X13_isLetter_24 s))
set_option maxRecDepth 4000 in
set_option maxHeartbeats 1000000 in
theorem B_X13_isLetter_12 {D : va_G} {cy : Nat → ClassId} {ad : Nat → Nat} {bs : Nat} {X : State → Heap → Prop} (l0 : Int32) (s : t_S) (Q : Int32 → Prop) (hk : t_ht (k_X13_isLetter_12 l0 s) Q) : mj_G D cy ad bs X cX13_isLetter 1 yX13_isLetter.cls (some .boolean) yX13_isLetter.name 0 0 0 1065 (t_P (fun v s' => s' = s ∧ ∃ x, v = some (.int x) ∧ Q (x))) 12 [(0, .int l0)] [] (t_m s) 1065 0 0 := by
  refine mj_iload_n dX13_isLetter_12 0 rfl ?_
  refine mj_bipush (v := 65) dX13_isLetter_13 (by decide) ?_
  refine mj_icmp_lt 28 dX13_isLetter_15 (by decide) (fun z => t_posTK hk z (fun hk => ?_)) (fun z => t_negTK hk z (fun hk => ?_))
  · refine mj_iconst (v := 0) dX13_isLetter_28 (by decide) ?_
    exact t_iret dX13_isLetter_29 rfl (by decide) ⟨rfl, _, rfl, hk⟩ (Nat.le_of_ble_eq_true rfl) (Nat.le_of_ble_eq_true rfl)
  · refine mj_iload_n dX13_isLetter_18 0 rfl ?_
    refine mj_bipush (v := 90) dX13_isLetter_19 (by decide) ?_
    refine mj_icmp_gt 28 dX13_isLetter_21 (by decide) (fun z => t_posTK hk z (fun hk => ?_)) (fun z => t_negTK hk z (fun hk => ?_))
    · refine mj_iconst (v := 0) dX13_isLetter_28 (by decide) ?_
      exact t_iret dX13_isLetter_29 rfl (by decide) ⟨rfl, _, rfl, hk⟩ (Nat.le_of_ble_eq_true rfl) (Nat.le_of_ble_eq_true rfl)
    · refine mj_sublv [] [] rfl ?_
      exact B_X13_isLetter_24 _ _ hk
noncomputable def f_X13_isLetter (x1 : Int32) (s : t_S) : Int32 :=
 if x1 < (97 : Int32) then (k_X13_isLetter_12 x1 s)
 else (if x1 ≤ (122 : Int32) then (k_X13_isLetter_24 s)
 else (k_X13_isLetter_12 x1 s))
set_option maxRecDepth 4000 in
set_option maxHeartbeats 1000000 in
theorem C_X13_isLetter (x1 : Int32) (s : t_S) : t_C yX13_isLetter cX13_isLetter 1 (some .boolean) 0 [.int x1] s (fun v s' => v = some (.int (f_X13_isLetter x1 s)) ∧ s' = s) := by
  refine t_C.imp (P := fun v s' => s' = s ∧ ∃ x, v = some (.int x) ∧ (fun r => r = f_X13_isLetter x1 s) (x)) (t_C.of (by decide +kernel) (Nat.le_of_ble_eq_true rfl) ?_) (fun v s' hp => by obtain ⟨rfl, x, rfl, rfl⟩ := hp; exact ⟨rfl, rfl⟩)
  intro D cy ad bs X
  have hk : t_ht (f_X13_isLetter x1 s) (fun r => r = f_X13_isLetter x1 s) := rfl
  show mj_G D cy ad bs X cX13_isLetter 1 yX13_isLetter.cls (some .boolean) yX13_isLetter.name 0 0 0 1065 (t_P (fun v s' => s' = s ∧ ∃ x, v = some (.int x) ∧ (fun r => r = f_X13_isLetter x1 s) (x))) 0 [(0, .int x1)] [] (t_m s) 1065 0 0
  refine mj_iload_n dX13_isLetter_0 0 rfl ?_
  refine mj_bipush (v := 97) dX13_isLetter_1 (by decide) ?_
  refine mj_icmp_lt 12 dX13_isLetter_3 (by decide) (fun z => t_posTK hk z (fun hk => ?_)) (fun z => t_negTK hk z (fun hk => ?_))
  · exact B_X13_isLetter_12 _ _ _ hk
  · refine mj_iload_n dX13_isLetter_6 0 rfl ?_
    refine mj_bipush (v := 122) dX13_isLetter_7 (by decide) ?_
    refine mj_icmp_le 24 dX13_isLetter_9 (by decide) (fun z => t_posTK hk z (fun hk => ?_)) (fun z => t_negTK hk z (fun hk => ?_))
    · refine mj_sublv [] [] rfl ?_
      exact B_X13_isLetter_24 _ _ hk
    · exact B_X13_isLetter_12 _ _ _ hk

theorem dX13_peek_0 : decode cX13_peek 0 = .ok (.iload_n 1, 1) := by decide +kernel
theorem dX13_peek_1 : decode cX13_peek 1 = .ok (.aload_n 0, 1) := by decide +kernel
theorem dX13_peek_12 : decode cX13_peek 12 = .ok (.iload_n 1, 1) := by decide +kernel
theorem dX13_peek_13 : decode cX13_peek 13 = .ok (.iaload, 1) := by decide +kernel
theorem dX13_peek_14 : decode cX13_peek 14 = .ok (.goto 4, 3) := by decide +kernel
theorem dX13_peek_17 : decode cX13_peek 17 = .ok (.iconst (-1), 1) := by decide +kernel
theorem dX13_peek_18 : decode cX13_peek 18 = .ok (.ireturn, 1) := by decide +kernel
theorem dX13_peek_2 : decode cX13_peek 2 = .ok (.getfield 366, 3) := by decide +kernel
theorem dX13_peek_5 : decode cX13_peek 5 = .ok (.if_icmp .ge 12, 3) := by decide +kernel
theorem dX13_peek_8 : decode cX13_peek 8 = .ok (.aload_n 0, 1) := by decide +kernel
theorem dX13_peek_9 : decode cX13_peek 9 = .ok (.getfield 7, 3) := by decide +kernel
noncomputable def f_X13_peek (x1 : Int32) (s : t_S) : Option (Int32) :=
 if (s.1 950 1) ≤ x1 then (some (-1 : Int32))
 else (if t_ix x1 12000 = true then
  some (s.1 951 (x1.toNatClampNeg))
else none)
set_option maxRecDepth 4000 in
set_option maxHeartbeats 1000000 in
theorem C_X13_peek (x1 : Int32) (s : t_S) (r : Int32) (hr : f_X13_peek x1 s = some r) : t_C yX13_peek cX13_peek 2 (some .int) 0 [.ref 950, .int x1] s (fun v s' => v = some (.int r) ∧ s' = s) := by
  refine t_C.imp (P := fun v s' => s' = s ∧ ∃ x, v = some (.int x) ∧ (fun q => q = r) (x)) (t_C.of (by decide +kernel) (Nat.le_of_ble_eq_true rfl) ?_) (fun v s' hp => by obtain ⟨rfl, x, rfl, rfl⟩ := hp; exact ⟨rfl, rfl⟩)
  intro D cy ad bs X
  have hk : t_hk (f_X13_peek x1 s) (fun q => q = r) := ⟨r, hr, rfl⟩
  show mj_G D cy ad bs X cX13_peek 2 yX13_peek.cls (some .int) yX13_peek.name 0 0 0 1065 (t_P (fun v s' => s' = s ∧ ∃ x, v = some (.int x) ∧ (fun q => q = r) (x))) 0 [(0, .ref 950), (1, .int x1)] [] (t_m s) 1065 0 0
  refine mj_iload_n dX13_peek_0 1 rfl ?_
  refine mj_aload_n dX13_peek_1 0 rfl ?_
  refine t_getI dX13_peek_2 F_X13_366 qf_950_1 ?_
  refine mj_icmp_ge 17 dX13_peek_5 (by decide) (fun z => t_posK hk z (fun hk => ?_)) (fun z => t_negK hk z (fun hk => ?_))
  · refine mj_iconst (v := (-1)) dX13_peek_17 (by decide) ?_
    exact t_somK hk (fun hf => t_iret dX13_peek_18 rfl rfl ⟨rfl, _, rfl, hf⟩ (Nat.le_of_ble_eq_true rfl) (Nat.le_of_ble_eq_true rfl))
  · refine mj_aload_n dX13_peek_8 0 rfl ?_
    refine t_getR 951 dX13_peek_9 F_X13_7 qr_950_0 ?_
    refine mj_iload_n dX13_peek_12 1 rfl ?_
    refine t_chkK hk (fun c0 hk => ?_)
    refine t_iald dX13_peek_13 qa_951 (t_ixv c0) ?_
    refine mj_goto 18 dX13_peek_14 (by decide) ?_
    exact t_somK hk (fun hf => t_iret dX13_peek_18 rfl rfl ⟨rfl, _, rfl, hf⟩ (Nat.le_of_ble_eq_true rfl) (Nat.le_of_ble_eq_true rfl))

theorem dX13_readSign_0 : decode cX13_readSign 0 = .ok (.aload_n 0, 1) := by decide +kernel
theorem dX13_readSign_1 : decode cX13_readSign 1 = .ok (.aload_n 0, 1) := by decide +kernel
theorem dX13_readSign_10 : decode cX13_readSign 10 = .ok (.istore_n 2, 1) := by decide +kernel
theorem dX13_readSign_100 : decode cX13_readSign 100 = .ok (.goto 4, 3) := by decide +kernel
theorem dX13_readSign_103 : decode cX13_readSign 103 = .ok (.iconst 0, 1) := by decide +kernel
theorem dX13_readSign_104 : decode cX13_readSign 104 = .ok (.istore 4, 2) := by decide +kernel
theorem dX13_readSign_106 : decode cX13_readSign 106 = .ok (.iload_n 3, 1) := by decide +kernel
theorem dX13_readSign_107 : decode cX13_readSign 107 = .ok (.ifCond .ne 17, 3) := by decide +kernel
theorem dX13_readSign_11 : decode cX13_readSign 11 = .ok (.iload_n 2, 1) := by decide +kernel
theorem dX13_readSign_110 : decode cX13_readSign 110 = .ok (.iload 4, 2) := by decide +kernel
theorem dX13_readSign_112 : decode cX13_readSign 112 = .ok (.ifCond .ne 12, 3) := by decide +kernel
theorem dX13_readSign_115 : decode cX13_readSign 115 = .ok (.aload_n 0, 1) := by decide +kernel
theorem dX13_readSign_116 : decode cX13_readSign 116 = .ok (.iconst 1, 1) := by decide +kernel
theorem dX13_readSign_117 : decode cX13_readSign 117 = .ok (.aload_n 0, 1) := by decide +kernel
theorem dX13_readSign_118 : decode cX13_readSign 118 = .ok (.getfield 391, 3) := by decide +kernel
theorem dX13_readSign_12 : decode cX13_readSign 12 = .ok (.bipush 61, 2) := by decide +kernel
theorem dX13_readSign_121 : decode cX13_readSign 121 = .ok (.invokevirtual 411, 3) := by decide +kernel
theorem dX13_readSign_124 : decode cX13_readSign 124 = .ok (.aload_n 0, 1) := by decide +kernel
theorem dX13_readSign_125 : decode cX13_readSign 125 = .ok (.iconst 4, 1) := by decide +kernel
theorem dX13_readSign_126 : decode cX13_readSign 126 = .ok (.putfield 385, 3) := by decide +kernel
theorem dX13_readSign_129 : decode cX13_readSign 129 = .ok (.aload_n 0, 1) := by decide +kernel
theorem dX13_readSign_130 : decode cX13_readSign 130 = .ok (.iload_n 3, 1) := by decide +kernel
theorem dX13_readSign_131 : decode cX13_readSign 131 = .ok (.ifCond .eq 13, 3) := by decide +kernel
theorem dX13_readSign_134 : decode cX13_readSign 134 = .ok (.sipush 256, 3) := by decide +kernel
theorem dX13_readSign_137 : decode cX13_readSign 137 = .ok (.iload_n 1, 1) := by decide +kernel
theorem dX13_readSign_138 : decode cX13_readSign 138 = .ok (.imul, 1) := by decide +kernel
theorem dX13_readSign_139 : decode cX13_readSign 139 = .ok (.iload_n 2, 1) := by decide +kernel
theorem dX13_readSign_14 : decode cX13_readSign 14 = .ok (.if_icmp .ne 33, 3) := by decide +kernel
theorem dX13_readSign_140 : decode cX13_readSign 140 = .ok (.iadd, 1) := by decide +kernel
theorem dX13_readSign_141 : decode cX13_readSign 141 = .ok (.goto 4, 3) := by decide +kernel
theorem dX13_readSign_144 : decode cX13_readSign 144 = .ok (.iload_n 1, 1) := by decide +kernel
theorem dX13_readSign_145 : decode cX13_readSign 145 = .ok (.putfield 438, 3) := by decide +kernel
theorem dX13_readSign_148 : decode cX13_readSign 148 = .ok (.aload_n 0, 1) := by decide +kernel
theorem dX13_readSign_149 : decode cX13_readSign 149 = .ok (.aload_n 0, 1) := by decide +kernel
theorem dX13_readSign_150 : decode cX13_readSign 150 = .ok (.getfield 378, 3) := by decide +kernel
theorem dX13_readSign_153 : decode cX13_readSign 153 = .ok (.iload_n 3, 1) := by decide +kernel
theorem dX13_readSign_154 : decode cX13_readSign 154 = .ok (.ifCond .eq 7, 3) := by decide +kernel
theorem dX13_readSign_157 : decode cX13_readSign 157 = .ok (.iconst 2, 1) := by decide +kernel
theorem dX13_readSign_158 : decode cX13_readSign 158 = .ok (.goto 4, 3) := by decide +kernel
theorem dX13_readSign_161 : decode cX13_readSign 161 = .ok (.iconst 1, 1) := by decide +kernel
theorem dX13_readSign_162 : decode cX13_readSign 162 = .ok (.iadd, 1) := by decide +kernel
theorem dX13_readSign_163 : decode cX13_readSign 163 = .ok (.putfield 378, 3) := by decide +kernel
theorem dX13_readSign_166 : decode cX13_readSign 166 = .ok (.return_, 1) := by decide +kernel
theorem dX13_readSign_17 : decode cX13_readSign 17 = .ok (.iload_n 1, 1) := by decide +kernel
theorem dX13_readSign_18 : decode cX13_readSign 18 = .ok (.bipush 58, 2) := by decide +kernel
theorem dX13_readSign_2 : decode cX13_readSign 2 = .ok (.getfield 378, 3) := by decide +kernel
theorem dX13_readSign_20 : decode cX13_readSign 20 = .ok (.if_icmp .eq 63, 3) := by decide +kernel
theorem dX13_readSign_23 : decode cX13_readSign 23 = .ok (.iload_n 1, 1) := by decide +kernel
theorem dX13_readSign_24 : decode cX13_readSign 24 = .ok (.bipush 61, 2) := by decide +kernel
theorem dX13_readSign_26 : decode cX13_readSign 26 = .ok (.if_icmp .eq 57, 3) := by decide +kernel
theorem dX13_readSign_29 : decode cX13_readSign 29 = .ok (.iload_n 1, 1) := by decide +kernel
theorem dX13_readSign_30 : decode cX13_readSign 30 = .ok (.bipush 33, 2) := by decide +kernel
theorem dX13_readSign_32 : decode cX13_readSign 32 = .ok (.if_icmp .eq 51, 3) := by decide +kernel
theorem dX13_readSign_35 : decode cX13_readSign 35 = .ok (.iload_n 1, 1) := by decide +kernel
theorem dX13_readSign_36 : decode cX13_readSign 36 = .ok (.bipush 60, 2) := by decide +kernel
theorem dX13_readSign_38 : decode cX13_readSign 38 = .ok (.if_icmp .eq 45, 3) := by decide +kernel
theorem dX13_readSign_41 : decode cX13_readSign 41 = .ok (.iload_n 1, 1) := by decide +kernel
theorem dX13_readSign_42 : decode cX13_readSign 42 = .ok (.bipush 62, 2) := by decide +kernel
theorem dX13_readSign_44 : decode cX13_readSign 44 = .ok (.if_icmp .eq 39, 3) := by decide +kernel
theorem dX13_readSign_47 : decode cX13_readSign 47 = .ok (.iload_n 1, 1) := by decide +kernel
theorem dX13_readSign_48 : decode cX13_readSign 48 = .ok (.bipush 46, 2) := by decide +kernel
theorem dX13_readSign_5 : decode cX13_readSign 5 = .ok (.iconst 1, 1) := by decide +kernel
theorem dX13_readSign_50 : decode cX13_readSign 50 = .ok (.if_icmp .ne 9, 3) := by decide +kernel
theorem dX13_readSign_53 : decode cX13_readSign 53 = .ok (.iload_n 2, 1) := by decide +kernel
theorem dX13_readSign_54 : decode cX13_readSign 54 = .ok (.bipush 46, 2) := by decide +kernel
theorem dX13_readSign_56 : decode cX13_readSign 56 = .ok (.if_icmp .eq 27, 3) := by decide +kernel
theorem dX13_readSign_59 : decode cX13_readSign 59 = .ok (.iload_n 1, 1) := by decide +kernel
theorem dX13_readSign_6 : decode cX13_readSign 6 = .ok (.iadd, 1) := by decide +kernel
theorem dX13_readSign_60 : decode cX13_readSign 60 = .ok (.bipush 38, 2) := by decide +kernel
theorem dX13_readSign_62 : decode cX13_readSign 62 = .ok (.if_icmp .ne 9, 3) := by decide +kernel
theorem dX13_readSign_65 : decode cX13_readSign 65 = .ok (.iload_n 2, 1) := by decide +kernel
theorem dX13_readSign_66 : decode cX13_readSign 66 = .ok (.bipush 38, 2) := by decide +kernel
theorem dX13_readSign_68 : decode cX13_readSign 68 = .ok (.if_icmp .eq 15, 3) := by decide +kernel
theorem dX13_readSign_7 : decode cX13_readSign 7 = .ok (.invokevirtual 381, 3) := by decide +kernel
theorem dX13_readSign_71 : decode cX13_readSign 71 = .ok (.iload_n 1, 1) := by decide +kernel
theorem dX13_readSign_72 : decode cX13_readSign 72 = .ok (.bipush 124, 2) := by decide +kernel
theorem dX13_readSign_74 : decode cX13_readSign 74 = .ok (.if_icmp .ne 13, 3) := by decide +kernel
theorem dX13_readSign_77 : decode cX13_readSign 77 = .ok (.iload_n 2, 1) := by decide +kernel
theorem dX13_readSign_78 : decode cX13_readSign 78 = .ok (.bipush 124, 2) := by decide +kernel
theorem dX13_readSign_80 : decode cX13_readSign 80 = .ok (.if_icmp .ne 7, 3) := by decide +kernel
theorem dX13_readSign_83 : decode cX13_readSign 83 = .ok (.iconst 1, 1) := by decide +kernel
theorem dX13_readSign_84 : decode cX13_readSign 84 = .ok (.goto 4, 3) := by decide +kernel
theorem dX13_readSign_87 : decode cX13_readSign 87 = .ok (.iconst 0, 1) := by decide +kernel
theorem dX13_readSign_88 : decode cX13_readSign 88 = .ok (.istore_n 3, 1) := by decide +kernel
theorem dX13_readSign_89 : decode cX13_readSign 89 = .ok (.ldc_w 431, 3) := by decide +kernel
theorem dX13_readSign_92 : decode cX13_readSign 92 = .ok (.iload_n 1, 1) := by decide +kernel
theorem dX13_readSign_93 : decode cX13_readSign 93 = .ok (.invokevirtual 433, 3) := by decide +kernel
theorem dX13_readSign_96 : decode cX13_readSign 96 = .ok (.ifCond .lt 7, 3) := by decide +kernel
theorem dX13_readSign_99 : decode cX13_readSign 99 = .ok (.iconst 1, 1) := by decide +kernel
noncomputable def k_X13_readSign_162 (k0 : Int32) (k1 : Int32) (s : t_S) : Option (t_S) :=
 t_let (t_setI s 950 4 (k1 + k0)) (fun s1 =>
 some (s1))
set_option maxRecDepth 4000 in
set_option maxHeartbeats 1000000 in
theorem B_X13_readSign_162 {D : va_G} {cy : Nat → ClassId} {ad : Nat → Nat} {bs : Nat} {X : State → Heap → Prop} (k0 : Int32) (k1 : Int32) (s : t_S) (Q : t_S → Prop) (hk : t_hk (k_X13_readSign_162 k0 k1 s) Q) : mj_G D cy ad bs X cX13_readSign 5 yX13_readSign.cls none yX13_readSign.name 4 0 0 1065 (t_P (fun v s' => v = none ∧ Q (s'))) 162 [] [.int k0, .int k1, .ref 950] (t_m s) 1065 0 0 := by
  refine mj_iadd dX13_readSign_162 ?_
  refine t_putIK dX13_readSign_163 F_X13_378 qf_950_4 rfl (fun s1 ws1 => t_letE hk ws1 (fun hk => ?_))
  exact t_somK hk (fun hf => t_vret dX13_readSign_166 rfl ⟨rfl, hf⟩ (Nat.le_of_ble_eq_true rfl) (Nat.le_of_ble_eq_true rfl))
noncomputable def k_X13_readSign_145 (l3 : Int32) (k0 : Int32) (s : t_S) : Option (t_S) :=
 t_let (t_setI s 950 9 k0) (fun s1 =>
 if l3 = (0 : Int32) then (k_X13_readSign_162 1 (s1.1 950 4) s1)
 else (k_X13_readSign_162 2 (s1.1 950 4) s1))
set_option maxRecDepth 4000 in
set_option maxHeartbeats 1000000 in
theorem B_X13_readSign_145 {D : va_G} {cy : Nat → ClassId} {ad : Nat → Nat} {bs : Nat} {X : State → Heap → Prop} (l3 : Int32) (k0 : Int32) (s : t_S) (Q : t_S → Prop) (hk : t_hk (k_X13_readSign_145 l3 k0 s) Q) : mj_G D cy ad bs X cX13_readSign 5 yX13_readSign.cls none yX13_readSign.name 4 0 0 1065 (t_P (fun v s' => v = none ∧ Q (s'))) 145 [(0, .ref 950), (3, .int l3)] [.int k0, .ref 950] (t_m s) 1065 0 0 := by
  refine t_putIK dX13_readSign_145 F_X13_438 qf_950_9 rfl (fun s1 ws1 => t_letE hk ws1 (fun hk => ?_))
  refine mj_aload_n dX13_readSign_148 0 rfl ?_
  refine mj_aload_n dX13_readSign_149 0 rfl ?_
  refine t_getI dX13_readSign_150 F_X13_378 qf_950_4 ?_
  refine mj_iload_n dX13_readSign_153 1 rfl ?_
  refine mj_if_eq 161 dX13_readSign_154 (by decide) (fun z => t_posK hk z (fun hk => ?_)) (fun z => t_negK hk z (fun hk => ?_))
  · refine mj_iconst (v := 1) dX13_readSign_161 (by decide) ?_
    refine mj_sublv [] [] rfl ?_
    exact B_X13_readSign_162 _ _ _ _ hk
  · refine mj_iconst (v := 2) dX13_readSign_157 (by decide) ?_
    refine mj_goto 162 dX13_readSign_158 (by decide) ?_
    refine mj_sublv [] [] rfl ?_
    exact B_X13_readSign_162 _ _ _ _ hk
noncomputable def k_X13_readSign_124 (l1 : Int32) (l2 : Int32) (l3 : Int32) (s : t_S) : Option (t_S) :=
 t_let (t_setI s 950 5 (4 : Int32)) (fun s1 =>
 if l3 = (0 : Int32) then (k_X13_readSign_145 l3 l1 s1)
 else (k_X13_readSign_145 l3 (((256 : Int32) * l1) + l2) s1))
set_option maxRecDepth 4000 in
set_option maxHeartbeats 1000000 in
theorem B_X13_readSign_124 {D : va_G} {cy : Nat → ClassId} {ad : Nat → Nat} {bs : Nat} {X : State → Heap → Prop} (l1 : Int32) (l2 : Int32) (l3 : Int32) (s : t_S) (Q : t_S → Prop) (hk : t_hk (k_X13_readSign_124 l1 l2 l3 s) Q) : mj_G D cy ad bs X cX13_readSign 5 yX13_readSign.cls none yX13_readSign.name 4 0 0 1065 (t_P (fun v s' => v = none ∧ Q (s'))) 124 [(0, .ref 950), (1, .int l1), (2, .int l2), (3, .int l3)] [] (t_m s) 1065 0 0 := by
  refine mj_aload_n dX13_readSign_124 0 rfl ?_
  refine mj_iconst (v := 4) dX13_readSign_125 (by decide) ?_
  refine t_putIK dX13_readSign_126 F_X13_385 qf_950_5 rfl (fun s1 ws1 => t_letE hk ws1 (fun hk => ?_))
  refine mj_aload_n dX13_readSign_129 0 rfl ?_
  refine mj_iload_n dX13_readSign_130 3 rfl ?_
  refine mj_if_eq 144 dX13_readSign_131 (by decide) (fun z => t_posK hk z (fun hk => ?_)) (fun z => t_negK hk z (fun hk => ?_))
  · refine mj_iload_n dX13_readSign_144 1 rfl ?_
    refine mj_sublv [(0, .ref 950), (3, .int l3)] [0, 3] rfl ?_
    exact B_X13_readSign_145 _ _ _ _ hk
  · refine mj_sipush (v := 256) dX13_readSign_134 (by decide) ?_
    refine mj_iload_n dX13_readSign_137 1 rfl ?_
    refine mj_imul dX13_readSign_138 ?_
    refine mj_iload_n dX13_readSign_139 2 rfl ?_
    refine mj_iadd dX13_readSign_140 ?_
    refine mj_goto 145 dX13_readSign_141 (by decide) ?_
    refine mj_sublv [(0, .ref 950), (3, .int l3)] [0, 3] rfl ?_
    exact B_X13_readSign_145 _ _ _ _ hk
noncomputable def k_X13_readSign_104 (l1 : Int32) (l2 : Int32) (l3 : Int32) (k0 : Int32) (s : t_S) : Option (t_S) :=
 if l3 = (0 : Int32) then (if k0 = (0 : Int32) then ((f_X13_fail (1 : Int32) (s.1 950 6) s).bind (fun r1 =>
 k_X13_readSign_124 l1 l2 l3 r1))
 else (k_X13_readSign_124 l1 l2 l3 s))
 else (k_X13_readSign_124 l1 l2 l3 s)
set_option maxRecDepth 4000 in
set_option maxHeartbeats 1000000 in
theorem B_X13_readSign_104 {D : va_G} {cy : Nat → ClassId} {ad : Nat → Nat} {bs : Nat} {X : State → Heap → Prop} (l1 : Int32) (l2 : Int32) (l3 : Int32) (k0 : Int32) (s : t_S) (Q : t_S → Prop) (hk : t_hk (k_X13_readSign_104 l1 l2 l3 k0 s) Q) : mj_G D cy ad bs X cX13_readSign 5 yX13_readSign.cls none yX13_readSign.name 4 0 0 1065 (t_P (fun v s' => v = none ∧ Q (s'))) 104 [(0, .ref 950), (1, .int l1), (2, .int l2), (3, .int l3)] [.int k0] (t_m s) 1065 0 0 := by
  refine mj_istore (lv2 := [(4, .int k0), (0, .ref 950), (1, .int l1), (2, .int l2), (3, .int l3)]) dX13_readSign_104 (by decide) rfl ?_
  refine mj_iload_n dX13_readSign_106 4 rfl ?_
  refine mj_if_ne 124 dX13_readSign_107 (by decide) (fun z => t_negK hk z (fun hk => ?_)) (fun z => t_posK hk z (fun hk => ?_))
  · refine mj_sublv [(0, .ref 950), (1, .int l1), (2, .int l2), (3, .int l3)] [1, 2, 3, 4] rfl ?_
    exact B_X13_readSign_124 _ _ _ _ _ hk
  · refine mj_iload dX13_readSign_110 0 rfl ?_
    refine mj_if_ne 124 dX13_readSign_112 (by decide) (fun z => t_negK hk z (fun hk => ?_)) (fun z => t_posK hk z (fun hk => ?_))
    · refine mj_sublv [(0, .ref 950), (1, .int l1), (2, .int l2), (3, .int l3)] [1, 2, 3, 4] rfl ?_
      exact B_X13_readSign_124 _ _ _ _ _ hk
    · refine mj_aload_n dX13_readSign_115 1 rfl ?_
      refine mj_iconst (v := 1) dX13_readSign_116 (by decide) ?_
      refine mj_aload_n dX13_readSign_117 1 rfl ?_
      refine t_getI dX13_readSign_118 F_X13_391 qf_950_6 ?_
      refine t_bndK hk (fun r1 er1 hk => ?_)
      refine t_callVvE dX13_readSign_121 M_X13_fail (C_X13_fail _ _ _ _ er1) ML_X13_411 IM_X13_fail SE_X13_fail qc_950 rfl (As := [.int 1, .int (s.1 950 6)]) rfl rfl (Nat.le_of_ble_eq_true rfl) (Nat.le_of_ble_eq_true rfl) (Nat.le_of_ble_eq_true rfl) (Nat.le_of_ble_eq_true rfl) ?_
      refine mj_sublv [(0, .ref 950), (1, .int l1), (2, .int l2), (3, .int l3)] [1, 2, 3, 4] rfl ?_
      exact B_X13_readSign_124 _ _ _ _ _ hk
noncomputable def k_X13_readSign_88 (l1 : Int32) (l2 : Int32) (k0 : Int32) (s : t_S) : Option (t_S) :=
 if (t_tix 6 l1) < (0 : Int32) then (k_X13_readSign_104 l1 l2 k0 0 s)
 else (k_X13_readSign_104 l1 l2 k0 1 s)
set_option maxRecDepth 4000 in
set_option maxHeartbeats 1000000 in
theorem B_X13_readSign_88 {D : va_G} {cy : Nat → ClassId} {ad : Nat → Nat} {bs : Nat} {X : State → Heap → Prop} (l1 : Int32) (l2 : Int32) (k0 : Int32) (s : t_S) (Q : t_S → Prop) (hk : t_hk (k_X13_readSign_88 l1 l2 k0 s) Q) : mj_G D cy ad bs X cX13_readSign 5 yX13_readSign.cls none yX13_readSign.name 4 0 0 1065 (t_P (fun v s' => v = none ∧ Q (s'))) 88 [(0, .ref 950), (1, .int l1), (2, .int l2)] [.int k0] (t_m s) 1065 0 0 := by
  refine mj_istore_n 3 (lv2 := [(3, .int k0), (0, .ref 950), (1, .int l1), (2, .int l2)]) dX13_readSign_88 rfl (by decide) rfl ?_
  refine mj_ldcwE dX13_readSign_89 TX_X13_431 ?_
  refine mj_iload_n dX13_readSign_92 2 rfl ?_
  refine mj_txix dX13_readSign_93 ML_X13_433 (by decide) (Nat.le_of_ble_eq_true rfl) (Nat.le_of_ble_eq_true rfl) (Nat.le_of_ble_eq_true rfl) (Nat.le_of_ble_eq_true rfl) ?_
  refine mj_if_lt 103 dX13_readSign_96 (by decide) (fun z => t_posK hk z (fun hk => ?_)) (fun z => t_negK hk z (fun hk => ?_))
  · refine mj_iconst (v := 0) dX13_readSign_103 (by decide) ?_
    refine mj_sublv [(0, .ref 950), (1, .int l1), (2, .int l2), (3, .int k0)] [1, 2, 3, 0] rfl ?_
    exact B_X13_readSign_104 _ _ _ _ _ _ hk
  · refine mj_iconst (v := 1) dX13_readSign_99 (by decide) ?_
    refine mj_goto 104 dX13_readSign_100 (by decide) ?_
    refine mj_sublv [(0, .ref 950), (1, .int l1), (2, .int l2), (3, .int k0)] [1, 2, 3, 0] rfl ?_
    exact B_X13_readSign_104 _ _ _ _ _ _ hk
noncomputable def k_X13_readSign_83 (l1 : Int32) (l2 : Int32) (s : t_S) : Option (t_S) :=
 k_X13_readSign_88 l1 l2 1 s
set_option maxRecDepth 4000 in
set_option maxHeartbeats 1000000 in
theorem B_X13_readSign_83 {D : va_G} {cy : Nat → ClassId} {ad : Nat → Nat} {bs : Nat} {X : State → Heap → Prop} (l1 : Int32) (l2 : Int32) (s : t_S) (Q : t_S → Prop) (hk : t_hk (k_X13_readSign_83 l1 l2 s) Q) : mj_G D cy ad bs X cX13_readSign 5 yX13_readSign.cls none yX13_readSign.name 4 0 0 1065 (t_P (fun v s' => v = none ∧ Q (s'))) 83 [(0, .ref 950), (1, .int l1), (2, .int l2)] [] (t_m s) 1065 0 0 := by
  refine mj_iconst (v := 1) dX13_readSign_83 (by decide) ?_
  refine mj_goto 88 dX13_readSign_84 (by decide) ?_
  exact B_X13_readSign_88 _ _ _ _ _ hk
noncomputable def k_X13_readSign_87 (l1 : Int32) (l2 : Int32) (s : t_S) : Option (t_S) :=
 k_X13_readSign_88 l1 l2 0 s
set_option maxRecDepth 4000 in
set_option maxHeartbeats 1000000 in
theorem B_X13_readSign_87 {D : va_G} {cy : Nat → ClassId} {ad : Nat → Nat} {bs : Nat} {X : State → Heap → Prop} (l1 : Int32) (l2 : Int32) (s : t_S) (Q : t_S → Prop) (hk : t_hk (k_X13_readSign_87 l1 l2 s) Q) : mj_G D cy ad bs X cX13_readSign 5 yX13_readSign.cls none yX13_readSign.name 4 0 0 1065 (t_P (fun v s' => v = none ∧ Q (s'))) 87 [(0, .ref 950), (1, .int l1), (2, .int l2)] [] (t_m s) 1065 0 0 := by
  refine mj_iconst (v := 0) dX13_readSign_87 (by decide) ?_
  exact B_X13_readSign_88 _ _ _ _ _ hk
noncomputable def k_X13_readSign_71 (l1 : Int32) (l2 : Int32) (s : t_S) : Option (t_S) :=
 if l1 = (124 : Int32) then (if l2 = (124 : Int32) then (k_X13_readSign_83 l1 l2 s)
 else (k_X13_readSign_87 l1 l2 s))
 else (k_X13_readSign_87 l1 l2 s)
set_option maxRecDepth 4000 in
set_option maxHeartbeats 1000000 in
theorem B_X13_readSign_71 {D : va_G} {cy : Nat → ClassId} {ad : Nat → Nat} {bs : Nat} {X : State → Heap → Prop} (l1 : Int32) (l2 : Int32) (s : t_S) (Q : t_S → Prop) (hk : t_hk (k_X13_readSign_71 l1 l2 s) Q) : mj_G D cy ad bs X cX13_readSign 5 yX13_readSign.cls none yX13_readSign.name 4 0 0 1065 (t_P (fun v s' => v = none ∧ Q (s'))) 71 [(0, .ref 950), (1, .int l1), (2, .int l2)] [] (t_m s) 1065 0 0 := by
  refine mj_iload_n dX13_readSign_71 1 rfl ?_
  refine mj_bipush (v := 124) dX13_readSign_72 (by decide) ?_
  refine mj_icmp_ne 87 dX13_readSign_74 (by decide) (fun z => t_negK hk z (fun hk => ?_)) (fun z => t_posK hk z (fun hk => ?_))
  · exact B_X13_readSign_87 _ _ _ _ hk
  · refine mj_iload_n dX13_readSign_77 2 rfl ?_
    refine mj_bipush (v := 124) dX13_readSign_78 (by decide) ?_
    refine mj_icmp_ne 87 dX13_readSign_80 (by decide) (fun z => t_negK hk z (fun hk => ?_)) (fun z => t_posK hk z (fun hk => ?_))
    · exact B_X13_readSign_87 _ _ _ _ hk
    · exact B_X13_readSign_83 _ _ _ _ hk
noncomputable def k_X13_readSign_59 (l1 : Int32) (l2 : Int32) (s : t_S) : Option (t_S) :=
 if l1 = (38 : Int32) then (if l2 = (38 : Int32) then (k_X13_readSign_83 l1 l2 s)
 else (k_X13_readSign_71 l1 l2 s))
 else (k_X13_readSign_71 l1 l2 s)
set_option maxRecDepth 4000 in
set_option maxHeartbeats 1000000 in
theorem B_X13_readSign_59 {D : va_G} {cy : Nat → ClassId} {ad : Nat → Nat} {bs : Nat} {X : State → Heap → Prop} (l1 : Int32) (l2 : Int32) (s : t_S) (Q : t_S → Prop) (hk : t_hk (k_X13_readSign_59 l1 l2 s) Q) : mj_G D cy ad bs X cX13_readSign 5 yX13_readSign.cls none yX13_readSign.name 4 0 0 1065 (t_P (fun v s' => v = none ∧ Q (s'))) 59 [(0, .ref 950), (1, .int l1), (2, .int l2)] [] (t_m s) 1065 0 0 := by
  refine mj_iload_n dX13_readSign_59 1 rfl ?_
  refine mj_bipush (v := 38) dX13_readSign_60 (by decide) ?_
  refine mj_icmp_ne 71 dX13_readSign_62 (by decide) (fun z => t_negK hk z (fun hk => ?_)) (fun z => t_posK hk z (fun hk => ?_))
  · exact B_X13_readSign_71 _ _ _ _ hk
  · refine mj_iload_n dX13_readSign_65 2 rfl ?_
    refine mj_bipush (v := 38) dX13_readSign_66 (by decide) ?_
    refine mj_icmp_eq 83 dX13_readSign_68 (by decide) (fun z => t_posK hk z (fun hk => ?_)) (fun z => t_negK hk z (fun hk => ?_))
    · exact B_X13_readSign_83 _ _ _ _ hk
    · exact B_X13_readSign_71 _ _ _ _ hk
noncomputable def k_X13_readSign_47 (l1 : Int32) (l2 : Int32) (s : t_S) : Option (t_S) :=
 if l1 = (46 : Int32) then (if l2 = (46 : Int32) then (k_X13_readSign_83 l1 l2 s)
 else (k_X13_readSign_59 l1 l2 s))
 else (k_X13_readSign_59 l1 l2 s)
set_option maxRecDepth 4000 in
set_option maxHeartbeats 1000000 in
theorem B_X13_readSign_47 {D : va_G} {cy : Nat → ClassId} {ad : Nat → Nat} {bs : Nat} {X : State → Heap → Prop} (l1 : Int32) (l2 : Int32) (s : t_S) (Q : t_S → Prop) (hk : t_hk (k_X13_readSign_47 l1 l2 s) Q) : mj_G D cy ad bs X cX13_readSign 5 yX13_readSign.cls none yX13_readSign.name 4 0 0 1065 (t_P (fun v s' => v = none ∧ Q (s'))) 47 [(0, .ref 950), (1, .int l1), (2, .int l2)] [] (t_m s) 1065 0 0 := by
  refine mj_iload_n dX13_readSign_47 1 rfl ?_
  refine mj_bipush (v := 46) dX13_readSign_48 (by decide) ?_
  refine mj_icmp_ne 59 dX13_readSign_50 (by decide) (fun z => t_negK hk z (fun hk => ?_)) (fun z => t_posK hk z (fun hk => ?_))
  · exact B_X13_readSign_59 _ _ _ _ hk
  · refine mj_iload_n dX13_readSign_53 2 rfl ?_
    refine mj_bipush (v := 46) dX13_readSign_54 (by decide) ?_
    refine mj_icmp_eq 83 dX13_readSign_56 (by decide) (fun z => t_posK hk z (fun hk => ?_)) (fun z => t_negK hk z (fun hk => ?_))
    · exact B_X13_readSign_83 _ _ _ _ hk
    · exact B_X13_readSign_59 _ _ _ _ hk
noncomputable def f_X13_readSign (x1 : Int32) (s : t_S) : Option (t_S) :=
 (f_X13_peek ((s.1 950 4) + (1 : Int32)) s).bind (fun r1 =>
 if r1 = (61 : Int32) then (if x1 = (58 : Int32) then (k_X13_readSign_83 x1 r1 s)
 else (if x1 = (61 : Int32) then (k_X13_readSign_83 x1 r1 s)
 else (if x1 = (33 : Int32) then (k_X13_readSign_83 x1 r1 s)
 else (if x1 = (60 : Int32) then (k_X13_readSign_83 x1 r1 s)
 else (if x1 = (62 : Int32) then (k_X13_readSign_83 x1 r1 s)
 else (k_X13_readSign_47 x1 r1 s))))))
 else (k_X13_readSign_47 x1 r1 s))
set_option maxRecDepth 4000 in
set_option maxHeartbeats 1000000 in
theorem C_X13_readSign (x1 : Int32) (s : t_S) (r : t_S) (hr : f_X13_readSign x1 s = some r) : t_C yX13_readSign cX13_readSign 5 none 4 [.ref 950, .int x1] s (fun v s' => v = none ∧ s' = r) := by
  refine t_C.imp (P := fun v s' => v = none ∧ (fun q => q = r) (s')) (t_C.of (by decide +kernel) (Nat.le_of_ble_eq_true rfl) ?_) (fun v s' hp => hp)
  intro D cy ad bs X
  have hk : t_hk (f_X13_readSign x1 s) (fun q => q = r) := ⟨r, hr, rfl⟩
  show mj_G D cy ad bs X cX13_readSign 5 yX13_readSign.cls none yX13_readSign.name 4 0 0 1065 (t_P (fun v s' => v = none ∧ (fun q => q = r) (s'))) 0 [(0, .ref 950), (1, .int x1)] [] (t_m s) 1065 0 0
  refine mj_aload_n dX13_readSign_0 0 rfl ?_
  refine mj_aload_n dX13_readSign_1 0 rfl ?_
  refine t_getI dX13_readSign_2 F_X13_378 qf_950_4 ?_
  refine mj_iconst (v := 1) dX13_readSign_5 (by decide) ?_
  refine mj_iadd dX13_readSign_6 ?_
  refine t_bndK hk (fun r1 er1 hk => ?_)
  refine t_callViP dX13_readSign_7 M_X13_peek (C_X13_peek _ _ _ er1) ML_X13_381 IM_X13_peek SE_X13_peek qc_950 rfl (As := [.int ((s.1 950 4) + (1 : Int32))]) rfl rfl (Nat.le_of_ble_eq_true rfl) (Nat.le_of_ble_eq_true rfl) (Nat.le_of_ble_eq_true rfl) (Nat.le_of_ble_eq_true rfl) ?_
  refine mj_istore_n 2 (lv2 := [(2, .int r1), (0, .ref 950), (1, .int x1)]) dX13_readSign_10 rfl (by decide) rfl ?_
  refine mj_iload_n dX13_readSign_11 0 rfl ?_
  refine mj_bipush (v := 61) dX13_readSign_12 (by decide) ?_
  refine mj_icmp_ne 47 dX13_readSign_14 (by decide) (fun z => t_negK hk z (fun hk => ?_)) (fun z => t_posK hk z (fun hk => ?_))
  · refine mj_sublv [(0, .ref 950), (1, .int x1), (2, .int r1)] [1, 2, 0] rfl ?_
    exact B_X13_readSign_47 _ _ _ _ hk
  · refine mj_iload_n dX13_readSign_17 2 rfl ?_
    refine mj_bipush (v := 58) dX13_readSign_18 (by decide) ?_
    refine mj_icmp_eq 83 dX13_readSign_20 (by decide) (fun z => t_posK hk z (fun hk => ?_)) (fun z => t_negK hk z (fun hk => ?_))
    · refine mj_sublv [(0, .ref 950), (1, .int x1), (2, .int r1)] [1, 2, 0] rfl ?_
      exact B_X13_readSign_83 _ _ _ _ hk
    · refine mj_iload_n dX13_readSign_23 2 rfl ?_
      refine mj_bipush (v := 61) dX13_readSign_24 (by decide) ?_
      refine mj_icmp_eq 83 dX13_readSign_26 (by decide) (fun z => t_posK hk z (fun hk => ?_)) (fun z => t_negK hk z (fun hk => ?_))
      · refine mj_sublv [(0, .ref 950), (1, .int x1), (2, .int r1)] [1, 2, 0] rfl ?_
        exact B_X13_readSign_83 _ _ _ _ hk
      · refine mj_iload_n dX13_readSign_29 2 rfl ?_
        refine mj_bipush (v := 33) dX13_readSign_30 (by decide) ?_
        refine mj_icmp_eq 83 dX13_readSign_32 (by decide) (fun z => t_posK hk z (fun hk => ?_)) (fun z => t_negK hk z (fun hk => ?_))
        · refine mj_sublv [(0, .ref 950), (1, .int x1), (2, .int r1)] [1, 2, 0] rfl ?_
          exact B_X13_readSign_83 _ _ _ _ hk
        · refine mj_iload_n dX13_readSign_35 2 rfl ?_
          refine mj_bipush (v := 60) dX13_readSign_36 (by decide) ?_
          refine mj_icmp_eq 83 dX13_readSign_38 (by decide) (fun z => t_posK hk z (fun hk => ?_)) (fun z => t_negK hk z (fun hk => ?_))
          · refine mj_sublv [(0, .ref 950), (1, .int x1), (2, .int r1)] [1, 2, 0] rfl ?_
            exact B_X13_readSign_83 _ _ _ _ hk
          · refine mj_iload_n dX13_readSign_41 2 rfl ?_
            refine mj_bipush (v := 62) dX13_readSign_42 (by decide) ?_
            refine mj_icmp_eq 83 dX13_readSign_44 (by decide) (fun z => t_posK hk z (fun hk => ?_)) (fun z => t_negK hk z (fun hk => ?_))
            · refine mj_sublv [(0, .ref 950), (1, .int x1), (2, .int r1)] [1, 2, 0] rfl ?_
              exact B_X13_readSign_83 _ _ _ _ hk
            · refine mj_sublv [(0, .ref 950), (1, .int x1), (2, .int r1)] [1, 2, 0] rfl ?_
              exact B_X13_readSign_47 _ _ _ _ hk

theorem dX13_reserved_0 : decode cX13_reserved 0 = .ok (.iconst 0, 1) := by decide +kernel
theorem dX13_reserved_1 : decode cX13_reserved 1 = .ok (.istore_n 1, 1) := by decide +kernel
theorem dX13_reserved_100 : decode cX13_reserved 100 = .ok (.iconst 1, 1) := by decide +kernel
theorem dX13_reserved_101 : decode cX13_reserved 101 = .ok (.iadd, 1) := by decide +kernel
theorem dX13_reserved_102 : decode cX13_reserved 102 = .ok (.istore_n 1, 1) := by decide +kernel
theorem dX13_reserved_103 : decode cX13_reserved 103 = .ok (.iinc 2 1, 3) := by decide +kernel
theorem dX13_reserved_106 : decode cX13_reserved 106 = .ok (.goto (-102), 3) := by decide +kernel
theorem dX13_reserved_109 : decode cX13_reserved 109 = .ok (.iconst (-1), 1) := by decide +kernel
theorem dX13_reserved_11 : decode cX13_reserved 11 = .ok (.if_icmp .ge 98, 3) := by decide +kernel
theorem dX13_reserved_110 : decode cX13_reserved 110 = .ok (.ireturn, 1) := by decide +kernel
theorem dX13_reserved_14 : decode cX13_reserved 14 = .ok (.iconst 0, 1) := by decide +kernel
theorem dX13_reserved_15 : decode cX13_reserved 15 = .ok (.istore_n 3, 1) := by decide +kernel
theorem dX13_reserved_16 : decode cX13_reserved 16 = .ok (.iconst 1, 1) := by decide +kernel
theorem dX13_reserved_17 : decode cX13_reserved 17 = .ok (.istore 4, 2) := by decide +kernel
theorem dX13_reserved_19 : decode cX13_reserved 19 = .ok (.ldc_w 441, 3) := by decide +kernel
theorem dX13_reserved_2 : decode cX13_reserved 2 = .ok (.iconst 0, 1) := by decide +kernel
theorem dX13_reserved_22 : decode cX13_reserved 22 = .ok (.iload_n 1, 1) := by decide +kernel
theorem dX13_reserved_23 : decode cX13_reserved 23 = .ok (.iload_n 3, 1) := by decide +kernel
theorem dX13_reserved_24 : decode cX13_reserved 24 = .ok (.iadd, 1) := by decide +kernel
theorem dX13_reserved_25 : decode cX13_reserved 25 = .ok (.invokevirtual 445, 3) := by decide +kernel
theorem dX13_reserved_28 : decode cX13_reserved 28 = .ok (.bipush 32, 2) := by decide +kernel
theorem dX13_reserved_3 : decode cX13_reserved 3 = .ok (.istore_n 2, 1) := by decide +kernel
theorem dX13_reserved_30 : decode cX13_reserved 30 = .ok (.if_icmp .eq 52, 3) := by decide +kernel
theorem dX13_reserved_33 : decode cX13_reserved 33 = .ok (.iload 4, 2) := by decide +kernel
theorem dX13_reserved_35 : decode cX13_reserved 35 = .ok (.ifCond .eq 38, 3) := by decide +kernel
theorem dX13_reserved_38 : decode cX13_reserved 38 = .ok (.iload_n 3, 1) := by decide +kernel
theorem dX13_reserved_39 : decode cX13_reserved 39 = .ok (.aload_n 0, 1) := by decide +kernel
theorem dX13_reserved_4 : decode cX13_reserved 4 = .ok (.iload_n 1, 1) := by decide +kernel
theorem dX13_reserved_40 : decode cX13_reserved 40 = .ok (.getfield 394, 3) := by decide +kernel
theorem dX13_reserved_43 : decode cX13_reserved 43 = .ok (.if_icmp .ge 30, 3) := by decide +kernel
theorem dX13_reserved_46 : decode cX13_reserved 46 = .ok (.aload_n 0, 1) := by decide +kernel
theorem dX13_reserved_47 : decode cX13_reserved 47 = .ok (.getfield 7, 3) := by decide +kernel
theorem dX13_reserved_5 : decode cX13_reserved 5 = .ok (.ldc_w 441, 3) := by decide +kernel
theorem dX13_reserved_50 : decode cX13_reserved 50 = .ok (.aload_n 0, 1) := by decide +kernel
theorem dX13_reserved_51 : decode cX13_reserved 51 = .ok (.getfield 391, 3) := by decide +kernel
theorem dX13_reserved_54 : decode cX13_reserved 54 = .ok (.iload_n 3, 1) := by decide +kernel
theorem dX13_reserved_55 : decode cX13_reserved 55 = .ok (.iadd, 1) := by decide +kernel
theorem dX13_reserved_56 : decode cX13_reserved 56 = .ok (.iaload, 1) := by decide +kernel
theorem dX13_reserved_57 : decode cX13_reserved 57 = .ok (.ldc_w 441, 3) := by decide +kernel
theorem dX13_reserved_60 : decode cX13_reserved 60 = .ok (.iload_n 1, 1) := by decide +kernel
theorem dX13_reserved_61 : decode cX13_reserved 61 = .ok (.iload_n 3, 1) := by decide +kernel
theorem dX13_reserved_62 : decode cX13_reserved 62 = .ok (.iadd, 1) := by decide +kernel
theorem dX13_reserved_63 : decode cX13_reserved 63 = .ok (.invokevirtual 445, 3) := by decide +kernel
theorem dX13_reserved_66 : decode cX13_reserved 66 = .ok (.if_icmp .ne 7, 3) := by decide +kernel
theorem dX13_reserved_69 : decode cX13_reserved 69 = .ok (.iconst 1, 1) := by decide +kernel
theorem dX13_reserved_70 : decode cX13_reserved 70 = .ok (.goto 4, 3) := by decide +kernel
theorem dX13_reserved_73 : decode cX13_reserved 73 = .ok (.iconst 0, 1) := by decide +kernel
theorem dX13_reserved_74 : decode cX13_reserved 74 = .ok (.istore 4, 2) := by decide +kernel
theorem dX13_reserved_76 : decode cX13_reserved 76 = .ok (.iinc 3 1, 3) := by decide +kernel
theorem dX13_reserved_79 : decode cX13_reserved 79 = .ok (.goto (-60), 3) := by decide +kernel
theorem dX13_reserved_8 : decode cX13_reserved 8 = .ok (.invokevirtual 443, 3) := by decide +kernel
theorem dX13_reserved_82 : decode cX13_reserved 82 = .ok (.iload 4, 2) := by decide +kernel
theorem dX13_reserved_84 : decode cX13_reserved 84 = .ok (.ifCond .eq 13, 3) := by decide +kernel
theorem dX13_reserved_87 : decode cX13_reserved 87 = .ok (.iload_n 3, 1) := by decide +kernel
theorem dX13_reserved_88 : decode cX13_reserved 88 = .ok (.aload_n 0, 1) := by decide +kernel
theorem dX13_reserved_89 : decode cX13_reserved 89 = .ok (.getfield 394, 3) := by decide +kernel
theorem dX13_reserved_92 : decode cX13_reserved 92 = .ok (.if_icmp .ne 5, 3) := by decide +kernel
theorem dX13_reserved_95 : decode cX13_reserved 95 = .ok (.iload_n 2, 1) := by decide +kernel
theorem dX13_reserved_96 : decode cX13_reserved 96 = .ok (.ireturn, 1) := by decide +kernel
theorem dX13_reserved_97 : decode cX13_reserved 97 = .ok (.iload_n 1, 1) := by decide +kernel
theorem dX13_reserved_98 : decode cX13_reserved 98 = .ok (.iload_n 3, 1) := by decide +kernel
theorem dX13_reserved_99 : decode cX13_reserved 99 = .ok (.iadd, 1) := by decide +kernel
noncomputable def k_X13_reserved_74 (l1 : Int32) (l2 : Int32) (l3 : Int32) (k0 : Int32) (s : t_S) : Option ((Int32 × Int32 × Int32 × Int32) ⊕ ((Int32 × Int32) ⊕ (Int32))) :=
 some (.inl (l1, l2, (l3 + 1), k0))
set_option maxRecDepth 4000 in
set_option maxHeartbeats 1000000 in
theorem B_X13_reserved_74 {D : va_G} {cy : Nat → ClassId} {ad : Nat → Nat} {bs : Nat} {X : State → Heap → Prop} (l1 : Int32) (l2 : Int32) (l3 : Int32) (k0 : Int32) (s : t_S) (Q : (Int32 × Int32 × Int32 × Int32) ⊕ ((Int32 × Int32) ⊕ (Int32)) → Prop) (Hb4 : ∀ (y0 : Int32) (y1 : Int32), Q (.inr (.inl (y0, y1))) → mj_G D cy ad bs X cX13_reserved 5 yX13_reserved.cls (some .int) yX13_reserved.name 4 0 0 1065 (t_P (fun v s' => s' = s ∧ ∃ x, v = some (.int x) ∧ Q (.inr (.inr (x))))) 4 [(0, .ref 950), (1, .int (y0)), (2, .int (y1))] [] (t_m s) 1065 0 0) (Hb19 : ∀ (y0 : Int32) (y1 : Int32) (y2 : Int32) (y3 : Int32), Q (.inl (y0, y1, y2, y3)) → mj_G D cy ad bs X cX13_reserved 5 yX13_reserved.cls (some .int) yX13_reserved.name 4 0 0 1065 (t_P (fun v s' => s' = s ∧ ∃ x, v = some (.int x) ∧ Q (.inr (.inr (x))))) 19 [(0, .ref 950), (1, .int (y0)), (2, .int (y1)), (3, .int (y2)), (4, .int (y3))] [] (t_m s) 1065 0 0) (hk : t_hk (k_X13_reserved_74 l1 l2 l3 k0 s) Q) : mj_G D cy ad bs X cX13_reserved 5 yX13_reserved.cls (some .int) yX13_reserved.name 4 0 0 1065 (t_P (fun v s' => s' = s ∧ ∃ x, v = some (.int x) ∧ Q (.inr (.inr (x))))) 74 [(0, .ref 950), (1, .int l1), (2, .int l2), (3, .int l3)] [.int k0] (t_m s) 1065 0 0 := by
  refine mj_istore (lv2 := [(4, .int k0), (0, .ref 950), (1, .int l1), (2, .int l2), (3, .int l3)]) dX13_reserved_74 (by decide) rfl ?_
  refine mj_iinc (k := 4) (v := (l3 + 1)) (lv2 := [(3, .int (l3 + 1)), (4, .int k0), (0, .ref 950), (1, .int l1), (2, .int l2)]) dX13_reserved_76 rfl rfl (by decide) rfl ?_
  refine mj_goto 19 dX13_reserved_79 (by decide) ?_
  refine mj_sublv [(0, .ref 950), (1, .int l1), (2, .int l2), (3, .int (l3 + 1)), (4, .int k0)] [2, 3, 4, 0, 1] rfl ?_
  exact t_somK hk (fun hf => Hb19 l1 l2 (l3 + 1) k0 hf)
noncomputable def k_X13_reserved_73 (l1 : Int32) (l2 : Int32) (l3 : Int32) (s : t_S) : Option ((Int32 × Int32 × Int32 × Int32) ⊕ ((Int32 × Int32) ⊕ (Int32))) :=
 k_X13_reserved_74 l1 l2 l3 0 s
set_option maxRecDepth 4000 in
set_option maxHeartbeats 1000000 in
theorem B_X13_reserved_73 {D : va_G} {cy : Nat → ClassId} {ad : Nat → Nat} {bs : Nat} {X : State → Heap → Prop} (l1 : Int32) (l2 : Int32) (l3 : Int32) (s : t_S) (Q : (Int32 × Int32 × Int32 × Int32) ⊕ ((Int32 × Int32) ⊕ (Int32)) → Prop) (Hb4 : ∀ (y0 : Int32) (y1 : Int32), Q (.inr (.inl (y0, y1))) → mj_G D cy ad bs X cX13_reserved 5 yX13_reserved.cls (some .int) yX13_reserved.name 4 0 0 1065 (t_P (fun v s' => s' = s ∧ ∃ x, v = some (.int x) ∧ Q (.inr (.inr (x))))) 4 [(0, .ref 950), (1, .int (y0)), (2, .int (y1))] [] (t_m s) 1065 0 0) (Hb19 : ∀ (y0 : Int32) (y1 : Int32) (y2 : Int32) (y3 : Int32), Q (.inl (y0, y1, y2, y3)) → mj_G D cy ad bs X cX13_reserved 5 yX13_reserved.cls (some .int) yX13_reserved.name 4 0 0 1065 (t_P (fun v s' => s' = s ∧ ∃ x, v = some (.int x) ∧ Q (.inr (.inr (x))))) 19 [(0, .ref 950), (1, .int (y0)), (2, .int (y1)), (3, .int (y2)), (4, .int (y3))] [] (t_m s) 1065 0 0) (hk : t_hk (k_X13_reserved_73 l1 l2 l3 s) Q) : mj_G D cy ad bs X cX13_reserved 5 yX13_reserved.cls (some .int) yX13_reserved.name 4 0 0 1065 (t_P (fun v s' => s' = s ∧ ∃ x, v = some (.int x) ∧ Q (.inr (.inr (x))))) 73 [(0, .ref 950), (1, .int l1), (2, .int l2), (3, .int l3)] [] (t_m s) 1065 0 0 := by
  refine mj_iconst (v := 0) dX13_reserved_73 (by decide) ?_
  exact B_X13_reserved_74 _ _ _ _ _ _ (fun y0 y1 hx => Hb4 y0 y1 hx) (fun y0 y1 y2 y3 hx => Hb19 y0 y1 y2 y3 hx) hk
noncomputable def k_X13_reserved_97 (l1 : Int32) (l2 : Int32) (l3 : Int32) (s : t_S) : Option ((Int32 × Int32) ⊕ (Int32)) :=
 some (.inl (((l1 + l3) + (1 : Int32)), (l2 + 1)))
set_option maxRecDepth 4000 in
set_option maxHeartbeats 1000000 in
theorem B_X13_reserved_97 {D : va_G} {cy : Nat → ClassId} {ad : Nat → Nat} {bs : Nat} {X : State → Heap → Prop} (l1 : Int32) (l2 : Int32) (l3 : Int32) (s : t_S) (Q : (Int32 × Int32) ⊕ (Int32) → Prop) (Hb4 : ∀ (y0 : Int32) (y1 : Int32), Q (.inl (y0, y1)) → mj_G D cy ad bs X cX13_reserved 5 yX13_reserved.cls (some .int) yX13_reserved.name 4 0 0 1065 (t_P (fun v s' => s' = s ∧ ∃ x, v = some (.int x) ∧ Q (.inr (x)))) 4 [(0, .ref 950), (1, .int (y0)), (2, .int (y1))] [] (t_m s) 1065 0 0) (hk : t_hk (k_X13_reserved_97 l1 l2 l3 s) Q) : mj_G D cy ad bs X cX13_reserved 5 yX13_reserved.cls (some .int) yX13_reserved.name 4 0 0 1065 (t_P (fun v s' => s' = s ∧ ∃ x, v = some (.int x) ∧ Q (.inr (x)))) 97 [(0, .ref 950), (1, .int l1), (2, .int l2), (3, .int l3)] [] (t_m s) 1065 0 0 := by
  refine mj_iload_n dX13_reserved_97 1 rfl ?_
  refine mj_iload_n dX13_reserved_98 3 rfl ?_
  refine mj_iadd dX13_reserved_99 ?_
  refine mj_iconst (v := 1) dX13_reserved_100 (by decide) ?_
  refine mj_iadd dX13_reserved_101 ?_
  refine mj_istore_n 1 (lv2 := [(1, .int ((l1 + l3) + (1 : Int32))), (0, .ref 950), (2, .int l2), (3, .int l3)]) dX13_reserved_102 rfl (by decide) rfl ?_
  refine mj_iinc (k := 2) (v := (l2 + 1)) (lv2 := [(2, .int (l2 + 1)), (1, .int ((l1 + l3) + (1 : Int32))), (0, .ref 950), (3, .int l3)]) dX13_reserved_103 rfl rfl (by decide) rfl ?_
  refine mj_goto 4 dX13_reserved_106 (by decide) ?_
  refine mj_sublv [(0, .ref 950), (1, .int ((l1 + l3) + (1 : Int32))), (2, .int (l2 + 1))] [2, 1, 0] rfl ?_
  exact t_somK hk (fun hf => Hb4 ((l1 + l3) + (1 : Int32)) (l2 + 1) hf)
noncomputable def k_X13_reserved_19 (l1 : Int32) (l2 : Int32) (l3 : Int32) (l4 : Int32) (s : t_S) : Option ((Int32 × Int32 × Int32 × Int32) ⊕ ((Int32 × Int32) ⊕ (Int32))) :=
 if t_ix (l1 + l3) (mj_len.getD 5 0) = true then
  if (mj_ch 5 (l1 + l3).toNatClampNeg) = (32 : Int32) then ((if l4 = (0 : Int32) then (k_X13_reserved_97 l1 l2 l3 s)
 else (if l3 = (s.1 950 7) then ((some (l2)).map Sum.inr)
 else (k_X13_reserved_97 l1 l2 l3 s))).map Sum.inr)
 else (if l4 = (0 : Int32) then (k_X13_reserved_73 l1 l2 l3 s)
 else (if (s.1 950 7) ≤ l3 then (k_X13_reserved_73 l1 l2 l3 s)
 else (if t_ix ((s.1 950 6) + l3) 12000 = true then
  if (s.1 951 (((s.1 950 6) + l3).toNatClampNeg)) = (mj_ch 5 (l1 + l3).toNatClampNeg) then (k_X13_reserved_74 l1 l2 l3 1 s)
 else (k_X13_reserved_73 l1 l2 l3 s)
else none)))
else none
set_option maxRecDepth 4000 in
set_option maxHeartbeats 1000000 in
theorem B_X13_reserved_19 {D : va_G} {cy : Nat → ClassId} {ad : Nat → Nat} {bs : Nat} {X : State → Heap → Prop} (l1 : Int32) (l2 : Int32) (l3 : Int32) (l4 : Int32) (s : t_S) (Q : (Int32 × Int32 × Int32 × Int32) ⊕ ((Int32 × Int32) ⊕ (Int32)) → Prop) (Hb4 : ∀ (y0 : Int32) (y1 : Int32), Q (.inr (.inl (y0, y1))) → mj_G D cy ad bs X cX13_reserved 5 yX13_reserved.cls (some .int) yX13_reserved.name 4 0 0 1065 (t_P (fun v s' => s' = s ∧ ∃ x, v = some (.int x) ∧ Q (.inr (.inr (x))))) 4 [(0, .ref 950), (1, .int (y0)), (2, .int (y1))] [] (t_m s) 1065 0 0) (Hb19 : ∀ (y0 : Int32) (y1 : Int32) (y2 : Int32) (y3 : Int32), Q (.inl (y0, y1, y2, y3)) → mj_G D cy ad bs X cX13_reserved 5 yX13_reserved.cls (some .int) yX13_reserved.name 4 0 0 1065 (t_P (fun v s' => s' = s ∧ ∃ x, v = some (.int x) ∧ Q (.inr (.inr (x))))) 19 [(0, .ref 950), (1, .int (y0)), (2, .int (y1)), (3, .int (y2)), (4, .int (y3))] [] (t_m s) 1065 0 0) (hk : t_hk (k_X13_reserved_19 l1 l2 l3 l4 s) Q) : mj_G D cy ad bs X cX13_reserved 5 yX13_reserved.cls (some .int) yX13_reserved.name 4 0 0 1065 (t_P (fun v s' => s' = s ∧ ∃ x, v = some (.int x) ∧ Q (.inr (.inr (x))))) 19 [(0, .ref 950), (1, .int l1), (2, .int l2), (3, .int l3), (4, .int l4)] [] (t_m s) 1065 0 0 := by
  refine mj_ldcwE dX13_reserved_19 TX_X13_441 ?_
  refine mj_iload_n dX13_reserved_22 1 rfl ?_
  refine mj_iload_n dX13_reserved_23 3 rfl ?_
  refine mj_iadd dX13_reserved_24 ?_
  refine t_chkK hk (fun c0 hk => ?_)
  refine mj_txch dX13_reserved_25 ML_X13_445 (by decide) c0 (Nat.le_of_ble_eq_true rfl) (Nat.le_of_ble_eq_true rfl) (Nat.le_of_ble_eq_true rfl) (Nat.le_of_ble_eq_true rfl) ?_
  refine mj_bipush (v := 32) dX13_reserved_28 (by decide) ?_
  refine mj_icmp_eq 82 dX13_reserved_30 (by decide) (fun z => t_posK hk z (fun hk => ?_)) (fun z => t_negK hk z (fun hk => ?_))
  · refine t_mapK hk (fun hk => ?_)
    refine mj_iload dX13_reserved_82 4 rfl ?_
    refine mj_if_eq 97 dX13_reserved_84 (by decide) (fun z => t_posK hk z (fun hk => ?_)) (fun z => t_negK hk z (fun hk => ?_))
    · refine mj_sublv [(0, .ref 950), (1, .int l1), (2, .int l2), (3, .int l3)] [0, 1, 2, 3] rfl ?_
      exact B_X13_reserved_97 _ _ _ _ _ (fun y0 y1 hx => Hb4 y0 y1 hx) hk
    · refine mj_iload_n dX13_reserved_87 3 rfl ?_
      refine mj_aload_n dX13_reserved_88 0 rfl ?_
      refine t_getI dX13_reserved_89 F_X13_394 qf_950_7 ?_
      refine mj_icmp_ne 97 dX13_reserved_92 (by decide) (fun z => t_negK hk z (fun hk => ?_)) (fun z => t_posK hk z (fun hk => ?_))
      · refine mj_sublv [(0, .ref 950), (1, .int l1), (2, .int l2), (3, .int l3)] [0, 1, 2, 3] rfl ?_
        exact B_X13_reserved_97 _ _ _ _ _ (fun y0 y1 hx => Hb4 y0 y1 hx) hk
      · refine t_mapK hk (fun hk => ?_)
        refine mj_iload_n dX13_reserved_95 2 rfl ?_
        exact t_somK hk (fun hf => t_iret dX13_reserved_96 rfl rfl ⟨rfl, _, rfl, hf⟩ (Nat.le_of_ble_eq_true rfl) (Nat.le_of_ble_eq_true rfl))
  · refine mj_iload dX13_reserved_33 4 rfl ?_
    refine mj_if_eq 73 dX13_reserved_35 (by decide) (fun z => t_posK hk z (fun hk => ?_)) (fun z => t_negK hk z (fun hk => ?_))
    · refine mj_sublv [(0, .ref 950), (1, .int l1), (2, .int l2), (3, .int l3)] [0, 1, 2, 3] rfl ?_
      exact B_X13_reserved_73 _ _ _ _ _ (fun y0 y1 hx => Hb4 y0 y1 hx) (fun y0 y1 y2 y3 hx => Hb19 y0 y1 y2 y3 hx) hk
    · refine mj_iload_n dX13_reserved_38 3 rfl ?_
      refine mj_aload_n dX13_reserved_39 0 rfl ?_
      refine t_getI dX13_reserved_40 F_X13_394 qf_950_7 ?_
      refine mj_icmp_ge 73 dX13_reserved_43 (by decide) (fun z => t_posK hk z (fun hk => ?_)) (fun z => t_negK hk z (fun hk => ?_))
      · refine mj_sublv [(0, .ref 950), (1, .int l1), (2, .int l2), (3, .int l3)] [0, 1, 2, 3] rfl ?_
        exact B_X13_reserved_73 _ _ _ _ _ (fun y0 y1 hx => Hb4 y0 y1 hx) (fun y0 y1 y2 y3 hx => Hb19 y0 y1 y2 y3 hx) hk
      · refine mj_aload_n dX13_reserved_46 0 rfl ?_
        refine t_getR 951 dX13_reserved_47 F_X13_7 qr_950_0 ?_
        refine mj_aload_n dX13_reserved_50 0 rfl ?_
        refine t_getI dX13_reserved_51 F_X13_391 qf_950_6 ?_
        refine mj_iload_n dX13_reserved_54 3 rfl ?_
        refine mj_iadd dX13_reserved_55 ?_
        refine t_chkK hk (fun c1 hk => ?_)
        refine t_iald dX13_reserved_56 qa_951 (t_ixv c1) ?_
        refine mj_ldcwE dX13_reserved_57 TX_X13_441 ?_
        refine mj_iload_n dX13_reserved_60 1 rfl ?_
        refine mj_iload_n dX13_reserved_61 3 rfl ?_
        refine mj_iadd dX13_reserved_62 ?_
        refine mj_txch dX13_reserved_63 ML_X13_445 (by decide) c0 (Nat.le_of_ble_eq_true rfl) (Nat.le_of_ble_eq_true rfl) (Nat.le_of_ble_eq_true rfl) (Nat.le_of_ble_eq_true rfl) ?_
        refine mj_icmp_ne 73 dX13_reserved_66 (by decide) (fun z => t_negK hk z (fun hk => ?_)) (fun z => t_posK hk z (fun hk => ?_))
        · refine mj_sublv [(0, .ref 950), (1, .int l1), (2, .int l2), (3, .int l3)] [0, 1, 2, 3] rfl ?_
          exact B_X13_reserved_73 _ _ _ _ _ (fun y0 y1 hx => Hb4 y0 y1 hx) (fun y0 y1 y2 y3 hx => Hb19 y0 y1 y2 y3 hx) hk
        · refine mj_iconst (v := 1) dX13_reserved_69 (by decide) ?_
          refine mj_goto 74 dX13_reserved_70 (by decide) ?_
          refine mj_sublv [(0, .ref 950), (1, .int l1), (2, .int l2), (3, .int l3)] [0, 1, 2, 3] rfl ?_
          exact B_X13_reserved_74 _ _ _ _ _ _ (fun y0 y1 hx => Hb4 y0 y1 hx) (fun y0 y1 y2 y3 hx => Hb19 y0 y1 y2 y3 hx) hk
noncomputable def b_X13_reserved_19 (s : t_S) (x : Int32 × Int32 × Int32 × Int32) : Option ((Int32 × Int32 × Int32 × Int32) ⊕ ((Int32 × Int32) ⊕ (Int32))) := k_X13_reserved_19 x.1 x.2.1 x.2.2.1 x.2.2.2 s
set_option maxRecDepth 4000 in
set_option maxHeartbeats 1000000 in
theorem LH_X13_reserved_19 {D : va_G} {cy : Nat → ClassId} {ad : Nat → Nat} {bs : Nat} {X : State → Heap → Prop} (s : t_S) : ∀ (n : Nat) (y0 : Int32) (y1 : Int32) (y2 : Int32) (y3 : Int32) (Q : (Int32 × Int32) ⊕ (Int32) → Prop) (Hb4 : ∀ (y0 : Int32) (y1 : Int32), Q (.inl (y0, y1)) → mj_G D cy ad bs X cX13_reserved 5 yX13_reserved.cls (some .int) yX13_reserved.name 4 0 0 1065 (t_P (fun v s' => s' = s ∧ ∃ x, v = some (.int x) ∧ Q (.inr (x)))) 4 [(0, .ref 950), (1, .int (y0)), (2, .int (y1))] [] (t_m s) 1065 0 0) (hk : t_hk (t_loop (b_X13_reserved_19 s) n (y0, y1, y2, y3)) Q), mj_G D cy ad bs X cX13_reserved 5 yX13_reserved.cls (some .int) yX13_reserved.name 4 0 0 1065 (t_P (fun v s' => s' = s ∧ ∃ x, v = some (.int x) ∧ Q (.inr (x)))) 19 [(0, .ref 950), (1, .int (y0)), (2, .int (y1)), (3, .int (y2)), (4, .int (y3))] [] (t_m s) 1065 0 0 := by
  intro n
  induction n with
  | zero => intro y0 y1 y2 y3 Q Hb4 hk; obtain ⟨r, hr, _⟩ := hk; cases hr
  | succ n ih =>
    intro y0 y1 y2 y3 Q Hb4 hk
    exact B_X13_reserved_19 y0 y1 y2 y3 s (fun y => t_lq (b_X13_reserved_19 s) n Q y) (fun y0' y1' hy => Hb4 y0' y1' hy) (fun y0' y1' y2' y3' hy => ih y0' y1' y2' y3' Q Hb4 hy) (t_lp hk)
noncomputable def k_X13_reserved_4 (l1 : Int32) (l2 : Int32) (s : t_S) : Option ((Int32 × Int32) ⊕ (Int32)) :=
 if (nI (mj_len.getD 5 0)) ≤ l1 then ((some (-1 : Int32)).map Sum.inr)
 else (t_loop (b_X13_reserved_19 s) t_N (l1, l2, 0, 1))
set_option maxRecDepth 4000 in
set_option maxHeartbeats 1000000 in
theorem B_X13_reserved_4 {D : va_G} {cy : Nat → ClassId} {ad : Nat → Nat} {bs : Nat} {X : State → Heap → Prop} (l1 : Int32) (l2 : Int32) (s : t_S) (Q : (Int32 × Int32) ⊕ (Int32) → Prop) (Hb4 : ∀ (y0 : Int32) (y1 : Int32), Q (.inl (y0, y1)) → mj_G D cy ad bs X cX13_reserved 5 yX13_reserved.cls (some .int) yX13_reserved.name 4 0 0 1065 (t_P (fun v s' => s' = s ∧ ∃ x, v = some (.int x) ∧ Q (.inr (x)))) 4 [(0, .ref 950), (1, .int (y0)), (2, .int (y1))] [] (t_m s) 1065 0 0) (hk : t_hk (k_X13_reserved_4 l1 l2 s) Q) : mj_G D cy ad bs X cX13_reserved 5 yX13_reserved.cls (some .int) yX13_reserved.name 4 0 0 1065 (t_P (fun v s' => s' = s ∧ ∃ x, v = some (.int x) ∧ Q (.inr (x)))) 4 [(0, .ref 950), (1, .int l1), (2, .int l2)] [] (t_m s) 1065 0 0 := by
  refine mj_iload_n dX13_reserved_4 1 rfl ?_
  refine mj_ldcwE dX13_reserved_5 TX_X13_441 ?_
  refine mj_txlen dX13_reserved_8 ML_X13_443 (by decide) (Nat.le_of_ble_eq_true rfl) (Nat.le_of_ble_eq_true rfl) (Nat.le_of_ble_eq_true rfl) (Nat.le_of_ble_eq_true rfl) ?_
  refine mj_icmp_ge 109 dX13_reserved_11 (by decide) (fun z => t_posK hk z (fun hk => ?_)) (fun z => t_negK hk z (fun hk => ?_))
  · refine t_mapK hk (fun hk => ?_)
    refine mj_iconst (v := (-1)) dX13_reserved_109 (by decide) ?_
    exact t_somK hk (fun hf => t_iret dX13_reserved_110 rfl rfl ⟨rfl, _, rfl, hf⟩ (Nat.le_of_ble_eq_true rfl) (Nat.le_of_ble_eq_true rfl))
  · refine mj_iconst (v := 0) dX13_reserved_14 (by decide) ?_
    refine mj_istore_n 3 (lv2 := [(3, .int 0), (0, .ref 950), (1, .int l1), (2, .int l2)]) dX13_reserved_15 rfl (by decide) rfl ?_
    refine mj_iconst (v := 1) dX13_reserved_16 (by decide) ?_
    refine mj_istore (lv2 := [(4, .int 1), (3, .int 0), (0, .ref 950), (1, .int l1), (2, .int l2)]) dX13_reserved_17 (by decide) rfl ?_
    refine mj_sublv [(0, .ref 950), (1, .int l1), (2, .int l2), (3, .int 0), (4, .int 1)] [2, 3, 4, 1, 0] rfl ?_
    exact LH_X13_reserved_19 _ _ l1 l2 0 1 _ (fun y0 y1 hx => Hb4 y0 y1 hx) hk
noncomputable def b_X13_reserved_4 (s : t_S) (x : Int32 × Int32) : Option ((Int32 × Int32) ⊕ (Int32)) := k_X13_reserved_4 x.1 x.2 s
set_option maxRecDepth 4000 in
set_option maxHeartbeats 1000000 in
theorem LH_X13_reserved_4 {D : va_G} {cy : Nat → ClassId} {ad : Nat → Nat} {bs : Nat} {X : State → Heap → Prop} (s : t_S) : ∀ (n : Nat) (y0 : Int32) (y1 : Int32) (Q : Int32 → Prop) (hk : t_hk (t_loop (b_X13_reserved_4 s) n (y0, y1)) Q), mj_G D cy ad bs X cX13_reserved 5 yX13_reserved.cls (some .int) yX13_reserved.name 4 0 0 1065 (t_P (fun v s' => s' = s ∧ ∃ x, v = some (.int x) ∧ Q (x))) 4 [(0, .ref 950), (1, .int (y0)), (2, .int (y1))] [] (t_m s) 1065 0 0 := by
  intro n
  induction n with
  | zero => intro y0 y1 Q hk; obtain ⟨r, hr, _⟩ := hk; cases hr
  | succ n ih =>
    intro y0 y1 Q hk
    exact B_X13_reserved_4 y0 y1 s (fun y => t_lq (b_X13_reserved_4 s) n Q y) (fun y0' y1' hy => ih y0' y1' Q hy) (t_lp hk)
noncomputable def f_X13_reserved (s : t_S) : Option (Int32) :=
 t_loop (b_X13_reserved_4 s) t_N (0, 0)
set_option maxRecDepth 4000 in
set_option maxHeartbeats 1000000 in
theorem C_X13_reserved (s : t_S) (r : Int32) (hr : f_X13_reserved s = some r) : t_C yX13_reserved cX13_reserved 5 (some .int) 4 [.ref 950] s (fun v s' => v = some (.int r) ∧ s' = s) := by
  refine t_C.imp (P := fun v s' => s' = s ∧ ∃ x, v = some (.int x) ∧ (fun q => q = r) (x)) (t_C.of (by decide +kernel) (Nat.le_of_ble_eq_true rfl) ?_) (fun v s' hp => by obtain ⟨rfl, x, rfl, rfl⟩ := hp; exact ⟨rfl, rfl⟩)
  intro D cy ad bs X
  have hk : t_hk (f_X13_reserved s) (fun q => q = r) := ⟨r, hr, rfl⟩
  show mj_G D cy ad bs X cX13_reserved 5 yX13_reserved.cls (some .int) yX13_reserved.name 4 0 0 1065 (t_P (fun v s' => s' = s ∧ ∃ x, v = some (.int x) ∧ (fun q => q = r) (x))) 0 [(0, .ref 950)] [] (t_m s) 1065 0 0
  refine mj_iconst (v := 0) dX13_reserved_0 (by decide) ?_
  refine mj_istore_n 1 (lv2 := [(1, .int 0), (0, .ref 950)]) dX13_reserved_1 rfl (by decide) rfl ?_
  refine mj_iconst (v := 0) dX13_reserved_2 (by decide) ?_
  refine mj_istore_n 2 (lv2 := [(2, .int 0), (1, .int 0), (0, .ref 950)]) dX13_reserved_3 rfl (by decide) rfl ?_
  refine mj_sublv [(0, .ref 950), (1, .int 0), (2, .int 0)] [2, 1, 0] rfl ?_
  exact LH_X13_reserved_4 _ _ 0 0 _ hk

theorem dX13_skip_0 : decode cX13_skip 0 = .ok (.iconst 1, 1) := by decide +kernel
theorem dX13_skip_1 : decode cX13_skip 1 = .ok (.istore_n 1, 1) := by decide +kernel
theorem dX13_skip_100 : decode cX13_skip 100 = .ok (.dup, 1) := by decide +kernel
theorem dX13_skip_101 : decode cX13_skip 101 = .ok (.getfield 378, 3) := by decide +kernel
theorem dX13_skip_104 : decode cX13_skip 104 = .ok (.iconst 1, 1) := by decide +kernel
theorem dX13_skip_105 : decode cX13_skip 105 = .ok (.iadd, 1) := by decide +kernel
theorem dX13_skip_106 : decode cX13_skip 106 = .ok (.putfield 378, 3) := by decide +kernel
theorem dX13_skip_109 : decode cX13_skip 109 = .ok (.goto (-107), 3) := by decide +kernel
theorem dX13_skip_11 : decode cX13_skip 11 = .ok (.invokevirtual 381, 3) := by decide +kernel
theorem dX13_skip_112 : decode cX13_skip 112 = .ok (.return_, 1) := by decide +kernel
theorem dX13_skip_14 : decode cX13_skip 14 = .ok (.istore_n 2, 1) := by decide +kernel
theorem dX13_skip_15 : decode cX13_skip 15 = .ok (.iload_n 2, 1) := by decide +kernel
theorem dX13_skip_16 : decode cX13_skip 16 = .ok (.bipush 9, 2) := by decide +kernel
theorem dX13_skip_18 : decode cX13_skip 18 = .ok (.if_icmp .eq 27, 3) := by decide +kernel
theorem dX13_skip_2 : decode cX13_skip 2 = .ok (.iload_n 1, 1) := by decide +kernel
theorem dX13_skip_21 : decode cX13_skip 21 = .ok (.iload_n 2, 1) := by decide +kernel
theorem dX13_skip_22 : decode cX13_skip 22 = .ok (.bipush 10, 2) := by decide +kernel
theorem dX13_skip_24 : decode cX13_skip 24 = .ok (.if_icmp .eq 21, 3) := by decide +kernel
theorem dX13_skip_27 : decode cX13_skip 27 = .ok (.iload_n 2, 1) := by decide +kernel
theorem dX13_skip_28 : decode cX13_skip 28 = .ok (.bipush 13, 2) := by decide +kernel
theorem dX13_skip_3 : decode cX13_skip 3 = .ok (.ifCond .eq 109, 3) := by decide +kernel
theorem dX13_skip_30 : decode cX13_skip 30 = .ok (.if_icmp .eq 15, 3) := by decide +kernel
theorem dX13_skip_33 : decode cX13_skip 33 = .ok (.iload_n 2, 1) := by decide +kernel
theorem dX13_skip_34 : decode cX13_skip 34 = .ok (.bipush 32, 2) := by decide +kernel
theorem dX13_skip_36 : decode cX13_skip 36 = .ok (.if_icmp .eq 9, 3) := by decide +kernel
theorem dX13_skip_39 : decode cX13_skip 39 = .ok (.iload_n 2, 1) := by decide +kernel
theorem dX13_skip_40 : decode cX13_skip 40 = .ok (.bipush 35, 2) := by decide +kernel
theorem dX13_skip_42 : decode cX13_skip 42 = .ok (.if_icmp .ne 7, 3) := by decide +kernel
theorem dX13_skip_45 : decode cX13_skip 45 = .ok (.iconst 1, 1) := by decide +kernel
theorem dX13_skip_46 : decode cX13_skip 46 = .ok (.goto 4, 3) := by decide +kernel
theorem dX13_skip_49 : decode cX13_skip 49 = .ok (.iconst 0, 1) := by decide +kernel
theorem dX13_skip_50 : decode cX13_skip 50 = .ok (.istore_n 1, 1) := by decide +kernel
theorem dX13_skip_51 : decode cX13_skip 51 = .ok (.iload_n 2, 1) := by decide +kernel
theorem dX13_skip_52 : decode cX13_skip 52 = .ok (.bipush 35, 2) := by decide +kernel
theorem dX13_skip_54 : decode cX13_skip 54 = .ok (.if_icmp .ne 41, 3) := by decide +kernel
theorem dX13_skip_57 : decode cX13_skip 57 = .ok (.aload_n 0, 1) := by decide +kernel
theorem dX13_skip_58 : decode cX13_skip 58 = .ok (.getfield 378, 3) := by decide +kernel
theorem dX13_skip_6 : decode cX13_skip 6 = .ok (.aload_n 0, 1) := by decide +kernel
theorem dX13_skip_61 : decode cX13_skip 61 = .ok (.aload_n 0, 1) := by decide +kernel
theorem dX13_skip_62 : decode cX13_skip 62 = .ok (.getfield 366, 3) := by decide +kernel
theorem dX13_skip_65 : decode cX13_skip 65 = .ok (.if_icmp .ge 44, 3) := by decide +kernel
theorem dX13_skip_68 : decode cX13_skip 68 = .ok (.aload_n 0, 1) := by decide +kernel
theorem dX13_skip_69 : decode cX13_skip 69 = .ok (.getfield 7, 3) := by decide +kernel
theorem dX13_skip_7 : decode cX13_skip 7 = .ok (.aload_n 0, 1) := by decide +kernel
theorem dX13_skip_72 : decode cX13_skip 72 = .ok (.aload_n 0, 1) := by decide +kernel
theorem dX13_skip_73 : decode cX13_skip 73 = .ok (.getfield 378, 3) := by decide +kernel
theorem dX13_skip_76 : decode cX13_skip 76 = .ok (.iaload, 1) := by decide +kernel
theorem dX13_skip_77 : decode cX13_skip 77 = .ok (.bipush 10, 2) := by decide +kernel
theorem dX13_skip_79 : decode cX13_skip 79 = .ok (.if_icmp .eq 30, 3) := by decide +kernel
theorem dX13_skip_8 : decode cX13_skip 8 = .ok (.getfield 378, 3) := by decide +kernel
theorem dX13_skip_82 : decode cX13_skip 82 = .ok (.aload_n 0, 1) := by decide +kernel
theorem dX13_skip_83 : decode cX13_skip 83 = .ok (.dup, 1) := by decide +kernel
theorem dX13_skip_84 : decode cX13_skip 84 = .ok (.getfield 378, 3) := by decide +kernel
theorem dX13_skip_87 : decode cX13_skip 87 = .ok (.iconst 1, 1) := by decide +kernel
theorem dX13_skip_88 : decode cX13_skip 88 = .ok (.iadd, 1) := by decide +kernel
theorem dX13_skip_89 : decode cX13_skip 89 = .ok (.putfield 378, 3) := by decide +kernel
theorem dX13_skip_92 : decode cX13_skip 92 = .ok (.goto (-35), 3) := by decide +kernel
theorem dX13_skip_95 : decode cX13_skip 95 = .ok (.iload_n 1, 1) := by decide +kernel
theorem dX13_skip_96 : decode cX13_skip 96 = .ok (.ifCond .eq 13, 3) := by decide +kernel
theorem dX13_skip_99 : decode cX13_skip 99 = .ok (.aload_n 0, 1) := by decide +kernel
noncomputable def k_X13_skip_57 (l1 : Int32) (s : t_S) : Option ((Int32 × t_S) ⊕ ((Int32 × t_S) ⊕ (t_S))) :=
 if (s.1 950 1) ≤ (s.1 950 4) then ((some (.inl (l1, s))).map Sum.inr)
 else (if t_ix (s.1 950 4) 12000 = true then
  if (s.1 951 ((s.1 950 4).toNatClampNeg)) = (10 : Int32) then ((some (.inl (l1, s))).map Sum.inr)
 else (t_let (t_setI s 950 4 ((s.1 950 4) + (1 : Int32))) (fun s1 =>
 some (.inl (l1, s1))))
else none)
set_option maxRecDepth 4000 in
set_option maxHeartbeats 1000000 in
theorem B_X13_skip_57 {D : va_G} {cy : Nat → ClassId} {ad : Nat → Nat} {bs : Nat} {X : State → Heap → Prop} (l1 : Int32) (s : t_S) (Q : (Int32 × t_S) ⊕ ((Int32 × t_S) ⊕ (t_S)) → Prop) (Hb2 : ∀ (y0 : Int32) (y1 : t_S), Q (.inr (.inl (y0, y1))) → mj_G D cy ad bs X cX13_skip 3 yX13_skip.cls none yX13_skip.name 1 0 0 1065 (t_P (fun v s' => v = none ∧ Q (.inr (.inr (s'))))) 2 [(0, .ref 950), (1, .int (y0))] [] (t_m y1) 1065 0 0) (Hb57 : ∀ (y0 : Int32) (y1 : t_S), Q (.inl (y0, y1)) → mj_G D cy ad bs X cX13_skip 3 yX13_skip.cls none yX13_skip.name 1 0 0 1065 (t_P (fun v s' => v = none ∧ Q (.inr (.inr (s'))))) 57 [(0, .ref 950), (1, .int (y0))] [] (t_m y1) 1065 0 0) (hk : t_hk (k_X13_skip_57 l1 s) Q) : mj_G D cy ad bs X cX13_skip 3 yX13_skip.cls none yX13_skip.name 1 0 0 1065 (t_P (fun v s' => v = none ∧ Q (.inr (.inr (s'))))) 57 [(0, .ref 950), (1, .int l1)] [] (t_m s) 1065 0 0 := by
  refine mj_aload_n dX13_skip_57 0 rfl ?_
  refine t_getI dX13_skip_58 F_X13_378 qf_950_4 ?_
  refine mj_aload_n dX13_skip_61 0 rfl ?_
  refine t_getI dX13_skip_62 F_X13_366 qf_950_1 ?_
  refine mj_icmp_ge 109 dX13_skip_65 (by decide) (fun z => t_posK hk z (fun hk => ?_)) (fun z => t_negK hk z (fun hk => ?_))
  · refine t_mapK hk (fun hk => ?_)
    refine mj_goto 2 dX13_skip_109 (by decide) ?_
    exact t_somK hk (fun hf => Hb2 l1 s hf)
  · refine mj_aload_n dX13_skip_68 0 rfl ?_
    refine t_getR 951 dX13_skip_69 F_X13_7 qr_950_0 ?_
    refine mj_aload_n dX13_skip_72 0 rfl ?_
    refine t_getI dX13_skip_73 F_X13_378 qf_950_4 ?_
    refine t_chkK hk (fun c0 hk => ?_)
    refine t_iald dX13_skip_76 qa_951 (t_ixv c0) ?_
    refine mj_bipush (v := 10) dX13_skip_77 (by decide) ?_
    refine mj_icmp_eq 109 dX13_skip_79 (by decide) (fun z => t_posK hk z (fun hk => ?_)) (fun z => t_negK hk z (fun hk => ?_))
    · refine t_mapK hk (fun hk => ?_)
      refine mj_goto 2 dX13_skip_109 (by decide) ?_
      exact t_somK hk (fun hf => Hb2 l1 s hf)
    · refine mj_aload_n dX13_skip_82 0 rfl ?_
      refine mj_dup dX13_skip_83 rfl ?_
      refine t_getI dX13_skip_84 F_X13_378 qf_950_4 ?_
      refine mj_iconst (v := 1) dX13_skip_87 (by decide) ?_
      refine mj_iadd dX13_skip_88 ?_
      refine t_putIK dX13_skip_89 F_X13_378 qf_950_4 rfl (fun s1 ws1 => t_letE hk ws1 (fun hk => ?_))
      refine mj_goto 57 dX13_skip_92 (by decide) ?_
      exact t_somK hk (fun hf => Hb57 l1 s1 hf)
noncomputable def b_X13_skip_57 (x : Int32 × t_S) : Option ((Int32 × t_S) ⊕ ((Int32 × t_S) ⊕ (t_S))) := k_X13_skip_57 x.1 x.2
set_option maxRecDepth 4000 in
set_option maxHeartbeats 1000000 in
theorem LH_X13_skip_57 {D : va_G} {cy : Nat → ClassId} {ad : Nat → Nat} {bs : Nat} {X : State → Heap → Prop} : ∀ (n : Nat) (y0 : Int32) (y1 : t_S) (Q : (Int32 × t_S) ⊕ (t_S) → Prop) (Hb2 : ∀ (y0 : Int32) (y1 : t_S), Q (.inl (y0, y1)) → mj_G D cy ad bs X cX13_skip 3 yX13_skip.cls none yX13_skip.name 1 0 0 1065 (t_P (fun v s' => v = none ∧ Q (.inr (s')))) 2 [(0, .ref 950), (1, .int (y0))] [] (t_m y1) 1065 0 0) (hk : t_hk (t_loop (b_X13_skip_57) n (y0, y1)) Q), mj_G D cy ad bs X cX13_skip 3 yX13_skip.cls none yX13_skip.name 1 0 0 1065 (t_P (fun v s' => v = none ∧ Q (.inr (s')))) 57 [(0, .ref 950), (1, .int (y0))] [] (t_m y1) 1065 0 0 := by
  intro n
  induction n with
  | zero => intro y0 y1 Q Hb2 hk; obtain ⟨r, hr, _⟩ := hk; cases hr
  | succ n ih =>
    intro y0 y1 Q Hb2 hk
    exact B_X13_skip_57 y0 y1 (fun y => t_lq (b_X13_skip_57) n Q y) (fun y0' y1' hy => Hb2 y0' y1' hy) (fun y0' y1' hy => ih y0' y1' Q Hb2 hy) (t_lp hk)
noncomputable def k_X13_skip_50 (l2 : Int32) (k0 : Int32) (s : t_S) : Option ((Int32 × t_S) ⊕ (t_S)) :=
 if l2 = (35 : Int32) then (t_loop (b_X13_skip_57) t_N (k0, s))
 else (if k0 = (0 : Int32) then (some (.inl (k0, s)))
 else (t_let (t_setI s 950 4 ((s.1 950 4) + (1 : Int32))) (fun s1 =>
 some (.inl (k0, s1)))))
set_option maxRecDepth 4000 in
set_option maxHeartbeats 1000000 in
theorem B_X13_skip_50 {D : va_G} {cy : Nat → ClassId} {ad : Nat → Nat} {bs : Nat} {X : State → Heap → Prop} (l2 : Int32) (k0 : Int32) (s : t_S) (Q : (Int32 × t_S) ⊕ (t_S) → Prop) (Hb2 : ∀ (y0 : Int32) (y1 : t_S), Q (.inl (y0, y1)) → mj_G D cy ad bs X cX13_skip 3 yX13_skip.cls none yX13_skip.name 1 0 0 1065 (t_P (fun v s' => v = none ∧ Q (.inr (s')))) 2 [(0, .ref 950), (1, .int (y0))] [] (t_m y1) 1065 0 0) (hk : t_hk (k_X13_skip_50 l2 k0 s) Q) : mj_G D cy ad bs X cX13_skip 3 yX13_skip.cls none yX13_skip.name 1 0 0 1065 (t_P (fun v s' => v = none ∧ Q (.inr (s')))) 50 [(0, .ref 950), (2, .int l2)] [.int k0] (t_m s) 1065 0 0 := by
  refine mj_istore_n 1 (lv2 := [(1, .int k0), (0, .ref 950), (2, .int l2)]) dX13_skip_50 rfl (by decide) rfl ?_
  refine mj_iload_n dX13_skip_51 2 rfl ?_
  refine mj_bipush (v := 35) dX13_skip_52 (by decide) ?_
  refine mj_icmp_ne 95 dX13_skip_54 (by decide) (fun z => t_negK hk z (fun hk => ?_)) (fun z => t_posK hk z (fun hk => ?_))
  · refine mj_iload_n dX13_skip_95 0 rfl ?_
    refine mj_if_eq 109 dX13_skip_96 (by decide) (fun z => t_posK hk z (fun hk => ?_)) (fun z => t_negK hk z (fun hk => ?_))
    · refine mj_goto 2 dX13_skip_109 (by decide) ?_
      refine mj_sublv [(0, .ref 950), (1, .int k0)] [1, 0] rfl ?_
      exact t_somK hk (fun hf => Hb2 k0 s hf)
    · refine mj_aload_n dX13_skip_99 1 rfl ?_
      refine mj_dup dX13_skip_100 rfl ?_
      refine t_getI dX13_skip_101 F_X13_378 qf_950_4 ?_
      refine mj_iconst (v := 1) dX13_skip_104 (by decide) ?_
      refine mj_iadd dX13_skip_105 ?_
      refine t_putIK dX13_skip_106 F_X13_378 qf_950_4 rfl (fun s1 ws1 => t_letE hk ws1 (fun hk => ?_))
      refine mj_goto 2 dX13_skip_109 (by decide) ?_
      refine mj_sublv [(0, .ref 950), (1, .int k0)] [1, 0] rfl ?_
      exact t_somK hk (fun hf => Hb2 k0 s1 hf)
  · refine mj_sublv [(0, .ref 950), (1, .int k0)] [1, 0] rfl ?_
    exact LH_X13_skip_57 _ k0 s _ (fun y0 y1 hx => Hb2 y0 y1 hx) hk
noncomputable def k_X13_skip_45 (l2 : Int32) (s : t_S) : Option ((Int32 × t_S) ⊕ (t_S)) :=
 k_X13_skip_50 l2 1 s
set_option maxRecDepth 4000 in
set_option maxHeartbeats 1000000 in
theorem B_X13_skip_45 {D : va_G} {cy : Nat → ClassId} {ad : Nat → Nat} {bs : Nat} {X : State → Heap → Prop} (l2 : Int32) (s : t_S) (Q : (Int32 × t_S) ⊕ (t_S) → Prop) (Hb2 : ∀ (y0 : Int32) (y1 : t_S), Q (.inl (y0, y1)) → mj_G D cy ad bs X cX13_skip 3 yX13_skip.cls none yX13_skip.name 1 0 0 1065 (t_P (fun v s' => v = none ∧ Q (.inr (s')))) 2 [(0, .ref 950), (1, .int (y0))] [] (t_m y1) 1065 0 0) (hk : t_hk (k_X13_skip_45 l2 s) Q) : mj_G D cy ad bs X cX13_skip 3 yX13_skip.cls none yX13_skip.name 1 0 0 1065 (t_P (fun v s' => v = none ∧ Q (.inr (s')))) 45 [(0, .ref 950), (2, .int l2)] [] (t_m s) 1065 0 0 := by
  refine mj_iconst (v := 1) dX13_skip_45 (by decide) ?_
  refine mj_goto 50 dX13_skip_46 (by decide) ?_
  exact B_X13_skip_50 _ _ _ _ (fun y0 y1 hx => Hb2 y0 y1 hx) hk
noncomputable def k_X13_skip_2 (l1 : Int32) (s : t_S) : Option ((Int32 × t_S) ⊕ (t_S)) :=
 if l1 = (0 : Int32) then ((some (s)).map Sum.inr)
 else ((f_X13_peek (s.1 950 4) s).bind (fun r1 =>
 if r1 = (9 : Int32) then (k_X13_skip_45 r1 s)
 else (if r1 = (10 : Int32) then (k_X13_skip_45 r1 s)
 else (if r1 = (13 : Int32) then (k_X13_skip_45 r1 s)
 else (if r1 = (32 : Int32) then (k_X13_skip_45 r1 s)
 else (if r1 = (35 : Int32) then (k_X13_skip_45 r1 s)
 else (k_X13_skip_50 r1 0 s)))))))
set_option maxRecDepth 4000 in
set_option maxHeartbeats 1000000 in
theorem B_X13_skip_2 {D : va_G} {cy : Nat → ClassId} {ad : Nat → Nat} {bs : Nat} {X : State → Heap → Prop} (l1 : Int32) (s : t_S) (Q : (Int32 × t_S) ⊕ (t_S) → Prop) (Hb2 : ∀ (y0 : Int32) (y1 : t_S), Q (.inl (y0, y1)) → mj_G D cy ad bs X cX13_skip 3 yX13_skip.cls none yX13_skip.name 1 0 0 1065 (t_P (fun v s' => v = none ∧ Q (.inr (s')))) 2 [(0, .ref 950), (1, .int (y0))] [] (t_m y1) 1065 0 0) (hk : t_hk (k_X13_skip_2 l1 s) Q) : mj_G D cy ad bs X cX13_skip 3 yX13_skip.cls none yX13_skip.name 1 0 0 1065 (t_P (fun v s' => v = none ∧ Q (.inr (s')))) 2 [(0, .ref 950), (1, .int l1)] [] (t_m s) 1065 0 0 := by
  refine mj_iload_n dX13_skip_2 1 rfl ?_
  refine mj_if_eq 112 dX13_skip_3 (by decide) (fun z => t_posK hk z (fun hk => ?_)) (fun z => t_negK hk z (fun hk => ?_))
  · refine t_mapK hk (fun hk => ?_)
    exact t_somK hk (fun hf => t_vret dX13_skip_112 rfl ⟨rfl, hf⟩ (Nat.le_of_ble_eq_true rfl) (Nat.le_of_ble_eq_true rfl))
  · refine mj_aload_n dX13_skip_6 0 rfl ?_
    refine mj_aload_n dX13_skip_7 0 rfl ?_
    refine t_getI dX13_skip_8 F_X13_378 qf_950_4 ?_
    refine t_bndK hk (fun r1 er1 hk => ?_)
    refine t_callViP dX13_skip_11 M_X13_peek (C_X13_peek _ _ _ er1) ML_X13_381 IM_X13_peek SE_X13_peek qc_950 rfl (As := [.int (s.1 950 4)]) rfl rfl (Nat.le_of_ble_eq_true rfl) (Nat.le_of_ble_eq_true rfl) (Nat.le_of_ble_eq_true rfl) (Nat.le_of_ble_eq_true rfl) ?_
    refine mj_istore_n 2 (lv2 := [(2, .int r1), (0, .ref 950), (1, .int l1)]) dX13_skip_14 rfl (by decide) rfl ?_
    refine mj_iload_n dX13_skip_15 0 rfl ?_
    refine mj_bipush (v := 9) dX13_skip_16 (by decide) ?_
    refine mj_icmp_eq 45 dX13_skip_18 (by decide) (fun z => t_posK hk z (fun hk => ?_)) (fun z => t_negK hk z (fun hk => ?_))
    · refine mj_sublv [(0, .ref 950), (2, .int r1)] [1, 0] rfl ?_
      exact B_X13_skip_45 _ _ _ (fun y0 y1 hx => Hb2 y0 y1 hx) hk
    · refine mj_iload_n dX13_skip_21 0 rfl ?_
      refine mj_bipush (v := 10) dX13_skip_22 (by decide) ?_
      refine mj_icmp_eq 45 dX13_skip_24 (by decide) (fun z => t_posK hk z (fun hk => ?_)) (fun z => t_negK hk z (fun hk => ?_))
      · refine mj_sublv [(0, .ref 950), (2, .int r1)] [1, 0] rfl ?_
        exact B_X13_skip_45 _ _ _ (fun y0 y1 hx => Hb2 y0 y1 hx) hk
      · refine mj_iload_n dX13_skip_27 0 rfl ?_
        refine mj_bipush (v := 13) dX13_skip_28 (by decide) ?_
        refine mj_icmp_eq 45 dX13_skip_30 (by decide) (fun z => t_posK hk z (fun hk => ?_)) (fun z => t_negK hk z (fun hk => ?_))
        · refine mj_sublv [(0, .ref 950), (2, .int r1)] [1, 0] rfl ?_
          exact B_X13_skip_45 _ _ _ (fun y0 y1 hx => Hb2 y0 y1 hx) hk
        · refine mj_iload_n dX13_skip_33 0 rfl ?_
          refine mj_bipush (v := 32) dX13_skip_34 (by decide) ?_
          refine mj_icmp_eq 45 dX13_skip_36 (by decide) (fun z => t_posK hk z (fun hk => ?_)) (fun z => t_negK hk z (fun hk => ?_))
          · refine mj_sublv [(0, .ref 950), (2, .int r1)] [1, 0] rfl ?_
            exact B_X13_skip_45 _ _ _ (fun y0 y1 hx => Hb2 y0 y1 hx) hk
          · refine mj_iload_n dX13_skip_39 0 rfl ?_
            refine mj_bipush (v := 35) dX13_skip_40 (by decide) ?_
            refine mj_icmp_ne 49 dX13_skip_42 (by decide) (fun z => t_negK hk z (fun hk => ?_)) (fun z => t_posK hk z (fun hk => ?_))
            · refine mj_iconst (v := 0) dX13_skip_49 (by decide) ?_
              refine mj_sublv [(0, .ref 950), (2, .int r1)] [1, 0] rfl ?_
              exact B_X13_skip_50 _ _ _ _ (fun y0 y1 hx => Hb2 y0 y1 hx) hk
            · refine mj_sublv [(0, .ref 950), (2, .int r1)] [1, 0] rfl ?_
              exact B_X13_skip_45 _ _ _ (fun y0 y1 hx => Hb2 y0 y1 hx) hk
noncomputable def b_X13_skip_2 (x : Int32 × t_S) : Option ((Int32 × t_S) ⊕ (t_S)) := k_X13_skip_2 x.1 x.2
set_option maxRecDepth 4000 in
set_option maxHeartbeats 1000000 in
theorem LH_X13_skip_2 {D : va_G} {cy : Nat → ClassId} {ad : Nat → Nat} {bs : Nat} {X : State → Heap → Prop} : ∀ (n : Nat) (y0 : Int32) (y1 : t_S) (Q : t_S → Prop) (hk : t_hk (t_loop (b_X13_skip_2) n (y0, y1)) Q), mj_G D cy ad bs X cX13_skip 3 yX13_skip.cls none yX13_skip.name 1 0 0 1065 (t_P (fun v s' => v = none ∧ Q (s'))) 2 [(0, .ref 950), (1, .int (y0))] [] (t_m y1) 1065 0 0 := by
  intro n
  induction n with
  | zero => intro y0 y1 Q hk; obtain ⟨r, hr, _⟩ := hk; cases hr
  | succ n ih =>
    intro y0 y1 Q hk
    exact B_X13_skip_2 y0 y1 (fun y => t_lq (b_X13_skip_2) n Q y) (fun y0' y1' hy => ih y0' y1' Q hy) (t_lp hk)
noncomputable def f_X13_skip (s : t_S) : Option (t_S) :=
 t_loop (b_X13_skip_2) t_N (1, s)
set_option maxRecDepth 4000 in
set_option maxHeartbeats 1000000 in
theorem C_X13_skip (s : t_S) (r : t_S) (hr : f_X13_skip s = some r) : t_C yX13_skip cX13_skip 3 none 1 [.ref 950] s (fun v s' => v = none ∧ s' = r) := by
  refine t_C.imp (P := fun v s' => v = none ∧ (fun q => q = r) (s')) (t_C.of (by decide +kernel) (Nat.le_of_ble_eq_true rfl) ?_) (fun v s' hp => hp)
  intro D cy ad bs X
  have hk : t_hk (f_X13_skip s) (fun q => q = r) := ⟨r, hr, rfl⟩
  show mj_G D cy ad bs X cX13_skip 3 yX13_skip.cls none yX13_skip.name 1 0 0 1065 (t_P (fun v s' => v = none ∧ (fun q => q = r) (s'))) 0 [(0, .ref 950)] [] (t_m s) 1065 0 0
  refine mj_iconst (v := 1) dX13_skip_0 (by decide) ?_
  refine mj_istore_n 1 (lv2 := [(1, .int 1), (0, .ref 950)]) dX13_skip_1 rfl (by decide) rfl ?_
  refine mj_sublv [(0, .ref 950), (1, .int 1)] [1, 0] rfl ?_
  exact LH_X13_skip_2 _ 1 s _ hk

