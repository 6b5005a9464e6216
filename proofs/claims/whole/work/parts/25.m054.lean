/-! Methods as functions, 54: X13_isPrepared, X13_isTextOf, X13_finds, X13_hasAll, X13_partCount -/
theorem qa_1028 : t_oka 1028 1 577000 = true := by decide +kernel
theorem qa_1029 : t_oka 1029 1 270 = true := by decide +kernel
theorem qa_1031 : t_oka 1031 1 16 = true := by decide +kernel
theorem qa_1032 : t_oka 1032 1 16 = true := by decide +kernel
theorem qa_1033 : t_oka 1033 3 16 = true := by decide +kernel
theorem qa_962 : t_oka 962 1 13000 = true := by decide +kernel
theorem qa_968 : t_oka 968 1 60 = true := by decide +kernel
theorem qf_950_137 : t_okf 950 13 137 0 = true := by decide +kernel
theorem qf_950_141 : t_okf 950 13 141 0 = true := by decide +kernel
theorem qf_950_44 : t_okf 950 13 44 0 = true := by decide +kernel
theorem qr_950_136 : t_okr 950 13 136 1028 = true := by decide +kernel
theorem qr_950_139 : t_okr 950 13 139 1029 = true := by decide +kernel
theorem qr_950_142 : t_okr 950 13 142 1031 = true := by decide +kernel
theorem qr_950_143 : t_okr 950 13 143 1032 = true := by decide +kernel
theorem qr_950_144 : t_okr 950 13 144 1033 = true := by decide +kernel
theorem qr_950_25 : t_okr 950 13 25 962 = true := by decide +kernel
theorem qr_950_41 : t_okr 950 13 41 967 = true := by decide +kernel
theorem qr_950_42 : t_okr 950 13 42 968 = true := by decide +kernel
theorem dX13_isPrepared_0 : decode cX13_isPrepared 0 = .ok (.aload_n 0, 1) := by decide +kernel
theorem dX13_isPrepared_1 : decode cX13_isPrepared 1 = .ok (.getfield 244, 3) := by decide +kernel
theorem dX13_isPrepared_11 : decode cX13_isPrepared 11 = .ok (.iload_n 2, 1) := by decide +kernel
theorem dX13_isPrepared_12 : decode cX13_isPrepared 12 = .ok (.invokestatic 849, 3) := by decide +kernel
theorem dX13_isPrepared_15 : decode cX13_isPrepared 15 = .ok (.iload_n 2, 1) := by decide +kernel
theorem dX13_isPrepared_16 : decode cX13_isPrepared 16 = .ok (.isub, 1) := by decide +kernel
theorem dX13_isPrepared_17 : decode cX13_isPrepared 17 = .ok (.istore 4, 2) := by decide +kernel
theorem dX13_isPrepared_19 : decode cX13_isPrepared 19 = .ok (.aload_n 0, 1) := by decide +kernel
theorem dX13_isPrepared_20 : decode cX13_isPrepared 20 = .ok (.getfield 248, 3) := by decide +kernel
theorem dX13_isPrepared_23 : decode cX13_isPrepared 23 = .ok (.iload_n 3, 1) := by decide +kernel
theorem dX13_isPrepared_24 : decode cX13_isPrepared 24 = .ok (.invokestatic 849, 3) := by decide +kernel
theorem dX13_isPrepared_27 : decode cX13_isPrepared 27 = .ok (.iload_n 3, 1) := by decide +kernel
theorem dX13_isPrepared_28 : decode cX13_isPrepared 28 = .ok (.isub, 1) := by decide +kernel
theorem dX13_isPrepared_29 : decode cX13_isPrepared 29 = .ok (.iload 4, 2) := by decide +kernel
theorem dX13_isPrepared_31 : decode cX13_isPrepared 31 = .ok (.if_icmp .ne 7, 3) := by decide +kernel
theorem dX13_isPrepared_34 : decode cX13_isPrepared 34 = .ok (.iconst 1, 1) := by decide +kernel
theorem dX13_isPrepared_35 : decode cX13_isPrepared 35 = .ok (.goto 4, 3) := by decide +kernel
theorem dX13_isPrepared_38 : decode cX13_isPrepared 38 = .ok (.iconst 0, 1) := by decide +kernel
theorem dX13_isPrepared_39 : decode cX13_isPrepared 39 = .ok (.istore 5, 2) := by decide +kernel
theorem dX13_isPrepared_4 : decode cX13_isPrepared 4 = .ok (.iload_n 1, 1) := by decide +kernel
theorem dX13_isPrepared_41 : decode cX13_isPrepared 41 = .ok (.iconst 0, 1) := by decide +kernel
theorem dX13_isPrepared_42 : decode cX13_isPrepared 42 = .ok (.istore 6, 2) := by decide +kernel
theorem dX13_isPrepared_44 : decode cX13_isPrepared 44 = .ok (.iload 6, 2) := by decide +kernel
theorem dX13_isPrepared_46 : decode cX13_isPrepared 46 = .ok (.iload 4, 2) := by decide +kernel
theorem dX13_isPrepared_48 : decode cX13_isPrepared 48 = .ok (.if_icmp .ge 43, 3) := by decide +kernel
theorem dX13_isPrepared_5 : decode cX13_isPrepared 5 = .ok (.iaload, 1) := by decide +kernel
theorem dX13_isPrepared_51 : decode cX13_isPrepared 51 = .ok (.iload 5, 2) := by decide +kernel
theorem dX13_isPrepared_53 : decode cX13_isPrepared 53 = .ok (.ifCond .eq 38, 3) := by decide +kernel
theorem dX13_isPrepared_56 : decode cX13_isPrepared 56 = .ok (.aload_n 0, 1) := by decide +kernel
theorem dX13_isPrepared_57 : decode cX13_isPrepared 57 = .ok (.getfield 248, 3) := by decide +kernel
theorem dX13_isPrepared_6 : decode cX13_isPrepared 6 = .ok (.istore_n 3, 1) := by decide +kernel
theorem dX13_isPrepared_60 : decode cX13_isPrepared 60 = .ok (.iload_n 3, 1) := by decide +kernel
theorem dX13_isPrepared_61 : decode cX13_isPrepared 61 = .ok (.iload 6, 2) := by decide +kernel
theorem dX13_isPrepared_63 : decode cX13_isPrepared 63 = .ok (.iadd, 1) := by decide +kernel
theorem dX13_isPrepared_64 : decode cX13_isPrepared 64 = .ok (.laload, 1) := by decide +kernel
theorem dX13_isPrepared_65 : decode cX13_isPrepared 65 = .ok (.aload_n 0, 1) := by decide +kernel
theorem dX13_isPrepared_66 : decode cX13_isPrepared 66 = .ok (.getfield 182, 3) := by decide +kernel
theorem dX13_isPrepared_69 : decode cX13_isPrepared 69 = .ok (.iload_n 2, 1) := by decide +kernel
theorem dX13_isPrepared_7 : decode cX13_isPrepared 7 = .ok (.aload_n 0, 1) := by decide +kernel
theorem dX13_isPrepared_70 : decode cX13_isPrepared 70 = .ok (.iload 6, 2) := by decide +kernel
theorem dX13_isPrepared_72 : decode cX13_isPrepared 72 = .ok (.iadd, 1) := by decide +kernel
theorem dX13_isPrepared_73 : decode cX13_isPrepared 73 = .ok (.laload, 1) := by decide +kernel
theorem dX13_isPrepared_74 : decode cX13_isPrepared 74 = .ok (.lcmp, 1) := by decide +kernel
theorem dX13_isPrepared_75 : decode cX13_isPrepared 75 = .ok (.ifCond .ne 7, 3) := by decide +kernel
theorem dX13_isPrepared_78 : decode cX13_isPrepared 78 = .ok (.iconst 1, 1) := by decide +kernel
theorem dX13_isPrepared_79 : decode cX13_isPrepared 79 = .ok (.goto 4, 3) := by decide +kernel
theorem dX13_isPrepared_8 : decode cX13_isPrepared 8 = .ok (.getfield 182, 3) := by decide +kernel
theorem dX13_isPrepared_82 : decode cX13_isPrepared 82 = .ok (.iconst 0, 1) := by decide +kernel
theorem dX13_isPrepared_83 : decode cX13_isPrepared 83 = .ok (.istore 5, 2) := by decide +kernel
theorem dX13_isPrepared_85 : decode cX13_isPrepared 85 = .ok (.iinc 6 1, 3) := by decide +kernel
theorem dX13_isPrepared_88 : decode cX13_isPrepared 88 = .ok (.goto (-44), 3) := by decide +kernel
theorem dX13_isPrepared_91 : decode cX13_isPrepared 91 = .ok (.iload 5, 2) := by decide +kernel
theorem dX13_isPrepared_93 : decode cX13_isPrepared 93 = .ok (.ireturn, 1) := by decide +kernel
noncomputable def k_X13_isPrepared_83 (l2 : Int32) (l3 : Int32) (l4 : Int32) (l6 : Int32) (k0 : Int32) (s : t_S) : Option ((Int32 × Int32 × Int32 × Int32 × Int32) ⊕ (Int32)) :=
 some (.inl (l2, l3, l4, k0, (l6 + 1)))
set_option maxRecDepth 4000 in
set_option maxHeartbeats 1000000 in
theorem B_X13_isPrepared_83 {D : va_G} {cy : Nat → ClassId} {ad : Nat → Nat} {bs : Nat} {X : State → Heap → Prop} (l2 : Int32) (l3 : Int32) (l4 : Int32) (l6 : Int32) (k0 : Int32) (s : t_S) (Q : (Int32 × Int32 × Int32 × Int32 × Int32) ⊕ (Int32) → Prop) (Hb44 : ∀ (y0 : Int32) (y1 : Int32) (y2 : Int32) (y3 : Int32) (y4 : Int32), Q (.inl (y0, y1, y2, y3, y4)) → mj_G D cy ad bs X cX13_isPrepared 7 yX13_isPrepared.cls (some .boolean) yX13_isPrepared.name 2 0 0 1065 (t_P (fun v s' => s' = s ∧ ∃ x, v = some (.int x) ∧ Q (.inr (x)))) 44 [(0, .ref 950), (2, .int (y0)), (3, .int (y1)), (4, .int (y2)), (5, .int (y3)), (6, .int (y4))] [] (t_m s) 1065 0 0) (hk : t_hk (k_X13_isPrepared_83 l2 l3 l4 l6 k0 s) Q) : mj_G D cy ad bs X cX13_isPrepared 7 yX13_isPrepared.cls (some .boolean) yX13_isPrepared.name 2 0 0 1065 (t_P (fun v s' => s' = s ∧ ∃ x, v = some (.int x) ∧ Q (.inr (x)))) 83 [(0, .ref 950), (2, .int l2), (3, .int l3), (4, .int l4), (6, .int l6)] [.int k0] (t_m s) 1065 0 0 := by
  refine mj_istore (lv2 := [(5, .int k0), (0, .ref 950), (2, .int l2), (3, .int l3), (4, .int l4), (6, .int l6)]) dX13_isPrepared_83 (by decide) rfl ?_
  refine mj_iinc (k := 5) (v := (l6 + 1)) (lv2 := [(6, .int (l6 + 1)), (5, .int k0), (0, .ref 950), (2, .int l2), (3, .int l3), (4, .int l4)]) dX13_isPrepared_85 rfl rfl (by decide) rfl ?_
  refine mj_goto 44 dX13_isPrepared_88 (by decide) ?_
  refine mj_sublv [(0, .ref 950), (2, .int l2), (3, .int l3), (4, .int l4), (5, .int k0), (6, .int (l6 + 1))] [2, 3, 4, 5, 1, 0] rfl ?_
  exact t_somK hk (fun hf => Hb44 l2 l3 l4 k0 (l6 + 1) hf)
noncomputable def k_X13_isPrepared_44 (l2 : Int32) (l3 : Int32) (l4 : Int32) (l5 : Int32) (l6 : Int32) (s : t_S) : Option ((Int32 × Int32 × Int32 × Int32 × Int32) ⊕ (Int32)) :=
 if l4 ≤ l6 then ((if l5 = 0 ∨ l5 = 1 then
  some (l5)
else none).map Sum.inr)
 else (if l5 = (0 : Int32) then ((if l5 = 0 ∨ l5 = 1 then
  some (l5)
else none).map Sum.inr)
 else (if t_ix (l3 + l6) 370000 = true then
  if t_ix (l2 + l6) 626600 = true then
  if (lg_cmp (s.2.1 1027 ((l3 + l6).toNatClampNeg)) (s.2.1 1006 ((l2 + l6).toNatClampNeg))) = (0 : Int32) then (k_X13_isPrepared_83 l2 l3 l4 l6 1 s)
 else (k_X13_isPrepared_83 l2 l3 l4 l6 0 s)
else none
else none))
set_option maxRecDepth 4000 in
set_option maxHeartbeats 1000000 in
theorem B_X13_isPrepared_44 {D : va_G} {cy : Nat → ClassId} {ad : Nat → Nat} {bs : Nat} {X : State → Heap → Prop} (l2 : Int32) (l3 : Int32) (l4 : Int32) (l5 : Int32) (l6 : Int32) (s : t_S) (Q : (Int32 × Int32 × Int32 × Int32 × Int32) ⊕ (Int32) → Prop) (Hb44 : ∀ (y0 : Int32) (y1 : Int32) (y2 : Int32) (y3 : Int32) (y4 : Int32), Q (.inl (y0, y1, y2, y3, y4)) → mj_G D cy ad bs X cX13_isPrepared 7 yX13_isPrepared.cls (some .boolean) yX13_isPrepared.name 2 0 0 1065 (t_P (fun v s' => s' = s ∧ ∃ x, v = some (.int x) ∧ Q (.inr (x)))) 44 [(0, .ref 950), (2, .int (y0)), (3, .int (y1)), (4, .int (y2)), (5, .int (y3)), (6, .int (y4))] [] (t_m s) 1065 0 0) (hk : t_hk (k_X13_isPrepared_44 l2 l3 l4 l5 l6 s) Q) : mj_G D cy ad bs X cX13_isPrepared 7 yX13_isPrepared.cls (some .boolean) yX13_isPrepared.name 2 0 0 1065 (t_P (fun v s' => s' = s ∧ ∃ x, v = some (.int x) ∧ Q (.inr (x)))) 44 [(0, .ref 950), (2, .int l2), (3, .int l3), (4, .int l4), (5, .int l5), (6, .int l6)] [] (t_m s) 1065 0 0 := by
  refine mj_iload dX13_isPrepared_44 5 rfl ?_
  refine mj_iload dX13_isPrepared_46 3 rfl ?_
  refine mj_icmp_ge 91 dX13_isPrepared_48 (by decide) (fun z => t_posK hk z (fun hk => ?_)) (fun z => t_negK hk z (fun hk => ?_))
  · refine t_mapK hk (fun hk => ?_)
    refine mj_iload dX13_isPrepared_91 4 rfl ?_
    refine t_chkK hk (fun c0 hk => ?_)
    exact t_somK hk (fun hf => t_iret dX13_isPrepared_93 rfl (t_zfit c0) ⟨rfl, _, rfl, hf⟩ (Nat.le_of_ble_eq_true rfl) (Nat.le_of_ble_eq_true rfl))
  · refine mj_iload dX13_isPrepared_51 4 rfl ?_
    refine mj_if_eq 91 dX13_isPrepared_53 (by decide) (fun z => t_posK hk z (fun hk => ?_)) (fun z => t_negK hk z (fun hk => ?_))
    · refine t_mapK hk (fun hk => ?_)
      refine mj_iload dX13_isPrepared_91 4 rfl ?_
      refine t_chkK hk (fun c1 hk => ?_)
      exact t_somK hk (fun hf => t_iret dX13_isPrepared_93 rfl (t_zfit c1) ⟨rfl, _, rfl, hf⟩ (Nat.le_of_ble_eq_true rfl) (Nat.le_of_ble_eq_true rfl))
    · refine mj_aload_n dX13_isPrepared_56 0 rfl ?_
      refine t_getR 1027 dX13_isPrepared_57 F_X13_248 qr_950_134 ?_
      refine mj_iload_n dX13_isPrepared_60 2 rfl ?_
      refine mj_iload dX13_isPrepared_61 5 rfl ?_
      refine mj_iadd dX13_isPrepared_63 ?_
      refine t_chkK hk (fun c2 hk => ?_)
      refine t_lald dX13_isPrepared_64 qa_1027 (t_ixv c2) ?_
      refine mj_aload_n dX13_isPrepared_65 0 rfl ?_
      refine t_getR 1006 dX13_isPrepared_66 F_X13_182 qr_950_95 ?_
      refine mj_iload_n dX13_isPrepared_69 1 rfl ?_
      refine mj_iload dX13_isPrepared_70 5 rfl ?_
      refine mj_iadd dX13_isPrepared_72 ?_
      refine t_chkK hk (fun c3 hk => ?_)
      refine t_lald dX13_isPrepared_73 qa_1006 (t_ixv c3) ?_
      refine mj_lcmp dX13_isPrepared_74 ?_
      refine mj_if_ne 82 dX13_isPrepared_75 (by decide) (fun z => t_negK hk z (fun hk => ?_)) (fun z => t_posK hk z (fun hk => ?_))
      · refine mj_iconst (v := 0) dX13_isPrepared_82 (by decide) ?_
        refine mj_sublv [(0, .ref 950), (2, .int l2), (3, .int l3), (4, .int l4), (6, .int l6)] [0, 1, 2, 3, 5] rfl ?_
        exact B_X13_isPrepared_83 _ _ _ _ _ _ _ (fun y0 y1 y2 y3 y4 hx => Hb44 y0 y1 y2 y3 y4 hx) hk
      · refine mj_iconst (v := 1) dX13_isPrepared_78 (by decide) ?_
        refine mj_goto 83 dX13_isPrepared_79 (by decide) ?_
        refine mj_sublv [(0, .ref 950), (2, .int l2), (3, .int l3), (4, .int l4), (6, .int l6)] [0, 1, 2, 3, 5] rfl ?_
        exact B_X13_isPrepared_83 _ _ _ _ _ _ _ (fun y0 y1 y2 y3 y4 hx => Hb44 y0 y1 y2 y3 y4 hx) hk
noncomputable def b_X13_isPrepared_44 (s : t_S) (x : Int32 × Int32 × Int32 × Int32 × Int32) : Option ((Int32 × Int32 × Int32 × Int32 × Int32) ⊕ (Int32)) := k_X13_isPrepared_44 x.1 x.2.1 x.2.2.1 x.2.2.2.1 x.2.2.2.2 s
set_option maxRecDepth 4000 in
set_option maxHeartbeats 1000000 in
theorem LH_X13_isPrepared_44 {D : va_G} {cy : Nat → ClassId} {ad : Nat → Nat} {bs : Nat} {X : State → Heap → Prop} (s : t_S) : ∀ (n : Nat) (y0 : Int32) (y1 : Int32) (y2 : Int32) (y3 : Int32) (y4 : Int32) (Q : Int32 → Prop) (hk : t_hk (t_loop (b_X13_isPrepared_44 s) n (y0, y1, y2, y3, y4)) Q), mj_G D cy ad bs X cX13_isPrepared 7 yX13_isPrepared.cls (some .boolean) yX13_isPrepared.name 2 0 0 1065 (t_P (fun v s' => s' = s ∧ ∃ x, v = some (.int x) ∧ Q (x))) 44 [(0, .ref 950), (2, .int (y0)), (3, .int (y1)), (4, .int (y2)), (5, .int (y3)), (6, .int (y4))] [] (t_m s) 1065 0 0 := by
  intro n
  induction n with
  | zero => intro y0 y1 y2 y3 y4 Q hk; obtain ⟨r, hr, _⟩ := hk; cases hr
  | succ n ih =>
    intro y0 y1 y2 y3 y4 Q hk
    exact B_X13_isPrepared_44 y0 y1 y2 y3 y4 s (fun y => t_lq (b_X13_isPrepared_44 s) n Q y) (fun y0' y1' y2' y3' y4' hy => ih y0' y1' y2' y3' y4' Q hy) (t_lp (b := b_X13_isPrepared_44 s) (n := n) (x := (y0, y1, y2, y3, y4)) hk)
noncomputable def k_X13_isPrepared_39 (l2 : Int32) (l3 : Int32) (l4 : Int32) (k0 : Int32) (s : t_S) : Option (Int32) :=
 t_loop (b_X13_isPrepared_44 s) t_N (l2, l3, l4, k0, 0)
set_option maxRecDepth 4000 in
set_option maxHeartbeats 1000000 in
theorem B_X13_isPrepared_39 {D : va_G} {cy : Nat → ClassId} {ad : Nat → Nat} {bs : Nat} {X : State → Heap → Prop} (l2 : Int32) (l3 : Int32) (l4 : Int32) (k0 : Int32) (s : t_S) (Q : Int32 → Prop) (hk : t_hk (k_X13_isPrepared_39 l2 l3 l4 k0 s) Q) : mj_G D cy ad bs X cX13_isPrepared 7 yX13_isPrepared.cls (some .boolean) yX13_isPrepared.name 2 0 0 1065 (t_P (fun v s' => s' = s ∧ ∃ x, v = some (.int x) ∧ Q (x))) 39 [(0, .ref 950), (2, .int l2), (3, .int l3), (4, .int l4)] [.int k0] (t_m s) 1065 0 0 := by
  refine mj_istore (lv2 := [(5, .int k0), (0, .ref 950), (2, .int l2), (3, .int l3), (4, .int l4)]) dX13_isPrepared_39 (by decide) rfl ?_
  refine mj_iconst (v := 0) dX13_isPrepared_41 (by decide) ?_
  refine mj_istore (lv2 := [(6, .int 0), (5, .int k0), (0, .ref 950), (2, .int l2), (3, .int l3), (4, .int l4)]) dX13_isPrepared_42 (by decide) rfl ?_
  refine mj_sublv [(0, .ref 950), (2, .int l2), (3, .int l3), (4, .int l4), (5, .int k0), (6, .int 0)] [2, 3, 4, 5, 1, 0] rfl ?_
  exact LH_X13_isPrepared_44 _ _ l2 l3 l4 k0 0 _ hk
noncomputable def f_X13_isPrepared (x1 : Int32) (x2 : Int32) (s : t_S) : Option (Int32) :=
 if t_ix x1 13000 = true then
  (f_X13_endOf 1006 x2 s).bind (fun r2 =>
 (f_X13_endOf 1027 (s.1 1026 (x1.toNatClampNeg)) s).bind (fun r3 =>
 if (r3 - (s.1 1026 (x1.toNatClampNeg))) = (r2 - x2) then (k_X13_isPrepared_39 x2 (s.1 1026 (x1.toNatClampNeg)) (r2 - x2) 1 s)
 else (k_X13_isPrepared_39 x2 (s.1 1026 (x1.toNatClampNeg)) (r2 - x2) 0 s)))
else none
set_option maxRecDepth 4000 in
set_option maxHeartbeats 1000000 in
theorem C_X13_isPrepared (x1 : Int32) (x2 : Int32) (s : t_S) (r : Int32) (hr : f_X13_isPrepared x1 x2 s = some r) : t_C yX13_isPrepared cX13_isPrepared 7 (some .boolean) 2 [.ref 950, .int x1, .int x2] s (fun v s' => v = some (.int r) ∧ s' = s) := by
  refine t_C.imp (P := fun v s' => s' = s ∧ ∃ x, v = some (.int x) ∧ (fun q => q = r) (x)) (t_C.of (by decide +kernel) (Nat.le_of_ble_eq_true rfl) ?_) (fun v s' hp => by obtain ⟨rfl, x, rfl, rfl⟩ := hp; exact ⟨rfl, rfl⟩)
  intro D cy ad bs X
  have hk : t_hk (f_X13_isPrepared x1 x2 s) (fun q => q = r) := ⟨r, hr, rfl⟩
  show mj_G D cy ad bs X cX13_isPrepared 7 yX13_isPrepared.cls (some .boolean) yX13_isPrepared.name 2 0 0 1065 (t_P (fun v s' => s' = s ∧ ∃ x, v = some (.int x) ∧ (fun q => q = r) (x))) 0 [(0, .ref 950), (1, .int x1), (2, .int x2)] [] (t_m s) 1065 0 0
  refine mj_aload_n dX13_isPrepared_0 0 rfl ?_
  refine t_getR 1026 dX13_isPrepared_1 F_X13_244 qr_950_132 ?_
  refine mj_iload_n dX13_isPrepared_4 1 rfl ?_
  refine t_chkK hk (fun c0 hk => ?_)
  refine t_iald dX13_isPrepared_5 qa_1026 (t_ixv c0) ?_
  refine mj_istore_n 3 (lv2 := [(3, .int (s.1 1026 (x1.toNatClampNeg))), (0, .ref 950), (1, .int x1), (2, .int x2)]) dX13_isPrepared_6 rfl (by decide) rfl ?_
  refine mj_aload_n dX13_isPrepared_7 1 rfl ?_
  refine t_getR 1006 dX13_isPrepared_8 F_X13_182 qr_950_95 ?_
  refine mj_iload_n dX13_isPrepared_11 3 rfl ?_
  refine t_bndK hk (fun r2 er2 hk => ?_)
  refine t_callSiP dX13_isPrepared_12 M_X13_endOf (C_X13_endOf _ _ _ _ er2) ML_X13_849 SM_X13_endOf (As := [.ref 1006, .int x2]) rfl rfl (Nat.le_of_ble_eq_true rfl) (Nat.le_of_ble_eq_true rfl) (Nat.le_of_ble_eq_true rfl) (Nat.le_of_ble_eq_true rfl) ?_
  refine mj_iload_n dX13_isPrepared_15 3 rfl ?_
  refine mj_isub dX13_isPrepared_16 ?_
  refine mj_istore (lv2 := [(4, .int (r2 - x2)), (3, .int (s.1 1026 (x1.toNatClampNeg))), (0, .ref 950), (1, .int x1), (2, .int x2)]) dX13_isPrepared_17 (by decide) rfl ?_
  refine mj_aload_n dX13_isPrepared_19 2 rfl ?_
  refine t_getR 1027 dX13_isPrepared_20 F_X13_248 qr_950_134 ?_
  refine mj_iload_n dX13_isPrepared_23 1 rfl ?_
  refine t_bndK hk (fun r3 er3 hk => ?_)
  refine t_callSiP dX13_isPrepared_24 M_X13_endOf (C_X13_endOf _ _ _ _ er3) ML_X13_849 SM_X13_endOf (As := [.ref 1027, .int (s.1 1026 (x1.toNatClampNeg))]) rfl rfl (Nat.le_of_ble_eq_true rfl) (Nat.le_of_ble_eq_true rfl) (Nat.le_of_ble_eq_true rfl) (Nat.le_of_ble_eq_true rfl) ?_
  refine mj_iload_n dX13_isPrepared_27 1 rfl ?_
  refine mj_isub dX13_isPrepared_28 ?_
  refine mj_iload dX13_isPrepared_29 0 rfl ?_
  refine mj_icmp_ne 38 dX13_isPrepared_31 (by decide) (fun z => t_negK hk z (fun hk => ?_)) (fun z => t_posK hk z (fun hk => ?_))
  · refine mj_iconst (v := 0) dX13_isPrepared_38 (by decide) ?_
    refine mj_sublv [(0, .ref 950), (2, .int x2), (3, .int (s.1 1026 (x1.toNatClampNeg))), (4, .int (r2 - x2))] [2, 4, 1, 0] rfl ?_
    exact B_X13_isPrepared_39 _ _ _ _ _ _ hk
  · refine mj_iconst (v := 1) dX13_isPrepared_34 (by decide) ?_
    refine mj_goto 39 dX13_isPrepared_35 (by decide) ?_
    refine mj_sublv [(0, .ref 950), (2, .int x2), (3, .int (s.1 1026 (x1.toNatClampNeg))), (4, .int (r2 - x2))] [2, 4, 1, 0] rfl ?_
    exact B_X13_isPrepared_39 _ _ _ _ _ _ hk

theorem dX13_isTextOf_0 : decode cX13_isTextOf 0 = .ok (.aload_n 0, 1) := by decide +kernel
theorem dX13_isTextOf_1 : decode cX13_isTextOf 1 = .ok (.getfield 182, 3) := by decide +kernel
theorem dX13_isTextOf_10 : decode cX13_isTextOf 10 = .ok (.ifCond .ne 25, 3) := by decide +kernel
theorem dX13_isTextOf_13 : decode cX13_isTextOf 13 = .ok (.aload_n 0, 1) := by decide +kernel
theorem dX13_isTextOf_14 : decode cX13_isTextOf 14 = .ok (.getfield 182, 3) := by decide +kernel
theorem dX13_isTextOf_17 : decode cX13_isTextOf 17 = .ok (.iload_n 2, 1) := by decide +kernel
theorem dX13_isTextOf_18 : decode cX13_isTextOf 18 = .ok (.iconst 1, 1) := by decide +kernel
theorem dX13_isTextOf_19 : decode cX13_isTextOf 19 = .ok (.iadd, 1) := by decide +kernel
theorem dX13_isTextOf_20 : decode cX13_isTextOf 20 = .ok (.laload, 1) := by decide +kernel
theorem dX13_isTextOf_21 : decode cX13_isTextOf 21 = .ok (.aload_n 0, 1) := by decide +kernel
theorem dX13_isTextOf_22 : decode cX13_isTextOf 22 = .ok (.getfield 36, 3) := by decide +kernel
theorem dX13_isTextOf_25 : decode cX13_isTextOf 25 = .ok (.iload_n 1, 1) := by decide +kernel
theorem dX13_isTextOf_26 : decode cX13_isTextOf 26 = .ok (.laload, 1) := by decide +kernel
theorem dX13_isTextOf_27 : decode cX13_isTextOf 27 = .ok (.lcmp, 1) := by decide +kernel
theorem dX13_isTextOf_28 : decode cX13_isTextOf 28 = .ok (.ifCond .ne 7, 3) := by decide +kernel
theorem dX13_isTextOf_31 : decode cX13_isTextOf 31 = .ok (.iconst 1, 1) := by decide +kernel
theorem dX13_isTextOf_32 : decode cX13_isTextOf 32 = .ok (.goto 4, 3) := by decide +kernel
theorem dX13_isTextOf_35 : decode cX13_isTextOf 35 = .ok (.iconst 0, 1) := by decide +kernel
theorem dX13_isTextOf_36 : decode cX13_isTextOf 36 = .ok (.istore_n 3, 1) := by decide +kernel
theorem dX13_isTextOf_37 : decode cX13_isTextOf 37 = .ok (.iconst 0, 1) := by decide +kernel
theorem dX13_isTextOf_38 : decode cX13_isTextOf 38 = .ok (.istore 4, 2) := by decide +kernel
theorem dX13_isTextOf_4 : decode cX13_isTextOf 4 = .ok (.iload_n 2, 1) := by decide +kernel
theorem dX13_isTextOf_40 : decode cX13_isTextOf 40 = .ok (.iload_n 3, 1) := by decide +kernel
theorem dX13_isTextOf_41 : decode cX13_isTextOf 41 = .ok (.ifCond .eq 52, 3) := by decide +kernel
theorem dX13_isTextOf_44 : decode cX13_isTextOf 44 = .ok (.iload 4, 2) := by decide +kernel
theorem dX13_isTextOf_46 : decode cX13_isTextOf 46 = .ok (.aload_n 0, 1) := by decide +kernel
theorem dX13_isTextOf_47 : decode cX13_isTextOf 47 = .ok (.getfield 36, 3) := by decide +kernel
theorem dX13_isTextOf_5 : decode cX13_isTextOf 5 = .ok (.laload, 1) := by decide +kernel
theorem dX13_isTextOf_50 : decode cX13_isTextOf 50 = .ok (.iload_n 1, 1) := by decide +kernel
theorem dX13_isTextOf_51 : decode cX13_isTextOf 51 = .ok (.laload, 1) := by decide +kernel
theorem dX13_isTextOf_52 : decode cX13_isTextOf 52 = .ok (.l2i, 1) := by decide +kernel
theorem dX13_isTextOf_53 : decode cX13_isTextOf 53 = .ok (.if_icmp .ge 40, 3) := by decide +kernel
theorem dX13_isTextOf_56 : decode cX13_isTextOf 56 = .ok (.aload_n 0, 1) := by decide +kernel
theorem dX13_isTextOf_57 : decode cX13_isTextOf 57 = .ok (.iload_n 2, 1) := by decide +kernel
theorem dX13_isTextOf_58 : decode cX13_isTextOf 58 = .ok (.iload 4, 2) := by decide +kernel
theorem dX13_isTextOf_6 : decode cX13_isTextOf 6 = .ok (.ldc2_w 994, 3) := by decide +kernel
theorem dX13_isTextOf_60 : decode cX13_isTextOf 60 = .ok (.invokevirtual 996, 3) := by decide +kernel
theorem dX13_isTextOf_63 : decode cX13_isTextOf 63 = .ok (.aload_n 0, 1) := by decide +kernel
theorem dX13_isTextOf_64 : decode cX13_isTextOf 64 = .ok (.getfield 51, 3) := by decide +kernel
theorem dX13_isTextOf_67 : decode cX13_isTextOf 67 = .ok (.aload_n 0, 1) := by decide +kernel
theorem dX13_isTextOf_68 : decode cX13_isTextOf 68 = .ok (.getfield 32, 3) := by decide +kernel
theorem dX13_isTextOf_71 : decode cX13_isTextOf 71 = .ok (.iload_n 1, 1) := by decide +kernel
theorem dX13_isTextOf_72 : decode cX13_isTextOf 72 = .ok (.laload, 1) := by decide +kernel
theorem dX13_isTextOf_73 : decode cX13_isTextOf 73 = .ok (.l2i, 1) := by decide +kernel
theorem dX13_isTextOf_74 : decode cX13_isTextOf 74 = .ok (.iload 4, 2) := by decide +kernel
theorem dX13_isTextOf_76 : decode cX13_isTextOf 76 = .ok (.iadd, 1) := by decide +kernel
theorem dX13_isTextOf_77 : decode cX13_isTextOf 77 = .ok (.iaload, 1) := by decide +kernel
theorem dX13_isTextOf_78 : decode cX13_isTextOf 78 = .ok (.if_icmp .ne 7, 3) := by decide +kernel
theorem dX13_isTextOf_81 : decode cX13_isTextOf 81 = .ok (.iconst 1, 1) := by decide +kernel
theorem dX13_isTextOf_82 : decode cX13_isTextOf 82 = .ok (.goto 4, 3) := by decide +kernel
theorem dX13_isTextOf_85 : decode cX13_isTextOf 85 = .ok (.iconst 0, 1) := by decide +kernel
theorem dX13_isTextOf_86 : decode cX13_isTextOf 86 = .ok (.istore_n 3, 1) := by decide +kernel
theorem dX13_isTextOf_87 : decode cX13_isTextOf 87 = .ok (.iinc 4 1, 3) := by decide +kernel
theorem dX13_isTextOf_9 : decode cX13_isTextOf 9 = .ok (.lcmp, 1) := by decide +kernel
theorem dX13_isTextOf_90 : decode cX13_isTextOf 90 = .ok (.goto (-50), 3) := by decide +kernel
theorem dX13_isTextOf_93 : decode cX13_isTextOf 93 = .ok (.iload_n 3, 1) := by decide +kernel
theorem dX13_isTextOf_94 : decode cX13_isTextOf 94 = .ok (.ireturn, 1) := by decide +kernel
noncomputable def k_X13_isTextOf_86 (l1 : Int32) (l2 : Int32) (l4 : Int32) (k0 : Int32) (s : t_S) : Option ((Int32 × Int32 × Int32 × Int32) ⊕ (Int32)) :=
 some (.inl (l1, l2, k0, (l4 + 1)))
set_option maxRecDepth 4000 in
set_option maxHeartbeats 1000000 in
theorem B_X13_isTextOf_86 {D : va_G} {cy : Nat → ClassId} {ad : Nat → Nat} {bs : Nat} {X : State → Heap → Prop} (l1 : Int32) (l2 : Int32) (l4 : Int32) (k0 : Int32) (s : t_S) (Q : (Int32 × Int32 × Int32 × Int32) ⊕ (Int32) → Prop) (Hb40 : ∀ (y0 : Int32) (y1 : Int32) (y2 : Int32) (y3 : Int32), Q (.inl (y0, y1, y2, y3)) → mj_G D cy ad bs X cX13_isTextOf 5 yX13_isTextOf.cls (some .boolean) yX13_isTextOf.name 1 0 0 1065 (t_P (fun v s' => s' = s ∧ ∃ x, v = some (.int x) ∧ Q (.inr (x)))) 40 [(0, .ref 950), (1, .int (y0)), (2, .int (y1)), (3, .int (y2)), (4, .int (y3))] [] (t_m s) 1065 0 0) (hk : t_hk (k_X13_isTextOf_86 l1 l2 l4 k0 s) Q) : mj_G D cy ad bs X cX13_isTextOf 5 yX13_isTextOf.cls (some .boolean) yX13_isTextOf.name 1 0 0 1065 (t_P (fun v s' => s' = s ∧ ∃ x, v = some (.int x) ∧ Q (.inr (x)))) 86 [(0, .ref 950), (1, .int l1), (2, .int l2), (4, .int l4)] [.int k0] (t_m s) 1065 0 0 := by
  refine mj_istore_n 3 (lv2 := [(3, .int k0), (0, .ref 950), (1, .int l1), (2, .int l2), (4, .int l4)]) dX13_isTextOf_86 rfl (by decide) rfl ?_
  refine mj_iinc (k := 4) (v := (l4 + 1)) (lv2 := [(4, .int (l4 + 1)), (3, .int k0), (0, .ref 950), (1, .int l1), (2, .int l2)]) dX13_isTextOf_87 rfl rfl (by decide) rfl ?_
  refine mj_goto 40 dX13_isTextOf_90 (by decide) ?_
  refine mj_sublv [(0, .ref 950), (1, .int l1), (2, .int l2), (3, .int k0), (4, .int (l4 + 1))] [2, 3, 4, 1, 0] rfl ?_
  exact t_somK hk (fun hf => Hb40 l1 l2 k0 (l4 + 1) hf)
noncomputable def k_X13_isTextOf_40 (l1 : Int32) (l2 : Int32) (l3 : Int32) (l4 : Int32) (s : t_S) : Option ((Int32 × Int32 × Int32 × Int32) ⊕ (Int32)) :=
 if l3 = (0 : Int32) then ((if l3 = 0 ∨ l3 = 1 then
  some (l3)
else none).map Sum.inr)
 else (if t_ix l1 13000 = true then
  if ((s.2.1 958 (l1.toNatClampNeg)).toInt32) ≤ l4 then ((if l3 = 0 ∨ l3 = 1 then
  some (l3)
else none).map Sum.inr)
 else ((f_X13_signOf l2 l4 s).bind (fun r4 =>
 if t_ix (((s.2.1 957 (l1.toNatClampNeg)).toInt32) + l4) 24300 = true then
  if r4 = (s.1 963 ((((s.2.1 957 (l1.toNatClampNeg)).toInt32) + l4).toNatClampNeg)) then (k_X13_isTextOf_86 l1 l2 l4 1 s)
 else (k_X13_isTextOf_86 l1 l2 l4 0 s)
else none))
else none)
set_option maxRecDepth 4000 in
set_option maxHeartbeats 1000000 in
theorem B_X13_isTextOf_40 {D : va_G} {cy : Nat → ClassId} {ad : Nat → Nat} {bs : Nat} {X : State → Heap → Prop} (l1 : Int32) (l2 : Int32) (l3 : Int32) (l4 : Int32) (s : t_S) (Q : (Int32 × Int32 × Int32 × Int32) ⊕ (Int32) → Prop) (Hb40 : ∀ (y0 : Int32) (y1 : Int32) (y2 : Int32) (y3 : Int32), Q (.inl (y0, y1, y2, y3)) → mj_G D cy ad bs X cX13_isTextOf 5 yX13_isTextOf.cls (some .boolean) yX13_isTextOf.name 1 0 0 1065 (t_P (fun v s' => s' = s ∧ ∃ x, v = some (.int x) ∧ Q (.inr (x)))) 40 [(0, .ref 950), (1, .int (y0)), (2, .int (y1)), (3, .int (y2)), (4, .int (y3))] [] (t_m s) 1065 0 0) (hk : t_hk (k_X13_isTextOf_40 l1 l2 l3 l4 s) Q) : mj_G D cy ad bs X cX13_isTextOf 5 yX13_isTextOf.cls (some .boolean) yX13_isTextOf.name 1 0 0 1065 (t_P (fun v s' => s' = s ∧ ∃ x, v = some (.int x) ∧ Q (.inr (x)))) 40 [(0, .ref 950), (1, .int l1), (2, .int l2), (3, .int l3), (4, .int l4)] [] (t_m s) 1065 0 0 := by
  refine mj_iload_n dX13_isTextOf_40 3 rfl ?_
  refine mj_if_eq 93 dX13_isTextOf_41 (by decide) (fun z => t_posK hk z (fun hk => ?_)) (fun z => t_negK hk z (fun hk => ?_))
  · refine t_mapK hk (fun hk => ?_)
    refine mj_iload_n dX13_isTextOf_93 3 rfl ?_
    refine t_chkK hk (fun c0 hk => ?_)
    exact t_somK hk (fun hf => t_iret dX13_isTextOf_94 rfl (t_zfit c0) ⟨rfl, _, rfl, hf⟩ (Nat.le_of_ble_eq_true rfl) (Nat.le_of_ble_eq_true rfl))
  · refine mj_iload dX13_isTextOf_44 4 rfl ?_
    refine mj_aload_n dX13_isTextOf_46 0 rfl ?_
    refine t_getR 958 dX13_isTextOf_47 F_X13_36 qr_950_20 ?_
    refine mj_iload_n dX13_isTextOf_50 1 rfl ?_
    refine t_chkK hk (fun c1 hk => ?_)
    refine t_lald dX13_isTextOf_51 qa_958 (t_ixv c1) ?_
    refine mj_l2i (v := (s.2.1 958 (l1.toNatClampNeg)).toInt32) dX13_isTextOf_52 rfl ?_
    refine mj_icmp_ge 93 dX13_isTextOf_53 (by decide) (fun z => t_posK hk z (fun hk => ?_)) (fun z => t_negK hk z (fun hk => ?_))
    · refine t_mapK hk (fun hk => ?_)
      refine mj_iload_n dX13_isTextOf_93 3 rfl ?_
      refine t_chkK hk (fun c2 hk => ?_)
      exact t_somK hk (fun hf => t_iret dX13_isTextOf_94 rfl (t_zfit c2) ⟨rfl, _, rfl, hf⟩ (Nat.le_of_ble_eq_true rfl) (Nat.le_of_ble_eq_true rfl))
    · refine mj_aload_n dX13_isTextOf_56 0 rfl ?_
      refine mj_iload_n dX13_isTextOf_57 2 rfl ?_
      refine mj_iload dX13_isTextOf_58 4 rfl ?_
      refine t_bndK hk (fun r4 er4 hk => ?_)
      refine t_callViP dX13_isTextOf_60 M_X13_signOf (C_X13_signOf _ _ _ _ er4) ML_X13_996 IM_X13_signOf SE_X13_signOf qc_950 rfl (As := [.int l2, .int l4]) rfl rfl (Nat.le_of_ble_eq_true rfl) (Nat.le_of_ble_eq_true rfl) (Nat.le_of_ble_eq_true rfl) (Nat.le_of_ble_eq_true rfl) ?_
      refine mj_aload_n dX13_isTextOf_63 0 rfl ?_
      refine t_getR 963 dX13_isTextOf_64 F_X13_51 qr_950_35 ?_
      refine mj_aload_n dX13_isTextOf_67 0 rfl ?_
      refine t_getR 957 dX13_isTextOf_68 F_X13_32 qr_950_19 ?_
      refine mj_iload_n dX13_isTextOf_71 1 rfl ?_
      refine t_lald dX13_isTextOf_72 qa_957 (t_ixv c1) ?_
      refine mj_l2i (v := (s.2.1 957 (l1.toNatClampNeg)).toInt32) dX13_isTextOf_73 rfl ?_
      refine mj_iload dX13_isTextOf_74 4 rfl ?_
      refine mj_iadd dX13_isTextOf_76 ?_
      refine t_chkK hk (fun c4 hk => ?_)
      refine t_iald dX13_isTextOf_77 qa_963 (t_ixv c4) ?_
      refine mj_icmp_ne 85 dX13_isTextOf_78 (by decide) (fun z => t_negK hk z (fun hk => ?_)) (fun z => t_posK hk z (fun hk => ?_))
      · refine mj_iconst (v := 0) dX13_isTextOf_85 (by decide) ?_
        refine mj_sublv [(0, .ref 950), (1, .int l1), (2, .int l2), (4, .int l4)] [0, 1, 2, 4] rfl ?_
        exact B_X13_isTextOf_86 _ _ _ _ _ _ (fun y0 y1 y2 y3 hx => Hb40 y0 y1 y2 y3 hx) hk
      · refine mj_iconst (v := 1) dX13_isTextOf_81 (by decide) ?_
        refine mj_goto 86 dX13_isTextOf_82 (by decide) ?_
        refine mj_sublv [(0, .ref 950), (1, .int l1), (2, .int l2), (4, .int l4)] [0, 1, 2, 4] rfl ?_
        exact B_X13_isTextOf_86 _ _ _ _ _ _ (fun y0 y1 y2 y3 hx => Hb40 y0 y1 y2 y3 hx) hk
noncomputable def b_X13_isTextOf_40 (s : t_S) (x : Int32 × Int32 × Int32 × Int32) : Option ((Int32 × Int32 × Int32 × Int32) ⊕ (Int32)) := k_X13_isTextOf_40 x.1 x.2.1 x.2.2.1 x.2.2.2 s
set_option maxRecDepth 4000 in
set_option maxHeartbeats 1000000 in
theorem LH_X13_isTextOf_40 {D : va_G} {cy : Nat → ClassId} {ad : Nat → Nat} {bs : Nat} {X : State → Heap → Prop} (s : t_S) : ∀ (n : Nat) (y0 : Int32) (y1 : Int32) (y2 : Int32) (y3 : Int32) (Q : Int32 → Prop) (hk : t_hk (t_loop (b_X13_isTextOf_40 s) n (y0, y1, y2, y3)) Q), mj_G D cy ad bs X cX13_isTextOf 5 yX13_isTextOf.cls (some .boolean) yX13_isTextOf.name 1 0 0 1065 (t_P (fun v s' => s' = s ∧ ∃ x, v = some (.int x) ∧ Q (x))) 40 [(0, .ref 950), (1, .int (y0)), (2, .int (y1)), (3, .int (y2)), (4, .int (y3))] [] (t_m s) 1065 0 0 := by
  intro n
  induction n with
  | zero => intro y0 y1 y2 y3 Q hk; obtain ⟨r, hr, _⟩ := hk; cases hr
  | succ n ih =>
    intro y0 y1 y2 y3 Q hk
    exact B_X13_isTextOf_40 y0 y1 y2 y3 s (fun y => t_lq (b_X13_isTextOf_40 s) n Q y) (fun y0' y1' y2' y3' hy => ih y0' y1' y2' y3' Q hy) (t_lp (b := b_X13_isTextOf_40 s) (n := n) (x := (y0, y1, y2, y3)) hk)
noncomputable def k_X13_isTextOf_36 (l1 : Int32) (l2 : Int32) (k0 : Int32) (s : t_S) : Option (Int32) :=
 t_loop (b_X13_isTextOf_40 s) t_N (l1, l2, k0, 0)
set_option maxRecDepth 4000 in
set_option maxHeartbeats 1000000 in
theorem B_X13_isTextOf_36 {D : va_G} {cy : Nat → ClassId} {ad : Nat → Nat} {bs : Nat} {X : State → Heap → Prop} (l1 : Int32) (l2 : Int32) (k0 : Int32) (s : t_S) (Q : Int32 → Prop) (hk : t_hk (k_X13_isTextOf_36 l1 l2 k0 s) Q) : mj_G D cy ad bs X cX13_isTextOf 5 yX13_isTextOf.cls (some .boolean) yX13_isTextOf.name 1 0 0 1065 (t_P (fun v s' => s' = s ∧ ∃ x, v = some (.int x) ∧ Q (x))) 36 [(0, .ref 950), (1, .int l1), (2, .int l2)] [.int k0] (t_m s) 1065 0 0 := by
  refine mj_istore_n 3 (lv2 := [(3, .int k0), (0, .ref 950), (1, .int l1), (2, .int l2)]) dX13_isTextOf_36 rfl (by decide) rfl ?_
  refine mj_iconst (v := 0) dX13_isTextOf_37 (by decide) ?_
  refine mj_istore (lv2 := [(4, .int 0), (3, .int k0), (0, .ref 950), (1, .int l1), (2, .int l2)]) dX13_isTextOf_38 (by decide) rfl ?_
  refine mj_sublv [(0, .ref 950), (1, .int l1), (2, .int l2), (3, .int k0), (4, .int 0)] [2, 3, 4, 1, 0] rfl ?_
  exact LH_X13_isTextOf_40 _ _ l1 l2 k0 0 _ hk
noncomputable def k_X13_isTextOf_35 (l1 : Int32) (l2 : Int32) (s : t_S) : Option (Int32) :=
 k_X13_isTextOf_36 l1 l2 0 s
set_option maxRecDepth 4000 in
set_option maxHeartbeats 1000000 in
theorem B_X13_isTextOf_35 {D : va_G} {cy : Nat → ClassId} {ad : Nat → Nat} {bs : Nat} {X : State → Heap → Prop} (l1 : Int32) (l2 : Int32) (s : t_S) (Q : Int32 → Prop) (hk : t_hk (k_X13_isTextOf_35 l1 l2 s) Q) : mj_G D cy ad bs X cX13_isTextOf 5 yX13_isTextOf.cls (some .boolean) yX13_isTextOf.name 1 0 0 1065 (t_P (fun v s' => s' = s ∧ ∃ x, v = some (.int x) ∧ Q (x))) 35 [(0, .ref 950), (1, .int l1), (2, .int l2)] [] (t_m s) 1065 0 0 := by
  refine mj_iconst (v := 0) dX13_isTextOf_35 (by decide) ?_
  exact B_X13_isTextOf_36 _ _ _ _ _ hk
noncomputable def f_X13_isTextOf (x1 : Int32) (x2 : Int32) (s : t_S) : Option (Int32) :=
 if t_ix x2 626600 = true then
  if (lg_cmp (s.2.1 1006 (x2.toNatClampNeg)) (2 : Int64)) = (0 : Int32) then (if t_ix (x2 + (1 : Int32)) 626600 = true then
  if t_ix x1 13000 = true then
  if (lg_cmp (s.2.1 1006 ((x2 + (1 : Int32)).toNatClampNeg)) (s.2.1 958 (x1.toNatClampNeg))) = (0 : Int32) then (k_X13_isTextOf_36 x1 x2 1 s)
 else (k_X13_isTextOf_35 x1 x2 s)
else none
else none)
 else (k_X13_isTextOf_35 x1 x2 s)
else none
set_option maxRecDepth 4000 in
set_option maxHeartbeats 1000000 in
theorem C_X13_isTextOf (x1 : Int32) (x2 : Int32) (s : t_S) (r : Int32) (hr : f_X13_isTextOf x1 x2 s = some r) : t_C yX13_isTextOf cX13_isTextOf 5 (some .boolean) 1 [.ref 950, .int x1, .int x2] s (fun v s' => v = some (.int r) ∧ s' = s) := by
  refine t_C.imp (P := fun v s' => s' = s ∧ ∃ x, v = some (.int x) ∧ (fun q => q = r) (x)) (t_C.of (by decide +kernel) (Nat.le_of_ble_eq_true rfl) ?_) (fun v s' hp => by obtain ⟨rfl, x, rfl, rfl⟩ := hp; exact ⟨rfl, rfl⟩)
  intro D cy ad bs X
  have hk : t_hk (f_X13_isTextOf x1 x2 s) (fun q => q = r) := ⟨r, hr, rfl⟩
  show mj_G D cy ad bs X cX13_isTextOf 5 yX13_isTextOf.cls (some .boolean) yX13_isTextOf.name 1 0 0 1065 (t_P (fun v s' => s' = s ∧ ∃ x, v = some (.int x) ∧ (fun q => q = r) (x))) 0 [(0, .ref 950), (1, .int x1), (2, .int x2)] [] (t_m s) 1065 0 0
  refine mj_aload_n dX13_isTextOf_0 0 rfl ?_
  refine t_getR 1006 dX13_isTextOf_1 F_X13_182 qr_950_95 ?_
  refine mj_iload_n dX13_isTextOf_4 2 rfl ?_
  refine t_chkK hk (fun c0 hk => ?_)
  refine t_lald dX13_isTextOf_5 qa_1006 (t_ixv c0) ?_
  refine mj_ldc2 dX13_isTextOf_6 K_X13_994 ?_
  refine mj_lcmp dX13_isTextOf_9 ?_
  refine mj_if_ne 35 dX13_isTextOf_10 (by decide) (fun z => t_negK hk z (fun hk => ?_)) (fun z => t_posK hk z (fun hk => ?_))
  · exact B_X13_isTextOf_35 _ _ _ _ hk
  · refine mj_aload_n dX13_isTextOf_13 0 rfl ?_
    refine t_getR 1006 dX13_isTextOf_14 F_X13_182 qr_950_95 ?_
    refine mj_iload_n dX13_isTextOf_17 2 rfl ?_
    refine mj_iconst (v := 1) dX13_isTextOf_18 (by decide) ?_
    refine mj_iadd dX13_isTextOf_19 ?_
    refine t_chkK hk (fun c1 hk => ?_)
    refine t_lald dX13_isTextOf_20 qa_1006 (t_ixv c1) ?_
    refine mj_aload_n dX13_isTextOf_21 0 rfl ?_
    refine t_getR 958 dX13_isTextOf_22 F_X13_36 qr_950_20 ?_
    refine mj_iload_n dX13_isTextOf_25 1 rfl ?_
    refine t_chkK hk (fun c2 hk => ?_)
    refine t_lald dX13_isTextOf_26 qa_958 (t_ixv c2) ?_
    refine mj_lcmp dX13_isTextOf_27 ?_
    refine mj_if_ne 35 dX13_isTextOf_28 (by decide) (fun z => t_negK hk z (fun hk => ?_)) (fun z => t_posK hk z (fun hk => ?_))
    · exact B_X13_isTextOf_35 _ _ _ _ hk
    · refine mj_iconst (v := 1) dX13_isTextOf_31 (by decide) ?_
      refine mj_goto 36 dX13_isTextOf_32 (by decide) ?_
      exact B_X13_isTextOf_36 _ _ _ _ _ hk

theorem dX13_finds_0 : decode cX13_finds 0 = .ok (.iconst 0, 1) := by decide +kernel
theorem dX13_finds_1 : decode cX13_finds 1 = .ok (.istore_n 3, 1) := by decide +kernel
theorem dX13_finds_11 : decode cX13_finds 11 = .ok (.iload_n 1, 1) := by decide +kernel
theorem dX13_finds_12 : decode cX13_finds 12 = .ok (.iaload, 1) := by decide +kernel
theorem dX13_finds_13 : decode cX13_finds 13 = .ok (.iload_n 3, 1) := by decide +kernel
theorem dX13_finds_14 : decode cX13_finds 14 = .ok (.ishr, 1) := by decide +kernel
theorem dX13_finds_15 : decode cX13_finds 15 = .ok (.iconst 1, 1) := by decide +kernel
theorem dX13_finds_16 : decode cX13_finds 16 = .ok (.iand, 1) := by decide +kernel
theorem dX13_finds_17 : decode cX13_finds 17 = .ok (.iconst 1, 1) := by decide +kernel
theorem dX13_finds_18 : decode cX13_finds 18 = .ok (.if_icmp .ne 51, 3) := by decide +kernel
theorem dX13_finds_2 : decode cX13_finds 2 = .ok (.iload_n 3, 1) := by decide +kernel
theorem dX13_finds_21 : decode cX13_finds 21 = .ok (.aload_n 0, 1) := by decide +kernel
theorem dX13_finds_22 : decode cX13_finds 22 = .ok (.getfield 267, 3) := by decide +kernel
theorem dX13_finds_25 : decode cX13_finds 25 = .ok (.iload_n 3, 1) := by decide +kernel
theorem dX13_finds_26 : decode cX13_finds 26 = .ok (.baload, 1) := by decide +kernel
theorem dX13_finds_27 : decode cX13_finds 27 = .ok (.ifCond .ne 42, 3) := by decide +kernel
theorem dX13_finds_3 : decode cX13_finds 3 = .ok (.iload_n 2, 1) := by decide +kernel
theorem dX13_finds_30 : decode cX13_finds 30 = .ok (.aload_n 0, 1) := by decide +kernel
theorem dX13_finds_31 : decode cX13_finds 31 = .ok (.getfield 267, 3) := by decide +kernel
theorem dX13_finds_34 : decode cX13_finds 34 = .ok (.iload_n 3, 1) := by decide +kernel
theorem dX13_finds_35 : decode cX13_finds 35 = .ok (.iconst 1, 1) := by decide +kernel
theorem dX13_finds_36 : decode cX13_finds 36 = .ok (.bastore, 1) := by decide +kernel
theorem dX13_finds_37 : decode cX13_finds 37 = .ok (.aload_n 0, 1) := by decide +kernel
theorem dX13_finds_38 : decode cX13_finds 38 = .ok (.getfield 264, 3) := by decide +kernel
theorem dX13_finds_4 : decode cX13_finds 4 = .ok (.if_icmp .ge 71, 3) := by decide +kernel
theorem dX13_finds_41 : decode cX13_finds 41 = .ok (.iload_n 3, 1) := by decide +kernel
theorem dX13_finds_42 : decode cX13_finds 42 = .ok (.iaload, 1) := by decide +kernel
theorem dX13_finds_43 : decode cX13_finds 43 = .ok (.ifCond .lt 17, 3) := by decide +kernel
theorem dX13_finds_46 : decode cX13_finds 46 = .ok (.aload_n 0, 1) := by decide +kernel
theorem dX13_finds_47 : decode cX13_finds 47 = .ok (.aload_n 0, 1) := by decide +kernel
theorem dX13_finds_48 : decode cX13_finds 48 = .ok (.getfield 264, 3) := by decide +kernel
theorem dX13_finds_51 : decode cX13_finds 51 = .ok (.iload_n 3, 1) := by decide +kernel
theorem dX13_finds_52 : decode cX13_finds 52 = .ok (.iaload, 1) := by decide +kernel
theorem dX13_finds_53 : decode cX13_finds 53 = .ok (.iload_n 2, 1) := by decide +kernel
theorem dX13_finds_54 : decode cX13_finds 54 = .ok (.invokestatic 1279, 3) := by decide +kernel
theorem dX13_finds_57 : decode cX13_finds 57 = .ok (.ifCond .eq 12, 3) := by decide +kernel
theorem dX13_finds_60 : decode cX13_finds 60 = .ok (.aload_n 0, 1) := by decide +kernel
theorem dX13_finds_61 : decode cX13_finds 61 = .ok (.getfield 264, 3) := by decide +kernel
theorem dX13_finds_64 : decode cX13_finds 64 = .ok (.iload_n 3, 1) := by decide +kernel
theorem dX13_finds_65 : decode cX13_finds 65 = .ok (.iload_n 1, 1) := by decide +kernel
theorem dX13_finds_66 : decode cX13_finds 66 = .ok (.iastore, 1) := by decide +kernel
theorem dX13_finds_67 : decode cX13_finds 67 = .ok (.iconst 1, 1) := by decide +kernel
theorem dX13_finds_68 : decode cX13_finds 68 = .ok (.ireturn, 1) := by decide +kernel
theorem dX13_finds_69 : decode cX13_finds 69 = .ok (.iinc 3 1, 3) := by decide +kernel
theorem dX13_finds_7 : decode cX13_finds 7 = .ok (.aload_n 0, 1) := by decide +kernel
theorem dX13_finds_72 : decode cX13_finds 72 = .ok (.goto (-70), 3) := by decide +kernel
theorem dX13_finds_75 : decode cX13_finds 75 = .ok (.iconst 0, 1) := by decide +kernel
theorem dX13_finds_76 : decode cX13_finds 76 = .ok (.ireturn, 1) := by decide +kernel
theorem dX13_finds_8 : decode cX13_finds 8 = .ok (.getfield 261, 3) := by decide +kernel
abbrev RT_X13_finds : Type := (Int32 → Int32 → t_S → Option (Int32 × t_S))
def RH_X13_finds (rc : RT_X13_finds) (k : Nat) : Prop := (∀ (x2 : Int32) (x3 : Int32) (s : t_S) (r : Int32 × t_S), rc x2 x3 s = some r → t_C yX13_finds cX13_finds 4 (some .boolean) (0 + k) [.ref 950, .int x2, .int x3] s (fun v s' => v = some (.int r.1) ∧ s' = r.2))
noncomputable def k_X13_finds_60 (rc : RT_X13_finds) (l1 : Int32) (l3 : Int32) (s : t_S) : Option (Int32 × t_S) :=
 if t_ix l3 16 = true then
  t_let (t_setI s 1032 (l3.toNatClampNeg) l1) (fun s1 =>
 some ((1 : Int32), s1))
else none
set_option maxRecDepth 4000 in
set_option maxHeartbeats 1000000 in
theorem B_X13_finds_60 {D : va_G} {cy : Nat → ClassId} {ad : Nat → Nat} {bs : Nat} {X : State → Heap → Prop} (rc : RT_X13_finds) {k : Nat} (H : RH_X13_finds rc k) (l1 : Int32) (l3 : Int32) (s : t_S) (Q : Int32 × t_S → Prop) (hk : t_hk (k_X13_finds_60 rc l1 l3 s) Q) : mj_G D cy ad bs X cX13_finds 4 yX13_finds.cls (some .boolean) yX13_finds.name (0 + (k + 1)) 0 0 1065 (t_P (fun v s' => ∃ x, v = some (.int x) ∧ Q ((x, s')))) 60 [(0, .ref 950), (1, .int l1), (3, .int l3)] [] (t_m s) 1065 0 0 := by
  refine mj_aload_n dX13_finds_60 0 rfl ?_
  refine t_getR 1032 dX13_finds_61 F_X13_264 qr_950_143 ?_
  refine mj_iload_n dX13_finds_64 2 rfl ?_
  refine mj_iload_n dX13_finds_65 1 rfl ?_
  refine t_chkK hk (fun c0 hk => ?_)
  refine t_iastK dX13_finds_66 qa_1032 (t_ixv c0) (fun s1 ws1 => t_letE hk ws1 (fun hk => ?_))
  refine mj_iconst (v := 1) dX13_finds_67 (by decide) ?_
  exact t_somK hk (fun hf => t_iret dX13_finds_68 rfl (by decide) ⟨_, rfl, hf⟩ (Nat.le_of_ble_eq_true rfl) (Nat.le_of_ble_eq_true rfl))
noncomputable def k_X13_finds_69 (rc : RT_X13_finds) (l1 : Int32) (l2 : Int32) (l3 : Int32) (s : t_S) : Option ((Int32 × Int32 × Int32 × t_S) ⊕ (Int32 × t_S)) :=
 some (.inl (l1, l2, (l3 + 1), s))
set_option maxRecDepth 4000 in
set_option maxHeartbeats 1000000 in
theorem B_X13_finds_69 {D : va_G} {cy : Nat → ClassId} {ad : Nat → Nat} {bs : Nat} {X : State → Heap → Prop} (rc : RT_X13_finds) {k : Nat} (H : RH_X13_finds rc k) (l1 : Int32) (l2 : Int32) (l3 : Int32) (s : t_S) (Q : (Int32 × Int32 × Int32 × t_S) ⊕ (Int32 × t_S) → Prop) (Hb2 : ∀ (y0 : Int32) (y1 : Int32) (y2 : Int32) (y3 : t_S), Q (.inl (y0, y1, y2, y3)) → mj_G D cy ad bs X cX13_finds 4 yX13_finds.cls (some .boolean) yX13_finds.name (0 + (k + 1)) 0 0 1065 (t_P (fun v s' => ∃ x, v = some (.int x) ∧ Q (.inr ((x, s'))))) 2 [(0, .ref 950), (1, .int (y0)), (2, .int (y1)), (3, .int (y2))] [] (t_m y3) 1065 0 0) (hk : t_hk (k_X13_finds_69 rc l1 l2 l3 s) Q) : mj_G D cy ad bs X cX13_finds 4 yX13_finds.cls (some .boolean) yX13_finds.name (0 + (k + 1)) 0 0 1065 (t_P (fun v s' => ∃ x, v = some (.int x) ∧ Q (.inr ((x, s'))))) 69 [(0, .ref 950), (1, .int l1), (2, .int l2), (3, .int l3)] [] (t_m s) 1065 0 0 := by
  refine mj_iinc (k := 3) (v := (l3 + 1)) (lv2 := [(3, .int (l3 + 1)), (0, .ref 950), (1, .int l1), (2, .int l2)]) dX13_finds_69 rfl rfl (by decide) rfl ?_
  refine mj_goto 2 dX13_finds_72 (by decide) ?_
  refine mj_sublv [(0, .ref 950), (1, .int l1), (2, .int l2), (3, .int (l3 + 1))] [1, 2, 3, 0] rfl ?_
  exact t_somK hk (fun hf => Hb2 l1 l2 (l3 + 1) s hf)
noncomputable def k_X13_finds_2 (rc : RT_X13_finds) (l1 : Int32) (l2 : Int32) (l3 : Int32) (s : t_S) : Option ((Int32 × Int32 × Int32 × t_S) ⊕ (Int32 × t_S)) :=
 if l2 ≤ l3 then ((some ((0 : Int32), s)).map Sum.inr)
 else (if t_ix l1 16 = true then
  if (((s.1 1031 (l1.toNatClampNeg)) >>> (l3 &&& 31)) &&& (1 : Int32)) = (1 : Int32) then (if t_ix l3 16 = true then
  if (s.1 1033 (l3.toNatClampNeg)) = (0 : Int32) then (t_let (t_setI s 1033 (l3.toNatClampNeg) (1 : Int32)) (fun s1 =>
 if (s1.1 1032 (l3.toNatClampNeg)) < (0 : Int32) then ((k_X13_finds_60 rc l1 l3 s1).map Sum.inr)
 else ((rc (s1.1 1032 (l3.toNatClampNeg)) l2 s1).bind (fun r3 =>
 if r3.1 = (0 : Int32) then (k_X13_finds_69 rc l1 l2 l3 r3.2)
 else ((k_X13_finds_60 rc l1 l3 r3.2).map Sum.inr)))))
 else (k_X13_finds_69 rc l1 l2 l3 s)
else none)
 else (k_X13_finds_69 rc l1 l2 l3 s)
else none)
set_option maxRecDepth 4000 in
set_option maxHeartbeats 1000000 in
theorem B_X13_finds_2 {D : va_G} {cy : Nat → ClassId} {ad : Nat → Nat} {bs : Nat} {X : State → Heap → Prop} (rc : RT_X13_finds) {k : Nat} (H : RH_X13_finds rc k) (l1 : Int32) (l2 : Int32) (l3 : Int32) (s : t_S) (Q : (Int32 × Int32 × Int32 × t_S) ⊕ (Int32 × t_S) → Prop) (Hb2 : ∀ (y0 : Int32) (y1 : Int32) (y2 : Int32) (y3 : t_S), Q (.inl (y0, y1, y2, y3)) → mj_G D cy ad bs X cX13_finds 4 yX13_finds.cls (some .boolean) yX13_finds.name (0 + (k + 1)) 0 0 1065 (t_P (fun v s' => ∃ x, v = some (.int x) ∧ Q (.inr ((x, s'))))) 2 [(0, .ref 950), (1, .int (y0)), (2, .int (y1)), (3, .int (y2))] [] (t_m y3) 1065 0 0) (hk : t_hk (k_X13_finds_2 rc l1 l2 l3 s) Q) : mj_G D cy ad bs X cX13_finds 4 yX13_finds.cls (some .boolean) yX13_finds.name (0 + (k + 1)) 0 0 1065 (t_P (fun v s' => ∃ x, v = some (.int x) ∧ Q (.inr ((x, s'))))) 2 [(0, .ref 950), (1, .int l1), (2, .int l2), (3, .int l3)] [] (t_m s) 1065 0 0 := by
  refine mj_iload_n dX13_finds_2 3 rfl ?_
  refine mj_iload_n dX13_finds_3 2 rfl ?_
  refine mj_icmp_ge 75 dX13_finds_4 (by decide) (fun z => t_posK hk z (fun hk => ?_)) (fun z => t_negK hk z (fun hk => ?_))
  · refine t_mapK hk (fun hk => ?_)
    refine mj_iconst (v := 0) dX13_finds_75 (by decide) ?_
    exact t_somK hk (fun hf => t_iret dX13_finds_76 rfl (by decide) ⟨_, rfl, hf⟩ (Nat.le_of_ble_eq_true rfl) (Nat.le_of_ble_eq_true rfl))
  · refine mj_aload_n dX13_finds_7 0 rfl ?_
    refine t_getR 1031 dX13_finds_8 F_X13_261 qr_950_142 ?_
    refine mj_iload_n dX13_finds_11 1 rfl ?_
    refine t_chkK hk (fun c0 hk => ?_)
    refine t_iald dX13_finds_12 qa_1031 (t_ixv c0) ?_
    refine mj_iload_n dX13_finds_13 3 rfl ?_
    refine mj_ishr dX13_finds_14 ?_
    refine mj_iconst (v := 1) dX13_finds_15 (by decide) ?_
    refine mj_iand dX13_finds_16 ?_
    refine mj_iconst (v := 1) dX13_finds_17 (by decide) ?_
    refine mj_icmp_ne 69 dX13_finds_18 (by decide) (fun z => t_negK hk z (fun hk => ?_)) (fun z => t_posK hk z (fun hk => ?_))
    · exact B_X13_finds_69 rc H _ _ _ _ _ (fun y0 y1 y2 y3 hx => Hb2 y0 y1 y2 y3 hx) hk
    · refine mj_aload_n dX13_finds_21 0 rfl ?_
      refine t_getR 1033 dX13_finds_22 F_X13_267 qr_950_144 ?_
      refine mj_iload_n dX13_finds_25 3 rfl ?_
      refine t_chkK hk (fun c1 hk => ?_)
      refine t_zald dX13_finds_26 qa_1033 (t_ixv c1) ?_
      refine mj_if_ne 69 dX13_finds_27 (by decide) (fun z => t_negK hk z (fun hk => ?_)) (fun z => t_posK hk z (fun hk => ?_))
      · exact B_X13_finds_69 rc H _ _ _ _ _ (fun y0 y1 y2 y3 hx => Hb2 y0 y1 y2 y3 hx) hk
      · refine mj_aload_n dX13_finds_30 0 rfl ?_
        refine t_getR 1033 dX13_finds_31 F_X13_267 qr_950_144 ?_
        refine mj_iload_n dX13_finds_34 3 rfl ?_
        refine mj_iconst (v := 1) dX13_finds_35 (by decide) ?_
        refine t_zastK dX13_finds_36 qa_1033 (t_ixv c1) (by decide) (fun s1 ws1 => t_letE hk ws1 (fun hk => ?_))
        refine mj_aload_n dX13_finds_37 0 rfl ?_
        refine t_getR 1032 dX13_finds_38 F_X13_264 qr_950_143 ?_
        refine mj_iload_n dX13_finds_41 3 rfl ?_
        refine t_iald dX13_finds_42 qa_1032 (t_ixv c1) ?_
        refine mj_if_lt 60 dX13_finds_43 (by decide) (fun z => t_posK hk z (fun hk => ?_)) (fun z => t_negK hk z (fun hk => ?_))
        · refine mj_sublv [(0, .ref 950), (1, .int l1), (3, .int l3)] [0, 1, 3] rfl ?_
          refine t_mapK hk (fun hk => ?_)
          exact B_X13_finds_60 rc H _ _ _ _ hk
        · refine mj_aload_n dX13_finds_46 0 rfl ?_
          refine mj_aload_n dX13_finds_47 0 rfl ?_
          refine t_getR 1032 dX13_finds_48 F_X13_264 qr_950_143 ?_
          refine mj_iload_n dX13_finds_51 3 rfl ?_
          refine t_iald dX13_finds_52 qa_1032 (t_ixv c1) ?_
          refine mj_iload_n dX13_finds_53 2 rfl ?_
          refine t_bndK hk (fun r3 er3 hk => ?_)
          refine t_callSiE dX13_finds_54 M_X13_finds (H _ _ _ _ er3) ML_X13_1279 SM_X13_finds (As := [.ref 950, .int (s1.1 1032 (l3.toNatClampNeg)), .int l2]) rfl rfl (by omega) (Nat.le_of_ble_eq_true rfl) (Nat.le_of_ble_eq_true rfl) (Nat.le_of_ble_eq_true rfl) ?_
          refine mj_if_eq 69 dX13_finds_57 (by decide) (fun z => t_posK hk z (fun hk => ?_)) (fun z => t_negK hk z (fun hk => ?_))
          · exact B_X13_finds_69 rc H _ _ _ _ _ (fun y0 y1 y2 y3 hx => Hb2 y0 y1 y2 y3 hx) hk
          · refine mj_sublv [(0, .ref 950), (1, .int l1), (3, .int l3)] [0, 1, 3] rfl ?_
            refine t_mapK hk (fun hk => ?_)
            exact B_X13_finds_60 rc H _ _ _ _ hk
noncomputable def b_X13_finds_2 (rc : RT_X13_finds) (x : Int32 × Int32 × Int32 × t_S) : Option ((Int32 × Int32 × Int32 × t_S) ⊕ (Int32 × t_S)) := k_X13_finds_2 rc x.1 x.2.1 x.2.2.1 x.2.2.2
set_option maxRecDepth 4000 in
set_option maxHeartbeats 1000000 in
theorem LH_X13_finds_2 {D : va_G} {cy : Nat → ClassId} {ad : Nat → Nat} {bs : Nat} {X : State → Heap → Prop} (rc : RT_X13_finds) {k : Nat} (H : RH_X13_finds rc k) : ∀ (n : Nat) (y0 : Int32) (y1 : Int32) (y2 : Int32) (y3 : t_S) (Q : Int32 × t_S → Prop) (hk : t_hk (t_loop (b_X13_finds_2 rc) n (y0, y1, y2, y3)) Q), mj_G D cy ad bs X cX13_finds 4 yX13_finds.cls (some .boolean) yX13_finds.name (0 + (k + 1)) 0 0 1065 (t_P (fun v s' => ∃ x, v = some (.int x) ∧ Q ((x, s')))) 2 [(0, .ref 950), (1, .int (y0)), (2, .int (y1)), (3, .int (y2))] [] (t_m y3) 1065 0 0 := by
  intro n
  induction n with
  | zero => intro y0 y1 y2 y3 Q hk; obtain ⟨r, hr, _⟩ := hk; cases hr
  | succ n ih =>
    intro y0 y1 y2 y3 Q hk
    exact B_X13_finds_2 rc H y0 y1 y2 y3 (fun y => t_lq (b_X13_finds_2 rc) n Q y) (fun y0' y1' y2' y3' hy => ih y0' y1' y2' y3' Q hy) (t_lp (b := b_X13_finds_2 rc) (n := n) (x := (y0, y1, y2, y3)) hk)
noncomputable def m_X13_finds (rc : RT_X13_finds) (x2 : Int32) (x3 : Int32) (s : t_S) : Option (Int32 × t_S) :=
 t_loop (b_X13_finds_2 rc) t_N (x2, x3, 0, s)
set_option maxRecDepth 4000 in
set_option maxHeartbeats 1000000 in
theorem E_X13_finds (rc : RT_X13_finds) {k : Nat} (H : RH_X13_finds rc k) (x2 : Int32) (x3 : Int32) (s : t_S) (r : Int32 × t_S) (hr : m_X13_finds rc x2 x3 s = some r) : t_C yX13_finds cX13_finds 4 (some .boolean) (0 + (k + 1)) [.ref 950, .int x2, .int x3] s (fun v s' => v = some (.int r.1) ∧ s' = r.2) := by
  refine t_C.imp (P := fun v s' => ∃ x, v = some (.int x) ∧ (fun q => q = r) ((x, s'))) (t_C.of (by decide +kernel) (Nat.le_of_ble_eq_true rfl) ?_) (fun v s' hp => by obtain ⟨x, rfl, rfl⟩ := hp; exact ⟨rfl, rfl⟩)
  intro D cy ad bs X
  have hk : t_hk (m_X13_finds rc x2 x3 s) (fun q => q = r) := ⟨r, hr, rfl⟩
  show mj_G D cy ad bs X cX13_finds 4 yX13_finds.cls (some .boolean) yX13_finds.name (0 + (k + 1)) 0 0 1065 (t_P (fun v s' => ∃ x, v = some (.int x) ∧ (fun q => q = r) ((x, s')))) 0 [(0, .ref 950), (1, .int x2), (2, .int x3)] [] (t_m s) 1065 0 0
  refine mj_iconst (v := 0) dX13_finds_0 (by decide) ?_
  refine mj_istore_n 3 (lv2 := [(3, .int 0), (0, .ref 950), (1, .int x2), (2, .int x3)]) dX13_finds_1 rfl (by decide) rfl ?_
  refine mj_sublv [(0, .ref 950), (1, .int x2), (2, .int x3), (3, .int 0)] [1, 2, 3, 0] rfl ?_
  exact LH_X13_finds_2 rc H _ x2 x3 0 s _ hk
/-- so many calls deep -/
noncomputable def R_X13_finds : Nat → RT_X13_finds
  | 0 => fun _ _ _ => none
  | k + 1 => fun x2 x3 s => m_X13_finds (R_X13_finds k) x2 x3 s
theorem RR_X13_finds : ∀ k : Nat, RH_X13_finds (R_X13_finds k) k := by
  intro k
  induction k with
  | zero => exact fun _ _ _ _ h => (by cases h)
  | succ k ih => exact fun x2 x3 s r h => E_X13_finds (R_X13_finds k) ih x2 x3 s r h
noncomputable def f_X13_finds (x2 : Int32) (x3 : Int32) (s : t_S) : Option (Int32 × t_S) := (R_X13_finds 100) x2 x3 s
theorem C_X13_finds (x2 : Int32) (x3 : Int32) (s : t_S) (r : Int32 × t_S) (hr : f_X13_finds x2 x3 s = some r) : t_C yX13_finds cX13_finds 4 (some .boolean) 100 [.ref 950, .int x2, .int x3] s (fun v s' => v = some (.int r.1) ∧ s' = r.2) := (RR_X13_finds 100) x2 x3 s r hr

theorem dX13_hasAll_0 : decode cX13_hasAll 0 = .ok (.iconst 0, 1) := by decide +kernel
theorem dX13_hasAll_1 : decode cX13_hasAll 1 = .ok (.istore 11, 2) := by decide +kernel
theorem dX13_hasAll_10 : decode cX13_hasAll 10 = .ok (.iload 11, 2) := by decide +kernel
theorem dX13_hasAll_100 : decode cX13_hasAll 100 = .ok (.istore 11, 2) := by decide +kernel
theorem dX13_hasAll_102 : decode cX13_hasAll 102 = .ok (.iload 11, 2) := by decide +kernel
theorem dX13_hasAll_104 : decode cX13_hasAll 104 = .ok (.iload 9, 2) := by decide +kernel
theorem dX13_hasAll_106 : decode cX13_hasAll 106 = .ok (.if_icmp .ge 46, 3) := by decide +kernel
theorem dX13_hasAll_109 : decode cX13_hasAll 109 = .ok (.iconst 0, 1) := by decide +kernel
theorem dX13_hasAll_110 : decode cX13_hasAll 110 = .ok (.istore 12, 2) := by decide +kernel
theorem dX13_hasAll_112 : decode cX13_hasAll 112 = .ok (.iload 12, 2) := by decide +kernel
theorem dX13_hasAll_114 : decode cX13_hasAll 114 = .ok (.bipush 16, 2) := by decide +kernel
theorem dX13_hasAll_116 : decode cX13_hasAll 116 = .ok (.if_icmp .ge 17, 3) := by decide +kernel
theorem dX13_hasAll_119 : decode cX13_hasAll 119 = .ok (.aload_n 0, 1) := by decide +kernel
theorem dX13_hasAll_12 : decode cX13_hasAll 12 = .ok (.iconst 4, 1) := by decide +kernel
theorem dX13_hasAll_120 : decode cX13_hasAll 120 = .ok (.getfield 267, 3) := by decide +kernel
theorem dX13_hasAll_123 : decode cX13_hasAll 123 = .ok (.iload 12, 2) := by decide +kernel
theorem dX13_hasAll_125 : decode cX13_hasAll 125 = .ok (.iconst 0, 1) := by decide +kernel
theorem dX13_hasAll_126 : decode cX13_hasAll 126 = .ok (.bastore, 1) := by decide +kernel
theorem dX13_hasAll_127 : decode cX13_hasAll 127 = .ok (.iinc 12 1, 3) := by decide +kernel
theorem dX13_hasAll_13 : decode cX13_hasAll 13 = .ok (.if_icmp .ge 7, 3) := by decide +kernel
theorem dX13_hasAll_130 : decode cX13_hasAll 130 = .ok (.goto (-18), 3) := by decide +kernel
theorem dX13_hasAll_133 : decode cX13_hasAll 133 = .ok (.aload_n 0, 1) := by decide +kernel
theorem dX13_hasAll_134 : decode cX13_hasAll 134 = .ok (.iload 11, 2) := by decide +kernel
theorem dX13_hasAll_136 : decode cX13_hasAll 136 = .ok (.iload 10, 2) := by decide +kernel
theorem dX13_hasAll_138 : decode cX13_hasAll 138 = .ok (.invokestatic 1279, 3) := by decide +kernel
theorem dX13_hasAll_141 : decode cX13_hasAll 141 = .ok (.ifCond .ne 5, 3) := by decide +kernel
theorem dX13_hasAll_144 : decode cX13_hasAll 144 = .ok (.iconst 0, 1) := by decide +kernel
theorem dX13_hasAll_145 : decode cX13_hasAll 145 = .ok (.ireturn, 1) := by decide +kernel
theorem dX13_hasAll_146 : decode cX13_hasAll 146 = .ok (.iinc 11 1, 3) := by decide +kernel
theorem dX13_hasAll_149 : decode cX13_hasAll 149 = .ok (.goto (-47), 3) := by decide +kernel
theorem dX13_hasAll_152 : decode cX13_hasAll 152 = .ok (.iconst 1, 1) := by decide +kernel
theorem dX13_hasAll_153 : decode cX13_hasAll 153 = .ok (.ireturn, 1) := by decide +kernel
theorem dX13_hasAll_16 : decode cX13_hasAll 16 = .ok (.lload_n 1, 1) := by decide +kernel
theorem dX13_hasAll_17 : decode cX13_hasAll 17 = .ok (.goto 28, 3) := by decide +kernel
theorem dX13_hasAll_20 : decode cX13_hasAll 20 = .ok (.iload 11, 2) := by decide +kernel
theorem dX13_hasAll_22 : decode cX13_hasAll 22 = .ok (.bipush 8, 2) := by decide +kernel
theorem dX13_hasAll_24 : decode cX13_hasAll 24 = .ok (.if_icmp .ge 7, 3) := by decide +kernel
theorem dX13_hasAll_27 : decode cX13_hasAll 27 = .ok (.lload_n 3, 1) := by decide +kernel
theorem dX13_hasAll_28 : decode cX13_hasAll 28 = .ok (.goto 17, 3) := by decide +kernel
theorem dX13_hasAll_3 : decode cX13_hasAll 3 = .ok (.iload 11, 2) := by decide +kernel
theorem dX13_hasAll_31 : decode cX13_hasAll 31 = .ok (.iload 11, 2) := by decide +kernel
theorem dX13_hasAll_33 : decode cX13_hasAll 33 = .ok (.bipush 12, 2) := by decide +kernel
theorem dX13_hasAll_35 : decode cX13_hasAll 35 = .ok (.if_icmp .ge 8, 3) := by decide +kernel
theorem dX13_hasAll_38 : decode cX13_hasAll 38 = .ok (.lload 5, 2) := by decide +kernel
theorem dX13_hasAll_40 : decode cX13_hasAll 40 = .ok (.goto 5, 3) := by decide +kernel
theorem dX13_hasAll_43 : decode cX13_hasAll 43 = .ok (.lload 7, 2) := by decide +kernel
theorem dX13_hasAll_45 : decode cX13_hasAll 45 = .ok (.lstore 12, 2) := by decide +kernel
theorem dX13_hasAll_47 : decode cX13_hasAll 47 = .ok (.aload_n 0, 1) := by decide +kernel
theorem dX13_hasAll_48 : decode cX13_hasAll 48 = .ok (.getfield 261, 3) := by decide +kernel
theorem dX13_hasAll_5 : decode cX13_hasAll 5 = .ok (.iload 9, 2) := by decide +kernel
theorem dX13_hasAll_51 : decode cX13_hasAll 51 = .ok (.iload 11, 2) := by decide +kernel
theorem dX13_hasAll_53 : decode cX13_hasAll 53 = .ok (.lload 12, 2) := by decide +kernel
theorem dX13_hasAll_55 : decode cX13_hasAll 55 = .ok (.bipush 16, 2) := by decide +kernel
theorem dX13_hasAll_57 : decode cX13_hasAll 57 = .ok (.iload 11, 2) := by decide +kernel
theorem dX13_hasAll_59 : decode cX13_hasAll 59 = .ok (.iconst 4, 1) := by decide +kernel
theorem dX13_hasAll_60 : decode cX13_hasAll 60 = .ok (.irem, 1) := by decide +kernel
theorem dX13_hasAll_61 : decode cX13_hasAll 61 = .ok (.imul, 1) := by decide +kernel
theorem dX13_hasAll_62 : decode cX13_hasAll 62 = .ok (.lshr, 1) := by decide +kernel
theorem dX13_hasAll_63 : decode cX13_hasAll 63 = .ok (.ldc2_w 1277, 3) := by decide +kernel
theorem dX13_hasAll_66 : decode cX13_hasAll 66 = .ok (.land, 1) := by decide +kernel
theorem dX13_hasAll_67 : decode cX13_hasAll 67 = .ok (.l2i, 1) := by decide +kernel
theorem dX13_hasAll_68 : decode cX13_hasAll 68 = .ok (.iastore, 1) := by decide +kernel
theorem dX13_hasAll_69 : decode cX13_hasAll 69 = .ok (.iinc 11 1, 3) := by decide +kernel
theorem dX13_hasAll_7 : decode cX13_hasAll 7 = .ok (.if_icmp .ge 68, 3) := by decide +kernel
theorem dX13_hasAll_72 : decode cX13_hasAll 72 = .ok (.goto (-69), 3) := by decide +kernel
theorem dX13_hasAll_75 : decode cX13_hasAll 75 = .ok (.iconst 0, 1) := by decide +kernel
theorem dX13_hasAll_76 : decode cX13_hasAll 76 = .ok (.istore 11, 2) := by decide +kernel
theorem dX13_hasAll_78 : decode cX13_hasAll 78 = .ok (.iload 11, 2) := by decide +kernel
theorem dX13_hasAll_80 : decode cX13_hasAll 80 = .ok (.bipush 16, 2) := by decide +kernel
theorem dX13_hasAll_82 : decode cX13_hasAll 82 = .ok (.if_icmp .ge 17, 3) := by decide +kernel
theorem dX13_hasAll_85 : decode cX13_hasAll 85 = .ok (.aload_n 0, 1) := by decide +kernel
theorem dX13_hasAll_86 : decode cX13_hasAll 86 = .ok (.getfield 264, 3) := by decide +kernel
theorem dX13_hasAll_89 : decode cX13_hasAll 89 = .ok (.iload 11, 2) := by decide +kernel
theorem dX13_hasAll_91 : decode cX13_hasAll 91 = .ok (.iconst (-1), 1) := by decide +kernel
theorem dX13_hasAll_92 : decode cX13_hasAll 92 = .ok (.iastore, 1) := by decide +kernel
theorem dX13_hasAll_93 : decode cX13_hasAll 93 = .ok (.iinc 11 1, 3) := by decide +kernel
theorem dX13_hasAll_96 : decode cX13_hasAll 96 = .ok (.goto (-18), 3) := by decide +kernel
theorem dX13_hasAll_99 : decode cX13_hasAll 99 = .ok (.iconst 0, 1) := by decide +kernel
noncomputable def k_X13_hasAll_45 (l1 : Int64) (l3 : Int64) (l5 : Int64) (l7 : Int64) (l9 : Int32) (l10 : Int32) (l11 : Int32) (k0 : Int64) (s : t_S) : Option ((Int64 × Int64 × Int64 × Int64 × Int32 × Int32 × Int32 × t_S) ⊕ (Int32 × t_S)) :=
 if t_ix l11 16 = true then
  t_let (t_setI s 1031 (l11.toNatClampNeg) (((k0 >>> (((16 : Int32) * (l11 - l11 / (4 : Int32) * (4 : Int32))).toInt64 &&& 63)) &&& (65535 : Int64)).toInt32)) (fun s1 =>
 some (.inl (l1, l3, l5, l7, l9, l10, (l11 + 1), s1)))
else none
set_option maxRecDepth 4000 in
set_option maxHeartbeats 1000000 in
theorem B_X13_hasAll_45 {D : va_G} {cy : Nat → ClassId} {ad : Nat → Nat} {bs : Nat} {X : State → Heap → Prop} (l1 : Int64) (l3 : Int64) (l5 : Int64) (l7 : Int64) (l9 : Int32) (l10 : Int32) (l11 : Int32) (k0 : Int64) (s : t_S) (Q : (Int64 × Int64 × Int64 × Int64 × Int32 × Int32 × Int32 × t_S) ⊕ (Int32 × t_S) → Prop) (Hb3 : ∀ (y0 : Int64) (y1 : Int64) (y2 : Int64) (y3 : Int64) (y4 : Int32) (y5 : Int32) (y6 : Int32) (y7 : t_S), Q (.inl (y0, y1, y2, y3, y4, y5, y6, y7)) → mj_G D cy ad bs X cX13_hasAll 14 yX13_hasAll.cls (some .boolean) yX13_hasAll.name 101 0 0 1065 (t_P (fun v s' => ∃ x, v = some (.int x) ∧ Q (.inr ((x, s'))))) 3 [(0, .ref 950), (1, .long (y0)), (3, .long (y1)), (5, .long (y2)), (7, .long (y3)), (9, .int (y4)), (10, .int (y5)), (11, .int (y6))] [] (t_m y7) 1065 0 0) (hk : t_hk (k_X13_hasAll_45 l1 l3 l5 l7 l9 l10 l11 k0 s) Q) : mj_G D cy ad bs X cX13_hasAll 14 yX13_hasAll.cls (some .boolean) yX13_hasAll.name 101 0 0 1065 (t_P (fun v s' => ∃ x, v = some (.int x) ∧ Q (.inr ((x, s'))))) 45 [(0, .ref 950), (1, .long l1), (3, .long l3), (5, .long l5), (7, .long l7), (9, .int l9), (10, .int l10), (11, .int l11)] [.long k0] (t_m s) 1065 0 0 := by
  refine mj_lstore (lv2 := [(12, .long k0), (0, .ref 950), (1, .long l1), (3, .long l3), (5, .long l5), (7, .long l7), (9, .int l9), (10, .int l10), (11, .int l11)]) dX13_hasAll_45 (by decide) rfl ?_
  refine mj_aload_n dX13_hasAll_47 1 rfl ?_
  refine t_getR 1031 dX13_hasAll_48 F_X13_261 qr_950_142 ?_
  refine mj_iload dX13_hasAll_51 8 rfl ?_
  refine mj_lload dX13_hasAll_53 0 rfl ?_
  refine mj_bipush (v := 16) dX13_hasAll_55 (by decide) ?_
  refine mj_iload dX13_hasAll_57 8 rfl ?_
  refine mj_iconst (v := 4) dX13_hasAll_59 (by decide) ?_
  refine mj_irem dX13_hasAll_60 (by decide) ?_
  refine mj_imul dX13_hasAll_61 ?_
  refine mj_lshr dX13_hasAll_62 rfl ?_
  refine mj_ldc2 dX13_hasAll_63 K_X13_1277 ?_
  refine mj_land dX13_hasAll_66 ?_
  refine mj_l2i (v := ((k0 >>> (((16 : Int32) * (l11 - l11 / (4 : Int32) * (4 : Int32))).toInt64 &&& 63)) &&& (65535 : Int64)).toInt32) dX13_hasAll_67 rfl ?_
  refine t_chkK hk (fun c0 hk => ?_)
  refine t_iastK dX13_hasAll_68 qa_1031 (t_ixv c0) (fun s1 ws1 => t_letE hk ws1 (fun hk => ?_))
  refine mj_iinc (k := 8) (v := (l11 + 1)) (lv2 := [(11, .int (l11 + 1)), (12, .long k0), (0, .ref 950), (1, .long l1), (3, .long l3), (5, .long l5), (7, .long l7), (9, .int l9), (10, .int l10)]) dX13_hasAll_69 rfl rfl (by decide) rfl ?_
  refine mj_goto 3 dX13_hasAll_72 (by decide) ?_
  refine mj_sublv [(0, .ref 950), (1, .long l1), (3, .long l3), (5, .long l5), (7, .long l7), (9, .int l9), (10, .int l10), (11, .int (l11 + 1))] [2, 3, 4, 5, 6, 7, 8, 0] rfl ?_
  exact t_somK hk (fun hf => Hb3 l1 l3 l5 l7 l9 l10 (l11 + 1) s1 hf)
noncomputable def k_X13_hasAll_112 (l9 : Int32) (l10 : Int32) (l11 : Int32) (l12 : Int32) (s : t_S) : Option ((Int32 × Int32 × Int32 × Int32 × t_S) ⊕ ((Int32 × Int32 × Int32 × t_S) ⊕ (Int32 × t_S))) :=
 if (16 : Int32) ≤ l12 then (((f_X13_finds l11 l10 s).bind (fun r1 =>
 if r1.1 = (0 : Int32) then ((some ((0 : Int32), r1.2)).map Sum.inr)
 else (some (.inl (l9, l10, (l11 + 1), r1.2))))).map Sum.inr)
 else (if t_ix l12 16 = true then
  t_let (t_setI s 1033 (l12.toNatClampNeg) (0 : Int32)) (fun s1 =>
 some (.inl (l9, l10, l11, (l12 + 1), s1)))
else none)
set_option maxRecDepth 4000 in
set_option maxHeartbeats 1000000 in
theorem B_X13_hasAll_112 {D : va_G} {cy : Nat → ClassId} {ad : Nat → Nat} {bs : Nat} {X : State → Heap → Prop} (l9 : Int32) (l10 : Int32) (l11 : Int32) (l12 : Int32) (s : t_S) (Q : (Int32 × Int32 × Int32 × Int32 × t_S) ⊕ ((Int32 × Int32 × Int32 × t_S) ⊕ (Int32 × t_S)) → Prop) (Hb102 : ∀ (y0 : Int32) (y1 : Int32) (y2 : Int32) (y3 : t_S), Q (.inr (.inl (y0, y1, y2, y3))) → mj_G D cy ad bs X cX13_hasAll 14 yX13_hasAll.cls (some .boolean) yX13_hasAll.name 101 0 0 1065 (t_P (fun v s' => ∃ x, v = some (.int x) ∧ Q (.inr (.inr ((x, s')))))) 102 [(0, .ref 950), (9, .int (y0)), (10, .int (y1)), (11, .int (y2))] [] (t_m y3) 1065 0 0) (Hb112 : ∀ (y0 : Int32) (y1 : Int32) (y2 : Int32) (y3 : Int32) (y4 : t_S), Q (.inl (y0, y1, y2, y3, y4)) → mj_G D cy ad bs X cX13_hasAll 14 yX13_hasAll.cls (some .boolean) yX13_hasAll.name 101 0 0 1065 (t_P (fun v s' => ∃ x, v = some (.int x) ∧ Q (.inr (.inr ((x, s')))))) 112 [(0, .ref 950), (9, .int (y0)), (10, .int (y1)), (11, .int (y2)), (12, .int (y3))] [] (t_m y4) 1065 0 0) (hk : t_hk (k_X13_hasAll_112 l9 l10 l11 l12 s) Q) : mj_G D cy ad bs X cX13_hasAll 14 yX13_hasAll.cls (some .boolean) yX13_hasAll.name 101 0 0 1065 (t_P (fun v s' => ∃ x, v = some (.int x) ∧ Q (.inr (.inr ((x, s')))))) 112 [(0, .ref 950), (9, .int l9), (10, .int l10), (11, .int l11), (12, .int l12)] [] (t_m s) 1065 0 0 := by
  refine mj_iload dX13_hasAll_112 4 rfl ?_
  refine mj_bipush (v := 16) dX13_hasAll_114 (by decide) ?_
  refine mj_icmp_ge 133 dX13_hasAll_116 (by decide) (fun z => t_posK hk z (fun hk => ?_)) (fun z => t_negK hk z (fun hk => ?_))
  · refine t_mapK hk (fun hk => ?_)
    refine mj_aload_n dX13_hasAll_133 0 rfl ?_
    refine mj_iload dX13_hasAll_134 3 rfl ?_
    refine mj_iload dX13_hasAll_136 2 rfl ?_
    refine t_bndK hk (fun r1 er1 hk => ?_)
    refine t_callSiE dX13_hasAll_138 M_X13_finds (C_X13_finds _ _ _ _ er1) ML_X13_1279 SM_X13_finds (As := [.ref 950, .int l11, .int l10]) rfl rfl (Nat.le_of_ble_eq_true rfl) (Nat.le_of_ble_eq_true rfl) (Nat.le_of_ble_eq_true rfl) (Nat.le_of_ble_eq_true rfl) ?_
    refine mj_if_ne 146 dX13_hasAll_141 (by decide) (fun z => t_negK hk z (fun hk => ?_)) (fun z => t_posK hk z (fun hk => ?_))
    · refine mj_iinc (k := 3) (v := (l11 + 1)) (lv2 := [(11, .int (l11 + 1)), (0, .ref 950), (9, .int l9), (10, .int l10), (12, .int l12)]) dX13_hasAll_146 rfl rfl (by decide) rfl ?_
      refine mj_goto 102 dX13_hasAll_149 (by decide) ?_
      refine mj_sublv [(0, .ref 950), (9, .int l9), (10, .int l10), (11, .int (l11 + 1))] [1, 2, 3, 0] rfl ?_
      exact t_somK hk (fun hf => Hb102 l9 l10 (l11 + 1) r1.2 hf)
    · refine t_mapK hk (fun hk => ?_)
      refine mj_iconst (v := 0) dX13_hasAll_144 (by decide) ?_
      exact t_somK hk (fun hf => t_iret dX13_hasAll_145 rfl (by decide) ⟨_, rfl, hf⟩ (Nat.le_of_ble_eq_true rfl) (Nat.le_of_ble_eq_true rfl))
  · refine mj_aload_n dX13_hasAll_119 0 rfl ?_
    refine t_getR 1033 dX13_hasAll_120 F_X13_267 qr_950_144 ?_
    refine mj_iload dX13_hasAll_123 4 rfl ?_
    refine mj_iconst (v := 0) dX13_hasAll_125 (by decide) ?_
    refine t_chkK hk (fun c1 hk => ?_)
    refine t_zastK dX13_hasAll_126 qa_1033 (t_ixv c1) (by decide) (fun s1 ws1 => t_letE hk ws1 (fun hk => ?_))
    refine mj_iinc (k := 4) (v := (l12 + 1)) (lv2 := [(12, .int (l12 + 1)), (0, .ref 950), (9, .int l9), (10, .int l10), (11, .int l11)]) dX13_hasAll_127 rfl rfl (by decide) rfl ?_
    refine mj_goto 112 dX13_hasAll_130 (by decide) ?_
    refine mj_sublv [(0, .ref 950), (9, .int l9), (10, .int l10), (11, .int l11), (12, .int (l12 + 1))] [1, 2, 3, 4, 0] rfl ?_
    exact t_somK hk (fun hf => Hb112 l9 l10 l11 (l12 + 1) s1 hf)
noncomputable def b_X13_hasAll_112 (x : Int32 × Int32 × Int32 × Int32 × t_S) : Option ((Int32 × Int32 × Int32 × Int32 × t_S) ⊕ ((Int32 × Int32 × Int32 × t_S) ⊕ (Int32 × t_S))) := k_X13_hasAll_112 x.1 x.2.1 x.2.2.1 x.2.2.2.1 x.2.2.2.2
set_option maxRecDepth 4000 in
set_option maxHeartbeats 1000000 in
theorem LH_X13_hasAll_112 {D : va_G} {cy : Nat → ClassId} {ad : Nat → Nat} {bs : Nat} {X : State → Heap → Prop} : ∀ (n : Nat) (y0 : Int32) (y1 : Int32) (y2 : Int32) (y3 : Int32) (y4 : t_S) (Q : (Int32 × Int32 × Int32 × t_S) ⊕ (Int32 × t_S) → Prop) (Hb102 : ∀ (y0 : Int32) (y1 : Int32) (y2 : Int32) (y3 : t_S), Q (.inl (y0, y1, y2, y3)) → mj_G D cy ad bs X cX13_hasAll 14 yX13_hasAll.cls (some .boolean) yX13_hasAll.name 101 0 0 1065 (t_P (fun v s' => ∃ x, v = some (.int x) ∧ Q (.inr ((x, s'))))) 102 [(0, .ref 950), (9, .int (y0)), (10, .int (y1)), (11, .int (y2))] [] (t_m y3) 1065 0 0) (hk : t_hk (t_loop (b_X13_hasAll_112) n (y0, y1, y2, y3, y4)) Q), mj_G D cy ad bs X cX13_hasAll 14 yX13_hasAll.cls (some .boolean) yX13_hasAll.name 101 0 0 1065 (t_P (fun v s' => ∃ x, v = some (.int x) ∧ Q (.inr ((x, s'))))) 112 [(0, .ref 950), (9, .int (y0)), (10, .int (y1)), (11, .int (y2)), (12, .int (y3))] [] (t_m y4) 1065 0 0 := by
  intro n
  induction n with
  | zero => intro y0 y1 y2 y3 y4 Q Hb102 hk; obtain ⟨r, hr, _⟩ := hk; cases hr
  | succ n ih =>
    intro y0 y1 y2 y3 y4 Q Hb102 hk
    exact B_X13_hasAll_112 y0 y1 y2 y3 y4 (fun y => t_lq (b_X13_hasAll_112) n Q y) (fun y0' y1' y2' y3' hy => Hb102 y0' y1' y2' y3' hy) (fun y0' y1' y2' y3' y4' hy => ih y0' y1' y2' y3' y4' Q Hb102 hy) (t_lp (b := b_X13_hasAll_112) (n := n) (x := (y0, y1, y2, y3, y4)) hk)
noncomputable def k_X13_hasAll_102 (l9 : Int32) (l10 : Int32) (l11 : Int32) (s : t_S) : Option ((Int32 × Int32 × Int32 × t_S) ⊕ (Int32 × t_S)) :=
 if l9 ≤ l11 then ((some ((1 : Int32), s)).map Sum.inr)
 else (t_loop (b_X13_hasAll_112) t_N (l9, l10, l11, 0, s))
set_option maxRecDepth 4000 in
set_option maxHeartbeats 1000000 in
theorem B_X13_hasAll_102 {D : va_G} {cy : Nat → ClassId} {ad : Nat → Nat} {bs : Nat} {X : State → Heap → Prop} (l9 : Int32) (l10 : Int32) (l11 : Int32) (s : t_S) (Q : (Int32 × Int32 × Int32 × t_S) ⊕ (Int32 × t_S) → Prop) (Hb102 : ∀ (y0 : Int32) (y1 : Int32) (y2 : Int32) (y3 : t_S), Q (.inl (y0, y1, y2, y3)) → mj_G D cy ad bs X cX13_hasAll 14 yX13_hasAll.cls (some .boolean) yX13_hasAll.name 101 0 0 1065 (t_P (fun v s' => ∃ x, v = some (.int x) ∧ Q (.inr ((x, s'))))) 102 [(0, .ref 950), (9, .int (y0)), (10, .int (y1)), (11, .int (y2))] [] (t_m y3) 1065 0 0) (hk : t_hk (k_X13_hasAll_102 l9 l10 l11 s) Q) : mj_G D cy ad bs X cX13_hasAll 14 yX13_hasAll.cls (some .boolean) yX13_hasAll.name 101 0 0 1065 (t_P (fun v s' => ∃ x, v = some (.int x) ∧ Q (.inr ((x, s'))))) 102 [(0, .ref 950), (9, .int l9), (10, .int l10), (11, .int l11)] [] (t_m s) 1065 0 0 := by
  refine mj_iload dX13_hasAll_102 3 rfl ?_
  refine mj_iload dX13_hasAll_104 1 rfl ?_
  refine mj_icmp_ge 152 dX13_hasAll_106 (by decide) (fun z => t_posK hk z (fun hk => ?_)) (fun z => t_negK hk z (fun hk => ?_))
  · refine t_mapK hk (fun hk => ?_)
    refine mj_iconst (v := 1) dX13_hasAll_152 (by decide) ?_
    exact t_somK hk (fun hf => t_iret dX13_hasAll_153 rfl (by decide) ⟨_, rfl, hf⟩ (Nat.le_of_ble_eq_true rfl) (Nat.le_of_ble_eq_true rfl))
  · refine mj_iconst (v := 0) dX13_hasAll_109 (by decide) ?_
    refine mj_istore (lv2 := [(12, .int 0), (0, .ref 950), (9, .int l9), (10, .int l10), (11, .int l11)]) dX13_hasAll_110 (by decide) rfl ?_
    refine mj_sublv [(0, .ref 950), (9, .int l9), (10, .int l10), (11, .int l11), (12, .int 0)] [1, 2, 3, 4, 0] rfl ?_
    exact LH_X13_hasAll_112 _ l9 l10 l11 0 s _ (fun y0 y1 y2 y3 hx => Hb102 y0 y1 y2 y3 hx) hk
noncomputable def b_X13_hasAll_102 (x : Int32 × Int32 × Int32 × t_S) : Option ((Int32 × Int32 × Int32 × t_S) ⊕ (Int32 × t_S)) := k_X13_hasAll_102 x.1 x.2.1 x.2.2.1 x.2.2.2
set_option maxRecDepth 4000 in
set_option maxHeartbeats 1000000 in
theorem LH_X13_hasAll_102 {D : va_G} {cy : Nat → ClassId} {ad : Nat → Nat} {bs : Nat} {X : State → Heap → Prop} : ∀ (n : Nat) (y0 : Int32) (y1 : Int32) (y2 : Int32) (y3 : t_S) (Q : Int32 × t_S → Prop) (hk : t_hk (t_loop (b_X13_hasAll_102) n (y0, y1, y2, y3)) Q), mj_G D cy ad bs X cX13_hasAll 14 yX13_hasAll.cls (some .boolean) yX13_hasAll.name 101 0 0 1065 (t_P (fun v s' => ∃ x, v = some (.int x) ∧ Q ((x, s')))) 102 [(0, .ref 950), (9, .int (y0)), (10, .int (y1)), (11, .int (y2))] [] (t_m y3) 1065 0 0 := by
  intro n
  induction n with
  | zero => intro y0 y1 y2 y3 Q hk; obtain ⟨r, hr, _⟩ := hk; cases hr
  | succ n ih =>
    intro y0 y1 y2 y3 Q hk
    exact B_X13_hasAll_102 y0 y1 y2 y3 (fun y => t_lq (b_X13_hasAll_102) n Q y) (fun y0' y1' y2' y3' hy => ih y0' y1' y2' y3' Q hy) (t_lp (b := b_X13_hasAll_102) (n := n) (x := (y0, y1, y2, y3)) hk)
noncomputable def k_X13_hasAll_78 (l9 : Int32) (l10 : Int32) (l11 : Int32) (s : t_S) : Option ((Int32 × Int32 × Int32 × t_S) ⊕ (Int32 × t_S)) :=
 if (16 : Int32) ≤ l11 then ((t_loop (b_X13_hasAll_102) t_N (l9, l10, 0, s)).map Sum.inr)
 else (if t_ix l11 16 = true then
  t_let (t_setI s 1032 (l11.toNatClampNeg) (-1 : Int32)) (fun s1 =>
 some (.inl (l9, l10, (l11 + 1), s1)))
else none)
set_option maxRecDepth 4000 in
set_option maxHeartbeats 1000000 in
theorem B_X13_hasAll_78 {D : va_G} {cy : Nat → ClassId} {ad : Nat → Nat} {bs : Nat} {X : State → Heap → Prop} (l9 : Int32) (l10 : Int32) (l11 : Int32) (s : t_S) (Q : (Int32 × Int32 × Int32 × t_S) ⊕ (Int32 × t_S) → Prop) (Hb78 : ∀ (y0 : Int32) (y1 : Int32) (y2 : Int32) (y3 : t_S), Q (.inl (y0, y1, y2, y3)) → mj_G D cy ad bs X cX13_hasAll 14 yX13_hasAll.cls (some .boolean) yX13_hasAll.name 101 0 0 1065 (t_P (fun v s' => ∃ x, v = some (.int x) ∧ Q (.inr ((x, s'))))) 78 [(0, .ref 950), (9, .int (y0)), (10, .int (y1)), (11, .int (y2))] [] (t_m y3) 1065 0 0) (hk : t_hk (k_X13_hasAll_78 l9 l10 l11 s) Q) : mj_G D cy ad bs X cX13_hasAll 14 yX13_hasAll.cls (some .boolean) yX13_hasAll.name 101 0 0 1065 (t_P (fun v s' => ∃ x, v = some (.int x) ∧ Q (.inr ((x, s'))))) 78 [(0, .ref 950), (9, .int l9), (10, .int l10), (11, .int l11)] [] (t_m s) 1065 0 0 := by
  refine mj_iload dX13_hasAll_78 3 rfl ?_
  refine mj_bipush (v := 16) dX13_hasAll_80 (by decide) ?_
  refine mj_icmp_ge 99 dX13_hasAll_82 (by decide) (fun z => t_posK hk z (fun hk => ?_)) (fun z => t_negK hk z (fun hk => ?_))
  · refine t_mapK hk (fun hk => ?_)
    refine mj_iconst (v := 0) dX13_hasAll_99 (by decide) ?_
    refine mj_istore (lv2 := [(11, .int 0), (0, .ref 950), (9, .int l9), (10, .int l10)]) dX13_hasAll_100 (by decide) rfl ?_
    refine mj_sublv [(0, .ref 950), (9, .int l9), (10, .int l10), (11, .int 0)] [1, 2, 3, 0] rfl ?_
    exact LH_X13_hasAll_102 _ l9 l10 0 s _ hk
  · refine mj_aload_n dX13_hasAll_85 0 rfl ?_
    refine t_getR 1032 dX13_hasAll_86 F_X13_264 qr_950_143 ?_
    refine mj_iload dX13_hasAll_89 3 rfl ?_
    refine mj_iconst (v := (-1)) dX13_hasAll_91 (by decide) ?_
    refine t_chkK hk (fun c0 hk => ?_)
    refine t_iastK dX13_hasAll_92 qa_1032 (t_ixv c0) (fun s1 ws1 => t_letE hk ws1 (fun hk => ?_))
    refine mj_iinc (k := 3) (v := (l11 + 1)) (lv2 := [(11, .int (l11 + 1)), (0, .ref 950), (9, .int l9), (10, .int l10)]) dX13_hasAll_93 rfl rfl (by decide) rfl ?_
    refine mj_goto 78 dX13_hasAll_96 (by decide) ?_
    refine mj_sublv [(0, .ref 950), (9, .int l9), (10, .int l10), (11, .int (l11 + 1))] [1, 2, 3, 0] rfl ?_
    exact t_somK hk (fun hf => Hb78 l9 l10 (l11 + 1) s1 hf)
noncomputable def b_X13_hasAll_78 (x : Int32 × Int32 × Int32 × t_S) : Option ((Int32 × Int32 × Int32 × t_S) ⊕ (Int32 × t_S)) := k_X13_hasAll_78 x.1 x.2.1 x.2.2.1 x.2.2.2
set_option maxRecDepth 4000 in
set_option maxHeartbeats 1000000 in
theorem LH_X13_hasAll_78 {D : va_G} {cy : Nat → ClassId} {ad : Nat → Nat} {bs : Nat} {X : State → Heap → Prop} : ∀ (n : Nat) (y0 : Int32) (y1 : Int32) (y2 : Int32) (y3 : t_S) (Q : Int32 × t_S → Prop) (hk : t_hk (t_loop (b_X13_hasAll_78) n (y0, y1, y2, y3)) Q), mj_G D cy ad bs X cX13_hasAll 14 yX13_hasAll.cls (some .boolean) yX13_hasAll.name 101 0 0 1065 (t_P (fun v s' => ∃ x, v = some (.int x) ∧ Q ((x, s')))) 78 [(0, .ref 950), (9, .int (y0)), (10, .int (y1)), (11, .int (y2))] [] (t_m y3) 1065 0 0 := by
  intro n
  induction n with
  | zero => intro y0 y1 y2 y3 Q hk; obtain ⟨r, hr, _⟩ := hk; cases hr
  | succ n ih =>
    intro y0 y1 y2 y3 Q hk
    exact B_X13_hasAll_78 y0 y1 y2 y3 (fun y => t_lq (b_X13_hasAll_78) n Q y) (fun y0' y1' y2' y3' hy => ih y0' y1' y2' y3' Q hy) (t_lp (b := b_X13_hasAll_78) (n := n) (x := (y0, y1, y2, y3)) hk)
noncomputable def k_X13_hasAll_3 (l1 : Int64) (l3 : Int64) (l5 : Int64) (l7 : Int64) (l9 : Int32) (l10 : Int32) (l11 : Int32) (s : t_S) : Option ((Int64 × Int64 × Int64 × Int64 × Int32 × Int32 × Int32 × t_S) ⊕ (Int32 × t_S)) :=
 if l9 ≤ l11 then ((t_loop (b_X13_hasAll_78) t_N (l9, l10, 0, s)).map Sum.inr)
 else (if (4 : Int32) ≤ l11 then (if (8 : Int32) ≤ l11 then (if (12 : Int32) ≤ l11 then (k_X13_hasAll_45 l1 l3 l5 l7 l9 l10 l11 l7 s)
 else (k_X13_hasAll_45 l1 l3 l5 l7 l9 l10 l11 l5 s))
 else (k_X13_hasAll_45 l1 l3 l5 l7 l9 l10 l11 l3 s))
 else (k_X13_hasAll_45 l1 l3 l5 l7 l9 l10 l11 l1 s))
set_option maxRecDepth 4000 in
set_option maxHeartbeats 1000000 in
theorem B_X13_hasAll_3 {D : va_G} {cy : Nat → ClassId} {ad : Nat → Nat} {bs : Nat} {X : State → Heap → Prop} (l1 : Int64) (l3 : Int64) (l5 : Int64) (l7 : Int64) (l9 : Int32) (l10 : Int32) (l11 : Int32) (s : t_S) (Q : (Int64 × Int64 × Int64 × Int64 × Int32 × Int32 × Int32 × t_S) ⊕ (Int32 × t_S) → Prop) (Hb3 : ∀ (y0 : Int64) (y1 : Int64) (y2 : Int64) (y3 : Int64) (y4 : Int32) (y5 : Int32) (y6 : Int32) (y7 : t_S), Q (.inl (y0, y1, y2, y3, y4, y5, y6, y7)) → mj_G D cy ad bs X cX13_hasAll 14 yX13_hasAll.cls (some .boolean) yX13_hasAll.name 101 0 0 1065 (t_P (fun v s' => ∃ x, v = some (.int x) ∧ Q (.inr ((x, s'))))) 3 [(0, .ref 950), (1, .long (y0)), (3, .long (y1)), (5, .long (y2)), (7, .long (y3)), (9, .int (y4)), (10, .int (y5)), (11, .int (y6))] [] (t_m y7) 1065 0 0) (hk : t_hk (k_X13_hasAll_3 l1 l3 l5 l7 l9 l10 l11 s) Q) : mj_G D cy ad bs X cX13_hasAll 14 yX13_hasAll.cls (some .boolean) yX13_hasAll.name 101 0 0 1065 (t_P (fun v s' => ∃ x, v = some (.int x) ∧ Q (.inr ((x, s'))))) 3 [(0, .ref 950), (1, .long l1), (3, .long l3), (5, .long l5), (7, .long l7), (9, .int l9), (10, .int l10), (11, .int l11)] [] (t_m s) 1065 0 0 := by
  refine mj_iload dX13_hasAll_3 7 rfl ?_
  refine mj_iload dX13_hasAll_5 5 rfl ?_
  refine mj_icmp_ge 75 dX13_hasAll_7 (by decide) (fun z => t_posK hk z (fun hk => ?_)) (fun z => t_negK hk z (fun hk => ?_))
  · refine t_mapK hk (fun hk => ?_)
    refine mj_iconst (v := 0) dX13_hasAll_75 (by decide) ?_
    refine mj_istore (lv2 := [(11, .int 0), (0, .ref 950), (1, .long l1), (3, .long l3), (5, .long l5), (7, .long l7), (9, .int l9), (10, .int l10)]) dX13_hasAll_76 (by decide) rfl ?_
    refine mj_sublv [(0, .ref 950), (9, .int l9), (10, .int l10), (11, .int 0)] [1, 6, 7, 0] rfl ?_
    exact LH_X13_hasAll_78 _ l9 l10 0 s _ hk
  · refine mj_iload dX13_hasAll_10 7 rfl ?_
    refine mj_iconst (v := 4) dX13_hasAll_12 (by decide) ?_
    refine mj_icmp_ge 20 dX13_hasAll_13 (by decide) (fun z => t_posK hk z (fun hk => ?_)) (fun z => t_negK hk z (fun hk => ?_))
    · refine mj_iload dX13_hasAll_20 7 rfl ?_
      refine mj_bipush (v := 8) dX13_hasAll_22 (by decide) ?_
      refine mj_icmp_ge 31 dX13_hasAll_24 (by decide) (fun z => t_posK hk z (fun hk => ?_)) (fun z => t_negK hk z (fun hk => ?_))
      · refine mj_iload dX13_hasAll_31 7 rfl ?_
        refine mj_bipush (v := 12) dX13_hasAll_33 (by decide) ?_
        refine mj_icmp_ge 43 dX13_hasAll_35 (by decide) (fun z => t_posK hk z (fun hk => ?_)) (fun z => t_negK hk z (fun hk => ?_))
        · refine mj_lload dX13_hasAll_43 4 rfl ?_
          exact B_X13_hasAll_45 _ _ _ _ _ _ _ _ _ _ (fun y0 y1 y2 y3 y4 y5 y6 y7 hx => Hb3 y0 y1 y2 y3 y4 y5 y6 y7 hx) hk
        · refine mj_lload dX13_hasAll_38 3 rfl ?_
          refine mj_goto 45 dX13_hasAll_40 (by decide) ?_
          exact B_X13_hasAll_45 _ _ _ _ _ _ _ _ _ _ (fun y0 y1 y2 y3 y4 y5 y6 y7 hx => Hb3 y0 y1 y2 y3 y4 y5 y6 y7 hx) hk
      · refine mj_lload_n dX13_hasAll_27 2 rfl ?_
        refine mj_goto 45 dX13_hasAll_28 (by decide) ?_
        exact B_X13_hasAll_45 _ _ _ _ _ _ _ _ _ _ (fun y0 y1 y2 y3 y4 y5 y6 y7 hx => Hb3 y0 y1 y2 y3 y4 y5 y6 y7 hx) hk
    · refine mj_lload_n dX13_hasAll_16 1 rfl ?_
      refine mj_goto 45 dX13_hasAll_17 (by decide) ?_
      exact B_X13_hasAll_45 _ _ _ _ _ _ _ _ _ _ (fun y0 y1 y2 y3 y4 y5 y6 y7 hx => Hb3 y0 y1 y2 y3 y4 y5 y6 y7 hx) hk
noncomputable def b_X13_hasAll_3 (x : Int64 × Int64 × Int64 × Int64 × Int32 × Int32 × Int32 × t_S) : Option ((Int64 × Int64 × Int64 × Int64 × Int32 × Int32 × Int32 × t_S) ⊕ (Int32 × t_S)) := k_X13_hasAll_3 x.1 x.2.1 x.2.2.1 x.2.2.2.1 x.2.2.2.2.1 x.2.2.2.2.2.1 x.2.2.2.2.2.2.1 x.2.2.2.2.2.2.2
set_option maxRecDepth 4000 in
set_option maxHeartbeats 1000000 in
theorem LH_X13_hasAll_3 {D : va_G} {cy : Nat → ClassId} {ad : Nat → Nat} {bs : Nat} {X : State → Heap → Prop} : ∀ (n : Nat) (y0 : Int64) (y1 : Int64) (y2 : Int64) (y3 : Int64) (y4 : Int32) (y5 : Int32) (y6 : Int32) (y7 : t_S) (Q : Int32 × t_S → Prop) (hk : t_hk (t_loop (b_X13_hasAll_3) n (y0, y1, y2, y3, y4, y5, y6, y7)) Q), mj_G D cy ad bs X cX13_hasAll 14 yX13_hasAll.cls (some .boolean) yX13_hasAll.name 101 0 0 1065 (t_P (fun v s' => ∃ x, v = some (.int x) ∧ Q ((x, s')))) 3 [(0, .ref 950), (1, .long (y0)), (3, .long (y1)), (5, .long (y2)), (7, .long (y3)), (9, .int (y4)), (10, .int (y5)), (11, .int (y6))] [] (t_m y7) 1065 0 0 := by
  intro n
  induction n with
  | zero => intro y0 y1 y2 y3 y4 y5 y6 y7 Q hk; obtain ⟨r, hr, _⟩ := hk; cases hr
  | succ n ih =>
    intro y0 y1 y2 y3 y4 y5 y6 y7 Q hk
    exact B_X13_hasAll_3 y0 y1 y2 y3 y4 y5 y6 y7 (fun y => t_lq (b_X13_hasAll_3) n Q y) (fun y0' y1' y2' y3' y4' y5' y6' y7' hy => ih y0' y1' y2' y3' y4' y5' y6' y7' Q hy) (t_lp (b := b_X13_hasAll_3) (n := n) (x := (y0, y1, y2, y3, y4, y5, y6, y7)) hk)
noncomputable def f_X13_hasAll (x1 : Int64) (x2 : Int64) (x3 : Int64) (x4 : Int64) (x5 : Int32) (x6 : Int32) (s : t_S) : Option (Int32 × t_S) :=
 t_loop (b_X13_hasAll_3) t_N (x1, x2, x3, x4, x5, x6, 0, s)
set_option maxRecDepth 4000 in
set_option maxHeartbeats 1000000 in
theorem C_X13_hasAll (x1 : Int64) (x2 : Int64) (x3 : Int64) (x4 : Int64) (x5 : Int32) (x6 : Int32) (s : t_S) (r : Int32 × t_S) (hr : f_X13_hasAll x1 x2 x3 x4 x5 x6 s = some r) : t_C yX13_hasAll cX13_hasAll 14 (some .boolean) 101 [.ref 950, .long x1, .long x2, .long x3, .long x4, .int x5, .int x6] s (fun v s' => v = some (.int r.1) ∧ s' = r.2) := by
  refine t_C.imp (P := fun v s' => ∃ x, v = some (.int x) ∧ (fun q => q = r) ((x, s'))) (t_C.of (by decide +kernel) (Nat.le_of_ble_eq_true rfl) ?_) (fun v s' hp => by obtain ⟨x, rfl, rfl⟩ := hp; exact ⟨rfl, rfl⟩)
  intro D cy ad bs X
  have hk : t_hk (f_X13_hasAll x1 x2 x3 x4 x5 x6 s) (fun q => q = r) := ⟨r, hr, rfl⟩
  show mj_G D cy ad bs X cX13_hasAll 14 yX13_hasAll.cls (some .boolean) yX13_hasAll.name 101 0 0 1065 (t_P (fun v s' => ∃ x, v = some (.int x) ∧ (fun q => q = r) ((x, s')))) 0 [(0, .ref 950), (1, .long x1), (3, .long x2), (5, .long x3), (7, .long x4), (9, .int x5), (10, .int x6)] [] (t_m s) 1065 0 0
  refine mj_iconst (v := 0) dX13_hasAll_0 (by decide) ?_
  refine mj_istore (lv2 := [(11, .int 0), (0, .ref 950), (1, .long x1), (3, .long x2), (5, .long x3), (7, .long x4), (9, .int x5), (10, .int x6)]) dX13_hasAll_1 (by decide) rfl ?_
  refine mj_sublv [(0, .ref 950), (1, .long x1), (3, .long x2), (5, .long x3), (7, .long x4), (9, .int x5), (10, .int x6), (11, .int 0)] [1, 2, 3, 4, 5, 6, 7, 0] rfl ?_
  exact LH_X13_hasAll_3 _ x1 x2 x3 x4 x5 x6 0 s _ hk

theorem dX13_partCount_0 : decode cX13_partCount 0 = .ok (.iconst 0, 1) := by decide +kernel
theorem dX13_partCount_1 : decode cX13_partCount 1 = .ok (.istore_n 2, 1) := by decide +kernel
theorem dX13_partCount_10 : decode cX13_partCount 10 = .ok (.ifCond .lt 16, 3) := by decide +kernel
theorem dX13_partCount_13 : decode cX13_partCount 13 = .ok (.iinc 2 1, 3) := by decide +kernel
theorem dX13_partCount_16 : decode cX13_partCount 16 = .ok (.aload_n 0, 1) := by decide +kernel
theorem dX13_partCount_17 : decode cX13_partCount 17 = .ok (.getfield 42, 3) := by decide +kernel
theorem dX13_partCount_2 : decode cX13_partCount 2 = .ok (.aload_n 0, 1) := by decide +kernel
theorem dX13_partCount_20 : decode cX13_partCount 20 = .ok (.iload_n 3, 1) := by decide +kernel
theorem dX13_partCount_21 : decode cX13_partCount 21 = .ok (.iaload, 1) := by decide +kernel
theorem dX13_partCount_22 : decode cX13_partCount 22 = .ok (.istore_n 3, 1) := by decide +kernel
theorem dX13_partCount_23 : decode cX13_partCount 23 = .ok (.goto (-14), 3) := by decide +kernel
theorem dX13_partCount_26 : decode cX13_partCount 26 = .ok (.iload_n 2, 1) := by decide +kernel
theorem dX13_partCount_27 : decode cX13_partCount 27 = .ok (.ireturn, 1) := by decide +kernel
theorem dX13_partCount_3 : decode cX13_partCount 3 = .ok (.getfield 39, 3) := by decide +kernel
theorem dX13_partCount_6 : decode cX13_partCount 6 = .ok (.iload_n 1, 1) := by decide +kernel
theorem dX13_partCount_7 : decode cX13_partCount 7 = .ok (.iaload, 1) := by decide +kernel
theorem dX13_partCount_8 : decode cX13_partCount 8 = .ok (.istore_n 3, 1) := by decide +kernel
theorem dX13_partCount_9 : decode cX13_partCount 9 = .ok (.iload_n 3, 1) := by decide +kernel
noncomputable def k_X13_partCount_9 (l2 : Int32) (l3 : Int32) (s : t_S) : Option ((Int32 × Int32) ⊕ (Int32)) :=
 if l3 < (0 : Int32) then ((some (l2)).map Sum.inr)
 else (if t_ix l3 13000 = true then
  some (.inl ((l2 + 1), (s.1 960 (l3.toNatClampNeg))))
else none)
set_option maxRecDepth 4000 in
set_option maxHeartbeats 1000000 in
theorem B_X13_partCount_9 {D : va_G} {cy : Nat → ClassId} {ad : Nat → Nat} {bs : Nat} {X : State → Heap → Prop} (l2 : Int32) (l3 : Int32) (s : t_S) (Q : (Int32 × Int32) ⊕ (Int32) → Prop) (Hb9 : ∀ (y0 : Int32) (y1 : Int32), Q (.inl (y0, y1)) → mj_G D cy ad bs X cX13_partCount 4 yX13_partCount.cls (some .int) yX13_partCount.name 0 0 0 1065 (t_P (fun v s' => s' = s ∧ ∃ x, v = some (.int x) ∧ Q (.inr (x)))) 9 [(0, .ref 950), (2, .int (y0)), (3, .int (y1))] [] (t_m s) 1065 0 0) (hk : t_hk (k_X13_partCount_9 l2 l3 s) Q) : mj_G D cy ad bs X cX13_partCount 4 yX13_partCount.cls (some .int) yX13_partCount.name 0 0 0 1065 (t_P (fun v s' => s' = s ∧ ∃ x, v = some (.int x) ∧ Q (.inr (x)))) 9 [(0, .ref 950), (2, .int l2), (3, .int l3)] [] (t_m s) 1065 0 0 := by
  refine mj_iload_n dX13_partCount_9 2 rfl ?_
  refine mj_if_lt 26 dX13_partCount_10 (by decide) (fun z => t_posK hk z (fun hk => ?_)) (fun z => t_negK hk z (fun hk => ?_))
  · refine t_mapK hk (fun hk => ?_)
    refine mj_iload_n dX13_partCount_26 1 rfl ?_
    exact t_somK hk (fun hf => t_iret dX13_partCount_27 rfl rfl ⟨rfl, _, rfl, hf⟩ (Nat.le_of_ble_eq_true rfl) (Nat.le_of_ble_eq_true rfl))
  · refine mj_iinc (k := 1) (v := (l2 + 1)) (lv2 := [(2, .int (l2 + 1)), (0, .ref 950), (3, .int l3)]) dX13_partCount_13 rfl rfl (by decide) rfl ?_
    refine mj_aload_n dX13_partCount_16 1 rfl ?_
    refine t_getR 960 dX13_partCount_17 F_X13_42 qr_950_22 ?_
    refine mj_iload_n dX13_partCount_20 2 rfl ?_
    refine t_chkK hk (fun c0 hk => ?_)
    refine t_iald dX13_partCount_21 qa_960 (t_ixv c0) ?_
    refine mj_istore_n 3 (lv2 := [(3, .int (s.1 960 (l3.toNatClampNeg))), (2, .int (l2 + 1)), (0, .ref 950)]) dX13_partCount_22 rfl (by decide) rfl ?_
    refine mj_goto 9 dX13_partCount_23 (by decide) ?_
    refine mj_sublv [(0, .ref 950), (2, .int (l2 + 1)), (3, .int (s.1 960 (l3.toNatClampNeg)))] [2, 1, 0] rfl ?_
    exact t_somK hk (fun hf => Hb9 (l2 + 1) (s.1 960 (l3.toNatClampNeg)) hf)
noncomputable def b_X13_partCount_9 (s : t_S) (x : Int32 × Int32) : Option ((Int32 × Int32) ⊕ (Int32)) := k_X13_partCount_9 x.1 x.2 s
set_option maxRecDepth 4000 in
set_option maxHeartbeats 1000000 in
theorem LH_X13_partCount_9 {D : va_G} {cy : Nat → ClassId} {ad : Nat → Nat} {bs : Nat} {X : State → Heap → Prop} (s : t_S) : ∀ (n : Nat) (y0 : Int32) (y1 : Int32) (Q : Int32 → Prop) (hk : t_hk (t_loop (b_X13_partCount_9 s) n (y0, y1)) Q), mj_G D cy ad bs X cX13_partCount 4 yX13_partCount.cls (some .int) yX13_partCount.name 0 0 0 1065 (t_P (fun v s' => s' = s ∧ ∃ x, v = some (.int x) ∧ Q (x))) 9 [(0, .ref 950), (2, .int (y0)), (3, .int (y1))] [] (t_m s) 1065 0 0 := by
  intro n
  induction n with
  | zero => intro y0 y1 Q hk; obtain ⟨r, hr, _⟩ := hk; cases hr
  | succ n ih =>
    intro y0 y1 Q hk
    exact B_X13_partCount_9 y0 y1 s (fun y => t_lq (b_X13_partCount_9 s) n Q y) (fun y0' y1' hy => ih y0' y1' Q hy) (t_lp (b := b_X13_partCount_9 s) (n := n) (x := (y0, y1)) hk)
noncomputable def f_X13_partCount (x1 : Int32) (s : t_S) : Option (Int32) :=
 if t_ix x1 13000 = true then
  t_loop (b_X13_partCount_9 s) t_N (0, (s.1 959 (x1.toNatClampNeg)))
else none
set_option maxRecDepth 4000 in
set_option maxHeartbeats 1000000 in
theorem C_X13_partCount (x1 : Int32) (s : t_S) (r : Int32) (hr : f_X13_partCount x1 s = some r) : t_C yX13_partCount cX13_partCount 4 (some .int) 0 [.ref 950, .int x1] s (fun v s' => v = some (.int r) ∧ s' = s) := by
  refine t_C.imp (P := fun v s' => s' = s ∧ ∃ x, v = some (.int x) ∧ (fun q => q = r) (x)) (t_C.of (by decide +kernel) (Nat.le_of_ble_eq_true rfl) ?_) (fun v s' hp => by obtain ⟨rfl, x, rfl, rfl⟩ := hp; exact ⟨rfl, rfl⟩)
  intro D cy ad bs X
  have hk : t_hk (f_X13_partCount x1 s) (fun q => q = r) := ⟨r, hr, rfl⟩
  show mj_G D cy ad bs X cX13_partCount 4 yX13_partCount.cls (some .int) yX13_partCount.name 0 0 0 1065 (t_P (fun v s' => s' = s ∧ ∃ x, v = some (.int x) ∧ (fun q => q = r) (x))) 0 [(0, .ref 950), (1, .int x1)] [] (t_m s) 1065 0 0
  refine mj_iconst (v := 0) dX13_partCount_0 (by decide) ?_
  refine mj_istore_n 2 (lv2 := [(2, .int 0), (0, .ref 950), (1, .int x1)]) dX13_partCount_1 rfl (by decide) rfl ?_
  refine mj_aload_n dX13_partCount_2 1 rfl ?_
  refine t_getR 959 dX13_partCount_3 F_X13_39 qr_950_21 ?_
  refine mj_iload_n dX13_partCount_6 2 rfl ?_
  refine t_chkK hk (fun c0 hk => ?_)
  refine t_iald dX13_partCount_7 qa_959 (t_ixv c0) ?_
  refine mj_istore_n 3 (lv2 := [(3, .int (s.1 959 (x1.toNatClampNeg))), (2, .int 0), (0, .ref 950), (1, .int x1)]) dX13_partCount_8 rfl (by decide) rfl ?_
  refine mj_sublv [(0, .ref 950), (2, .int 0), (3, .int (s.1 959 (x1.toNatClampNeg)))] [2, 1, 0] rfl ?_
  exact LH_X13_partCount_9 _ _ 0 (s.1 959 (x1.toNatClampNeg)) _ hk

