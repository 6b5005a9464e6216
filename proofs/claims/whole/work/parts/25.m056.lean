/-! Methods as functions, 56: X13_nextStamp, X13_numberParts -/
theorem qa_1008 : t_oka 1008 1 13000 = true := by decide +kernel
theorem qa_1035 : t_oka 1035 1 8 = true := by decide +kernel
theorem qa_1037 : t_oka 1037 1 8 = true := by decide +kernel
theorem qa_1051 : t_oka 1051 2 32 = true := by decide +kernel
theorem qf_950_103 : t_okf 950 13 103 0 = true := by decide +kernel
theorem qf_950_135 : t_okf 950 13 135 0 = true := by decide +kernel
theorem qf_950_138 : t_okf 950 13 138 0 = true := by decide +kernel
theorem qf_950_148 : t_okf 950 13 148 1 = true := by decide +kernel
theorem qr_950_102 : t_okr 950 13 102 1008 = true := by decide +kernel
theorem qr_950_150 : t_okr 950 13 150 1035 = true := by decide +kernel
theorem qr_950_152 : t_okr 950 13 152 1037 = true := by decide +kernel
theorem qr_950_166 : t_okr 950 13 166 1051 = true := by decide +kernel
theorem dX13_nextStamp_0 : decode cX13_nextStamp 0 = .ok (.aload_n 0, 1) := by decide +kernel
theorem dX13_nextStamp_1 : decode cX13_nextStamp 1 = .ok (.dup, 1) := by decide +kernel
theorem dX13_nextStamp_10 : decode cX13_nextStamp 10 = .ok (.aload_n 0, 1) := by decide +kernel
theorem dX13_nextStamp_11 : decode cX13_nextStamp 11 = .ok (.getfield 1224, 3) := by decide +kernel
theorem dX13_nextStamp_14 : decode cX13_nextStamp 14 = .ok (.ldc_w 1239, 3) := by decide +kernel
theorem dX13_nextStamp_17 : decode cX13_nextStamp 17 = .ok (.if_icmp .gt 13, 3) := by decide +kernel
theorem dX13_nextStamp_2 : decode cX13_nextStamp 2 = .ok (.getfield 1236, 3) := by decide +kernel
theorem dX13_nextStamp_20 : decode cX13_nextStamp 20 = .ok (.aload_n 0, 1) := by decide +kernel
theorem dX13_nextStamp_21 : decode cX13_nextStamp 21 = .ok (.getfield 1236, 3) := by decide +kernel
theorem dX13_nextStamp_24 : decode cX13_nextStamp 24 = .ok (.ldc_w 1239, 3) := by decide +kernel
theorem dX13_nextStamp_27 : decode cX13_nextStamp 27 = .ok (.if_icmp .le 62, 3) := by decide +kernel
theorem dX13_nextStamp_30 : decode cX13_nextStamp 30 = .ok (.aload_n 0, 1) := by decide +kernel
theorem dX13_nextStamp_31 : decode cX13_nextStamp 31 = .ok (.iconst 0, 1) := by decide +kernel
theorem dX13_nextStamp_32 : decode cX13_nextStamp 32 = .ok (.putfield 1224, 3) := by decide +kernel
theorem dX13_nextStamp_35 : decode cX13_nextStamp 35 = .ok (.iconst 0, 1) := by decide +kernel
theorem dX13_nextStamp_36 : decode cX13_nextStamp 36 = .ok (.istore_n 1, 1) := by decide +kernel
theorem dX13_nextStamp_37 : decode cX13_nextStamp 37 = .ok (.iload_n 1, 1) := by decide +kernel
theorem dX13_nextStamp_38 : decode cX13_nextStamp 38 = .ok (.aload_n 0, 1) := by decide +kernel
theorem dX13_nextStamp_39 : decode cX13_nextStamp 39 = .ok (.getfield 252, 3) := by decide +kernel
theorem dX13_nextStamp_42 : decode cX13_nextStamp 42 = .ok (.arraylength, 1) := by decide +kernel
theorem dX13_nextStamp_43 : decode cX13_nextStamp 43 = .ok (.if_icmp .ge 17, 3) := by decide +kernel
theorem dX13_nextStamp_46 : decode cX13_nextStamp 46 = .ok (.aload_n 0, 1) := by decide +kernel
theorem dX13_nextStamp_47 : decode cX13_nextStamp 47 = .ok (.getfield 252, 3) := by decide +kernel
theorem dX13_nextStamp_5 : decode cX13_nextStamp 5 = .ok (.iconst 1, 1) := by decide +kernel
theorem dX13_nextStamp_50 : decode cX13_nextStamp 50 = .ok (.iload_n 1, 1) := by decide +kernel
theorem dX13_nextStamp_51 : decode cX13_nextStamp 51 = .ok (.bipush (-2), 2) := by decide +kernel
theorem dX13_nextStamp_53 : decode cX13_nextStamp 53 = .ok (.iastore, 1) := by decide +kernel
theorem dX13_nextStamp_54 : decode cX13_nextStamp 54 = .ok (.iinc 1 1, 3) := by decide +kernel
theorem dX13_nextStamp_57 : decode cX13_nextStamp 57 = .ok (.goto (-20), 3) := by decide +kernel
theorem dX13_nextStamp_6 : decode cX13_nextStamp 6 = .ok (.iadd, 1) := by decide +kernel
theorem dX13_nextStamp_60 : decode cX13_nextStamp 60 = .ok (.aload_n 0, 1) := by decide +kernel
theorem dX13_nextStamp_61 : decode cX13_nextStamp 61 = .ok (.iconst 1, 1) := by decide +kernel
theorem dX13_nextStamp_62 : decode cX13_nextStamp 62 = .ok (.putfield 1236, 3) := by decide +kernel
theorem dX13_nextStamp_65 : decode cX13_nextStamp 65 = .ok (.iconst 0, 1) := by decide +kernel
theorem dX13_nextStamp_66 : decode cX13_nextStamp 66 = .ok (.istore_n 1, 1) := by decide +kernel
theorem dX13_nextStamp_67 : decode cX13_nextStamp 67 = .ok (.iload_n 1, 1) := by decide +kernel
theorem dX13_nextStamp_68 : decode cX13_nextStamp 68 = .ok (.aload_n 0, 1) := by decide +kernel
theorem dX13_nextStamp_69 : decode cX13_nextStamp 69 = .ok (.getfield 258, 3) := by decide +kernel
theorem dX13_nextStamp_7 : decode cX13_nextStamp 7 = .ok (.putfield 1236, 3) := by decide +kernel
theorem dX13_nextStamp_72 : decode cX13_nextStamp 72 = .ok (.arraylength, 1) := by decide +kernel
theorem dX13_nextStamp_73 : decode cX13_nextStamp 73 = .ok (.if_icmp .ge 16, 3) := by decide +kernel
theorem dX13_nextStamp_76 : decode cX13_nextStamp 76 = .ok (.aload_n 0, 1) := by decide +kernel
theorem dX13_nextStamp_77 : decode cX13_nextStamp 77 = .ok (.getfield 258, 3) := by decide +kernel
theorem dX13_nextStamp_80 : decode cX13_nextStamp 80 = .ok (.iload_n 1, 1) := by decide +kernel
theorem dX13_nextStamp_81 : decode cX13_nextStamp 81 = .ok (.iconst 0, 1) := by decide +kernel
theorem dX13_nextStamp_82 : decode cX13_nextStamp 82 = .ok (.iastore, 1) := by decide +kernel
theorem dX13_nextStamp_83 : decode cX13_nextStamp 83 = .ok (.iinc 1 1, 3) := by decide +kernel
theorem dX13_nextStamp_86 : decode cX13_nextStamp 86 = .ok (.goto (-19), 3) := by decide +kernel
theorem dX13_nextStamp_89 : decode cX13_nextStamp 89 = .ok (.return_, 1) := by decide +kernel
noncomputable def k_X13_nextStamp_67 (l1 : Int32) (s : t_S) : Option ((Int32 × t_S) ⊕ (t_S)) :=
 if (60 : Int32) ≤ l1 then ((some (s)).map Sum.inr)
 else (if t_ix l1 60 = true then
  t_let (t_setI s 1030 (l1.toNatClampNeg) (0 : Int32)) (fun s1 =>
 some (.inl ((l1 + 1), s1)))
else none)
set_option maxRecDepth 4000 in
set_option maxHeartbeats 1000000 in
theorem B_X13_nextStamp_67 {D : va_G} {cy : Nat → ClassId} {ad : Nat → Nat} {bs : Nat} {X : State → Heap → Prop} (l1 : Int32) (s : t_S) (Q : (Int32 × t_S) ⊕ (t_S) → Prop) (Hb67 : ∀ (y0 : Int32) (y1 : t_S), Q (.inl (y0, y1)) → mj_G D cy ad bs X cX13_nextStamp 2 yX13_nextStamp.cls none yX13_nextStamp.name 0 0 0 1065 (t_P (fun v s' => v = none ∧ Q (.inr (s')))) 67 [(0, .ref 950), (1, .int (y0))] [] (t_m y1) 1065 0 0) (hk : t_hk (k_X13_nextStamp_67 l1 s) Q) : mj_G D cy ad bs X cX13_nextStamp 2 yX13_nextStamp.cls none yX13_nextStamp.name 0 0 0 1065 (t_P (fun v s' => v = none ∧ Q (.inr (s')))) 67 [(0, .ref 950), (1, .int l1)] [] (t_m s) 1065 0 0 := by
  refine mj_iload_n dX13_nextStamp_67 1 rfl ?_
  refine mj_aload_n dX13_nextStamp_68 0 rfl ?_
  refine t_getR 1030 dX13_nextStamp_69 F_X13_258 qr_950_140 ?_
  refine t_alen1 (v := 60) dX13_nextStamp_72 qa_1030 (by decide) ?_
  refine mj_icmp_ge 89 dX13_nextStamp_73 (by decide) (fun z => t_posK hk z (fun hk => ?_)) (fun z => t_negK hk z (fun hk => ?_))
  · refine t_mapK hk (fun hk => ?_)
    exact t_somK hk (fun hf => t_vret dX13_nextStamp_89 rfl ⟨rfl, hf⟩ (Nat.le_of_ble_eq_true rfl) (Nat.le_of_ble_eq_true rfl))
  · refine mj_aload_n dX13_nextStamp_76 0 rfl ?_
    refine t_getR 1030 dX13_nextStamp_77 F_X13_258 qr_950_140 ?_
    refine mj_iload_n dX13_nextStamp_80 1 rfl ?_
    refine mj_iconst (v := 0) dX13_nextStamp_81 (by decide) ?_
    refine t_chkK hk (fun c0 hk => ?_)
    refine t_iastK dX13_nextStamp_82 qa_1030 (t_ixv c0) (fun s1 ws1 => t_letE hk ws1 (fun hk => ?_))
    refine mj_iinc (k := 1) (v := (l1 + 1)) (lv2 := [(1, .int (l1 + 1)), (0, .ref 950)]) dX13_nextStamp_83 rfl rfl (by decide) rfl ?_
    refine mj_goto 67 dX13_nextStamp_86 (by decide) ?_
    refine mj_sublv [(0, .ref 950), (1, .int (l1 + 1))] [1, 0] rfl ?_
    exact t_somK hk (fun hf => Hb67 (l1 + 1) s1 hf)
noncomputable def b_X13_nextStamp_67 (x : Int32 × t_S) : Option ((Int32 × t_S) ⊕ (t_S)) := k_X13_nextStamp_67 x.1 x.2
set_option maxRecDepth 4000 in
set_option maxHeartbeats 1000000 in
theorem LH_X13_nextStamp_67 {D : va_G} {cy : Nat → ClassId} {ad : Nat → Nat} {bs : Nat} {X : State → Heap → Prop} : ∀ (n : Nat) (y0 : Int32) (y1 : t_S) (Q : t_S → Prop) (hk : t_hk (t_loop (b_X13_nextStamp_67) n (y0, y1)) Q), mj_G D cy ad bs X cX13_nextStamp 2 yX13_nextStamp.cls none yX13_nextStamp.name 0 0 0 1065 (t_P (fun v s' => v = none ∧ Q (s'))) 67 [(0, .ref 950), (1, .int (y0))] [] (t_m y1) 1065 0 0 := by
  intro n
  induction n with
  | zero => intro y0 y1 Q hk; obtain ⟨r, hr, _⟩ := hk; cases hr
  | succ n ih =>
    intro y0 y1 Q hk
    exact B_X13_nextStamp_67 y0 y1 (fun y => t_lq (b_X13_nextStamp_67) n Q y) (fun y0' y1' hy => ih y0' y1' Q hy) (t_lp (b := b_X13_nextStamp_67) (n := n) (x := (y0, y1)) hk)
noncomputable def k_X13_nextStamp_37 (l1 : Int32) (s : t_S) : Option ((Int32 × t_S) ⊕ (t_S)) :=
 if (577000 : Int32) ≤ l1 then ((t_let (t_setI s 950 133 (1 : Int32)) (fun s1 =>
 t_loop (b_X13_nextStamp_67) t_N (0, s1))).map Sum.inr)
 else (if t_ix l1 577000 = true then
  t_let (t_setI s 1028 (l1.toNatClampNeg) (-2 : Int32)) (fun s2 =>
 some (.inl ((l1 + 1), s2)))
else none)
set_option maxRecDepth 4000 in
set_option maxHeartbeats 1000000 in
theorem B_X13_nextStamp_37 {D : va_G} {cy : Nat → ClassId} {ad : Nat → Nat} {bs : Nat} {X : State → Heap → Prop} (l1 : Int32) (s : t_S) (Q : (Int32 × t_S) ⊕ (t_S) → Prop) (Hb37 : ∀ (y0 : Int32) (y1 : t_S), Q (.inl (y0, y1)) → mj_G D cy ad bs X cX13_nextStamp 2 yX13_nextStamp.cls none yX13_nextStamp.name 0 0 0 1065 (t_P (fun v s' => v = none ∧ Q (.inr (s')))) 37 [(0, .ref 950), (1, .int (y0))] [] (t_m y1) 1065 0 0) (hk : t_hk (k_X13_nextStamp_37 l1 s) Q) : mj_G D cy ad bs X cX13_nextStamp 2 yX13_nextStamp.cls none yX13_nextStamp.name 0 0 0 1065 (t_P (fun v s' => v = none ∧ Q (.inr (s')))) 37 [(0, .ref 950), (1, .int l1)] [] (t_m s) 1065 0 0 := by
  refine mj_iload_n dX13_nextStamp_37 1 rfl ?_
  refine mj_aload_n dX13_nextStamp_38 0 rfl ?_
  refine t_getR 1028 dX13_nextStamp_39 F_X13_252 qr_950_136 ?_
  refine t_alen1 (v := 577000) dX13_nextStamp_42 qa_1028 (by decide) ?_
  refine mj_icmp_ge 60 dX13_nextStamp_43 (by decide) (fun z => t_posK hk z (fun hk => ?_)) (fun z => t_negK hk z (fun hk => ?_))
  · refine t_mapK hk (fun hk => ?_)
    refine mj_aload_n dX13_nextStamp_60 0 rfl ?_
    refine mj_iconst (v := 1) dX13_nextStamp_61 (by decide) ?_
    refine t_putIK dX13_nextStamp_62 F_X13_1236 qf_950_133 rfl (fun s1 ws1 => t_letE hk ws1 (fun hk => ?_))
    refine mj_iconst (v := 0) dX13_nextStamp_65 (by decide) ?_
    refine mj_istore_n 1 (lv2 := [(1, .int 0), (0, .ref 950)]) dX13_nextStamp_66 rfl (by decide) rfl ?_
    refine mj_sublv [(0, .ref 950), (1, .int 0)] [1, 0] rfl ?_
    exact LH_X13_nextStamp_67 _ 0 s1 _ hk
  · refine mj_aload_n dX13_nextStamp_46 0 rfl ?_
    refine t_getR 1028 dX13_nextStamp_47 F_X13_252 qr_950_136 ?_
    refine mj_iload_n dX13_nextStamp_50 1 rfl ?_
    refine mj_bipush (v := (-2)) dX13_nextStamp_51 (by decide) ?_
    refine t_chkK hk (fun c0 hk => ?_)
    refine t_iastK dX13_nextStamp_53 qa_1028 (t_ixv c0) (fun s2 ws2 => t_letE hk ws2 (fun hk => ?_))
    refine mj_iinc (k := 1) (v := (l1 + 1)) (lv2 := [(1, .int (l1 + 1)), (0, .ref 950)]) dX13_nextStamp_54 rfl rfl (by decide) rfl ?_
    refine mj_goto 37 dX13_nextStamp_57 (by decide) ?_
    refine mj_sublv [(0, .ref 950), (1, .int (l1 + 1))] [1, 0] rfl ?_
    exact t_somK hk (fun hf => Hb37 (l1 + 1) s2 hf)
noncomputable def b_X13_nextStamp_37 (x : Int32 × t_S) : Option ((Int32 × t_S) ⊕ (t_S)) := k_X13_nextStamp_37 x.1 x.2
set_option maxRecDepth 4000 in
set_option maxHeartbeats 1000000 in
theorem LH_X13_nextStamp_37 {D : va_G} {cy : Nat → ClassId} {ad : Nat → Nat} {bs : Nat} {X : State → Heap → Prop} : ∀ (n : Nat) (y0 : Int32) (y1 : t_S) (Q : t_S → Prop) (hk : t_hk (t_loop (b_X13_nextStamp_37) n (y0, y1)) Q), mj_G D cy ad bs X cX13_nextStamp 2 yX13_nextStamp.cls none yX13_nextStamp.name 0 0 0 1065 (t_P (fun v s' => v = none ∧ Q (s'))) 37 [(0, .ref 950), (1, .int (y0))] [] (t_m y1) 1065 0 0 := by
  intro n
  induction n with
  | zero => intro y0 y1 Q hk; obtain ⟨r, hr, _⟩ := hk; cases hr
  | succ n ih =>
    intro y0 y1 Q hk
    exact B_X13_nextStamp_37 y0 y1 (fun y => t_lq (b_X13_nextStamp_37) n Q y) (fun y0' y1' hy => ih y0' y1' Q hy) (t_lp (b := b_X13_nextStamp_37) (n := n) (x := (y0, y1)) hk)
noncomputable def k_X13_nextStamp_30 (s : t_S) : Option (t_S) :=
 t_let (t_setI s 950 137 (0 : Int32)) (fun s1 =>
 t_loop (b_X13_nextStamp_37) t_N (0, s1))
set_option maxRecDepth 4000 in
set_option maxHeartbeats 1000000 in
theorem B_X13_nextStamp_30 {D : va_G} {cy : Nat → ClassId} {ad : Nat → Nat} {bs : Nat} {X : State → Heap → Prop} (s : t_S) (Q : t_S → Prop) (hk : t_hk (k_X13_nextStamp_30 s) Q) : mj_G D cy ad bs X cX13_nextStamp 2 yX13_nextStamp.cls none yX13_nextStamp.name 0 0 0 1065 (t_P (fun v s' => v = none ∧ Q (s'))) 30 [(0, .ref 950)] [] (t_m s) 1065 0 0 := by
  refine mj_aload_n dX13_nextStamp_30 0 rfl ?_
  refine mj_iconst (v := 0) dX13_nextStamp_31 (by decide) ?_
  refine t_putIK dX13_nextStamp_32 F_X13_1224 qf_950_137 rfl (fun s1 ws1 => t_letE hk ws1 (fun hk => ?_))
  refine mj_iconst (v := 0) dX13_nextStamp_35 (by decide) ?_
  refine mj_istore_n 1 (lv2 := [(1, .int 0), (0, .ref 950)]) dX13_nextStamp_36 rfl (by decide) rfl ?_
  refine mj_sublv [(0, .ref 950), (1, .int 0)] [1, 0] rfl ?_
  exact LH_X13_nextStamp_37 _ 0 s1 _ hk
noncomputable def f_X13_nextStamp (s : t_S) : Option (t_S) :=
 t_let (t_setI s 950 133 ((s.1 950 133) + (1 : Int32))) (fun s1 =>
 if (1000000000 : Int32) < (s1.1 950 137) then (k_X13_nextStamp_30 s1)
 else (if (s1.1 950 133) ≤ (1000000000 : Int32) then (some (s1))
 else (k_X13_nextStamp_30 s1)))
set_option maxRecDepth 4000 in
set_option maxHeartbeats 1000000 in
theorem C_X13_nextStamp (s : t_S) (r : t_S) (hr : f_X13_nextStamp s = some r) : t_C yX13_nextStamp cX13_nextStamp 2 none 0 [.ref 950] s (fun v s' => v = none ∧ s' = r) := by
  refine t_C.imp (P := fun v s' => v = none ∧ (fun q => q = r) (s')) (t_C.of (by decide +kernel) (Nat.le_of_ble_eq_true rfl) ?_) (fun v s' hp => hp)
  intro D cy ad bs X
  have hk : t_hk (f_X13_nextStamp s) (fun q => q = r) := ⟨r, hr, rfl⟩
  show mj_G D cy ad bs X cX13_nextStamp 2 yX13_nextStamp.cls none yX13_nextStamp.name 0 0 0 1065 (t_P (fun v s' => v = none ∧ (fun q => q = r) (s'))) 0 [(0, .ref 950)] [] (t_m s) 1065 0 0
  refine mj_aload_n dX13_nextStamp_0 0 rfl ?_
  refine mj_dup dX13_nextStamp_1 rfl ?_
  refine t_getI dX13_nextStamp_2 F_X13_1236 qf_950_133 ?_
  refine mj_iconst (v := 1) dX13_nextStamp_5 (by decide) ?_
  refine mj_iadd dX13_nextStamp_6 ?_
  refine t_putIK dX13_nextStamp_7 F_X13_1236 qf_950_133 rfl (fun s1 ws1 => t_letE hk ws1 (fun hk => ?_))
  refine mj_aload_n dX13_nextStamp_10 0 rfl ?_
  refine t_getI dX13_nextStamp_11 F_X13_1224 qf_950_137 ?_
  refine mj_ldcw dX13_nextStamp_14 K_X13_1239 ?_
  refine mj_icmp_gt 30 dX13_nextStamp_17 (by decide) (fun z => t_posK hk z (fun hk => ?_)) (fun z => t_negK hk z (fun hk => ?_))
  · exact B_X13_nextStamp_30 _ _ hk
  · refine mj_aload_n dX13_nextStamp_20 0 rfl ?_
    refine t_getI dX13_nextStamp_21 F_X13_1236 qf_950_133 ?_
    refine mj_ldcw dX13_nextStamp_24 K_X13_1239 ?_
    refine mj_icmp_le 89 dX13_nextStamp_27 (by decide) (fun z => t_posK hk z (fun hk => ?_)) (fun z => t_negK hk z (fun hk => ?_))
    · exact t_somK hk (fun hf => t_vret dX13_nextStamp_89 rfl ⟨rfl, hf⟩ (Nat.le_of_ble_eq_true rfl) (Nat.le_of_ble_eq_true rfl))
    · exact B_X13_nextStamp_30 _ _ hk

theorem dX13_numberParts_0 : decode cX13_numberParts 0 = .ok (.aload_n 0, 1) := by decide +kernel
theorem dX13_numberParts_1 : decode cX13_numberParts 1 = .ok (.getfield 182, 3) := by decide +kernel
theorem dX13_numberParts_10 : decode cX13_numberParts 10 = .ok (.istore_n 3, 1) := by decide +kernel
theorem dX13_numberParts_100 : decode cX13_numberParts 100 = .ok (.iconst 2, 1) := by decide +kernel
theorem dX13_numberParts_101 : decode cX13_numberParts 101 = .ok (.iadd, 1) := by decide +kernel
theorem dX13_numberParts_102 : decode cX13_numberParts 102 = .ok (.istore 4, 2) := by decide +kernel
theorem dX13_numberParts_104 : decode cX13_numberParts 104 = .ok (.goto (-90), 3) := by decide +kernel
theorem dX13_numberParts_107 : decode cX13_numberParts 107 = .ok (.return_, 1) := by decide +kernel
theorem dX13_numberParts_11 : decode cX13_numberParts 11 = .ok (.iload_n 1, 1) := by decide +kernel
theorem dX13_numberParts_12 : decode cX13_numberParts 12 = .ok (.istore 4, 2) := by decide +kernel
theorem dX13_numberParts_14 : decode cX13_numberParts 14 = .ok (.iload 4, 2) := by decide +kernel
theorem dX13_numberParts_16 : decode cX13_numberParts 16 = .ok (.iload_n 2, 1) := by decide +kernel
theorem dX13_numberParts_17 : decode cX13_numberParts 17 = .ok (.if_icmp .ge 90, 3) := by decide +kernel
theorem dX13_numberParts_20 : decode cX13_numberParts 20 = .ok (.aload_n 0, 1) := by decide +kernel
theorem dX13_numberParts_21 : decode cX13_numberParts 21 = .ok (.getfield 255, 3) := by decide +kernel
theorem dX13_numberParts_24 : decode cX13_numberParts 24 = .ok (.iload 4, 2) := by decide +kernel
theorem dX13_numberParts_26 : decode cX13_numberParts 26 = .ok (.iload_n 1, 1) := by decide +kernel
theorem dX13_numberParts_27 : decode cX13_numberParts 27 = .ok (.isub, 1) := by decide +kernel
theorem dX13_numberParts_28 : decode cX13_numberParts 28 = .ok (.iload_n 3, 1) := by decide +kernel
theorem dX13_numberParts_29 : decode cX13_numberParts 29 = .ok (.iastore, 1) := by decide +kernel
theorem dX13_numberParts_30 : decode cX13_numberParts 30 = .ok (.iinc 3 1, 3) := by decide +kernel
theorem dX13_numberParts_33 : decode cX13_numberParts 33 = .ok (.aload_n 0, 1) := by decide +kernel
theorem dX13_numberParts_34 : decode cX13_numberParts 34 = .ok (.getfield 182, 3) := by decide +kernel
theorem dX13_numberParts_37 : decode cX13_numberParts 37 = .ok (.iload 4, 2) := by decide +kernel
theorem dX13_numberParts_39 : decode cX13_numberParts 39 = .ok (.laload, 1) := by decide +kernel
theorem dX13_numberParts_4 : decode cX13_numberParts 4 = .ok (.iload_n 1, 1) := by decide +kernel
theorem dX13_numberParts_40 : decode cX13_numberParts 40 = .ok (.l2i, 1) := by decide +kernel
theorem dX13_numberParts_41 : decode cX13_numberParts 41 = .ok (.istore 5, 2) := by decide +kernel
theorem dX13_numberParts_43 : decode cX13_numberParts 43 = .ok (.iload 4, 2) := by decide +kernel
theorem dX13_numberParts_45 : decode cX13_numberParts 45 = .ok (.iload 5, 2) := by decide +kernel
theorem dX13_numberParts_47 : decode cX13_numberParts 47 = .ok (.iconst 4, 1) := by decide +kernel
theorem dX13_numberParts_48 : decode cX13_numberParts 48 = .ok (.if_icmp .ne 7, 3) := by decide +kernel
theorem dX13_numberParts_5 : decode cX13_numberParts 5 = .ok (.invokestatic 849, 3) := by decide +kernel
theorem dX13_numberParts_51 : decode cX13_numberParts 51 = .ok (.iconst 1, 1) := by decide +kernel
theorem dX13_numberParts_52 : decode cX13_numberParts 52 = .ok (.goto 49, 3) := by decide +kernel
theorem dX13_numberParts_55 : decode cX13_numberParts 55 = .ok (.iload 5, 2) := by decide +kernel
theorem dX13_numberParts_57 : decode cX13_numberParts 57 = .ok (.iconst 2, 1) := by decide +kernel
theorem dX13_numberParts_58 : decode cX13_numberParts 58 = .ok (.if_icmp .ne 20, 3) := by decide +kernel
theorem dX13_numberParts_61 : decode cX13_numberParts 61 = .ok (.iconst 2, 1) := by decide +kernel
theorem dX13_numberParts_62 : decode cX13_numberParts 62 = .ok (.aload_n 0, 1) := by decide +kernel
theorem dX13_numberParts_63 : decode cX13_numberParts 63 = .ok (.getfield 182, 3) := by decide +kernel
theorem dX13_numberParts_66 : decode cX13_numberParts 66 = .ok (.iload 4, 2) := by decide +kernel
theorem dX13_numberParts_68 : decode cX13_numberParts 68 = .ok (.iconst 1, 1) := by decide +kernel
theorem dX13_numberParts_69 : decode cX13_numberParts 69 = .ok (.iadd, 1) := by decide +kernel
theorem dX13_numberParts_70 : decode cX13_numberParts 70 = .ok (.laload, 1) := by decide +kernel
theorem dX13_numberParts_71 : decode cX13_numberParts 71 = .ok (.invokestatic 845, 3) := by decide +kernel
theorem dX13_numberParts_74 : decode cX13_numberParts 74 = .ok (.iadd, 1) := by decide +kernel
theorem dX13_numberParts_75 : decode cX13_numberParts 75 = .ok (.goto 26, 3) := by decide +kernel
theorem dX13_numberParts_78 : decode cX13_numberParts 78 = .ok (.iload 5, 2) := by decide +kernel
theorem dX13_numberParts_8 : decode cX13_numberParts 8 = .ok (.istore_n 2, 1) := by decide +kernel
theorem dX13_numberParts_80 : decode cX13_numberParts 80 = .ok (.bipush 6, 2) := by decide +kernel
theorem dX13_numberParts_82 : decode cX13_numberParts 82 = .ok (.if_icmp .ne 18, 3) := by decide +kernel
theorem dX13_numberParts_85 : decode cX13_numberParts 85 = .ok (.iconst 2, 1) := by decide +kernel
theorem dX13_numberParts_86 : decode cX13_numberParts 86 = .ok (.aload_n 0, 1) := by decide +kernel
theorem dX13_numberParts_87 : decode cX13_numberParts 87 = .ok (.getfield 182, 3) := by decide +kernel
theorem dX13_numberParts_9 : decode cX13_numberParts 9 = .ok (.iconst 1, 1) := by decide +kernel
theorem dX13_numberParts_90 : decode cX13_numberParts 90 = .ok (.iload 4, 2) := by decide +kernel
theorem dX13_numberParts_92 : decode cX13_numberParts 92 = .ok (.iconst 1, 1) := by decide +kernel
theorem dX13_numberParts_93 : decode cX13_numberParts 93 = .ok (.iadd, 1) := by decide +kernel
theorem dX13_numberParts_94 : decode cX13_numberParts 94 = .ok (.laload, 1) := by decide +kernel
theorem dX13_numberParts_95 : decode cX13_numberParts 95 = .ok (.l2i, 1) := by decide +kernel
theorem dX13_numberParts_96 : decode cX13_numberParts 96 = .ok (.iadd, 1) := by decide +kernel
theorem dX13_numberParts_97 : decode cX13_numberParts 97 = .ok (.goto 4, 3) := by decide +kernel
noncomputable def k_X13_numberParts_101 (l1 : Int32) (l2 : Int32) (l3 : Int32) (k0 : Int32) (k1 : Int32) (s : t_S) : Option ((Int32 × Int32 × Int32 × Int32 × t_S) ⊕ (t_S)) :=
 some (.inl (l1, l2, l3, (k1 + k0), s))
set_option maxRecDepth 4000 in
set_option maxHeartbeats 1000000 in
theorem B_X13_numberParts_101 {D : va_G} {cy : Nat → ClassId} {ad : Nat → Nat} {bs : Nat} {X : State → Heap → Prop} (l1 : Int32) (l2 : Int32) (l3 : Int32) (k0 : Int32) (k1 : Int32) (s : t_S) (Q : (Int32 × Int32 × Int32 × Int32 × t_S) ⊕ (t_S) → Prop) (Hb14 : ∀ (y0 : Int32) (y1 : Int32) (y2 : Int32) (y3 : Int32) (y4 : t_S), Q (.inl (y0, y1, y2, y3, y4)) → mj_G D cy ad bs X cX13_numberParts 6 yX13_numberParts.cls none yX13_numberParts.name 2 0 0 1065 (t_P (fun v s' => v = none ∧ Q (.inr (s')))) 14 [(0, .ref 950), (1, .int (y0)), (2, .int (y1)), (3, .int (y2)), (4, .int (y3))] [] (t_m y4) 1065 0 0) (hk : t_hk (k_X13_numberParts_101 l1 l2 l3 k0 k1 s) Q) : mj_G D cy ad bs X cX13_numberParts 6 yX13_numberParts.cls none yX13_numberParts.name 2 0 0 1065 (t_P (fun v s' => v = none ∧ Q (.inr (s')))) 101 [(0, .ref 950), (1, .int l1), (2, .int l2), (3, .int l3)] [.int k0, .int k1] (t_m s) 1065 0 0 := by
  refine mj_iadd dX13_numberParts_101 ?_
  refine mj_istore (lv2 := [(4, .int (k1 + k0)), (0, .ref 950), (1, .int l1), (2, .int l2), (3, .int l3)]) dX13_numberParts_102 (by decide) rfl ?_
  refine mj_goto 14 dX13_numberParts_104 (by decide) ?_
  refine mj_sublv [(0, .ref 950), (1, .int l1), (2, .int l2), (3, .int l3), (4, .int (k1 + k0))] [1, 2, 3, 4, 0] rfl ?_
  exact t_somK hk (fun hf => Hb14 l1 l2 l3 (k1 + k0) s hf)
noncomputable def k_X13_numberParts_14 (l1 : Int32) (l2 : Int32) (l3 : Int32) (l4 : Int32) (s : t_S) : Option ((Int32 × Int32 × Int32 × Int32 × t_S) ⊕ (t_S)) :=
 if l2 ≤ l4 then ((some (s)).map Sum.inr)
 else (if t_ix (l4 - l1) 270 = true then
  t_let (t_setI s 1029 ((l4 - l1).toNatClampNeg) l3) (fun s1 =>
 if t_ix l4 626600 = true then
  if ((s1.2.1 1006 (l4.toNatClampNeg)).toInt32) = (4 : Int32) then (k_X13_numberParts_101 l1 l2 (l3 + 1) 1 l4 s1)
 else (if ((s1.2.1 1006 (l4.toNatClampNeg)).toInt32) = (2 : Int32) then (if t_ix (l4 + (1 : Int32)) 626600 = true then
  (f_X13_packs (s1.2.1 1006 ((l4 + (1 : Int32)).toNatClampNeg)) s1).bind (fun r5 =>
 k_X13_numberParts_101 l1 l2 (l3 + 1) ((2 : Int32) + r5) l4 s1)
else none)
 else (if ((s1.2.1 1006 (l4.toNatClampNeg)).toInt32) = (6 : Int32) then (if t_ix (l4 + (1 : Int32)) 626600 = true then
  k_X13_numberParts_101 l1 l2 (l3 + 1) ((2 : Int32) + ((s1.2.1 1006 ((l4 + (1 : Int32)).toNatClampNeg)).toInt32)) l4 s1
else none)
 else (k_X13_numberParts_101 l1 l2 (l3 + 1) 2 l4 s1)))
else none)
else none)
set_option maxRecDepth 4000 in
set_option maxHeartbeats 1000000 in
theorem B_X13_numberParts_14 {D : va_G} {cy : Nat → ClassId} {ad : Nat → Nat} {bs : Nat} {X : State → Heap → Prop} (l1 : Int32) (l2 : Int32) (l3 : Int32) (l4 : Int32) (s : t_S) (Q : (Int32 × Int32 × Int32 × Int32 × t_S) ⊕ (t_S) → Prop) (Hb14 : ∀ (y0 : Int32) (y1 : Int32) (y2 : Int32) (y3 : Int32) (y4 : t_S), Q (.inl (y0, y1, y2, y3, y4)) → mj_G D cy ad bs X cX13_numberParts 6 yX13_numberParts.cls none yX13_numberParts.name 2 0 0 1065 (t_P (fun v s' => v = none ∧ Q (.inr (s')))) 14 [(0, .ref 950), (1, .int (y0)), (2, .int (y1)), (3, .int (y2)), (4, .int (y3))] [] (t_m y4) 1065 0 0) (hk : t_hk (k_X13_numberParts_14 l1 l2 l3 l4 s) Q) : mj_G D cy ad bs X cX13_numberParts 6 yX13_numberParts.cls none yX13_numberParts.name 2 0 0 1065 (t_P (fun v s' => v = none ∧ Q (.inr (s')))) 14 [(0, .ref 950), (1, .int l1), (2, .int l2), (3, .int l3), (4, .int l4)] [] (t_m s) 1065 0 0 := by
  refine mj_iload dX13_numberParts_14 4 rfl ?_
  refine mj_iload_n dX13_numberParts_16 2 rfl ?_
  refine mj_icmp_ge 107 dX13_numberParts_17 (by decide) (fun z => t_posK hk z (fun hk => ?_)) (fun z => t_negK hk z (fun hk => ?_))
  · refine t_mapK hk (fun hk => ?_)
    exact t_somK hk (fun hf => t_vret dX13_numberParts_107 rfl ⟨rfl, hf⟩ (Nat.le_of_ble_eq_true rfl) (Nat.le_of_ble_eq_true rfl))
  · refine mj_aload_n dX13_numberParts_20 0 rfl ?_
    refine t_getR 1029 dX13_numberParts_21 F_X13_255 qr_950_139 ?_
    refine mj_iload dX13_numberParts_24 4 rfl ?_
    refine mj_iload_n dX13_numberParts_26 1 rfl ?_
    refine mj_isub dX13_numberParts_27 ?_
    refine mj_iload_n dX13_numberParts_28 3 rfl ?_
    refine t_chkK hk (fun c0 hk => ?_)
    refine t_iastK dX13_numberParts_29 qa_1029 (t_ixv c0) (fun s1 ws1 => t_letE hk ws1 (fun hk => ?_))
    refine mj_iinc (k := 3) (v := (l3 + 1)) (lv2 := [(3, .int (l3 + 1)), (0, .ref 950), (1, .int l1), (2, .int l2), (4, .int l4)]) dX13_numberParts_30 rfl rfl (by decide) rfl ?_
    refine mj_aload_n dX13_numberParts_33 1 rfl ?_
    refine t_getR 1006 dX13_numberParts_34 F_X13_182 qr_950_95 ?_
    refine mj_iload dX13_numberParts_37 4 rfl ?_
    refine t_chkK hk (fun c1 hk => ?_)
    refine t_lald dX13_numberParts_39 qa_1006 (t_ixv c1) ?_
    refine mj_l2i (v := (s1.2.1 1006 (l4.toNatClampNeg)).toInt32) dX13_numberParts_40 rfl ?_
    refine mj_istore (lv2 := [(5, .int ((s1.2.1 1006 (l4.toNatClampNeg)).toInt32)), (3, .int (l3 + 1)), (0, .ref 950), (1, .int l1), (2, .int l2), (4, .int l4)]) dX13_numberParts_41 (by decide) rfl ?_
    refine mj_iload dX13_numberParts_43 5 rfl ?_
    refine mj_iload dX13_numberParts_45 0 rfl ?_
    refine mj_iconst (v := 4) dX13_numberParts_47 (by decide) ?_
    refine mj_icmp_ne 55 dX13_numberParts_48 (by decide) (fun z => t_negK hk z (fun hk => ?_)) (fun z => t_posK hk z (fun hk => ?_))
    · refine mj_iload dX13_numberParts_55 0 rfl ?_
      refine mj_iconst (v := 2) dX13_numberParts_57 (by decide) ?_
      refine mj_icmp_ne 78 dX13_numberParts_58 (by decide) (fun z => t_negK hk z (fun hk => ?_)) (fun z => t_posK hk z (fun hk => ?_))
      · refine mj_iload dX13_numberParts_78 0 rfl ?_
        refine mj_bipush (v := 6) dX13_numberParts_80 (by decide) ?_
        refine mj_icmp_ne 100 dX13_numberParts_82 (by decide) (fun z => t_negK hk z (fun hk => ?_)) (fun z => t_posK hk z (fun hk => ?_))
        · refine mj_iconst (v := 2) dX13_numberParts_100 (by decide) ?_
          refine mj_sublv [(0, .ref 950), (1, .int l1), (2, .int l2), (3, .int (l3 + 1))] [2, 3, 4, 1] rfl ?_
          exact B_X13_numberParts_101 _ _ _ _ _ _ _ (fun y0 y1 y2 y3 y4 hx => Hb14 y0 y1 y2 y3 y4 hx) hk
        · refine mj_iconst (v := 2) dX13_numberParts_85 (by decide) ?_
          refine mj_aload_n dX13_numberParts_86 2 rfl ?_
          refine t_getR 1006 dX13_numberParts_87 F_X13_182 qr_950_95 ?_
          refine mj_iload dX13_numberParts_90 5 rfl ?_
          refine mj_iconst (v := 1) dX13_numberParts_92 (by decide) ?_
          refine mj_iadd dX13_numberParts_93 ?_
          refine t_chkK hk (fun c2 hk => ?_)
          refine t_lald dX13_numberParts_94 qa_1006 (t_ixv c2) ?_
          refine mj_l2i (v := (s1.2.1 1006 ((l4 + (1 : Int32)).toNatClampNeg)).toInt32) dX13_numberParts_95 rfl ?_
          refine mj_iadd dX13_numberParts_96 ?_
          refine mj_goto 101 dX13_numberParts_97 (by decide) ?_
          refine mj_sublv [(0, .ref 950), (1, .int l1), (2, .int l2), (3, .int (l3 + 1))] [2, 3, 4, 1] rfl ?_
          exact B_X13_numberParts_101 _ _ _ _ _ _ _ (fun y0 y1 y2 y3 y4 hx => Hb14 y0 y1 y2 y3 y4 hx) hk
      · refine mj_iconst (v := 2) dX13_numberParts_61 (by decide) ?_
        refine mj_aload_n dX13_numberParts_62 2 rfl ?_
        refine t_getR 1006 dX13_numberParts_63 F_X13_182 qr_950_95 ?_
        refine mj_iload dX13_numberParts_66 5 rfl ?_
        refine mj_iconst (v := 1) dX13_numberParts_68 (by decide) ?_
        refine mj_iadd dX13_numberParts_69 ?_
        refine t_chkK hk (fun c3 hk => ?_)
        refine t_lald dX13_numberParts_70 qa_1006 (t_ixv c3) ?_
        refine t_bndK hk (fun r5 er5 hk => ?_)
        refine t_callSiP dX13_numberParts_71 M_X13_packs (C_X13_packs _ _ _ er5) ML_X13_845 SM_X13_packs (As := [.long (s1.2.1 1006 ((l4 + (1 : Int32)).toNatClampNeg))]) rfl rfl (Nat.le_of_ble_eq_true rfl) (Nat.le_of_ble_eq_true rfl) (Nat.le_of_ble_eq_true rfl) (Nat.le_of_ble_eq_true rfl) ?_
        refine mj_iadd dX13_numberParts_74 ?_
        refine mj_goto 101 dX13_numberParts_75 (by decide) ?_
        refine mj_sublv [(0, .ref 950), (1, .int l1), (2, .int l2), (3, .int (l3 + 1))] [2, 3, 4, 1] rfl ?_
        exact B_X13_numberParts_101 _ _ _ _ _ _ _ (fun y0 y1 y2 y3 y4 hx => Hb14 y0 y1 y2 y3 y4 hx) hk
    · refine mj_iconst (v := 1) dX13_numberParts_51 (by decide) ?_
      refine mj_goto 101 dX13_numberParts_52 (by decide) ?_
      refine mj_sublv [(0, .ref 950), (1, .int l1), (2, .int l2), (3, .int (l3 + 1))] [2, 3, 4, 1] rfl ?_
      exact B_X13_numberParts_101 _ _ _ _ _ _ _ (fun y0 y1 y2 y3 y4 hx => Hb14 y0 y1 y2 y3 y4 hx) hk
noncomputable def b_X13_numberParts_14 (x : Int32 × Int32 × Int32 × Int32 × t_S) : Option ((Int32 × Int32 × Int32 × Int32 × t_S) ⊕ (t_S)) := k_X13_numberParts_14 x.1 x.2.1 x.2.2.1 x.2.2.2.1 x.2.2.2.2
set_option maxRecDepth 4000 in
set_option maxHeartbeats 1000000 in
theorem LH_X13_numberParts_14 {D : va_G} {cy : Nat → ClassId} {ad : Nat → Nat} {bs : Nat} {X : State → Heap → Prop} : ∀ (n : Nat) (y0 : Int32) (y1 : Int32) (y2 : Int32) (y3 : Int32) (y4 : t_S) (Q : t_S → Prop) (hk : t_hk (t_loop (b_X13_numberParts_14) n (y0, y1, y2, y3, y4)) Q), mj_G D cy ad bs X cX13_numberParts 6 yX13_numberParts.cls none yX13_numberParts.name 2 0 0 1065 (t_P (fun v s' => v = none ∧ Q (s'))) 14 [(0, .ref 950), (1, .int (y0)), (2, .int (y1)), (3, .int (y2)), (4, .int (y3))] [] (t_m y4) 1065 0 0 := by
  intro n
  induction n with
  | zero => intro y0 y1 y2 y3 y4 Q hk; obtain ⟨r, hr, _⟩ := hk; cases hr
  | succ n ih =>
    intro y0 y1 y2 y3 y4 Q hk
    exact B_X13_numberParts_14 y0 y1 y2 y3 y4 (fun y => t_lq (b_X13_numberParts_14) n Q y) (fun y0' y1' y2' y3' y4' hy => ih y0' y1' y2' y3' y4' Q hy) (t_lp (b := b_X13_numberParts_14) (n := n) (x := (y0, y1, y2, y3, y4)) hk)
noncomputable def f_X13_numberParts (x1 : Int32) (s : t_S) : Option (t_S) :=
 (f_X13_endOf 1006 x1 s).bind (fun r1 =>
 t_loop (b_X13_numberParts_14) t_N (x1, r1, 1, x1, s))
set_option maxRecDepth 4000 in
set_option maxHeartbeats 1000000 in
theorem C_X13_numberParts (x1 : Int32) (s : t_S) (r : t_S) (hr : f_X13_numberParts x1 s = some r) : t_C yX13_numberParts cX13_numberParts 6 none 2 [.ref 950, .int x1] s (fun v s' => v = none ∧ s' = r) := by
  refine t_C.imp (P := fun v s' => v = none ∧ (fun q => q = r) (s')) (t_C.of (by decide +kernel) (Nat.le_of_ble_eq_true rfl) ?_) (fun v s' hp => hp)
  intro D cy ad bs X
  have hk : t_hk (f_X13_numberParts x1 s) (fun q => q = r) := ⟨r, hr, rfl⟩
  show mj_G D cy ad bs X cX13_numberParts 6 yX13_numberParts.cls none yX13_numberParts.name 2 0 0 1065 (t_P (fun v s' => v = none ∧ (fun q => q = r) (s'))) 0 [(0, .ref 950), (1, .int x1)] [] (t_m s) 1065 0 0
  refine mj_aload_n dX13_numberParts_0 0 rfl ?_
  refine t_getR 1006 dX13_numberParts_1 F_X13_182 qr_950_95 ?_
  refine mj_iload_n dX13_numberParts_4 1 rfl ?_
  refine t_bndK hk (fun r1 er1 hk => ?_)
  refine t_callSiP dX13_numberParts_5 M_X13_endOf (C_X13_endOf _ _ _ _ er1) ML_X13_849 SM_X13_endOf (As := [.ref 1006, .int x1]) rfl rfl (Nat.le_of_ble_eq_true rfl) (Nat.le_of_ble_eq_true rfl) (Nat.le_of_ble_eq_true rfl) (Nat.le_of_ble_eq_true rfl) ?_
  refine mj_istore_n 2 (lv2 := [(2, .int r1), (0, .ref 950), (1, .int x1)]) dX13_numberParts_8 rfl (by decide) rfl ?_
  refine mj_iconst (v := 1) dX13_numberParts_9 (by decide) ?_
  refine mj_istore_n 3 (lv2 := [(3, .int 1), (2, .int r1), (0, .ref 950), (1, .int x1)]) dX13_numberParts_10 rfl (by decide) rfl ?_
  refine mj_iload_n dX13_numberParts_11 3 rfl ?_
  refine mj_istore (lv2 := [(4, .int x1), (3, .int 1), (2, .int r1), (0, .ref 950), (1, .int x1)]) dX13_numberParts_12 (by decide) rfl ?_
  refine mj_sublv [(0, .ref 950), (1, .int x1), (2, .int r1), (3, .int 1), (4, .int x1)] [3, 4, 2, 1, 0] rfl ?_
  exact LH_X13_numberParts_14 _ x1 r1 1 x1 s _ hk

