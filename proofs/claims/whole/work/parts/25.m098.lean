/-! Methods as functions, 98: X13_many, X13_met_, X13_module, X13_named, X13_noBits, X13_queue -/
theorem qf_950_27 : t_okf 950 13 27 0 = true := by decide +kernel
theorem qf_950_82 : t_okf 950 13 82 0 = true := by decide +kernel
theorem qf_950_83 : t_okf 950 13 83 0 = true := by decide +kernel
theorem qf_950_84 : t_okf 950 13 84 0 = true := by decide +kernel
theorem qf_950_93 : t_okf 950 13 93 0 = true := by decide +kernel
theorem qf_950_94 : t_okf 950 13 94 0 = true := by decide +kernel
theorem dX13_many_0 : decode cX13_many 0 = .ok (.aload_n 0, 1) := by decide +kernel
theorem dX13_many_1 : decode cX13_many 1 = .ok (.iload_n 1, 1) := by decide +kernel
theorem dX13_many_10 : decode cX13_many 10 = .ok (.lconst 1, 1) := by decide +kernel
theorem dX13_many_11 : decode cX13_many 11 = .ok (.ldc2_w 369, 3) := by decide +kernel
theorem dX13_many_14 : decode cX13_many 14 = .ok (.invokestatic 371, 3) := by decide +kernel
theorem dX13_many_17 : decode cX13_many 17 = .ok (.ifCond .ne 7, 3) := by decide +kernel
theorem dX13_many_2 : decode cX13_many 2 = .ok (.invokevirtual 1051, 3) := by decide +kernel
theorem dX13_many_20 : decode cX13_many 20 = .ok (.ldc2_w 1087, 3) := by decide +kernel
theorem dX13_many_23 : decode cX13_many 23 = .ok (.lreturn, 1) := by decide +kernel
theorem dX13_many_24 : decode cX13_many 24 = .ok (.aload_n 0, 1) := by decide +kernel
theorem dX13_many_25 : decode cX13_many 25 = .ok (.getfield 651, 3) := by decide +kernel
theorem dX13_many_28 : decode cX13_many 28 = .ok (.ifCond .ne 34, 3) := by decide +kernel
theorem dX13_many_31 : decode cX13_many 31 = .ok (.aload_n 0, 1) := by decide +kernel
theorem dX13_many_32 : decode cX13_many 32 = .ok (.iconst 1, 1) := by decide +kernel
theorem dX13_many_33 : decode cX13_many 33 = .ok (.putfield 651, 3) := by decide +kernel
theorem dX13_many_36 : decode cX13_many 36 = .ok (.iconst 0, 1) := by decide +kernel
theorem dX13_many_37 : decode cX13_many 37 = .ok (.istore_n 3, 1) := by decide +kernel
theorem dX13_many_38 : decode cX13_many 38 = .ok (.iload_n 3, 1) := by decide +kernel
theorem dX13_many_39 : decode cX13_many 39 = .ok (.bipush 21, 2) := by decide +kernel
theorem dX13_many_41 : decode cX13_many 41 = .ok (.aload_n 0, 1) := by decide +kernel
theorem dX13_many_42 : decode cX13_many 42 = .ok (.getfield 664, 3) := by decide +kernel
theorem dX13_many_45 : decode cX13_many 45 = .ok (.imul, 1) := by decide +kernel
theorem dX13_many_46 : decode cX13_many 46 = .ok (.if_icmp .ge 16, 3) := by decide +kernel
theorem dX13_many_49 : decode cX13_many 49 = .ok (.aload_n 0, 1) := by decide +kernel
theorem dX13_many_5 : decode cX13_many 5 = .ok (.ifCond .ne 15, 3) := by decide +kernel
theorem dX13_many_50 : decode cX13_many 50 = .ok (.getfield 220, 3) := by decide +kernel
theorem dX13_many_53 : decode cX13_many 53 = .ok (.iload_n 3, 1) := by decide +kernel
theorem dX13_many_54 : decode cX13_many 54 = .ok (.iconst 0, 1) := by decide +kernel
theorem dX13_many_55 : decode cX13_many 55 = .ok (.bastore, 1) := by decide +kernel
theorem dX13_many_56 : decode cX13_many 56 = .ok (.iinc 3 1, 3) := by decide +kernel
theorem dX13_many_59 : decode cX13_many 59 = .ok (.goto (-21), 3) := by decide +kernel
theorem dX13_many_62 : decode cX13_many 62 = .ok (.aload_n 0, 1) := by decide +kernel
theorem dX13_many_63 : decode cX13_many 63 = .ok (.iconst 0, 1) := by decide +kernel
theorem dX13_many_64 : decode cX13_many 64 = .ok (.putfield 1122, 3) := by decide +kernel
theorem dX13_many_67 : decode cX13_many 67 = .ok (.aload_n 0, 1) := by decide +kernel
theorem dX13_many_68 : decode cX13_many 68 = .ok (.aload_n 0, 1) := by decide +kernel
theorem dX13_many_69 : decode cX13_many 69 = .ok (.getfield 57, 3) := by decide +kernel
theorem dX13_many_72 : decode cX13_many 72 = .ok (.iload_n 1, 1) := by decide +kernel
theorem dX13_many_73 : decode cX13_many 73 = .ok (.iaload, 1) := by decide +kernel
theorem dX13_many_74 : decode cX13_many 74 = .ok (.iload_n 2, 1) := by decide +kernel
theorem dX13_many_75 : decode cX13_many 75 = .ok (.invokestatic 1108, 3) := by decide +kernel
theorem dX13_many_78 : decode cX13_many 78 = .ok (.lreturn, 1) := by decide +kernel
theorem dX13_many_8 : decode cX13_many 8 = .ok (.iload_n 2, 1) := by decide +kernel
theorem dX13_many_9 : decode cX13_many 9 = .ok (.i2l, 1) := by decide +kernel
noncomputable def k_X13_many_62 (l1 : Int32) (l2 : Int32) (s : t_S) : Option (Int64 × t_S) :=
 t_let (t_setI s 950 119 (0 : Int32)) (fun s1 =>
 if t_ix l1 60 = true then
  (f_X13_manyAt (s1.1 965 (l1.toNatClampNeg)) l2 s1).bind (fun r2 =>
 some (r2.1, r2.2))
else none)
set_option maxRecDepth 4000 in
set_option maxHeartbeats 1000000 in
theorem B_X13_many_62 {D : va_G} {cy : Nat → ClassId} {ad : Nat → Nat} {bs : Nat} {X : State → Heap → Prop} (l1 : Int32) (l2 : Int32) (s : t_S) (Q : Int64 × t_S → Prop) (hk : t_hk (k_X13_many_62 l1 l2 s) Q) : mj_G D cy ad bs X cX13_many 4 yX13_many.cls (some .long) yX13_many.name 1503 0 0 1065 (t_P (fun v s' => ∃ x, v = some (.long x) ∧ Q ((x, s')))) 62 [(0, .ref 950), (1, .int l1), (2, .int l2)] [] (t_m s) 1065 0 0 := by
  refine mj_aload_n dX13_many_62 0 rfl ?_
  refine mj_iconst (v := 0) dX13_many_63 (by decide) ?_
  refine t_putIK dX13_many_64 F_X13_1122 qf_950_119 rfl (fun s1 ws1 => t_letE hk ws1 (fun hk => ?_))
  refine mj_aload_n dX13_many_67 0 rfl ?_
  refine mj_aload_n dX13_many_68 0 rfl ?_
  refine t_getR 965 dX13_many_69 F_X13_57 qr_950_38 ?_
  refine mj_iload_n dX13_many_72 1 rfl ?_
  refine t_chkK hk (fun c0 hk => ?_)
  refine t_iald dX13_many_73 qa_965 (t_ixv c0) ?_
  refine mj_iload_n dX13_many_74 2 rfl ?_
  refine t_bndK hk (fun r2 er2 hk => ?_)
  refine t_callSlE dX13_many_75 M_X13_manyAt (C_X13_manyAt _ _ _ _ er2) ML_X13_1108 SM_X13_manyAt (As := [.ref 950, .int (s1.1 965 (l1.toNatClampNeg)), .int l2]) rfl rfl (Nat.le_of_ble_eq_true rfl) (Nat.le_of_ble_eq_true rfl) (Nat.le_of_ble_eq_true rfl) (Nat.le_of_ble_eq_true rfl) ?_
  exact t_somK hk (fun hf => t_lret dX13_many_78 rfl ⟨_, rfl, hf⟩ (Nat.le_of_ble_eq_true rfl) (Nat.le_of_ble_eq_true rfl))
noncomputable def k_X13_many_38 (l1 : Int32) (l2 : Int32) (l3 : Int32) (s : t_S) : Option ((Int32 × Int32 × Int32 × t_S) ⊕ (Int64 × t_S)) :=
 if ((21 : Int32) * (s.1 950 29)) ≤ l3 then ((k_X13_many_62 l1 l2 s).map Sum.inr)
 else (if t_ix l3 273000 = true then
  t_let (t_setI s 1018 (l3.toNatClampNeg) (0 : Int32)) (fun s1 =>
 some (.inl (l1, l2, (l3 + 1), s1)))
else none)
set_option maxRecDepth 4000 in
set_option maxHeartbeats 1000000 in
theorem B_X13_many_38 {D : va_G} {cy : Nat → ClassId} {ad : Nat → Nat} {bs : Nat} {X : State → Heap → Prop} (l1 : Int32) (l2 : Int32) (l3 : Int32) (s : t_S) (Q : (Int32 × Int32 × Int32 × t_S) ⊕ (Int64 × t_S) → Prop) (Hb38 : ∀ (y0 : Int32) (y1 : Int32) (y2 : Int32) (y3 : t_S), Q (.inl (y0, y1, y2, y3)) → mj_G D cy ad bs X cX13_many 4 yX13_many.cls (some .long) yX13_many.name 1503 0 0 1065 (t_P (fun v s' => ∃ x, v = some (.long x) ∧ Q (.inr ((x, s'))))) 38 [(0, .ref 950), (1, .int (y0)), (2, .int (y1)), (3, .int (y2))] [] (t_m y3) 1065 0 0) (hk : t_hk (k_X13_many_38 l1 l2 l3 s) Q) : mj_G D cy ad bs X cX13_many 4 yX13_many.cls (some .long) yX13_many.name 1503 0 0 1065 (t_P (fun v s' => ∃ x, v = some (.long x) ∧ Q (.inr ((x, s'))))) 38 [(0, .ref 950), (1, .int l1), (2, .int l2), (3, .int l3)] [] (t_m s) 1065 0 0 := by
  refine mj_iload_n dX13_many_38 3 rfl ?_
  refine mj_bipush (v := 21) dX13_many_39 (by decide) ?_
  refine mj_aload_n dX13_many_41 0 rfl ?_
  refine t_getI dX13_many_42 F_X13_664 qf_950_29 ?_
  refine mj_imul dX13_many_45 ?_
  refine mj_icmp_ge 62 dX13_many_46 (by decide) (fun z => t_posK hk z (fun hk => ?_)) (fun z => t_negK hk z (fun hk => ?_))
  · refine mj_sublv [(0, .ref 950), (1, .int l1), (2, .int l2)] [0, 1, 2] rfl ?_
    refine t_mapK hk (fun hk => ?_)
    exact B_X13_many_62 _ _ _ _ hk
  · refine mj_aload_n dX13_many_49 0 rfl ?_
    refine t_getR 1018 dX13_many_50 F_X13_220 qr_950_116 ?_
    refine mj_iload_n dX13_many_53 3 rfl ?_
    refine mj_iconst (v := 0) dX13_many_54 (by decide) ?_
    refine t_chkK hk (fun c0 hk => ?_)
    refine t_zastK dX13_many_55 qa_1018 (t_ixv c0) (by decide) (fun s1 ws1 => t_letE hk ws1 (fun hk => ?_))
    refine mj_iinc (k := 3) (v := (l3 + 1)) (lv2 := [(3, .int (l3 + 1)), (0, .ref 950), (1, .int l1), (2, .int l2)]) dX13_many_56 rfl rfl (by decide) rfl ?_
    refine mj_goto 38 dX13_many_59 (by decide) ?_
    refine mj_sublv [(0, .ref 950), (1, .int l1), (2, .int l2), (3, .int (l3 + 1))] [1, 2, 3, 0] rfl ?_
    exact t_somK hk (fun hf => Hb38 l1 l2 (l3 + 1) s1 hf)
noncomputable def b_X13_many_38 (x : Int32 × Int32 × Int32 × t_S) : Option ((Int32 × Int32 × Int32 × t_S) ⊕ (Int64 × t_S)) := k_X13_many_38 x.1 x.2.1 x.2.2.1 x.2.2.2
set_option maxRecDepth 4000 in
set_option maxHeartbeats 1000000 in
theorem LH_X13_many_38 {D : va_G} {cy : Nat → ClassId} {ad : Nat → Nat} {bs : Nat} {X : State → Heap → Prop} : ∀ (n : Nat) (y0 : Int32) (y1 : Int32) (y2 : Int32) (y3 : t_S) (Q : Int64 × t_S → Prop) (hk : t_hk (t_loop (b_X13_many_38) n (y0, y1, y2, y3)) Q), mj_G D cy ad bs X cX13_many 4 yX13_many.cls (some .long) yX13_many.name 1503 0 0 1065 (t_P (fun v s' => ∃ x, v = some (.long x) ∧ Q ((x, s')))) 38 [(0, .ref 950), (1, .int (y0)), (2, .int (y1)), (3, .int (y2))] [] (t_m y3) 1065 0 0 := by
  intro n
  induction n with
  | zero => intro y0 y1 y2 y3 Q hk; obtain ⟨r, hr, _⟩ := hk; cases hr
  | succ n ih =>
    intro y0 y1 y2 y3 Q hk
    exact B_X13_many_38 y0 y1 y2 y3 (fun y => t_lq (b_X13_many_38) n Q y) (fun y0' y1' y2' y3' hy => ih y0' y1' y2' y3' Q hy) (t_lp (b := b_X13_many_38) (n := n) (x := (y0, y1, y2, y3)) hk)
noncomputable def f_X13_many (x1 : Int32) (x2 : Int32) (s : t_S) : Option (Int64 × t_S) :=
 if (f_X13_noType x1 s) = (0 : Int32) then (if (f_X13_in x2.toInt64 (1 : Int64) (20 : Int64) s) = (0 : Int32) then (some ((-1 : Int64), s))
 else (if (s.1 950 117) = (0 : Int32) then (t_let (t_setI s 950 117 (1 : Int32)) (fun s1 =>
 t_loop (b_X13_many_38) t_N (x1, x2, 0, s1)))
 else (k_X13_many_62 x1 x2 s)))
 else (some ((-1 : Int64), s))
set_option maxRecDepth 4000 in
set_option maxHeartbeats 1000000 in
theorem C_X13_many (x1 : Int32) (x2 : Int32) (s : t_S) (r : Int64 × t_S) (hr : f_X13_many x1 x2 s = some r) : t_C yX13_many cX13_many 4 (some .long) 1503 [.ref 950, .int x1, .int x2] s (fun v s' => v = some (.long r.1) ∧ s' = r.2) := by
  refine t_C.imp (P := fun v s' => ∃ x, v = some (.long x) ∧ (fun q => q = r) ((x, s'))) (t_C.of (by decide +kernel) (Nat.le_of_ble_eq_true rfl) ?_) (fun v s' hp => by obtain ⟨x, rfl, rfl⟩ := hp; exact ⟨rfl, rfl⟩)
  intro D cy ad bs X
  have hk : t_hk (f_X13_many x1 x2 s) (fun q => q = r) := ⟨r, hr, rfl⟩
  show mj_G D cy ad bs X cX13_many 4 yX13_many.cls (some .long) yX13_many.name 1503 0 0 1065 (t_P (fun v s' => ∃ x, v = some (.long x) ∧ (fun q => q = r) ((x, s')))) 0 [(0, .ref 950), (1, .int x1), (2, .int x2)] [] (t_m s) 1065 0 0
  refine mj_aload_n dX13_many_0 0 rfl ?_
  refine mj_iload_n dX13_many_1 1 rfl ?_
  refine t_callViP dX13_many_2 M_X13_noType (C_X13_noType _ _) ML_X13_1051 IM_X13_noType SE_X13_noType qc_950 rfl (As := [.int x1]) rfl rfl (Nat.le_of_ble_eq_true rfl) (Nat.le_of_ble_eq_true rfl) (Nat.le_of_ble_eq_true rfl) (Nat.le_of_ble_eq_true rfl) ?_
  refine mj_if_ne 20 dX13_many_5 (by decide) (fun z => t_negK hk z (fun hk => ?_)) (fun z => t_posK hk z (fun hk => ?_))
  · refine mj_ldc2 dX13_many_20 K_X13_1087 ?_
    exact t_somK hk (fun hf => t_lret dX13_many_23 rfl ⟨_, rfl, hf⟩ (Nat.le_of_ble_eq_true rfl) (Nat.le_of_ble_eq_true rfl))
  · refine mj_iload_n dX13_many_8 2 rfl ?_
    refine mj_i2l (v := x2.toInt64) dX13_many_9 rfl ?_
    refine mj_lconst (v := 1) dX13_many_10 (by decide) ?_
    refine mj_ldc2 dX13_many_11 K_X13_369 ?_
    refine t_callSiP dX13_many_14 M_X13_in (C_X13_in _ _ _ _) ML_X13_371 SM_X13_in (As := [.long x2.toInt64, .long 1, .long 20]) rfl rfl (Nat.le_of_ble_eq_true rfl) (Nat.le_of_ble_eq_true rfl) (Nat.le_of_ble_eq_true rfl) (Nat.le_of_ble_eq_true rfl) ?_
    refine mj_if_ne 24 dX13_many_17 (by decide) (fun z => t_negK hk z (fun hk => ?_)) (fun z => t_posK hk z (fun hk => ?_))
    · refine mj_aload_n dX13_many_24 0 rfl ?_
      refine t_getI dX13_many_25 F_X13_651 qf_950_117 ?_
      refine mj_if_ne 62 dX13_many_28 (by decide) (fun z => t_negK hk z (fun hk => ?_)) (fun z => t_posK hk z (fun hk => ?_))
      · exact B_X13_many_62 _ _ _ _ hk
      · refine mj_aload_n dX13_many_31 0 rfl ?_
        refine mj_iconst (v := 1) dX13_many_32 (by decide) ?_
        refine t_putIK dX13_many_33 F_X13_651 qf_950_117 (by decide) (fun s1 ws1 => t_letE hk ws1 (fun hk => ?_))
        refine mj_iconst (v := 0) dX13_many_36 (by decide) ?_
        refine mj_istore_n 3 (lv2 := [(3, .int 0), (0, .ref 950), (1, .int x1), (2, .int x2)]) dX13_many_37 rfl (by decide) rfl ?_
        refine mj_sublv [(0, .ref 950), (1, .int x1), (2, .int x2), (3, .int 0)] [1, 2, 3, 0] rfl ?_
        exact LH_X13_many_38 _ x1 x2 0 s1 _ hk
    · refine mj_ldc2 dX13_many_20 K_X13_1087 ?_
      exact t_somK hk (fun hf => t_lret dX13_many_23 rfl ⟨_, rfl, hf⟩ (Nat.le_of_ble_eq_true rfl) (Nat.le_of_ble_eq_true rfl))

theorem dX13_met__0 : decode cX13_met_ 0 = .ok (.aload_n 0, 1) := by decide +kernel
theorem dX13_met__1 : decode cX13_met_ 1 = .ok (.getfield 642, 3) := by decide +kernel
theorem dX13_met__101 : decode cX13_met_ 101 = .ok (.iload_n 1, 1) := by decide +kernel
theorem dX13_met__102 : decode cX13_met_ 102 = .ok (.iaload, 1) := by decide +kernel
theorem dX13_met__103 : decode cX13_met_ 103 = .ok (.sipush 260, 3) := by decide +kernel
theorem dX13_met__106 : decode cX13_met_ 106 = .ok (.iconst 0, 1) := by decide +kernel
theorem dX13_met__107 : decode cX13_met_ 107 = .ok (.iload_n 2, 1) := by decide +kernel
theorem dX13_met__108 : decode cX13_met_ 108 = .ok (.iadd, 1) := by decide +kernel
theorem dX13_met__109 : decode cX13_met_ 109 = .ok (.imul, 1) := by decide +kernel
theorem dX13_met__11 : decode cX13_met_ 11 = .ok (.iload_n 1, 1) := by decide +kernel
theorem dX13_met__110 : decode cX13_met_ 110 = .ok (.invokevirtual 1285, 3) := by decide +kernel
theorem dX13_met__113 : decode cX13_met_ 113 = .ok (.iload_n 3, 1) := by decide +kernel
theorem dX13_met__114 : decode cX13_met_ 114 = .ok (.ifCond .eq 7, 3) := by decide +kernel
theorem dX13_met__117 : decode cX13_met_ 117 = .ok (.iconst 1, 1) := by decide +kernel
theorem dX13_met__118 : decode cX13_met_ 118 = .ok (.goto 4, 3) := by decide +kernel
theorem dX13_met__12 : decode cX13_met_ 12 = .ok (.aload_n 0, 1) := by decide +kernel
theorem dX13_met__121 : decode cX13_met_ 121 = .ok (.iconst 0, 1) := by decide +kernel
theorem dX13_met__122 : decode cX13_met_ 122 = .ok (.ireturn, 1) := by decide +kernel
theorem dX13_met__13 : decode cX13_met_ 13 = .ok (.getfield 627, 3) := by decide +kernel
theorem dX13_met__16 : decode cX13_met_ 16 = .ok (.if_icmp .ge 11, 3) := by decide +kernel
theorem dX13_met__19 : decode cX13_met_ 19 = .ok (.aload_n 0, 1) := by decide +kernel
theorem dX13_met__20 : decode cX13_met_ 20 = .ok (.iload_n 2, 1) := by decide +kernel
theorem dX13_met__21 : decode cX13_met_ 21 = .ok (.invokevirtual 1002, 3) := by decide +kernel
theorem dX13_met__24 : decode cX13_met_ 24 = .ok (.ifCond .eq 5, 3) := by decide +kernel
theorem dX13_met__27 : decode cX13_met_ 27 = .ok (.iconst (-1), 1) := by decide +kernel
theorem dX13_met__28 : decode cX13_met_ 28 = .ok (.ireturn, 1) := by decide +kernel
theorem dX13_met__29 : decode cX13_met_ 29 = .ok (.aload_n 0, 1) := by decide +kernel
theorem dX13_met__30 : decode cX13_met_ 30 = .ok (.iconst 0, 1) := by decide +kernel
theorem dX13_met__31 : decode cX13_met_ 31 = .ok (.putfield 842, 3) := by decide +kernel
theorem dX13_met__34 : decode cX13_met_ 34 = .ok (.aload_n 0, 1) := by decide +kernel
theorem dX13_met__35 : decode cX13_met_ 35 = .ok (.iconst 0, 1) := by decide +kernel
theorem dX13_met__36 : decode cX13_met_ 36 = .ok (.putfield 858, 3) := by decide +kernel
theorem dX13_met__39 : decode cX13_met_ 39 = .ok (.aload_n 0, 1) := by decide +kernel
theorem dX13_met__4 : decode cX13_met_ 4 = .ok (.ifCond .eq 23, 3) := by decide +kernel
theorem dX13_met__40 : decode cX13_met_ 40 = .ok (.iconst 0, 1) := by decide +kernel
theorem dX13_met__41 : decode cX13_met_ 41 = .ok (.putfield 882, 3) := by decide +kernel
theorem dX13_met__44 : decode cX13_met_ 44 = .ok (.aload_n 0, 1) := by decide +kernel
theorem dX13_met__45 : decode cX13_met_ 45 = .ok (.iconst (-1), 1) := by decide +kernel
theorem dX13_met__46 : decode cX13_met_ 46 = .ok (.putfield 917, 3) := by decide +kernel
theorem dX13_met__49 : decode cX13_met_ 49 = .ok (.aload_n 0, 1) := by decide +kernel
theorem dX13_met__50 : decode cX13_met_ 50 = .ok (.iconst (-1), 1) := by decide +kernel
theorem dX13_met__51 : decode cX13_met_ 51 = .ok (.putfield 935, 3) := by decide +kernel
theorem dX13_met__54 : decode cX13_met_ 54 = .ok (.aload_n 0, 1) := by decide +kernel
theorem dX13_met__55 : decode cX13_met_ 55 = .ok (.aload_n 0, 1) := by decide +kernel
theorem dX13_met__56 : decode cX13_met_ 56 = .ok (.getfield 66, 3) := by decide +kernel
theorem dX13_met__59 : decode cX13_met_ 59 = .ok (.iload_n 1, 1) := by decide +kernel
theorem dX13_met__60 : decode cX13_met_ 60 = .ok (.iaload, 1) := by decide +kernel
theorem dX13_met__61 : decode cX13_met_ 61 = .ok (.sipush 260, 3) := by decide +kernel
theorem dX13_met__64 : decode cX13_met_ 64 = .ok (.iconst 0, 1) := by decide +kernel
theorem dX13_met__65 : decode cX13_met_ 65 = .ok (.iload_n 2, 1) := by decide +kernel
theorem dX13_met__66 : decode cX13_met_ 66 = .ok (.iadd, 1) := by decide +kernel
theorem dX13_met__67 : decode cX13_met_ 67 = .ok (.imul, 1) := by decide +kernel
theorem dX13_met__68 : decode cX13_met_ 68 = .ok (.invokestatic 944, 3) := by decide +kernel
theorem dX13_met__7 : decode cX13_met_ 7 = .ok (.iload_n 1, 1) := by decide +kernel
theorem dX13_met__71 : decode cX13_met_ 71 = .ok (.istore_n 3, 1) := by decide +kernel
theorem dX13_met__72 : decode cX13_met_ 72 = .ok (.aload_n 0, 1) := by decide +kernel
theorem dX13_met__73 : decode cX13_met_ 73 = .ok (.getfield 842, 3) := by decide +kernel
theorem dX13_met__76 : decode cX13_met_ 76 = .ok (.ifCond .eq 11, 3) := by decide +kernel
theorem dX13_met__79 : decode cX13_met_ 79 = .ok (.bipush (-20), 2) := by decide +kernel
theorem dX13_met__8 : decode cX13_met_ 8 = .ok (.ifCond .lt 19, 3) := by decide +kernel
theorem dX13_met__81 : decode cX13_met_ 81 = .ok (.aload_n 0, 1) := by decide +kernel
theorem dX13_met__82 : decode cX13_met_ 82 = .ok (.getfield 842, 3) := by decide +kernel
theorem dX13_met__85 : decode cX13_met_ 85 = .ok (.isub, 1) := by decide +kernel
theorem dX13_met__86 : decode cX13_met_ 86 = .ok (.ireturn, 1) := by decide +kernel
theorem dX13_met__87 : decode cX13_met_ 87 = .ok (.iload_n 3, 1) := by decide +kernel
theorem dX13_met__88 : decode cX13_met_ 88 = .ok (.ifCond .ne 25, 3) := by decide +kernel
theorem dX13_met__91 : decode cX13_met_ 91 = .ok (.aload_n 0, 1) := by decide +kernel
theorem dX13_met__92 : decode cX13_met_ 92 = .ok (.iconst 0, 1) := by decide +kernel
theorem dX13_met__93 : decode cX13_met_ 93 = .ok (.putfield 1282, 3) := by decide +kernel
theorem dX13_met__96 : decode cX13_met_ 96 = .ok (.aload_n 0, 1) := by decide +kernel
theorem dX13_met__97 : decode cX13_met_ 97 = .ok (.aload_n 0, 1) := by decide +kernel
theorem dX13_met__98 : decode cX13_met_ 98 = .ok (.getfield 66, 3) := by decide +kernel
noncomputable def k_X13_met__113 (l3 : Int32) (s : t_S) : Option (Int32 × t_S) :=
 if l3 = (0 : Int32) then (some ((0 : Int32), s))
 else (some ((1 : Int32), s))
set_option maxRecDepth 4000 in
set_option maxHeartbeats 1000000 in
theorem B_X13_met__113 {D : va_G} {cy : Nat → ClassId} {ad : Nat → Nat} {bs : Nat} {X : State → Heap → Prop} (l3 : Int32) (s : t_S) (Q : Int32 × t_S → Prop) (hk : t_hk (k_X13_met__113 l3 s) Q) : mj_G D cy ad bs X cX13_met_ 4 yX13_met_.cls (some .int) yX13_met_.name 1784 0 0 1065 (t_P (fun v s' => ∃ x, v = some (.int x) ∧ Q ((x, s')))) 113 [(3, .int l3)] [] (t_m s) 1065 0 0 := by
  refine mj_iload_n dX13_met__113 0 rfl ?_
  refine mj_if_eq 121 dX13_met__114 (by decide) (fun z => t_posK hk z (fun hk => ?_)) (fun z => t_negK hk z (fun hk => ?_))
  · refine mj_iconst (v := 0) dX13_met__121 (by decide) ?_
    exact t_somK hk (fun hf => t_iret dX13_met__122 rfl rfl ⟨_, rfl, hf⟩ (Nat.le_of_ble_eq_true rfl) (Nat.le_of_ble_eq_true rfl))
  · refine mj_iconst (v := 1) dX13_met__117 (by decide) ?_
    refine mj_goto 122 dX13_met__118 (by decide) ?_
    exact t_somK hk (fun hf => t_iret dX13_met__122 rfl rfl ⟨_, rfl, hf⟩ (Nat.le_of_ble_eq_true rfl) (Nat.le_of_ble_eq_true rfl))
noncomputable def f_X13_met_ (x1 : Int32) (x2 : Int32) (s : t_S) : Option (Int32 × t_S) :=
 if (s.1 950 65) = (0 : Int32) then (some ((-1 : Int32), s))
 else (if x1 < (0 : Int32) then (some ((-1 : Int32), s))
 else (if (s.1 950 44) ≤ x1 then (some ((-1 : Int32), s))
 else (if (f_X13_noValue x2 s) = (0 : Int32) then (t_let (t_setI s 950 97 (0 : Int32)) (fun s1 =>
 t_let (t_setI s1 950 98 (0 : Int32)) (fun s2 =>
 t_let (t_setI s2 950 103 (0 : Int32)) (fun s3 =>
 t_let (t_setI s3 950 100 (-1 : Int32)) (fun s4 =>
 t_let (t_setI s4 950 101 (-1 : Int32)) (fun s5 =>
 if t_ix x1 60 = true then
  (f_X13_matchAll (s5.1 968 (x1.toNatClampNeg)) ((260 : Int32) * ((0 : Int32) + x2)) s5).bind (fun r3 =>
 if (r3.2.1 950 97) = (0 : Int32) then (if r3.1 = (0 : Int32) then (t_let (t_setI r3.2 950 146 (0 : Int32)) (fun s6 =>
 (f_X13_findWhy (s6.1 968 (x1.toNatClampNeg)) ((260 : Int32) * ((0 : Int32) + x2)) s6).bind (fun r4 =>
 k_X13_met__113 r3.1 r4)))
 else (k_X13_met__113 r3.1 r3.2))
 else (some (((-20 : Int32) - (r3.2.1 950 97)), r3.2)))
else none))))))
 else (some ((-1 : Int32), s)))))
set_option maxRecDepth 4000 in
set_option maxHeartbeats 1000000 in
theorem C_X13_met_ (x1 : Int32) (x2 : Int32) (s : t_S) (r : Int32 × t_S) (hr : f_X13_met_ x1 x2 s = some r) : t_C yX13_met_ cX13_met_ 4 (some .int) 1784 [.ref 950, .int x1, .int x2] s (fun v s' => v = some (.int r.1) ∧ s' = r.2) := by
  refine t_C.imp (P := fun v s' => ∃ x, v = some (.int x) ∧ (fun q => q = r) ((x, s'))) (t_C.of (by decide +kernel) (Nat.le_of_ble_eq_true rfl) ?_) (fun v s' hp => by obtain ⟨x, rfl, rfl⟩ := hp; exact ⟨rfl, rfl⟩)
  intro D cy ad bs X
  have hk : t_hk (f_X13_met_ x1 x2 s) (fun q => q = r) := ⟨r, hr, rfl⟩
  show mj_G D cy ad bs X cX13_met_ 4 yX13_met_.cls (some .int) yX13_met_.name 1784 0 0 1065 (t_P (fun v s' => ∃ x, v = some (.int x) ∧ (fun q => q = r) ((x, s')))) 0 [(0, .ref 950), (1, .int x1), (2, .int x2)] [] (t_m s) 1065 0 0
  refine mj_aload_n dX13_met__0 0 rfl ?_
  refine t_getI dX13_met__1 F_X13_642 qf_950_65 ?_
  refine mj_if_eq 27 dX13_met__4 (by decide) (fun z => t_posK hk z (fun hk => ?_)) (fun z => t_negK hk z (fun hk => ?_))
  · refine mj_iconst (v := (-1)) dX13_met__27 (by decide) ?_
    exact t_somK hk (fun hf => t_iret dX13_met__28 rfl rfl ⟨_, rfl, hf⟩ (Nat.le_of_ble_eq_true rfl) (Nat.le_of_ble_eq_true rfl))
  · refine mj_iload_n dX13_met__7 1 rfl ?_
    refine mj_if_lt 27 dX13_met__8 (by decide) (fun z => t_posK hk z (fun hk => ?_)) (fun z => t_negK hk z (fun hk => ?_))
    · refine mj_iconst (v := (-1)) dX13_met__27 (by decide) ?_
      exact t_somK hk (fun hf => t_iret dX13_met__28 rfl rfl ⟨_, rfl, hf⟩ (Nat.le_of_ble_eq_true rfl) (Nat.le_of_ble_eq_true rfl))
    · refine mj_iload_n dX13_met__11 1 rfl ?_
      refine mj_aload_n dX13_met__12 0 rfl ?_
      refine t_getI dX13_met__13 F_X13_627 qf_950_44 ?_
      refine mj_icmp_ge 27 dX13_met__16 (by decide) (fun z => t_posK hk z (fun hk => ?_)) (fun z => t_negK hk z (fun hk => ?_))
      · refine mj_iconst (v := (-1)) dX13_met__27 (by decide) ?_
        exact t_somK hk (fun hf => t_iret dX13_met__28 rfl rfl ⟨_, rfl, hf⟩ (Nat.le_of_ble_eq_true rfl) (Nat.le_of_ble_eq_true rfl))
      · refine mj_aload_n dX13_met__19 0 rfl ?_
        refine mj_iload_n dX13_met__20 2 rfl ?_
        refine t_callViP dX13_met__21 M_X13_noValue (C_X13_noValue _ _) ML_X13_1002 IM_X13_noValue SE_X13_noValue qc_950 rfl (As := [.int x2]) rfl rfl (Nat.le_of_ble_eq_true rfl) (Nat.le_of_ble_eq_true rfl) (Nat.le_of_ble_eq_true rfl) (Nat.le_of_ble_eq_true rfl) ?_
        refine mj_if_eq 29 dX13_met__24 (by decide) (fun z => t_posK hk z (fun hk => ?_)) (fun z => t_negK hk z (fun hk => ?_))
        · refine mj_aload_n dX13_met__29 0 rfl ?_
          refine mj_iconst (v := 0) dX13_met__30 (by decide) ?_
          refine t_putIK dX13_met__31 F_X13_842 qf_950_97 rfl (fun s1 ws1 => t_letE hk ws1 (fun hk => ?_))
          refine mj_aload_n dX13_met__34 0 rfl ?_
          refine mj_iconst (v := 0) dX13_met__35 (by decide) ?_
          refine t_putIK dX13_met__36 F_X13_858 qf_950_98 rfl (fun s2 ws2 => t_letE hk ws2 (fun hk => ?_))
          refine mj_aload_n dX13_met__39 0 rfl ?_
          refine mj_iconst (v := 0) dX13_met__40 (by decide) ?_
          refine t_putIK dX13_met__41 F_X13_882 qf_950_103 rfl (fun s3 ws3 => t_letE hk ws3 (fun hk => ?_))
          refine mj_aload_n dX13_met__44 0 rfl ?_
          refine mj_iconst (v := (-1)) dX13_met__45 (by decide) ?_
          refine t_putIK dX13_met__46 F_X13_917 qf_950_100 rfl (fun s4 ws4 => t_letE hk ws4 (fun hk => ?_))
          refine mj_aload_n dX13_met__49 0 rfl ?_
          refine mj_iconst (v := (-1)) dX13_met__50 (by decide) ?_
          refine t_putIK dX13_met__51 F_X13_935 qf_950_101 rfl (fun s5 ws5 => t_letE hk ws5 (fun hk => ?_))
          refine mj_aload_n dX13_met__54 0 rfl ?_
          refine mj_aload_n dX13_met__55 0 rfl ?_
          refine t_getR 968 dX13_met__56 F_X13_66 qr_950_42 ?_
          refine mj_iload_n dX13_met__59 1 rfl ?_
          refine t_chkK hk (fun c1 hk => ?_)
          refine t_iald dX13_met__60 qa_968 (t_ixv c1) ?_
          refine mj_sipush (v := 260) dX13_met__61 (by decide) ?_
          refine mj_iconst (v := 0) dX13_met__64 (by decide) ?_
          refine mj_iload_n dX13_met__65 2 rfl ?_
          refine mj_iadd dX13_met__66 ?_
          refine mj_imul dX13_met__67 ?_
          refine t_bndK hk (fun r3 er3 hk => ?_)
          refine t_callSiE dX13_met__68 M_X13_matchAll (C_X13_matchAll _ _ _ _ er3) ML_X13_944 SM_X13_matchAll (As := [.ref 950, .int (s5.1 968 (x1.toNatClampNeg)), .int ((260 : Int32) * ((0 : Int32) + x2))]) rfl rfl (Nat.le_of_ble_eq_true rfl) (Nat.le_of_ble_eq_true rfl) (Nat.le_of_ble_eq_true rfl) (Nat.le_of_ble_eq_true rfl) ?_
          refine mj_istore_n 3 (lv2 := [(3, .int r3.1), (0, .ref 950), (1, .int x1), (2, .int x2)]) dX13_met__71 rfl (by decide) rfl ?_
          refine mj_aload_n dX13_met__72 1 rfl ?_
          refine t_getI dX13_met__73 F_X13_842 qf_950_97 ?_
          refine mj_if_eq 87 dX13_met__76 (by decide) (fun z => t_posK hk z (fun hk => ?_)) (fun z => t_negK hk z (fun hk => ?_))
          · refine mj_iload_n dX13_met__87 0 rfl ?_
            refine mj_if_ne 113 dX13_met__88 (by decide) (fun z => t_negK hk z (fun hk => ?_)) (fun z => t_posK hk z (fun hk => ?_))
            · refine mj_sublv [(3, .int r3.1)] [0] rfl ?_
              exact B_X13_met__113 _ _ _ hk
            · refine mj_aload_n dX13_met__91 1 rfl ?_
              refine mj_iconst (v := 0) dX13_met__92 (by decide) ?_
              refine t_putIK dX13_met__93 F_X13_1282 qf_950_146 rfl (fun s6 ws6 => t_letE hk ws6 (fun hk => ?_))
              refine mj_aload_n dX13_met__96 1 rfl ?_
              refine mj_aload_n dX13_met__97 1 rfl ?_
              refine t_getR 968 dX13_met__98 F_X13_66 qr_950_42 ?_
              refine mj_iload_n dX13_met__101 2 rfl ?_
              refine t_iald dX13_met__102 qa_968 (t_ixv c1) ?_
              refine mj_sipush (v := 260) dX13_met__103 (by decide) ?_
              refine mj_iconst (v := 0) dX13_met__106 (by decide) ?_
              refine mj_iload_n dX13_met__107 3 rfl ?_
              refine mj_iadd dX13_met__108 ?_
              refine mj_imul dX13_met__109 ?_
              refine t_bndK hk (fun r4 er4 hk => ?_)
              refine t_callVvE dX13_met__110 M_X13_findWhy (C_X13_findWhy _ _ _ _ er4) ML_X13_1285 IM_X13_findWhy SE_X13_findWhy qc_950 rfl (As := [.int (s6.1 968 (x1.toNatClampNeg)), .int ((260 : Int32) * ((0 : Int32) + x2))]) rfl rfl (Nat.le_of_ble_eq_true rfl) (Nat.le_of_ble_eq_true rfl) (Nat.le_of_ble_eq_true rfl) (Nat.le_of_ble_eq_true rfl) ?_
              refine mj_sublv [(3, .int r3.1)] [0] rfl ?_
              exact B_X13_met__113 _ _ _ hk
          · refine mj_bipush (v := (-20)) dX13_met__79 (by decide) ?_
            refine mj_aload_n dX13_met__81 1 rfl ?_
            refine t_getI dX13_met__82 F_X13_842 qf_950_97 ?_
            refine mj_isub dX13_met__85 ?_
            exact t_somK hk (fun hf => t_iret dX13_met__86 rfl rfl ⟨_, rfl, hf⟩ (Nat.le_of_ble_eq_true rfl) (Nat.le_of_ble_eq_true rfl))
        · refine mj_iconst (v := (-1)) dX13_met__27 (by decide) ?_
          exact t_somK hk (fun hf => t_iret dX13_met__28 rfl rfl ⟨_, rfl, hf⟩ (Nat.le_of_ble_eq_true rfl) (Nat.le_of_ble_eq_true rfl))

theorem dX13_module_0 : decode cX13_module 0 = .ok (.aload_n 0, 1) := by decide +kernel
theorem dX13_module_1 : decode cX13_module 1 = .ok (.iconst 0, 1) := by decide +kernel
theorem dX13_module_10 : decode cX13_module 10 = .ok (.aload_n 0, 1) := by decide +kernel
theorem dX13_module_100 : decode cX13_module 100 = .ok (.aload_n 0, 1) := by decide +kernel
theorem dX13_module_101 : decode cX13_module 101 = .ok (.invokevirtual 452, 3) := by decide +kernel
theorem dX13_module_104 : decode cX13_module 104 = .ok (.aload_n 0, 1) := by decide +kernel
theorem dX13_module_105 : decode cX13_module 105 = .ok (.getfield 385, 3) := by decide +kernel
theorem dX13_module_108 : decode cX13_module 108 = .ok (.ifCond .eq 17, 3) := by decide +kernel
theorem dX13_module_11 : decode cX13_module 11 = .ok (.iconst 1, 1) := by decide +kernel
theorem dX13_module_111 : decode cX13_module 111 = .ok (.aload_n 0, 1) := by decide +kernel
theorem dX13_module_112 : decode cX13_module 112 = .ok (.getfield 375, 3) := by decide +kernel
theorem dX13_module_115 : decode cX13_module 115 = .ok (.ifCond .ne 10, 3) := by decide +kernel
theorem dX13_module_118 : decode cX13_module 118 = .ok (.aload_n 0, 1) := by decide +kernel
theorem dX13_module_119 : decode cX13_module 119 = .ok (.invokestatic 657, 3) := by decide +kernel
theorem dX13_module_12 : decode cX13_module 12 = .ok (.putfield 461, 3) := by decide +kernel
theorem dX13_module_122 : decode cX13_module 122 = .ok (.goto (-18), 3) := by decide +kernel
theorem dX13_module_125 : decode cX13_module 125 = .ok (.aload_n 0, 1) := by decide +kernel
theorem dX13_module_126 : decode cX13_module 126 = .ok (.getfield 375, 3) := by decide +kernel
theorem dX13_module_129 : decode cX13_module 129 = .ok (.ifCond .ne 7, 3) := by decide +kernel
theorem dX13_module_132 : decode cX13_module 132 = .ok (.aload_n 0, 1) := by decide +kernel
theorem dX13_module_133 : decode cX13_module 133 = .ok (.invokevirtual 661, 3) := by decide +kernel
theorem dX13_module_136 : decode cX13_module 136 = .ok (.aload_n 0, 1) := by decide +kernel
theorem dX13_module_137 : decode cX13_module 137 = .ok (.iconst 0, 1) := by decide +kernel
theorem dX13_module_138 : decode cX13_module 138 = .ok (.putfield 366, 3) := by decide +kernel
theorem dX13_module_141 : decode cX13_module 141 = .ok (.aload_n 0, 1) := by decide +kernel
theorem dX13_module_142 : decode cX13_module 142 = .ok (.aload_n 0, 1) := by decide +kernel
theorem dX13_module_143 : decode cX13_module 143 = .ok (.getfield 375, 3) := by decide +kernel
theorem dX13_module_146 : decode cX13_module 146 = .ok (.ifCond .ne 7, 3) := by decide +kernel
theorem dX13_module_149 : decode cX13_module 149 = .ok (.iconst 1, 1) := by decide +kernel
theorem dX13_module_15 : decode cX13_module 15 = .ok (.aload_n 0, 1) := by decide +kernel
theorem dX13_module_150 : decode cX13_module 150 = .ok (.goto 4, 3) := by decide +kernel
theorem dX13_module_153 : decode cX13_module 153 = .ok (.iconst 0, 1) := by decide +kernel
theorem dX13_module_154 : decode cX13_module 154 = .ok (.putfield 642, 3) := by decide +kernel
theorem dX13_module_157 : decode cX13_module 157 = .ok (.aload_n 0, 1) := by decide +kernel
theorem dX13_module_158 : decode cX13_module 158 = .ok (.aload_n 0, 1) := by decide +kernel
theorem dX13_module_159 : decode cX13_module 159 = .ok (.getfield 474, 3) := by decide +kernel
theorem dX13_module_16 : decode cX13_module 16 = .ok (.iconst 0, 1) := by decide +kernel
theorem dX13_module_162 : decode cX13_module 162 = .ok (.putfield 664, 3) := by decide +kernel
theorem dX13_module_165 : decode cX13_module 165 = .ok (.aload_n 0, 1) := by decide +kernel
theorem dX13_module_166 : decode cX13_module 166 = .ok (.aload_n 0, 1) := by decide +kernel
theorem dX13_module_167 : decode cX13_module 167 = .ok (.getfield 479, 3) := by decide +kernel
theorem dX13_module_17 : decode cX13_module 17 = .ok (.putfield 474, 3) := by decide +kernel
theorem dX13_module_170 : decode cX13_module 170 = .ok (.putfield 667, 3) := by decide +kernel
theorem dX13_module_173 : decode cX13_module 173 = .ok (.aload_n 0, 1) := by decide +kernel
theorem dX13_module_174 : decode cX13_module 174 = .ok (.aload_n 0, 1) := by decide +kernel
theorem dX13_module_175 : decode cX13_module 175 = .ok (.getfield 471, 3) := by decide +kernel
theorem dX13_module_178 : decode cX13_module 178 = .ok (.putfield 670, 3) := by decide +kernel
theorem dX13_module_181 : decode cX13_module 181 = .ok (.aload_n 0, 1) := by decide +kernel
theorem dX13_module_182 : decode cX13_module 182 = .ok (.aload_n 0, 1) := by decide +kernel
theorem dX13_module_183 : decode cX13_module 183 = .ok (.getfield 591, 3) := by decide +kernel
theorem dX13_module_186 : decode cX13_module 186 = .ok (.putfield 673, 3) := by decide +kernel
theorem dX13_module_189 : decode cX13_module 189 = .ok (.aload_n 0, 1) := by decide +kernel
theorem dX13_module_190 : decode cX13_module 190 = .ok (.aload_n 0, 1) := by decide +kernel
theorem dX13_module_191 : decode cX13_module 191 = .ok (.getfield 458, 3) := by decide +kernel
theorem dX13_module_194 : decode cX13_module 194 = .ok (.putfield 676, 3) := by decide +kernel
theorem dX13_module_197 : decode cX13_module 197 = .ok (.aload_n 0, 1) := by decide +kernel
theorem dX13_module_198 : decode cX13_module 198 = .ok (.aload_n 0, 1) := by decide +kernel
theorem dX13_module_199 : decode cX13_module 199 = .ok (.getfield 465, 3) := by decide +kernel
theorem dX13_module_2 : decode cX13_module 2 = .ok (.putfield 458, 3) := by decide +kernel
theorem dX13_module_20 : decode cX13_module 20 = .ok (.aload_n 0, 1) := by decide +kernel
theorem dX13_module_202 : decode cX13_module 202 = .ok (.putfield 679, 3) := by decide +kernel
theorem dX13_module_205 : decode cX13_module 205 = .ok (.aload_n 0, 1) := by decide +kernel
theorem dX13_module_206 : decode cX13_module 206 = .ok (.getfield 375, 3) := by decide +kernel
theorem dX13_module_209 : decode cX13_module 209 = .ok (.ireturn, 1) := by decide +kernel
theorem dX13_module_21 : decode cX13_module 21 = .ok (.iconst 0, 1) := by decide +kernel
theorem dX13_module_22 : decode cX13_module 22 = .ok (.putfield 479, 3) := by decide +kernel
theorem dX13_module_25 : decode cX13_module 25 = .ok (.aload_n 0, 1) := by decide +kernel
theorem dX13_module_26 : decode cX13_module 26 = .ok (.iconst 0, 1) := by decide +kernel
theorem dX13_module_27 : decode cX13_module 27 = .ok (.putfield 471, 3) := by decide +kernel
theorem dX13_module_30 : decode cX13_module 30 = .ok (.aload_n 0, 1) := by decide +kernel
theorem dX13_module_31 : decode cX13_module 31 = .ok (.iconst 0, 1) := by decide +kernel
theorem dX13_module_32 : decode cX13_module 32 = .ok (.putfield 591, 3) := by decide +kernel
theorem dX13_module_35 : decode cX13_module 35 = .ok (.aload_n 0, 1) := by decide +kernel
theorem dX13_module_36 : decode cX13_module 36 = .ok (.iconst 0, 1) := by decide +kernel
theorem dX13_module_37 : decode cX13_module 37 = .ok (.putfield 624, 3) := by decide +kernel
theorem dX13_module_40 : decode cX13_module 40 = .ok (.aload_n 0, 1) := by decide +kernel
theorem dX13_module_41 : decode cX13_module 41 = .ok (.iconst 0, 1) := by decide +kernel
theorem dX13_module_42 : decode cX13_module 42 = .ok (.putfield 627, 3) := by decide +kernel
theorem dX13_module_45 : decode cX13_module 45 = .ok (.aload_n 0, 1) := by decide +kernel
theorem dX13_module_46 : decode cX13_module 46 = .ok (.iconst 0, 1) := by decide +kernel
theorem dX13_module_47 : decode cX13_module 47 = .ok (.putfield 630, 3) := by decide +kernel
theorem dX13_module_5 : decode cX13_module 5 = .ok (.aload_n 0, 1) := by decide +kernel
theorem dX13_module_50 : decode cX13_module 50 = .ok (.aload_n 0, 1) := by decide +kernel
theorem dX13_module_51 : decode cX13_module 51 = .ok (.iconst 0, 1) := by decide +kernel
theorem dX13_module_52 : decode cX13_module 52 = .ok (.putfield 633, 3) := by decide +kernel
theorem dX13_module_55 : decode cX13_module 55 = .ok (.aload_n 0, 1) := by decide +kernel
theorem dX13_module_56 : decode cX13_module 56 = .ok (.iconst 0, 1) := by decide +kernel
theorem dX13_module_57 : decode cX13_module 57 = .ok (.putfield 639, 3) := by decide +kernel
theorem dX13_module_6 : decode cX13_module 6 = .ok (.iconst 0, 1) := by decide +kernel
theorem dX13_module_60 : decode cX13_module 60 = .ok (.aload_n 0, 1) := by decide +kernel
theorem dX13_module_61 : decode cX13_module 61 = .ok (.iconst 0, 1) := by decide +kernel
theorem dX13_module_62 : decode cX13_module 62 = .ok (.putfield 375, 3) := by decide +kernel
theorem dX13_module_65 : decode cX13_module 65 = .ok (.aload_n 0, 1) := by decide +kernel
theorem dX13_module_66 : decode cX13_module 66 = .ok (.iconst (-1), 1) := by decide +kernel
theorem dX13_module_67 : decode cX13_module 67 = .ok (.putfield 13, 3) := by decide +kernel
theorem dX13_module_7 : decode cX13_module 7 = .ok (.putfield 465, 3) := by decide +kernel
theorem dX13_module_70 : decode cX13_module 70 = .ok (.aload_n 0, 1) := by decide +kernel
theorem dX13_module_71 : decode cX13_module 71 = .ok (.iconst 0, 1) := by decide +kernel
theorem dX13_module_72 : decode cX13_module 72 = .ok (.putfield 378, 3) := by decide +kernel
theorem dX13_module_75 : decode cX13_module 75 = .ok (.aload_n 0, 1) := by decide +kernel
theorem dX13_module_76 : decode cX13_module 76 = .ok (.iconst 0, 1) := by decide +kernel
theorem dX13_module_77 : decode cX13_module 77 = .ok (.putfield 642, 3) := by decide +kernel
theorem dX13_module_80 : decode cX13_module 80 = .ok (.aload_n 0, 1) := by decide +kernel
theorem dX13_module_81 : decode cX13_module 81 = .ok (.iconst 0, 1) := by decide +kernel
theorem dX13_module_82 : decode cX13_module 82 = .ok (.putfield 645, 3) := by decide +kernel
theorem dX13_module_85 : decode cX13_module 85 = .ok (.aload_n 0, 1) := by decide +kernel
theorem dX13_module_86 : decode cX13_module 86 = .ok (.iconst 0, 1) := by decide +kernel
theorem dX13_module_87 : decode cX13_module 87 = .ok (.putfield 648, 3) := by decide +kernel
theorem dX13_module_90 : decode cX13_module 90 = .ok (.aload_n 0, 1) := by decide +kernel
theorem dX13_module_91 : decode cX13_module 91 = .ok (.iconst 0, 1) := by decide +kernel
theorem dX13_module_92 : decode cX13_module 92 = .ok (.putfield 651, 3) := by decide +kernel
theorem dX13_module_95 : decode cX13_module 95 = .ok (.aload_n 0, 1) := by decide +kernel
theorem dX13_module_96 : decode cX13_module 96 = .ok (.iconst 0, 1) := by decide +kernel
theorem dX13_module_97 : decode cX13_module 97 = .ok (.putfield 654, 3) := by decide +kernel
noncomputable def k_X13_module_154 (k0 : Int32) (s : t_S) : Option (Int32 × t_S) :=
 if k0 = 0 ∨ k0 = 1 then
  t_let (t_setI s 950 65 k0) (fun s1 =>
 t_let (t_setI s1 950 29 (s1.1 950 24)) (fun s2 =>
 t_let (t_setI s2 950 27 (s2.1 950 26)) (fun s3 =>
 t_let (t_setI s3 950 30 (s3.1 950 28)) (fun s4 =>
 t_let (t_setI s4 950 82 (s4.1 950 36)) (fun s5 =>
 t_let (t_setI s5 950 83 (s5.1 950 14)) (fun s6 =>
 t_let (t_setI s6 950 84 (s6.1 950 15)) (fun s7 =>
 some ((s7.1 950 2), s7))))))))
else none
set_option maxRecDepth 4000 in
set_option maxHeartbeats 1000000 in
theorem B_X13_module_154 {D : va_G} {cy : Nat → ClassId} {ad : Nat → Nat} {bs : Nat} {X : State → Heap → Prop} (k0 : Int32) (s : t_S) (Q : Int32 × t_S → Prop) (hk : t_hk (k_X13_module_154 k0 s) Q) : mj_G D cy ad bs X cX13_module 1 yX13_module.cls (some .int) yX13_module.name 415 0 0 1065 (t_P (fun v s' => ∃ x, v = some (.int x) ∧ Q ((x, s')))) 154 [(0, .ref 950)] [.int k0, .ref 950] (t_m s) 1065 0 0 := by
  refine t_chkK hk (fun c0 hk => ?_)
  refine t_putIK dX13_module_154 F_X13_642 qf_950_65 (t_zfit c0) (fun s1 ws1 => t_letE hk ws1 (fun hk => ?_))
  refine mj_aload_n dX13_module_157 0 rfl ?_
  refine mj_aload_n dX13_module_158 0 rfl ?_
  refine t_getI dX13_module_159 F_X13_474 qf_950_24 ?_
  refine t_putIK dX13_module_162 F_X13_664 qf_950_29 rfl (fun s2 ws2 => t_letE hk ws2 (fun hk => ?_))
  refine mj_aload_n dX13_module_165 0 rfl ?_
  refine mj_aload_n dX13_module_166 0 rfl ?_
  refine t_getI dX13_module_167 F_X13_479 qf_950_26 ?_
  refine t_putIK dX13_module_170 F_X13_667 qf_950_27 rfl (fun s3 ws3 => t_letE hk ws3 (fun hk => ?_))
  refine mj_aload_n dX13_module_173 0 rfl ?_
  refine mj_aload_n dX13_module_174 0 rfl ?_
  refine t_getI dX13_module_175 F_X13_471 qf_950_28 ?_
  refine t_putIK dX13_module_178 F_X13_670 qf_950_30 rfl (fun s4 ws4 => t_letE hk ws4 (fun hk => ?_))
  refine mj_aload_n dX13_module_181 0 rfl ?_
  refine mj_aload_n dX13_module_182 0 rfl ?_
  refine t_getI dX13_module_183 F_X13_591 qf_950_36 ?_
  refine t_putIK dX13_module_186 F_X13_673 qf_950_82 rfl (fun s5 ws5 => t_letE hk ws5 (fun hk => ?_))
  refine mj_aload_n dX13_module_189 0 rfl ?_
  refine mj_aload_n dX13_module_190 0 rfl ?_
  refine t_getI dX13_module_191 F_X13_458 qf_950_14 ?_
  refine t_putIK dX13_module_194 F_X13_676 qf_950_83 rfl (fun s6 ws6 => t_letE hk ws6 (fun hk => ?_))
  refine mj_aload_n dX13_module_197 0 rfl ?_
  refine mj_aload_n dX13_module_198 0 rfl ?_
  refine t_getI dX13_module_199 F_X13_465 qf_950_15 ?_
  refine t_putIK dX13_module_202 F_X13_679 qf_950_84 rfl (fun s7 ws7 => t_letE hk ws7 (fun hk => ?_))
  refine mj_aload_n dX13_module_205 0 rfl ?_
  refine t_getI dX13_module_206 F_X13_375 qf_950_2 ?_
  exact t_somK hk (fun hf => t_iret dX13_module_209 rfl rfl ⟨_, rfl, hf⟩ (Nat.le_of_ble_eq_true rfl) (Nat.le_of_ble_eq_true rfl))
noncomputable def k_X13_module_136 (s : t_S) : Option (Int32 × t_S) :=
 t_let (t_setI s 950 1 (0 : Int32)) (fun s1 =>
 if (s1.1 950 2) = (0 : Int32) then (k_X13_module_154 1 s1)
 else (k_X13_module_154 0 s1))
set_option maxRecDepth 4000 in
set_option maxHeartbeats 1000000 in
theorem B_X13_module_136 {D : va_G} {cy : Nat → ClassId} {ad : Nat → Nat} {bs : Nat} {X : State → Heap → Prop} (s : t_S) (Q : Int32 × t_S → Prop) (hk : t_hk (k_X13_module_136 s) Q) : mj_G D cy ad bs X cX13_module 1 yX13_module.cls (some .int) yX13_module.name 415 0 0 1065 (t_P (fun v s' => ∃ x, v = some (.int x) ∧ Q ((x, s')))) 136 [(0, .ref 950)] [] (t_m s) 1065 0 0 := by
  refine mj_aload_n dX13_module_136 0 rfl ?_
  refine mj_iconst (v := 0) dX13_module_137 (by decide) ?_
  refine t_putIK dX13_module_138 F_X13_366 qf_950_1 rfl (fun s1 ws1 => t_letE hk ws1 (fun hk => ?_))
  refine mj_aload_n dX13_module_141 0 rfl ?_
  refine mj_aload_n dX13_module_142 0 rfl ?_
  refine t_getI dX13_module_143 F_X13_375 qf_950_2 ?_
  refine mj_if_ne 153 dX13_module_146 (by decide) (fun z => t_negK hk z (fun hk => ?_)) (fun z => t_posK hk z (fun hk => ?_))
  · refine mj_iconst (v := 0) dX13_module_153 (by decide) ?_
    exact B_X13_module_154 _ _ _ hk
  · refine mj_iconst (v := 1) dX13_module_149 (by decide) ?_
    refine mj_goto 154 dX13_module_150 (by decide) ?_
    exact B_X13_module_154 _ _ _ hk
noncomputable def k_X13_module_125 (s : t_S) : Option (Int32 × t_S) :=
 if (s.1 950 2) = (0 : Int32) then ((f_X13_checkAll s).bind (fun r1 =>
 k_X13_module_136 r1))
 else (k_X13_module_136 s)
set_option maxRecDepth 4000 in
set_option maxHeartbeats 1000000 in
theorem B_X13_module_125 {D : va_G} {cy : Nat → ClassId} {ad : Nat → Nat} {bs : Nat} {X : State → Heap → Prop} (s : t_S) (Q : Int32 × t_S → Prop) (hk : t_hk (k_X13_module_125 s) Q) : mj_G D cy ad bs X cX13_module 1 yX13_module.cls (some .int) yX13_module.name 415 0 0 1065 (t_P (fun v s' => ∃ x, v = some (.int x) ∧ Q ((x, s')))) 125 [(0, .ref 950)] [] (t_m s) 1065 0 0 := by
  refine mj_aload_n dX13_module_125 0 rfl ?_
  refine t_getI dX13_module_126 F_X13_375 qf_950_2 ?_
  refine mj_if_ne 136 dX13_module_129 (by decide) (fun z => t_negK hk z (fun hk => ?_)) (fun z => t_posK hk z (fun hk => ?_))
  · exact B_X13_module_136 _ _ hk
  · refine mj_aload_n dX13_module_132 0 rfl ?_
    refine t_bndK hk (fun r1 er1 hk => ?_)
    refine t_callVvE dX13_module_133 M_X13_checkAll (C_X13_checkAll _ _ er1) ML_X13_661 IM_X13_checkAll SE_X13_checkAll qc_950 rfl (As := []) rfl rfl (Nat.le_of_ble_eq_true rfl) (Nat.le_of_ble_eq_true rfl) (Nat.le_of_ble_eq_true rfl) (Nat.le_of_ble_eq_true rfl) ?_
    exact B_X13_module_136 _ _ hk
noncomputable def k_X13_module_104 (s : t_S) : Option ((t_S) ⊕ (Int32 × t_S)) :=
 if (s.1 950 5) = (0 : Int32) then ((k_X13_module_125 s).map Sum.inr)
 else (if (s.1 950 2) = (0 : Int32) then ((f_X13_item s).bind (fun r1 =>
 some (.inl r1)))
 else ((k_X13_module_125 s).map Sum.inr))
set_option maxRecDepth 4000 in
set_option maxHeartbeats 1000000 in
theorem B_X13_module_104 {D : va_G} {cy : Nat → ClassId} {ad : Nat → Nat} {bs : Nat} {X : State → Heap → Prop} (s : t_S) (Q : (t_S) ⊕ (Int32 × t_S) → Prop) (Hb104 : ∀ (y0 : t_S), Q (.inl y0) → mj_G D cy ad bs X cX13_module 1 yX13_module.cls (some .int) yX13_module.name 415 0 0 1065 (t_P (fun v s' => ∃ x, v = some (.int x) ∧ Q (.inr ((x, s'))))) 104 [(0, .ref 950)] [] (t_m y0) 1065 0 0) (hk : t_hk (k_X13_module_104 s) Q) : mj_G D cy ad bs X cX13_module 1 yX13_module.cls (some .int) yX13_module.name 415 0 0 1065 (t_P (fun v s' => ∃ x, v = some (.int x) ∧ Q (.inr ((x, s'))))) 104 [(0, .ref 950)] [] (t_m s) 1065 0 0 := by
  refine mj_aload_n dX13_module_104 0 rfl ?_
  refine t_getI dX13_module_105 F_X13_385 qf_950_5 ?_
  refine mj_if_eq 125 dX13_module_108 (by decide) (fun z => t_posK hk z (fun hk => ?_)) (fun z => t_negK hk z (fun hk => ?_))
  · refine t_mapK hk (fun hk => ?_)
    exact B_X13_module_125 _ _ hk
  · refine mj_aload_n dX13_module_111 0 rfl ?_
    refine t_getI dX13_module_112 F_X13_375 qf_950_2 ?_
    refine mj_if_ne 125 dX13_module_115 (by decide) (fun z => t_negK hk z (fun hk => ?_)) (fun z => t_posK hk z (fun hk => ?_))
    · refine t_mapK hk (fun hk => ?_)
      exact B_X13_module_125 _ _ hk
    · refine mj_aload_n dX13_module_118 0 rfl ?_
      refine t_bndK hk (fun r1 er1 hk => ?_)
      refine t_callSvE dX13_module_119 M_X13_item (C_X13_item _ _ er1) ML_X13_657 SM_X13_item (As := [.ref 950]) rfl rfl (Nat.le_of_ble_eq_true rfl) (Nat.le_of_ble_eq_true rfl) (Nat.le_of_ble_eq_true rfl) (Nat.le_of_ble_eq_true rfl) ?_
      refine mj_goto 104 dX13_module_122 (by decide) ?_
      exact t_somK hk (fun hf => Hb104 r1 hf)
noncomputable def b_X13_module_104 (x : t_S) : Option ((t_S) ⊕ (Int32 × t_S)) := k_X13_module_104 x
set_option maxRecDepth 4000 in
set_option maxHeartbeats 1000000 in
theorem LH_X13_module_104 {D : va_G} {cy : Nat → ClassId} {ad : Nat → Nat} {bs : Nat} {X : State → Heap → Prop} : ∀ (n : Nat) (y0 : t_S) (Q : Int32 × t_S → Prop) (hk : t_hk (t_loop (b_X13_module_104) n y0) Q), mj_G D cy ad bs X cX13_module 1 yX13_module.cls (some .int) yX13_module.name 415 0 0 1065 (t_P (fun v s' => ∃ x, v = some (.int x) ∧ Q ((x, s')))) 104 [(0, .ref 950)] [] (t_m y0) 1065 0 0 := by
  intro n
  induction n with
  | zero => intro y0 Q hk; obtain ⟨r, hr, _⟩ := hk; cases hr
  | succ n ih =>
    intro y0 Q hk
    exact B_X13_module_104 y0 (fun y => t_lq (b_X13_module_104) n Q y) (fun y0' hy => ih y0' Q hy) (t_lp (b := b_X13_module_104) (n := n) (x := y0) hk)
noncomputable def f_X13_module (s : t_S) : Option (Int32 × t_S) :=
 t_let (t_setI s 950 14 (0 : Int32)) (fun s1 =>
 t_let (t_setI s1 950 15 (0 : Int32)) (fun s2 =>
 t_let (t_setI s2 950 16 (1 : Int32)) (fun s3 =>
 t_let (t_setI s3 950 24 (0 : Int32)) (fun s4 =>
 t_let (t_setI s4 950 26 (0 : Int32)) (fun s5 =>
 t_let (t_setI s5 950 28 (0 : Int32)) (fun s6 =>
 t_let (t_setI s6 950 36 (0 : Int32)) (fun s7 =>
 t_let (t_setI s7 950 40 (0 : Int32)) (fun s8 =>
 t_let (t_setI s8 950 44 (0 : Int32)) (fun s9 =>
 t_let (t_setI s9 950 55 (0 : Int32)) (fun s10 =>
 t_let (t_setI s10 950 64 (0 : Int32)) (fun s11 =>
 t_let (t_setI s11 950 81 (0 : Int32)) (fun s12 =>
 t_let (t_setI s12 950 2 (0 : Int32)) (fun s13 =>
 t_let (t_setI s13 950 3 (-1 : Int32)) (fun s14 =>
 t_let (t_setI s14 950 4 (0 : Int32)) (fun s15 =>
 t_let (t_setI s15 950 65 (0 : Int32)) (fun s16 =>
 t_let (t_setI s16 950 147 (0 : Int32)) (fun s17 =>
 t_let (t_setI s17 950 108 (0 : Int32)) (fun s18 =>
 t_let (t_setI s18 950 117 (0 : Int32)) (fun s19 =>
 t_let (t_setI s19 950 96 (0 : Int32)) (fun s20 =>
 (f_X13_next s20).bind (fun r1 =>
 t_loop (b_X13_module_104) t_N r1)))))))))))))))))))))
set_option maxRecDepth 4000 in
set_option maxHeartbeats 1000000 in
theorem C_X13_module (s : t_S) (r : Int32 × t_S) (hr : f_X13_module s = some r) : t_C yX13_module cX13_module 1 (some .int) 415 [.ref 950] s (fun v s' => v = some (.int r.1) ∧ s' = r.2) := by
  refine t_C.imp (P := fun v s' => ∃ x, v = some (.int x) ∧ (fun q => q = r) ((x, s'))) (t_C.of (by decide +kernel) (Nat.le_of_ble_eq_true rfl) ?_) (fun v s' hp => by obtain ⟨x, rfl, rfl⟩ := hp; exact ⟨rfl, rfl⟩)
  intro D cy ad bs X
  have hk : t_hk (f_X13_module s) (fun q => q = r) := ⟨r, hr, rfl⟩
  show mj_G D cy ad bs X cX13_module 1 yX13_module.cls (some .int) yX13_module.name 415 0 0 1065 (t_P (fun v s' => ∃ x, v = some (.int x) ∧ (fun q => q = r) ((x, s')))) 0 [(0, .ref 950)] [] (t_m s) 1065 0 0
  refine mj_aload_n dX13_module_0 0 rfl ?_
  refine mj_iconst (v := 0) dX13_module_1 (by decide) ?_
  refine t_putIK dX13_module_2 F_X13_458 qf_950_14 rfl (fun s1 ws1 => t_letE hk ws1 (fun hk => ?_))
  refine mj_aload_n dX13_module_5 0 rfl ?_
  refine mj_iconst (v := 0) dX13_module_6 (by decide) ?_
  refine t_putIK dX13_module_7 F_X13_465 qf_950_15 rfl (fun s2 ws2 => t_letE hk ws2 (fun hk => ?_))
  refine mj_aload_n dX13_module_10 0 rfl ?_
  refine mj_iconst (v := 1) dX13_module_11 (by decide) ?_
  refine t_putIK dX13_module_12 F_X13_461 qf_950_16 (by decide) (fun s3 ws3 => t_letE hk ws3 (fun hk => ?_))
  refine mj_aload_n dX13_module_15 0 rfl ?_
  refine mj_iconst (v := 0) dX13_module_16 (by decide) ?_
  refine t_putIK dX13_module_17 F_X13_474 qf_950_24 rfl (fun s4 ws4 => t_letE hk ws4 (fun hk => ?_))
  refine mj_aload_n dX13_module_20 0 rfl ?_
  refine mj_iconst (v := 0) dX13_module_21 (by decide) ?_
  refine t_putIK dX13_module_22 F_X13_479 qf_950_26 rfl (fun s5 ws5 => t_letE hk ws5 (fun hk => ?_))
  refine mj_aload_n dX13_module_25 0 rfl ?_
  refine mj_iconst (v := 0) dX13_module_26 (by decide) ?_
  refine t_putIK dX13_module_27 F_X13_471 qf_950_28 rfl (fun s6 ws6 => t_letE hk ws6 (fun hk => ?_))
  refine mj_aload_n dX13_module_30 0 rfl ?_
  refine mj_iconst (v := 0) dX13_module_31 (by decide) ?_
  refine t_putIK dX13_module_32 F_X13_591 qf_950_36 rfl (fun s7 ws7 => t_letE hk ws7 (fun hk => ?_))
  refine mj_aload_n dX13_module_35 0 rfl ?_
  refine mj_iconst (v := 0) dX13_module_36 (by decide) ?_
  refine t_putIK dX13_module_37 F_X13_624 qf_950_40 rfl (fun s8 ws8 => t_letE hk ws8 (fun hk => ?_))
  refine mj_aload_n dX13_module_40 0 rfl ?_
  refine mj_iconst (v := 0) dX13_module_41 (by decide) ?_
  refine t_putIK dX13_module_42 F_X13_627 qf_950_44 rfl (fun s9 ws9 => t_letE hk ws9 (fun hk => ?_))
  refine mj_aload_n dX13_module_45 0 rfl ?_
  refine mj_iconst (v := 0) dX13_module_46 (by decide) ?_
  refine t_putIK dX13_module_47 F_X13_630 qf_950_55 rfl (fun s10 ws10 => t_letE hk ws10 (fun hk => ?_))
  refine mj_aload_n dX13_module_50 0 rfl ?_
  refine mj_iconst (v := 0) dX13_module_51 (by decide) ?_
  refine t_putIK dX13_module_52 F_X13_633 qf_950_64 rfl (fun s11 ws11 => t_letE hk ws11 (fun hk => ?_))
  refine mj_aload_n dX13_module_55 0 rfl ?_
  refine mj_iconst (v := 0) dX13_module_56 (by decide) ?_
  refine t_putIK dX13_module_57 F_X13_639 qf_950_81 rfl (fun s12 ws12 => t_letE hk ws12 (fun hk => ?_))
  refine mj_aload_n dX13_module_60 0 rfl ?_
  refine mj_iconst (v := 0) dX13_module_61 (by decide) ?_
  refine t_putIK dX13_module_62 F_X13_375 qf_950_2 rfl (fun s13 ws13 => t_letE hk ws13 (fun hk => ?_))
  refine mj_aload_n dX13_module_65 0 rfl ?_
  refine mj_iconst (v := (-1)) dX13_module_66 (by decide) ?_
  refine t_putIK dX13_module_67 F_X13_13 qf_950_3 rfl (fun s14 ws14 => t_letE hk ws14 (fun hk => ?_))
  refine mj_aload_n dX13_module_70 0 rfl ?_
  refine mj_iconst (v := 0) dX13_module_71 (by decide) ?_
  refine t_putIK dX13_module_72 F_X13_378 qf_950_4 rfl (fun s15 ws15 => t_letE hk ws15 (fun hk => ?_))
  refine mj_aload_n dX13_module_75 0 rfl ?_
  refine mj_iconst (v := 0) dX13_module_76 (by decide) ?_
  refine t_putIK dX13_module_77 F_X13_642 qf_950_65 (by decide) (fun s16 ws16 => t_letE hk ws16 (fun hk => ?_))
  refine mj_aload_n dX13_module_80 0 rfl ?_
  refine mj_iconst (v := 0) dX13_module_81 (by decide) ?_
  refine t_putIK dX13_module_82 F_X13_645 qf_950_147 (by decide) (fun s17 ws17 => t_letE hk ws17 (fun hk => ?_))
  refine mj_aload_n dX13_module_85 0 rfl ?_
  refine mj_iconst (v := 0) dX13_module_86 (by decide) ?_
  refine t_putIK dX13_module_87 F_X13_648 qf_950_108 (by decide) (fun s18 ws18 => t_letE hk ws18 (fun hk => ?_))
  refine mj_aload_n dX13_module_90 0 rfl ?_
  refine mj_iconst (v := 0) dX13_module_91 (by decide) ?_
  refine t_putIK dX13_module_92 F_X13_651 qf_950_117 (by decide) (fun s19 ws19 => t_letE hk ws19 (fun hk => ?_))
  refine mj_aload_n dX13_module_95 0 rfl ?_
  refine mj_iconst (v := 0) dX13_module_96 (by decide) ?_
  refine t_putIK dX13_module_97 F_X13_654 qf_950_96 rfl (fun s20 ws20 => t_letE hk ws20 (fun hk => ?_))
  refine mj_aload_n dX13_module_100 0 rfl ?_
  refine t_bndK hk (fun r1 er1 hk => ?_)
  refine t_callVvE dX13_module_101 M_X13_next (C_X13_next _ _ er1) ML_X13_452 IM_X13_next SE_X13_next qc_950 rfl (As := []) rfl rfl (Nat.le_of_ble_eq_true rfl) (Nat.le_of_ble_eq_true rfl) (Nat.le_of_ble_eq_true rfl) (Nat.le_of_ble_eq_true rfl) ?_
  exact LH_X13_module_104 _ r1 _ hk

theorem dX13_named_0 : decode cX13_named 0 = .ok (.aload_n 0, 1) := by decide +kernel
theorem dX13_named_1 : decode cX13_named 1 = .ok (.getfield 642, 3) := by decide +kernel
theorem dX13_named_10 : decode cX13_named 10 = .ok (.iconst 0, 1) := by decide +kernel
theorem dX13_named_101 : decode cX13_named 101 = .ok (.iconst 0, 1) := by decide +kernel
theorem dX13_named_102 : decode cX13_named 102 = .ok (.istore_n 2, 1) := by decide +kernel
theorem dX13_named_103 : decode cX13_named 103 = .ok (.aload_n 0, 1) := by decide +kernel
theorem dX13_named_104 : decode cX13_named 104 = .ok (.aload_n 0, 1) := by decide +kernel
theorem dX13_named_105 : decode cX13_named 105 = .ok (.getfield 836, 3) := by decide +kernel
theorem dX13_named_108 : decode cX13_named 108 = .ok (.putfield 375, 3) := by decide +kernel
theorem dX13_named_11 : decode cX13_named 11 = .ok (.putfield 461, 3) := by decide +kernel
theorem dX13_named_111 : decode cX13_named 111 = .ok (.aload_n 0, 1) := by decide +kernel
theorem dX13_named_112 : decode cX13_named 112 = .ok (.aload_n 0, 1) := by decide +kernel
theorem dX13_named_113 : decode cX13_named 113 = .ok (.getfield 839, 3) := by decide +kernel
theorem dX13_named_116 : decode cX13_named 116 = .ok (.putfield 13, 3) := by decide +kernel
theorem dX13_named_119 : decode cX13_named 119 = .ok (.aload_n 0, 1) := by decide +kernel
theorem dX13_named_120 : decode cX13_named 120 = .ok (.iconst 0, 1) := by decide +kernel
theorem dX13_named_121 : decode cX13_named 121 = .ok (.putfield 366, 3) := by decide +kernel
theorem dX13_named_124 : decode cX13_named 124 = .ok (.iload_n 2, 1) := by decide +kernel
theorem dX13_named_125 : decode cX13_named 125 = .ok (.ifCond .ne 6, 3) := by decide +kernel
theorem dX13_named_128 : decode cX13_named 128 = .ok (.bipush (-2), 2) := by decide +kernel
theorem dX13_named_130 : decode cX13_named 130 = .ok (.ireturn, 1) := by decide +kernel
theorem dX13_named_131 : decode cX13_named 131 = .ok (.aload_n 0, 1) := by decide +kernel
theorem dX13_named_132 : decode cX13_named 132 = .ok (.aload_n 0, 1) := by decide +kernel
theorem dX13_named_133 : decode cX13_named 133 = .ok (.getfield 54, 3) := by decide +kernel
theorem dX13_named_136 : decode cX13_named 136 = .ok (.iconst 0, 1) := by decide +kernel
theorem dX13_named_137 : decode cX13_named 137 = .ok (.aload_n 0, 1) := by decide +kernel
theorem dX13_named_138 : decode cX13_named 138 = .ok (.getfield 624, 3) := by decide +kernel
theorem dX13_named_14 : decode cX13_named 14 = .ok (.aload_n 0, 1) := by decide +kernel
theorem dX13_named_141 : decode cX13_named 141 = .ok (.iload_n 1, 1) := by decide +kernel
theorem dX13_named_142 : decode cX13_named 142 = .ok (.invokevirtual 788, 3) := by decide +kernel
theorem dX13_named_145 : decode cX13_named 145 = .ok (.istore_n 3, 1) := by decide +kernel
theorem dX13_named_146 : decode cX13_named 146 = .ok (.iload_n 3, 1) := by decide +kernel
theorem dX13_named_147 : decode cX13_named 147 = .ok (.ifCond .lt 5, 3) := by decide +kernel
theorem dX13_named_15 : decode cX13_named 15 = .ok (.iconst 0, 1) := by decide +kernel
theorem dX13_named_150 : decode cX13_named 150 = .ok (.iload_n 3, 1) := by decide +kernel
theorem dX13_named_151 : decode cX13_named 151 = .ok (.ireturn, 1) := by decide +kernel
theorem dX13_named_152 : decode cX13_named 152 = .ok (.aload_n 0, 1) := by decide +kernel
theorem dX13_named_153 : decode cX13_named 153 = .ok (.aload_n 0, 1) := by decide +kernel
theorem dX13_named_154 : decode cX13_named 154 = .ok (.getfield 63, 3) := by decide +kernel
theorem dX13_named_157 : decode cX13_named 157 = .ok (.iconst 0, 1) := by decide +kernel
theorem dX13_named_158 : decode cX13_named 158 = .ok (.aload_n 0, 1) := by decide +kernel
theorem dX13_named_159 : decode cX13_named 159 = .ok (.getfield 627, 3) := by decide +kernel
theorem dX13_named_16 : decode cX13_named 16 = .ok (.putfield 378, 3) := by decide +kernel
theorem dX13_named_162 : decode cX13_named 162 = .ok (.iload_n 1, 1) := by decide +kernel
theorem dX13_named_163 : decode cX13_named 163 = .ok (.invokevirtual 788, 3) := by decide +kernel
theorem dX13_named_166 : decode cX13_named 166 = .ok (.istore_n 3, 1) := by decide +kernel
theorem dX13_named_167 : decode cX13_named 167 = .ok (.iload_n 3, 1) := by decide +kernel
theorem dX13_named_168 : decode cX13_named 168 = .ok (.ifCond .lt 8, 3) := by decide +kernel
theorem dX13_named_171 : decode cX13_named 171 = .ok (.bipush 100, 2) := by decide +kernel
theorem dX13_named_173 : decode cX13_named 173 = .ok (.iload_n 3, 1) := by decide +kernel
theorem dX13_named_174 : decode cX13_named 174 = .ok (.iadd, 1) := by decide +kernel
theorem dX13_named_175 : decode cX13_named 175 = .ok (.ireturn, 1) := by decide +kernel
theorem dX13_named_176 : decode cX13_named 176 = .ok (.aload_n 0, 1) := by decide +kernel
theorem dX13_named_177 : decode cX13_named 177 = .ok (.aload_n 0, 1) := by decide +kernel
theorem dX13_named_178 : decode cX13_named 178 = .ok (.getfield 72, 3) := by decide +kernel
theorem dX13_named_181 : decode cX13_named 181 = .ok (.iconst 0, 1) := by decide +kernel
theorem dX13_named_182 : decode cX13_named 182 = .ok (.aload_n 0, 1) := by decide +kernel
theorem dX13_named_183 : decode cX13_named 183 = .ok (.getfield 630, 3) := by decide +kernel
theorem dX13_named_186 : decode cX13_named 186 = .ok (.iload_n 1, 1) := by decide +kernel
theorem dX13_named_187 : decode cX13_named 187 = .ok (.invokevirtual 788, 3) := by decide +kernel
theorem dX13_named_19 : decode cX13_named 19 = .ok (.aload_n 0, 1) := by decide +kernel
theorem dX13_named_190 : decode cX13_named 190 = .ok (.istore_n 3, 1) := by decide +kernel
theorem dX13_named_191 : decode cX13_named 191 = .ok (.iload_n 3, 1) := by decide +kernel
theorem dX13_named_192 : decode cX13_named 192 = .ok (.ifCond .lt 9, 3) := by decide +kernel
theorem dX13_named_195 : decode cX13_named 195 = .ok (.sipush 200, 3) := by decide +kernel
theorem dX13_named_198 : decode cX13_named 198 = .ok (.iload_n 3, 1) := by decide +kernel
theorem dX13_named_199 : decode cX13_named 199 = .ok (.iadd, 1) := by decide +kernel
theorem dX13_named_20 : decode cX13_named 20 = .ok (.aload_n 0, 1) := by decide +kernel
theorem dX13_named_200 : decode cX13_named 200 = .ok (.ireturn, 1) := by decide +kernel
theorem dX13_named_201 : decode cX13_named 201 = .ok (.aload_n 0, 1) := by decide +kernel
theorem dX13_named_202 : decode cX13_named 202 = .ok (.aload_n 0, 1) := by decide +kernel
theorem dX13_named_203 : decode cX13_named 203 = .ok (.getfield 102, 3) := by decide +kernel
theorem dX13_named_206 : decode cX13_named 206 = .ok (.iconst 0, 1) := by decide +kernel
theorem dX13_named_207 : decode cX13_named 207 = .ok (.aload_n 0, 1) := by decide +kernel
theorem dX13_named_208 : decode cX13_named 208 = .ok (.getfield 633, 3) := by decide +kernel
theorem dX13_named_21 : decode cX13_named 21 = .ok (.getfield 375, 3) := by decide +kernel
theorem dX13_named_211 : decode cX13_named 211 = .ok (.iload_n 1, 1) := by decide +kernel
theorem dX13_named_212 : decode cX13_named 212 = .ok (.invokevirtual 788, 3) := by decide +kernel
theorem dX13_named_215 : decode cX13_named 215 = .ok (.istore_n 3, 1) := by decide +kernel
theorem dX13_named_216 : decode cX13_named 216 = .ok (.iload_n 3, 1) := by decide +kernel
theorem dX13_named_217 : decode cX13_named 217 = .ok (.ifCond .lt 11, 3) := by decide +kernel
theorem dX13_named_220 : decode cX13_named 220 = .ok (.sipush 300, 3) := by decide +kernel
theorem dX13_named_223 : decode cX13_named 223 = .ok (.iload_n 3, 1) := by decide +kernel
theorem dX13_named_224 : decode cX13_named 224 = .ok (.iadd, 1) := by decide +kernel
theorem dX13_named_225 : decode cX13_named 225 = .ok (.goto 5, 3) := by decide +kernel
theorem dX13_named_228 : decode cX13_named 228 = .ok (.bipush (-2), 2) := by decide +kernel
theorem dX13_named_230 : decode cX13_named 230 = .ok (.ireturn, 1) := by decide +kernel
theorem dX13_named_24 : decode cX13_named 24 = .ok (.putfield 836, 3) := by decide +kernel
theorem dX13_named_27 : decode cX13_named 27 = .ok (.aload_n 0, 1) := by decide +kernel
theorem dX13_named_28 : decode cX13_named 28 = .ok (.aload_n 0, 1) := by decide +kernel
theorem dX13_named_29 : decode cX13_named 29 = .ok (.getfield 13, 3) := by decide +kernel
theorem dX13_named_32 : decode cX13_named 32 = .ok (.putfield 839, 3) := by decide +kernel
theorem dX13_named_35 : decode cX13_named 35 = .ok (.aload_n 0, 1) := by decide +kernel
theorem dX13_named_36 : decode cX13_named 36 = .ok (.iconst 0, 1) := by decide +kernel
theorem dX13_named_37 : decode cX13_named 37 = .ok (.putfield 375, 3) := by decide +kernel
theorem dX13_named_4 : decode cX13_named 4 = .ok (.ifCond .ne 5, 3) := by decide +kernel
theorem dX13_named_40 : decode cX13_named 40 = .ok (.aload_n 0, 1) := by decide +kernel
theorem dX13_named_41 : decode cX13_named 41 = .ok (.invokevirtual 452, 3) := by decide +kernel
theorem dX13_named_44 : decode cX13_named 44 = .ok (.aload_n 0, 1) := by decide +kernel
theorem dX13_named_45 : decode cX13_named 45 = .ok (.getfield 385, 3) := by decide +kernel
theorem dX13_named_48 : decode cX13_named 48 = .ok (.iconst 1, 1) := by decide +kernel
theorem dX13_named_49 : decode cX13_named 49 = .ok (.if_icmp .ne 24, 3) := by decide +kernel
theorem dX13_named_52 : decode cX13_named 52 = .ok (.aload_n 0, 1) := by decide +kernel
theorem dX13_named_53 : decode cX13_named 53 = .ok (.getfield 397, 3) := by decide +kernel
theorem dX13_named_56 : decode cX13_named 56 = .ok (.ifCond .ge 17, 3) := by decide +kernel
theorem dX13_named_59 : decode cX13_named 59 = .ok (.aload_n 0, 1) := by decide +kernel
theorem dX13_named_60 : decode cX13_named 60 = .ok (.getfield 375, 3) := by decide +kernel
theorem dX13_named_63 : decode cX13_named 63 = .ok (.ifCond .ne 10, 3) := by decide +kernel
theorem dX13_named_66 : decode cX13_named 66 = .ok (.aload_n 0, 1) := by decide +kernel
theorem dX13_named_67 : decode cX13_named 67 = .ok (.invokevirtual 468, 3) := by decide +kernel
theorem dX13_named_7 : decode cX13_named 7 = .ok (.iconst (-1), 1) := by decide +kernel
theorem dX13_named_70 : decode cX13_named 70 = .ok (.goto 4, 3) := by decide +kernel
theorem dX13_named_73 : decode cX13_named 73 = .ok (.iconst (-1), 1) := by decide +kernel
theorem dX13_named_74 : decode cX13_named 74 = .ok (.istore_n 1, 1) := by decide +kernel
theorem dX13_named_75 : decode cX13_named 75 = .ok (.aload_n 0, 1) := by decide +kernel
theorem dX13_named_76 : decode cX13_named 76 = .ok (.invokevirtual 452, 3) := by decide +kernel
theorem dX13_named_79 : decode cX13_named 79 = .ok (.aload_n 0, 1) := by decide +kernel
theorem dX13_named_8 : decode cX13_named 8 = .ok (.ireturn, 1) := by decide +kernel
theorem dX13_named_80 : decode cX13_named 80 = .ok (.getfield 375, 3) := by decide +kernel
theorem dX13_named_83 : decode cX13_named 83 = .ok (.ifCond .ne 18, 3) := by decide +kernel
theorem dX13_named_86 : decode cX13_named 86 = .ok (.aload_n 0, 1) := by decide +kernel
theorem dX13_named_87 : decode cX13_named 87 = .ok (.getfield 385, 3) := by decide +kernel
theorem dX13_named_9 : decode cX13_named 9 = .ok (.aload_n 0, 1) := by decide +kernel
theorem dX13_named_90 : decode cX13_named 90 = .ok (.ifCond .ne 11, 3) := by decide +kernel
theorem dX13_named_93 : decode cX13_named 93 = .ok (.iload_n 1, 1) := by decide +kernel
theorem dX13_named_94 : decode cX13_named 94 = .ok (.ifCond .lt 7, 3) := by decide +kernel
theorem dX13_named_97 : decode cX13_named 97 = .ok (.iconst 1, 1) := by decide +kernel
theorem dX13_named_98 : decode cX13_named 98 = .ok (.goto 4, 3) := by decide +kernel
noncomputable def k_X13_named_102 (l1 : Int32) (k0 : Int32) (s : t_S) : Option (Int32 × t_S) :=
 t_let (t_setI s 950 2 (s.1 950 93)) (fun s1 =>
 t_let (t_setI s1 950 3 (s1.1 950 94)) (fun s2 =>
 t_let (t_setI s2 950 1 (0 : Int32)) (fun s3 =>
 if k0 = (0 : Int32) then (some ((-2 : Int32), s3))
 else ((f_X13_find 964 (0 : Int32) (s3.1 950 40) l1 s3).bind (fun r1 =>
 if r1 < (0 : Int32) then ((f_X13_find 967 (0 : Int32) (s3.1 950 44) l1 s3).bind (fun r2 =>
 if r2 < (0 : Int32) then ((f_X13_find 970 (0 : Int32) (s3.1 950 55) l1 s3).bind (fun r3 =>
 if r3 < (0 : Int32) then ((f_X13_find 980 (0 : Int32) (s3.1 950 64) l1 s3).bind (fun r4 =>
 if r4 < (0 : Int32) then (some ((-2 : Int32), s3))
 else (some (((300 : Int32) + r4), s3))))
 else (some (((200 : Int32) + r3), s3))))
 else (some (((100 : Int32) + r2), s3))))
 else (some (r1, s3)))))))
set_option maxRecDepth 4000 in
set_option maxHeartbeats 1000000 in
theorem B_X13_named_102 {D : va_G} {cy : Nat → ClassId} {ad : Nat → Nat} {bs : Nat} {X : State → Heap → Prop} (l1 : Int32) (k0 : Int32) (s : t_S) (Q : Int32 × t_S → Prop) (hk : t_hk (k_X13_named_102 l1 k0 s) Q) : mj_G D cy ad bs X cX13_named 4 yX13_named.cls (some .int) yX13_named.name 6 0 0 1065 (t_P (fun v s' => ∃ x, v = some (.int x) ∧ Q ((x, s')))) 102 [(0, .ref 950), (1, .int l1)] [.int k0] (t_m s) 1065 0 0 := by
  refine mj_istore_n 2 (lv2 := [(2, .int k0), (0, .ref 950), (1, .int l1)]) dX13_named_102 rfl (by decide) rfl ?_
  refine mj_aload_n dX13_named_103 1 rfl ?_
  refine mj_aload_n dX13_named_104 1 rfl ?_
  refine t_getI dX13_named_105 F_X13_836 qf_950_93 ?_
  refine t_putIK dX13_named_108 F_X13_375 qf_950_2 rfl (fun s1 ws1 => t_letE hk ws1 (fun hk => ?_))
  refine mj_aload_n dX13_named_111 1 rfl ?_
  refine mj_aload_n dX13_named_112 1 rfl ?_
  refine t_getI dX13_named_113 F_X13_839 qf_950_94 ?_
  refine t_putIK dX13_named_116 F_X13_13 qf_950_3 rfl (fun s2 ws2 => t_letE hk ws2 (fun hk => ?_))
  refine mj_aload_n dX13_named_119 1 rfl ?_
  refine mj_iconst (v := 0) dX13_named_120 (by decide) ?_
  refine t_putIK dX13_named_121 F_X13_366 qf_950_1 rfl (fun s3 ws3 => t_letE hk ws3 (fun hk => ?_))
  refine mj_iload_n dX13_named_124 0 rfl ?_
  refine mj_if_ne 131 dX13_named_125 (by decide) (fun z => t_negK hk z (fun hk => ?_)) (fun z => t_posK hk z (fun hk => ?_))
  · refine mj_aload_n dX13_named_131 1 rfl ?_
    refine mj_aload_n dX13_named_132 1 rfl ?_
    refine t_getR 964 dX13_named_133 F_X13_54 qr_950_37 ?_
    refine mj_iconst (v := 0) dX13_named_136 (by decide) ?_
    refine mj_aload_n dX13_named_137 1 rfl ?_
    refine t_getI dX13_named_138 F_X13_624 qf_950_40 ?_
    refine mj_iload_n dX13_named_141 2 rfl ?_
    refine t_bndK hk (fun r1 er1 hk => ?_)
    refine t_callViP dX13_named_142 M_X13_find (C_X13_find _ _ _ _ _ _ er1) ML_X13_788 IM_X13_find SE_X13_find qc_950 rfl (As := [.ref 964, .int 0, .int (s3.1 950 40), .int l1]) rfl rfl (Nat.le_of_ble_eq_true rfl) (Nat.le_of_ble_eq_true rfl) (Nat.le_of_ble_eq_true rfl) (Nat.le_of_ble_eq_true rfl) ?_
    refine mj_istore_n 3 (lv2 := [(3, .int r1), (2, .int k0), (0, .ref 950), (1, .int l1)]) dX13_named_145 rfl (by decide) rfl ?_
    refine mj_iload_n dX13_named_146 0 rfl ?_
    refine mj_if_lt 152 dX13_named_147 (by decide) (fun z => t_posK hk z (fun hk => ?_)) (fun z => t_negK hk z (fun hk => ?_))
    · refine mj_aload_n dX13_named_152 2 rfl ?_
      refine mj_aload_n dX13_named_153 2 rfl ?_
      refine t_getR 967 dX13_named_154 F_X13_63 qr_950_41 ?_
      refine mj_iconst (v := 0) dX13_named_157 (by decide) ?_
      refine mj_aload_n dX13_named_158 2 rfl ?_
      refine t_getI dX13_named_159 F_X13_627 qf_950_44 ?_
      refine mj_iload_n dX13_named_162 3 rfl ?_
      refine t_bndK hk (fun r2 er2 hk => ?_)
      refine t_callViP dX13_named_163 M_X13_find (C_X13_find _ _ _ _ _ _ er2) ML_X13_788 IM_X13_find SE_X13_find qc_950 rfl (As := [.ref 967, .int 0, .int (s3.1 950 44), .int l1]) rfl rfl (Nat.le_of_ble_eq_true rfl) (Nat.le_of_ble_eq_true rfl) (Nat.le_of_ble_eq_true rfl) (Nat.le_of_ble_eq_true rfl) ?_
      refine mj_istore_n 3 (lv2 := [(3, .int r2), (2, .int k0), (0, .ref 950), (1, .int l1)]) dX13_named_166 rfl (by decide) rfl ?_
      refine mj_iload_n dX13_named_167 0 rfl ?_
      refine mj_if_lt 176 dX13_named_168 (by decide) (fun z => t_posK hk z (fun hk => ?_)) (fun z => t_negK hk z (fun hk => ?_))
      · refine mj_aload_n dX13_named_176 2 rfl ?_
        refine mj_aload_n dX13_named_177 2 rfl ?_
        refine t_getR 970 dX13_named_178 F_X13_72 qr_950_45 ?_
        refine mj_iconst (v := 0) dX13_named_181 (by decide) ?_
        refine mj_aload_n dX13_named_182 2 rfl ?_
        refine t_getI dX13_named_183 F_X13_630 qf_950_55 ?_
        refine mj_iload_n dX13_named_186 3 rfl ?_
        refine t_bndK hk (fun r3 er3 hk => ?_)
        refine t_callViP dX13_named_187 M_X13_find (C_X13_find _ _ _ _ _ _ er3) ML_X13_788 IM_X13_find SE_X13_find qc_950 rfl (As := [.ref 970, .int 0, .int (s3.1 950 55), .int l1]) rfl rfl (Nat.le_of_ble_eq_true rfl) (Nat.le_of_ble_eq_true rfl) (Nat.le_of_ble_eq_true rfl) (Nat.le_of_ble_eq_true rfl) ?_
        refine mj_istore_n 3 (lv2 := [(3, .int r3), (2, .int k0), (0, .ref 950), (1, .int l1)]) dX13_named_190 rfl (by decide) rfl ?_
        refine mj_iload_n dX13_named_191 0 rfl ?_
        refine mj_if_lt 201 dX13_named_192 (by decide) (fun z => t_posK hk z (fun hk => ?_)) (fun z => t_negK hk z (fun hk => ?_))
        · refine mj_aload_n dX13_named_201 2 rfl ?_
          refine mj_aload_n dX13_named_202 2 rfl ?_
          refine t_getR 980 dX13_named_203 F_X13_102 qr_950_56 ?_
          refine mj_iconst (v := 0) dX13_named_206 (by decide) ?_
          refine mj_aload_n dX13_named_207 2 rfl ?_
          refine t_getI dX13_named_208 F_X13_633 qf_950_64 ?_
          refine mj_iload_n dX13_named_211 3 rfl ?_
          refine t_bndK hk (fun r4 er4 hk => ?_)
          refine t_callViP dX13_named_212 M_X13_find (C_X13_find _ _ _ _ _ _ er4) ML_X13_788 IM_X13_find SE_X13_find qc_950 rfl (As := [.ref 980, .int 0, .int (s3.1 950 64), .int l1]) rfl rfl (Nat.le_of_ble_eq_true rfl) (Nat.le_of_ble_eq_true rfl) (Nat.le_of_ble_eq_true rfl) (Nat.le_of_ble_eq_true rfl) ?_
          refine mj_istore_n 3 (lv2 := [(3, .int r4), (2, .int k0), (0, .ref 950), (1, .int l1)]) dX13_named_215 rfl (by decide) rfl ?_
          refine mj_iload_n dX13_named_216 0 rfl ?_
          refine mj_if_lt 228 dX13_named_217 (by decide) (fun z => t_posK hk z (fun hk => ?_)) (fun z => t_negK hk z (fun hk => ?_))
          · refine mj_bipush (v := (-2)) dX13_named_228 (by decide) ?_
            exact t_somK hk (fun hf => t_iret dX13_named_230 rfl rfl ⟨_, rfl, hf⟩ (Nat.le_of_ble_eq_true rfl) (Nat.le_of_ble_eq_true rfl))
          · refine mj_sipush (v := 300) dX13_named_220 (by decide) ?_
            refine mj_iload_n dX13_named_223 0 rfl ?_
            refine mj_iadd dX13_named_224 ?_
            refine mj_goto 230 dX13_named_225 (by decide) ?_
            exact t_somK hk (fun hf => t_iret dX13_named_230 rfl rfl ⟨_, rfl, hf⟩ (Nat.le_of_ble_eq_true rfl) (Nat.le_of_ble_eq_true rfl))
        · refine mj_sipush (v := 200) dX13_named_195 (by decide) ?_
          refine mj_iload_n dX13_named_198 0 rfl ?_
          refine mj_iadd dX13_named_199 ?_
          exact t_somK hk (fun hf => t_iret dX13_named_200 rfl rfl ⟨_, rfl, hf⟩ (Nat.le_of_ble_eq_true rfl) (Nat.le_of_ble_eq_true rfl))
      · refine mj_bipush (v := 100) dX13_named_171 (by decide) ?_
        refine mj_iload_n dX13_named_173 0 rfl ?_
        refine mj_iadd dX13_named_174 ?_
        exact t_somK hk (fun hf => t_iret dX13_named_175 rfl rfl ⟨_, rfl, hf⟩ (Nat.le_of_ble_eq_true rfl) (Nat.le_of_ble_eq_true rfl))
    · refine mj_iload_n dX13_named_150 0 rfl ?_
      exact t_somK hk (fun hf => t_iret dX13_named_151 rfl rfl ⟨_, rfl, hf⟩ (Nat.le_of_ble_eq_true rfl) (Nat.le_of_ble_eq_true rfl))
  · refine mj_bipush (v := (-2)) dX13_named_128 (by decide) ?_
    exact t_somK hk (fun hf => t_iret dX13_named_130 rfl rfl ⟨_, rfl, hf⟩ (Nat.le_of_ble_eq_true rfl) (Nat.le_of_ble_eq_true rfl))
noncomputable def k_X13_named_101 (l1 : Int32) (s : t_S) : Option (Int32 × t_S) :=
 k_X13_named_102 l1 0 s
set_option maxRecDepth 4000 in
set_option maxHeartbeats 1000000 in
theorem B_X13_named_101 {D : va_G} {cy : Nat → ClassId} {ad : Nat → Nat} {bs : Nat} {X : State → Heap → Prop} (l1 : Int32) (s : t_S) (Q : Int32 × t_S → Prop) (hk : t_hk (k_X13_named_101 l1 s) Q) : mj_G D cy ad bs X cX13_named 4 yX13_named.cls (some .int) yX13_named.name 6 0 0 1065 (t_P (fun v s' => ∃ x, v = some (.int x) ∧ Q ((x, s')))) 101 [(0, .ref 950), (1, .int l1)] [] (t_m s) 1065 0 0 := by
  refine mj_iconst (v := 0) dX13_named_101 (by decide) ?_
  exact B_X13_named_102 _ _ _ _ hk
noncomputable def k_X13_named_74 (k0 : Int32) (s : t_S) : Option (Int32 × t_S) :=
 (f_X13_next s).bind (fun r1 =>
 if (r1.1 950 2) = (0 : Int32) then (if (r1.1 950 5) = (0 : Int32) then (if k0 < (0 : Int32) then (k_X13_named_101 k0 r1)
 else (k_X13_named_102 k0 1 r1))
 else (k_X13_named_101 k0 r1))
 else (k_X13_named_101 k0 r1))
set_option maxRecDepth 4000 in
set_option maxHeartbeats 1000000 in
theorem B_X13_named_74 {D : va_G} {cy : Nat → ClassId} {ad : Nat → Nat} {bs : Nat} {X : State → Heap → Prop} (k0 : Int32) (s : t_S) (Q : Int32 × t_S → Prop) (hk : t_hk (k_X13_named_74 k0 s) Q) : mj_G D cy ad bs X cX13_named 4 yX13_named.cls (some .int) yX13_named.name 6 0 0 1065 (t_P (fun v s' => ∃ x, v = some (.int x) ∧ Q ((x, s')))) 74 [(0, .ref 950)] [.int k0] (t_m s) 1065 0 0 := by
  refine mj_istore_n 1 (lv2 := [(1, .int k0), (0, .ref 950)]) dX13_named_74 rfl (by decide) rfl ?_
  refine mj_aload_n dX13_named_75 1 rfl ?_
  refine t_bndK hk (fun r1 er1 hk => ?_)
  refine t_callVvE dX13_named_76 M_X13_next (C_X13_next _ _ er1) ML_X13_452 IM_X13_next SE_X13_next qc_950 rfl (As := []) rfl rfl (Nat.le_of_ble_eq_true rfl) (Nat.le_of_ble_eq_true rfl) (Nat.le_of_ble_eq_true rfl) (Nat.le_of_ble_eq_true rfl) ?_
  refine mj_aload_n dX13_named_79 1 rfl ?_
  refine t_getI dX13_named_80 F_X13_375 qf_950_2 ?_
  refine mj_if_ne 101 dX13_named_83 (by decide) (fun z => t_negK hk z (fun hk => ?_)) (fun z => t_posK hk z (fun hk => ?_))
  · refine mj_sublv [(0, .ref 950), (1, .int k0)] [1, 0] rfl ?_
    exact B_X13_named_101 _ _ _ hk
  · refine mj_aload_n dX13_named_86 1 rfl ?_
    refine t_getI dX13_named_87 F_X13_385 qf_950_5 ?_
    refine mj_if_ne 101 dX13_named_90 (by decide) (fun z => t_negK hk z (fun hk => ?_)) (fun z => t_posK hk z (fun hk => ?_))
    · refine mj_sublv [(0, .ref 950), (1, .int k0)] [1, 0] rfl ?_
      exact B_X13_named_101 _ _ _ hk
    · refine mj_iload_n dX13_named_93 0 rfl ?_
      refine mj_if_lt 101 dX13_named_94 (by decide) (fun z => t_posK hk z (fun hk => ?_)) (fun z => t_negK hk z (fun hk => ?_))
      · refine mj_sublv [(0, .ref 950), (1, .int k0)] [1, 0] rfl ?_
        exact B_X13_named_101 _ _ _ hk
      · refine mj_iconst (v := 1) dX13_named_97 (by decide) ?_
        refine mj_goto 102 dX13_named_98 (by decide) ?_
        refine mj_sublv [(0, .ref 950), (1, .int k0)] [1, 0] rfl ?_
        exact B_X13_named_102 _ _ _ _ hk
noncomputable def k_X13_named_73 (s : t_S) : Option (Int32 × t_S) :=
 k_X13_named_74 (-1) s
set_option maxRecDepth 4000 in
set_option maxHeartbeats 1000000 in
theorem B_X13_named_73 {D : va_G} {cy : Nat → ClassId} {ad : Nat → Nat} {bs : Nat} {X : State → Heap → Prop} (s : t_S) (Q : Int32 × t_S → Prop) (hk : t_hk (k_X13_named_73 s) Q) : mj_G D cy ad bs X cX13_named 4 yX13_named.cls (some .int) yX13_named.name 6 0 0 1065 (t_P (fun v s' => ∃ x, v = some (.int x) ∧ Q ((x, s')))) 73 [(0, .ref 950)] [] (t_m s) 1065 0 0 := by
  refine mj_iconst (v := (-1)) dX13_named_73 (by decide) ?_
  exact B_X13_named_74 _ _ _ hk
noncomputable def f_X13_named (s : t_S) : Option (Int32 × t_S) :=
 if (s.1 950 65) = (0 : Int32) then (some ((-1 : Int32), s))
 else (t_let (t_setI s 950 16 (0 : Int32)) (fun s1 =>
 t_let (t_setI s1 950 4 (0 : Int32)) (fun s2 =>
 t_let (t_setI s2 950 93 (s2.1 950 2)) (fun s3 =>
 t_let (t_setI s3 950 94 (s3.1 950 3)) (fun s4 =>
 t_let (t_setI s4 950 2 (0 : Int32)) (fun s5 =>
 (f_X13_next s5).bind (fun r1 =>
 if (r1.1 950 5) = (1 : Int32) then (if (0 : Int32) ≤ (r1.1 950 10) then (k_X13_named_73 r1)
 else (if (r1.1 950 2) = (0 : Int32) then ((f_X13_name r1).bind (fun r2 =>
 k_X13_named_74 r2.1 r2.2))
 else (k_X13_named_73 r1)))
 else (k_X13_named_73 r1))))))))
set_option maxRecDepth 4000 in
set_option maxHeartbeats 1000000 in
theorem C_X13_named (s : t_S) (r : Int32 × t_S) (hr : f_X13_named s = some r) : t_C yX13_named cX13_named 4 (some .int) 6 [.ref 950] s (fun v s' => v = some (.int r.1) ∧ s' = r.2) := by
  refine t_C.imp (P := fun v s' => ∃ x, v = some (.int x) ∧ (fun q => q = r) ((x, s'))) (t_C.of (by decide +kernel) (Nat.le_of_ble_eq_true rfl) ?_) (fun v s' hp => by obtain ⟨x, rfl, rfl⟩ := hp; exact ⟨rfl, rfl⟩)
  intro D cy ad bs X
  have hk : t_hk (f_X13_named s) (fun q => q = r) := ⟨r, hr, rfl⟩
  show mj_G D cy ad bs X cX13_named 4 yX13_named.cls (some .int) yX13_named.name 6 0 0 1065 (t_P (fun v s' => ∃ x, v = some (.int x) ∧ (fun q => q = r) ((x, s')))) 0 [(0, .ref 950)] [] (t_m s) 1065 0 0
  refine mj_aload_n dX13_named_0 0 rfl ?_
  refine t_getI dX13_named_1 F_X13_642 qf_950_65 ?_
  refine mj_if_ne 9 dX13_named_4 (by decide) (fun z => t_negK hk z (fun hk => ?_)) (fun z => t_posK hk z (fun hk => ?_))
  · refine mj_aload_n dX13_named_9 0 rfl ?_
    refine mj_iconst (v := 0) dX13_named_10 (by decide) ?_
    refine t_putIK dX13_named_11 F_X13_461 qf_950_16 (by decide) (fun s1 ws1 => t_letE hk ws1 (fun hk => ?_))
    refine mj_aload_n dX13_named_14 0 rfl ?_
    refine mj_iconst (v := 0) dX13_named_15 (by decide) ?_
    refine t_putIK dX13_named_16 F_X13_378 qf_950_4 rfl (fun s2 ws2 => t_letE hk ws2 (fun hk => ?_))
    refine mj_aload_n dX13_named_19 0 rfl ?_
    refine mj_aload_n dX13_named_20 0 rfl ?_
    refine t_getI dX13_named_21 F_X13_375 qf_950_2 ?_
    refine t_putIK dX13_named_24 F_X13_836 qf_950_93 rfl (fun s3 ws3 => t_letE hk ws3 (fun hk => ?_))
    refine mj_aload_n dX13_named_27 0 rfl ?_
    refine mj_aload_n dX13_named_28 0 rfl ?_
    refine t_getI dX13_named_29 F_X13_13 qf_950_3 ?_
    refine t_putIK dX13_named_32 F_X13_839 qf_950_94 rfl (fun s4 ws4 => t_letE hk ws4 (fun hk => ?_))
    refine mj_aload_n dX13_named_35 0 rfl ?_
    refine mj_iconst (v := 0) dX13_named_36 (by decide) ?_
    refine t_putIK dX13_named_37 F_X13_375 qf_950_2 rfl (fun s5 ws5 => t_letE hk ws5 (fun hk => ?_))
    refine mj_aload_n dX13_named_40 0 rfl ?_
    refine t_bndK hk (fun r1 er1 hk => ?_)
    refine t_callVvE dX13_named_41 M_X13_next (C_X13_next _ _ er1) ML_X13_452 IM_X13_next SE_X13_next qc_950 rfl (As := []) rfl rfl (Nat.le_of_ble_eq_true rfl) (Nat.le_of_ble_eq_true rfl) (Nat.le_of_ble_eq_true rfl) (Nat.le_of_ble_eq_true rfl) ?_
    refine mj_aload_n dX13_named_44 0 rfl ?_
    refine t_getI dX13_named_45 F_X13_385 qf_950_5 ?_
    refine mj_iconst (v := 1) dX13_named_48 (by decide) ?_
    refine mj_icmp_ne 73 dX13_named_49 (by decide) (fun z => t_negK hk z (fun hk => ?_)) (fun z => t_posK hk z (fun hk => ?_))
    · exact B_X13_named_73 _ _ hk
    · refine mj_aload_n dX13_named_52 0 rfl ?_
      refine t_getI dX13_named_53 F_X13_397 qf_950_10 ?_
      refine mj_if_ge 73 dX13_named_56 (by decide) (fun z => t_posK hk z (fun hk => ?_)) (fun z => t_negK hk z (fun hk => ?_))
      · exact B_X13_named_73 _ _ hk
      · refine mj_aload_n dX13_named_59 0 rfl ?_
        refine t_getI dX13_named_60 F_X13_375 qf_950_2 ?_
        refine mj_if_ne 73 dX13_named_63 (by decide) (fun z => t_negK hk z (fun hk => ?_)) (fun z => t_posK hk z (fun hk => ?_))
        · exact B_X13_named_73 _ _ hk
        · refine mj_aload_n dX13_named_66 0 rfl ?_
          refine t_bndK hk (fun r2 er2 hk => ?_)
          refine t_callViE dX13_named_67 M_X13_name (C_X13_name _ _ er2) ML_X13_468 IM_X13_name SE_X13_name qc_950 rfl (As := []) rfl rfl (Nat.le_of_ble_eq_true rfl) (Nat.le_of_ble_eq_true rfl) (Nat.le_of_ble_eq_true rfl) (Nat.le_of_ble_eq_true rfl) ?_
          refine mj_goto 74 dX13_named_70 (by decide) ?_
          exact B_X13_named_74 _ _ _ hk
  · refine mj_iconst (v := (-1)) dX13_named_7 (by decide) ?_
    exact t_somK hk (fun hf => t_iret dX13_named_8 rfl rfl ⟨_, rfl, hf⟩ (Nat.le_of_ble_eq_true rfl) (Nat.le_of_ble_eq_true rfl))

theorem dX13_noBits_0 : decode cX13_noBits 0 = .ok (.aload_n 0, 1) := by decide +kernel
theorem dX13_noBits_1 : decode cX13_noBits 1 = .ok (.getfield 833, 3) := by decide +kernel
theorem dX13_noBits_10 : decode cX13_noBits 10 = .ok (.iload_n 1, 1) := by decide +kernel
theorem dX13_noBits_11 : decode cX13_noBits 11 = .ok (.ireturn, 1) := by decide +kernel
theorem dX13_noBits_4 : decode cX13_noBits 4 = .ok (.istore_n 1, 1) := by decide +kernel
theorem dX13_noBits_5 : decode cX13_noBits 5 = .ok (.aload_n 0, 1) := by decide +kernel
theorem dX13_noBits_6 : decode cX13_noBits 6 = .ok (.iconst 0, 1) := by decide +kernel
theorem dX13_noBits_7 : decode cX13_noBits 7 = .ok (.putfield 833, 3) := by decide +kernel
noncomputable def f_X13_noBits (s : t_S) : Option (Int32 × t_S) :=
 t_let (t_setI s 950 121 (0 : Int32)) (fun s1 =>
 some ((s.1 950 121), s1))
set_option maxRecDepth 4000 in
set_option maxHeartbeats 1000000 in
theorem C_X13_noBits (s : t_S) (r : Int32 × t_S) (hr : f_X13_noBits s = some r) : t_C yX13_noBits cX13_noBits 2 (some .int) 0 [.ref 950] s (fun v s' => v = some (.int r.1) ∧ s' = r.2) := by
  refine t_C.imp (P := fun v s' => ∃ x, v = some (.int x) ∧ (fun q => q = r) ((x, s'))) (t_C.of (by decide +kernel) (Nat.le_of_ble_eq_true rfl) ?_) (fun v s' hp => by obtain ⟨x, rfl, rfl⟩ := hp; exact ⟨rfl, rfl⟩)
  intro D cy ad bs X
  have hk : t_hk (f_X13_noBits s) (fun q => q = r) := ⟨r, hr, rfl⟩
  show mj_G D cy ad bs X cX13_noBits 2 yX13_noBits.cls (some .int) yX13_noBits.name 0 0 0 1065 (t_P (fun v s' => ∃ x, v = some (.int x) ∧ (fun q => q = r) ((x, s')))) 0 [(0, .ref 950)] [] (t_m s) 1065 0 0
  refine mj_aload_n dX13_noBits_0 0 rfl ?_
  refine t_getI dX13_noBits_1 F_X13_833 qf_950_121 ?_
  refine mj_istore_n 1 (lv2 := [(1, .int (s.1 950 121)), (0, .ref 950)]) dX13_noBits_4 rfl (by decide) rfl ?_
  refine mj_aload_n dX13_noBits_5 1 rfl ?_
  refine mj_iconst (v := 0) dX13_noBits_6 (by decide) ?_
  refine t_putIK dX13_noBits_7 F_X13_833 qf_950_121 rfl (fun s1 ws1 => t_letE hk ws1 (fun hk => ?_))
  refine mj_iload_n dX13_noBits_10 0 rfl ?_
  exact t_somK hk (fun hf => t_iret dX13_noBits_11 rfl rfl ⟨_, rfl, hf⟩ (Nat.le_of_ble_eq_true rfl) (Nat.le_of_ble_eq_true rfl))

theorem dX13_queue_0 : decode cX13_queue 0 = .ok (.aload_n 0, 1) := by decide +kernel
theorem dX13_queue_1 : decode cX13_queue 1 = .ok (.iload_n 1, 1) := by decide +kernel
theorem dX13_queue_10 : decode cX13_queue 10 = .ok (.goto 14, 3) := by decide +kernel
theorem dX13_queue_13 : decode cX13_queue 13 = .ok (.aload_n 0, 1) := by decide +kernel
theorem dX13_queue_14 : decode cX13_queue 14 = .ok (.getfield 309, 3) := by decide +kernel
theorem dX13_queue_17 : decode cX13_queue 17 = .ok (.bipush 6, 2) := by decide +kernel
theorem dX13_queue_19 : decode cX13_queue 19 = .ok (.iload_n 1, 1) := by decide +kernel
theorem dX13_queue_2 : decode cX13_queue 2 = .ok (.iload_n 2, 1) := by decide +kernel
theorem dX13_queue_20 : decode cX13_queue 20 = .ok (.imul, 1) := by decide +kernel
theorem dX13_queue_21 : decode cX13_queue 21 = .ok (.iload_n 2, 1) := by decide +kernel
theorem dX13_queue_22 : decode cX13_queue 22 = .ok (.iadd, 1) := by decide +kernel
theorem dX13_queue_23 : decode cX13_queue 23 = .ok (.iaload, 1) := by decide +kernel
theorem dX13_queue_24 : decode cX13_queue 24 = .ok (.ireturn, 1) := by decide +kernel
theorem dX13_queue_3 : decode cX13_queue 3 = .ok (.invokevirtual 1487, 3) := by decide +kernel
theorem dX13_queue_6 : decode cX13_queue 6 = .ok (.ifCond .eq 7, 3) := by decide +kernel
theorem dX13_queue_9 : decode cX13_queue 9 = .ok (.iconst (-1), 1) := by decide +kernel
noncomputable def f_X13_queue (x1 : Int32) (x2 : Int32) (s : t_S) : Option (Int32) :=
 (f_X13_noPort x1 x2 s).bind (fun r1 =>
 if r1 = (0 : Int32) then (if t_ix (((6 : Int32) * x1) + x2) 48 = true then
  some (s.1 1047 ((((6 : Int32) * x1) + x2).toNatClampNeg))
else none)
 else (some (-1 : Int32)))
set_option maxRecDepth 4000 in
set_option maxHeartbeats 1000000 in
theorem C_X13_queue (x1 : Int32) (x2 : Int32) (s : t_S) (r : Int32) (hr : f_X13_queue x1 x2 s = some r) : t_C yX13_queue cX13_queue 3 (some .int) 2 [.ref 950, .int x1, .int x2] s (fun v s' => v = some (.int r) ∧ s' = s) := by
  refine t_C.imp (P := fun v s' => s' = s ∧ ∃ x, v = some (.int x) ∧ (fun q => q = r) (x)) (t_C.of (by decide +kernel) (Nat.le_of_ble_eq_true rfl) ?_) (fun v s' hp => by obtain ⟨rfl, x, rfl, rfl⟩ := hp; exact ⟨rfl, rfl⟩)
  intro D cy ad bs X
  have hk : t_hk (f_X13_queue x1 x2 s) (fun q => q = r) := ⟨r, hr, rfl⟩
  show mj_G D cy ad bs X cX13_queue 3 yX13_queue.cls (some .int) yX13_queue.name 2 0 0 1065 (t_P (fun v s' => s' = s ∧ ∃ x, v = some (.int x) ∧ (fun q => q = r) (x))) 0 [(0, .ref 950), (1, .int x1), (2, .int x2)] [] (t_m s) 1065 0 0
  refine mj_aload_n dX13_queue_0 0 rfl ?_
  refine mj_iload_n dX13_queue_1 1 rfl ?_
  refine mj_iload_n dX13_queue_2 2 rfl ?_
  refine t_bndK hk (fun r1 er1 hk => ?_)
  refine t_callViP dX13_queue_3 M_X13_noPort (C_X13_noPort _ _ _ _ er1) ML_X13_1487 IM_X13_noPort SE_X13_noPort qc_950 rfl (As := [.int x1, .int x2]) rfl rfl (Nat.le_of_ble_eq_true rfl) (Nat.le_of_ble_eq_true rfl) (Nat.le_of_ble_eq_true rfl) (Nat.le_of_ble_eq_true rfl) ?_
  refine mj_if_eq 13 dX13_queue_6 (by decide) (fun z => t_posK hk z (fun hk => ?_)) (fun z => t_negK hk z (fun hk => ?_))
  · refine mj_aload_n dX13_queue_13 0 rfl ?_
    refine t_getR 1047 dX13_queue_14 F_X13_309 qr_950_162 ?_
    refine mj_bipush (v := 6) dX13_queue_17 (by decide) ?_
    refine mj_iload_n dX13_queue_19 1 rfl ?_
    refine mj_imul dX13_queue_20 ?_
    refine mj_iload_n dX13_queue_21 2 rfl ?_
    refine mj_iadd dX13_queue_22 ?_
    refine t_chkK hk (fun c1 hk => ?_)
    refine t_iald dX13_queue_23 qa_1047 (t_ixv c1) ?_
    exact t_somK hk (fun hf => t_iret dX13_queue_24 rfl rfl ⟨rfl, _, rfl, hf⟩ (Nat.le_of_ble_eq_true rfl) (Nat.le_of_ble_eq_true rfl))
  · refine mj_iconst (v := (-1)) dX13_queue_9 (by decide) ?_
    refine mj_goto 24 dX13_queue_10 (by decide) ?_
    exact t_somK hk (fun hf => t_iret dX13_queue_24 rfl rfl ⟨rfl, _, rfl, hf⟩ (Nat.le_of_ble_eq_true rfl) (Nat.le_of_ble_eq_true rfl))

