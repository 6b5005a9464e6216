/-! Methods as functions, 37: X2_readNumber, X2_readText, X2_addWord, X2_packed, X2_wordOf, X2_readWord -/
theorem qa_8 : t_oka 8 2 8000 = true := by decide +kernel
theorem qa_9 : t_oka 9 1 8000 = true := by decide +kernel
theorem qr_1_16 : t_okr 1 2 16 8 = true := by decide +kernel
theorem qr_1_17 : t_okr 1 2 17 9 = true := by decide +kernel
theorem dX2_readNumber_0 : decode cX2_readNumber 0 = .ok (.aload_n 0, 1) := by decide +kernel
theorem dX2_readNumber_1 : decode cX2_readNumber 1 = .ok (.getfield 89, 3) := by decide +kernel
theorem dX2_readNumber_10 : decode cX2_readNumber 10 = .ok (.getfield 61, 3) := by decide +kernel
theorem dX2_readNumber_100 : decode cX2_readNumber 100 = .ok (.iconst 2, 1) := by decide +kernel
theorem dX2_readNumber_101 : decode cX2_readNumber 101 = .ok (.ireturn, 1) := by decide +kernel
theorem dX2_readNumber_13 : decode cX2_readNumber 13 = .ok (.if_icmp .ge 72, 3) := by decide +kernel
theorem dX2_readNumber_16 : decode cX2_readNumber 16 = .ok (.aload_n 0, 1) := by decide +kernel
theorem dX2_readNumber_17 : decode cX2_readNumber 17 = .ok (.getfield 11, 3) := by decide +kernel
theorem dX2_readNumber_20 : decode cX2_readNumber 20 = .ok (.aload_n 0, 1) := by decide +kernel
theorem dX2_readNumber_21 : decode cX2_readNumber 21 = .ok (.getfield 89, 3) := by decide +kernel
theorem dX2_readNumber_24 : decode cX2_readNumber 24 = .ok (.baload, 1) := by decide +kernel
theorem dX2_readNumber_25 : decode cX2_readNumber 25 = .ok (.sipush 255, 3) := by decide +kernel
theorem dX2_readNumber_28 : decode cX2_readNumber 28 = .ok (.iand, 1) := by decide +kernel
theorem dX2_readNumber_29 : decode cX2_readNumber 29 = .ok (.invokestatic 125, 3) := by decide +kernel
theorem dX2_readNumber_32 : decode cX2_readNumber 32 = .ok (.ifCond .eq 53, 3) := by decide +kernel
theorem dX2_readNumber_35 : decode cX2_readNumber 35 = .ok (.aload_n 0, 1) := by decide +kernel
theorem dX2_readNumber_36 : decode cX2_readNumber 36 = .ok (.getfield 89, 3) := by decide +kernel
theorem dX2_readNumber_39 : decode cX2_readNumber 39 = .ok (.iload_n 1, 1) := by decide +kernel
theorem dX2_readNumber_4 : decode cX2_readNumber 4 = .ok (.istore_n 1, 1) := by decide +kernel
theorem dX2_readNumber_40 : decode cX2_readNumber 40 = .ok (.isub, 1) := by decide +kernel
theorem dX2_readNumber_41 : decode cX2_readNumber 41 = .ok (.bipush 15, 2) := by decide +kernel
theorem dX2_readNumber_43 : decode cX2_readNumber 43 = .ok (.if_icmp .ge 29, 3) := by decide +kernel
theorem dX2_readNumber_46 : decode cX2_readNumber 46 = .ok (.aload_n 0, 1) := by decide +kernel
theorem dX2_readNumber_47 : decode cX2_readNumber 47 = .ok (.aload_n 0, 1) := by decide +kernel
theorem dX2_readNumber_48 : decode cX2_readNumber 48 = .ok (.getfield 95, 3) := by decide +kernel
theorem dX2_readNumber_5 : decode cX2_readNumber 5 = .ok (.aload_n 0, 1) := by decide +kernel
theorem dX2_readNumber_51 : decode cX2_readNumber 51 = .ok (.ldc2_w 140, 3) := by decide +kernel
theorem dX2_readNumber_54 : decode cX2_readNumber 54 = .ok (.lmul, 1) := by decide +kernel
theorem dX2_readNumber_55 : decode cX2_readNumber 55 = .ok (.aload_n 0, 1) := by decide +kernel
theorem dX2_readNumber_56 : decode cX2_readNumber 56 = .ok (.getfield 11, 3) := by decide +kernel
theorem dX2_readNumber_59 : decode cX2_readNumber 59 = .ok (.aload_n 0, 1) := by decide +kernel
theorem dX2_readNumber_6 : decode cX2_readNumber 6 = .ok (.getfield 89, 3) := by decide +kernel
theorem dX2_readNumber_60 : decode cX2_readNumber 60 = .ok (.getfield 89, 3) := by decide +kernel
theorem dX2_readNumber_63 : decode cX2_readNumber 63 = .ok (.baload, 1) := by decide +kernel
theorem dX2_readNumber_64 : decode cX2_readNumber 64 = .ok (.bipush 48, 2) := by decide +kernel
theorem dX2_readNumber_66 : decode cX2_readNumber 66 = .ok (.isub, 1) := by decide +kernel
theorem dX2_readNumber_67 : decode cX2_readNumber 67 = .ok (.i2l, 1) := by decide +kernel
theorem dX2_readNumber_68 : decode cX2_readNumber 68 = .ok (.ladd, 1) := by decide +kernel
theorem dX2_readNumber_69 : decode cX2_readNumber 69 = .ok (.putfield 95, 3) := by decide +kernel
theorem dX2_readNumber_72 : decode cX2_readNumber 72 = .ok (.aload_n 0, 1) := by decide +kernel
theorem dX2_readNumber_73 : decode cX2_readNumber 73 = .ok (.dup, 1) := by decide +kernel
theorem dX2_readNumber_74 : decode cX2_readNumber 74 = .ok (.getfield 89, 3) := by decide +kernel
theorem dX2_readNumber_77 : decode cX2_readNumber 77 = .ok (.iconst 1, 1) := by decide +kernel
theorem dX2_readNumber_78 : decode cX2_readNumber 78 = .ok (.iadd, 1) := by decide +kernel
theorem dX2_readNumber_79 : decode cX2_readNumber 79 = .ok (.putfield 89, 3) := by decide +kernel
theorem dX2_readNumber_82 : decode cX2_readNumber 82 = .ok (.goto (-77), 3) := by decide +kernel
theorem dX2_readNumber_85 : decode cX2_readNumber 85 = .ok (.aload_n 0, 1) := by decide +kernel
theorem dX2_readNumber_86 : decode cX2_readNumber 86 = .ok (.getfield 89, 3) := by decide +kernel
theorem dX2_readNumber_89 : decode cX2_readNumber 89 = .ok (.iload_n 1, 1) := by decide +kernel
theorem dX2_readNumber_9 : decode cX2_readNumber 9 = .ok (.aload_n 0, 1) := by decide +kernel
theorem dX2_readNumber_90 : decode cX2_readNumber 90 = .ok (.isub, 1) := by decide +kernel
theorem dX2_readNumber_91 : decode cX2_readNumber 91 = .ok (.bipush 15, 2) := by decide +kernel
theorem dX2_readNumber_93 : decode cX2_readNumber 93 = .ok (.if_icmp .le 7, 3) := by decide +kernel
theorem dX2_readNumber_96 : decode cX2_readNumber 96 = .ok (.iconst 5, 1) := by decide +kernel
theorem dX2_readNumber_97 : decode cX2_readNumber 97 = .ok (.goto 4, 3) := by decide +kernel
noncomputable def k_X2_readNumber_72 (l1 : Int32) (s : t_S) : Option ((Int32 × t_S) ⊕ (Int32 × t_S)) :=
 t_let (t_setI s 1 2 ((s.1 1 2) + (1 : Int32))) (fun s1 =>
 some (.inl (l1, s1)))
set_option maxRecDepth 4000 in
set_option maxHeartbeats 1000000 in
theorem B_X2_readNumber_72 {D : va_G} {cy : Nat → ClassId} {ad : Nat → Nat} {bs : Nat} {X : State → Heap → Prop} (l1 : Int32) (s : t_S) (Q : (Int32 × t_S) ⊕ (Int32 × t_S) → Prop) (Hb5 : ∀ (y0 : Int32) (y1 : t_S), Q (.inl (y0, y1)) → mj_G D cy ad bs X cX2_readNumber 2 yX2_readNumber.cls (some .int) yX2_readNumber.name 1 0 0 1065 (t_P (fun v s' => ∃ x, v = some (.int x) ∧ Q (.inr ((x, s'))))) 5 [(0, .ref 1), (1, .int (y0))] [] (t_m y1) 1065 0 0) (hk : t_hk (k_X2_readNumber_72 l1 s) Q) : mj_G D cy ad bs X cX2_readNumber 2 yX2_readNumber.cls (some .int) yX2_readNumber.name 1 0 0 1065 (t_P (fun v s' => ∃ x, v = some (.int x) ∧ Q (.inr ((x, s'))))) 72 [(0, .ref 1), (1, .int l1)] [] (t_m s) 1065 0 0 := by
  refine mj_aload_n dX2_readNumber_72 0 rfl ?_
  refine mj_dup dX2_readNumber_73 rfl ?_
  refine t_getI dX2_readNumber_74 F_X2_89 qf_1_2 ?_
  refine mj_iconst (v := 1) dX2_readNumber_77 (by decide) ?_
  refine mj_iadd dX2_readNumber_78 ?_
  refine t_putIK dX2_readNumber_79 F_X2_89 qf_1_2 rfl (fun s1 ws1 => t_letE hk ws1 (fun hk => ?_))
  refine mj_goto 5 dX2_readNumber_82 (by decide) ?_
  exact t_somK hk (fun hf => Hb5 l1 s1 hf)
noncomputable def k_X2_readNumber_85 (l1 : Int32) (s : t_S) : Option (Int32 × t_S) :=
 if ((s.1 1 2) - l1) ≤ (15 : Int32) then (some ((2 : Int32), s))
 else (some ((5 : Int32), s))
set_option maxRecDepth 4000 in
set_option maxHeartbeats 1000000 in
theorem B_X2_readNumber_85 {D : va_G} {cy : Nat → ClassId} {ad : Nat → Nat} {bs : Nat} {X : State → Heap → Prop} (l1 : Int32) (s : t_S) (Q : Int32 × t_S → Prop) (hk : t_hk (k_X2_readNumber_85 l1 s) Q) : mj_G D cy ad bs X cX2_readNumber 2 yX2_readNumber.cls (some .int) yX2_readNumber.name 1 0 0 1065 (t_P (fun v s' => ∃ x, v = some (.int x) ∧ Q ((x, s')))) 85 [(0, .ref 1), (1, .int l1)] [] (t_m s) 1065 0 0 := by
  refine mj_aload_n dX2_readNumber_85 0 rfl ?_
  refine t_getI dX2_readNumber_86 F_X2_89 qf_1_2 ?_
  refine mj_iload_n dX2_readNumber_89 1 rfl ?_
  refine mj_isub dX2_readNumber_90 ?_
  refine mj_bipush (v := 15) dX2_readNumber_91 (by decide) ?_
  refine mj_icmp_le 100 dX2_readNumber_93 (by decide) (fun z => t_posK hk z (fun hk => ?_)) (fun z => t_negK hk z (fun hk => ?_))
  · refine mj_iconst (v := 2) dX2_readNumber_100 (by decide) ?_
    exact t_somK hk (fun hf => t_iret dX2_readNumber_101 rfl rfl ⟨_, rfl, hf⟩ (Nat.le_of_ble_eq_true rfl) (Nat.le_of_ble_eq_true rfl))
  · refine mj_iconst (v := 5) dX2_readNumber_96 (by decide) ?_
    refine mj_goto 101 dX2_readNumber_97 (by decide) ?_
    exact t_somK hk (fun hf => t_iret dX2_readNumber_101 rfl rfl ⟨_, rfl, hf⟩ (Nat.le_of_ble_eq_true rfl) (Nat.le_of_ble_eq_true rfl))
noncomputable def k_X2_readNumber_5 (l1 : Int32) (s : t_S) : Option ((Int32 × t_S) ⊕ (Int32 × t_S)) :=
 if (s.1 1 1) ≤ (s.1 1 2) then ((k_X2_readNumber_85 l1 s).map Sum.inr)
 else (if t_ix (s.1 1 2) 12000 = true then
  if (f_X2_isDigit ((s.1 2 ((s.1 1 2).toNatClampNeg)) &&& (255 : Int32)) s) = (0 : Int32) then ((k_X2_readNumber_85 l1 s).map Sum.inr)
 else (if (15 : Int32) ≤ ((s.1 1 2) - l1) then (k_X2_readNumber_72 l1 s)
 else (t_let (t_setJ s 1 10 (((s.2.1 1 10) * (10 : Int64)) + (((s.1 2 ((s.1 1 2).toNatClampNeg)) - (48 : Int32)).toInt64))) (fun s1 =>
 k_X2_readNumber_72 l1 s1)))
else none)
set_option maxRecDepth 4000 in
set_option maxHeartbeats 1000000 in
theorem B_X2_readNumber_5 {D : va_G} {cy : Nat → ClassId} {ad : Nat → Nat} {bs : Nat} {X : State → Heap → Prop} (l1 : Int32) (s : t_S) (Q : (Int32 × t_S) ⊕ (Int32 × t_S) → Prop) (Hb5 : ∀ (y0 : Int32) (y1 : t_S), Q (.inl (y0, y1)) → mj_G D cy ad bs X cX2_readNumber 2 yX2_readNumber.cls (some .int) yX2_readNumber.name 1 0 0 1065 (t_P (fun v s' => ∃ x, v = some (.int x) ∧ Q (.inr ((x, s'))))) 5 [(0, .ref 1), (1, .int (y0))] [] (t_m y1) 1065 0 0) (hk : t_hk (k_X2_readNumber_5 l1 s) Q) : mj_G D cy ad bs X cX2_readNumber 2 yX2_readNumber.cls (some .int) yX2_readNumber.name 1 0 0 1065 (t_P (fun v s' => ∃ x, v = some (.int x) ∧ Q (.inr ((x, s'))))) 5 [(0, .ref 1), (1, .int l1)] [] (t_m s) 1065 0 0 := by
  refine mj_aload_n dX2_readNumber_5 0 rfl ?_
  refine t_getI dX2_readNumber_6 F_X2_89 qf_1_2 ?_
  refine mj_aload_n dX2_readNumber_9 0 rfl ?_
  refine t_getI dX2_readNumber_10 F_X2_61 qf_1_1 ?_
  refine mj_icmp_ge 85 dX2_readNumber_13 (by decide) (fun z => t_posK hk z (fun hk => ?_)) (fun z => t_negK hk z (fun hk => ?_))
  · refine t_mapK hk (fun hk => ?_)
    exact B_X2_readNumber_85 _ _ _ hk
  · refine mj_aload_n dX2_readNumber_16 0 rfl ?_
    refine t_getR 2 dX2_readNumber_17 F_X2_11 qr_1_0 ?_
    refine mj_aload_n dX2_readNumber_20 0 rfl ?_
    refine t_getI dX2_readNumber_21 F_X2_89 qf_1_2 ?_
    refine t_chkK hk (fun c0 hk => ?_)
    refine t_bald dX2_readNumber_24 qa_2 (t_ixv c0) ?_
    refine mj_sipush (v := 255) dX2_readNumber_25 (by decide) ?_
    refine mj_iand dX2_readNumber_28 ?_
    refine t_callSiP dX2_readNumber_29 M_X2_isDigit (C_X2_isDigit _ _) ML_X2_125 SM_X2_isDigit (As := [.int ((s.1 2 ((s.1 1 2).toNatClampNeg)) &&& (255 : Int32))]) rfl rfl (Nat.le_of_ble_eq_true rfl) (Nat.le_of_ble_eq_true rfl) (Nat.le_of_ble_eq_true rfl) (Nat.le_of_ble_eq_true rfl) ?_
    refine mj_if_eq 85 dX2_readNumber_32 (by decide) (fun z => t_posK hk z (fun hk => ?_)) (fun z => t_negK hk z (fun hk => ?_))
    · refine t_mapK hk (fun hk => ?_)
      exact B_X2_readNumber_85 _ _ _ hk
    · refine mj_aload_n dX2_readNumber_35 0 rfl ?_
      refine t_getI dX2_readNumber_36 F_X2_89 qf_1_2 ?_
      refine mj_iload_n dX2_readNumber_39 1 rfl ?_
      refine mj_isub dX2_readNumber_40 ?_
      refine mj_bipush (v := 15) dX2_readNumber_41 (by decide) ?_
      refine mj_icmp_ge 72 dX2_readNumber_43 (by decide) (fun z => t_posK hk z (fun hk => ?_)) (fun z => t_negK hk z (fun hk => ?_))
      · exact B_X2_readNumber_72 _ _ _ (fun y0 y1 hx => Hb5 y0 y1 hx) hk
      · refine mj_aload_n dX2_readNumber_46 0 rfl ?_
        refine mj_aload_n dX2_readNumber_47 0 rfl ?_
        refine t_getJ dX2_readNumber_48 F_X2_95 qf_1_10 ?_
        refine mj_ldc2 dX2_readNumber_51 K_X2_140 ?_
        refine mj_lmul dX2_readNumber_54 ?_
        refine mj_aload_n dX2_readNumber_55 0 rfl ?_
        refine t_getR 2 dX2_readNumber_56 F_X2_11 qr_1_0 ?_
        refine mj_aload_n dX2_readNumber_59 0 rfl ?_
        refine t_getI dX2_readNumber_60 F_X2_89 qf_1_2 ?_
        refine t_bald dX2_readNumber_63 qa_2 (t_ixv c0) ?_
        refine mj_bipush (v := 48) dX2_readNumber_64 (by decide) ?_
        refine mj_isub dX2_readNumber_66 ?_
        refine mj_i2l (v := ((s.1 2 ((s.1 1 2).toNatClampNeg)) - (48 : Int32)).toInt64) dX2_readNumber_67 rfl ?_
        refine mj_ladd dX2_readNumber_68 ?_
        refine t_putJK dX2_readNumber_69 F_X2_95 qf_1_10 rfl (fun s1 ws1 => t_letE hk ws1 (fun hk => ?_))
        exact B_X2_readNumber_72 _ _ _ (fun y0 y1 hx => Hb5 y0 y1 hx) hk
noncomputable def b_X2_readNumber_5 (x : Int32 × t_S) : Option ((Int32 × t_S) ⊕ (Int32 × t_S)) := k_X2_readNumber_5 x.1 x.2
set_option maxRecDepth 4000 in
set_option maxHeartbeats 1000000 in
theorem LH_X2_readNumber_5 {D : va_G} {cy : Nat → ClassId} {ad : Nat → Nat} {bs : Nat} {X : State → Heap → Prop} : ∀ (n : Nat) (y0 : Int32) (y1 : t_S) (Q : Int32 × t_S → Prop) (hk : t_hk (t_loop (b_X2_readNumber_5) n (y0, y1)) Q), mj_G D cy ad bs X cX2_readNumber 2 yX2_readNumber.cls (some .int) yX2_readNumber.name 1 0 0 1065 (t_P (fun v s' => ∃ x, v = some (.int x) ∧ Q ((x, s')))) 5 [(0, .ref 1), (1, .int (y0))] [] (t_m y1) 1065 0 0 := by
  intro n
  induction n with
  | zero => intro y0 y1 Q hk; obtain ⟨r, hr, _⟩ := hk; cases hr
  | succ n ih =>
    intro y0 y1 Q hk
    exact B_X2_readNumber_5 y0 y1 (fun y => t_lq (b_X2_readNumber_5) n Q y) (fun y0' y1' hy => ih y0' y1' Q hy) (t_lp hk)
noncomputable def f_X2_readNumber (s : t_S) : Option (Int32 × t_S) :=
 t_loop (b_X2_readNumber_5) t_N ((s.1 1 2), s)
set_option maxRecDepth 4000 in
set_option maxHeartbeats 1000000 in
theorem C_X2_readNumber (s : t_S) (r : Int32 × t_S) (hr : f_X2_readNumber s = some r) : t_C yX2_readNumber cX2_readNumber 2 (some .int) 1 [.ref 1] s (fun v s' => v = some (.int r.1) ∧ s' = r.2) := by
  refine t_C.imp (P := fun v s' => ∃ x, v = some (.int x) ∧ (fun q => q = r) ((x, s'))) (t_C.of (by decide +kernel) (Nat.le_of_ble_eq_true rfl) ?_) (fun v s' hp => by obtain ⟨x, rfl, rfl⟩ := hp; exact ⟨rfl, rfl⟩)
  intro D cy ad bs X
  have hk : t_hk (f_X2_readNumber s) (fun q => q = r) := ⟨r, hr, rfl⟩
  show mj_G D cy ad bs X cX2_readNumber 2 yX2_readNumber.cls (some .int) yX2_readNumber.name 1 0 0 1065 (t_P (fun v s' => ∃ x, v = some (.int x) ∧ (fun q => q = r) ((x, s')))) 0 [(0, .ref 1)] [] (t_m s) 1065 0 0
  refine mj_aload_n dX2_readNumber_0 0 rfl ?_
  refine t_getI dX2_readNumber_1 F_X2_89 qf_1_2 ?_
  refine mj_istore_n 1 (lv2 := [(1, .int (s.1 1 2)), (0, .ref 1)]) dX2_readNumber_4 rfl (by decide) rfl ?_
  refine mj_sublv [(0, .ref 1), (1, .int (s.1 1 2))] [1, 0] rfl ?_
  exact LH_X2_readNumber_5 _ (s.1 1 2) s _ hk

theorem dX2_readText_0 : decode cX2_readText 0 = .ok (.aload_n 0, 1) := by decide +kernel
theorem dX2_readText_1 : decode cX2_readText 1 = .ok (.getfield 89, 3) := by decide +kernel
theorem dX2_readText_100 : decode cX2_readText 100 = .ok (.aload_n 0, 1) := by decide +kernel
theorem dX2_readText_101 : decode cX2_readText 101 = .ok (.getfield 11, 3) := by decide +kernel
theorem dX2_readText_104 : decode cX2_readText 104 = .ok (.aload_n 0, 1) := by decide +kernel
theorem dX2_readText_105 : decode cX2_readText 105 = .ok (.getfield 89, 3) := by decide +kernel
theorem dX2_readText_108 : decode cX2_readText 108 = .ok (.baload, 1) := by decide +kernel
theorem dX2_readText_109 : decode cX2_readText 109 = .ok (.bipush 34, 2) := by decide +kernel
theorem dX2_readText_111 : decode cX2_readText 111 = .ok (.if_icmp .ne 18, 3) := by decide +kernel
theorem dX2_readText_114 : decode cX2_readText 114 = .ok (.aload_n 0, 1) := by decide +kernel
theorem dX2_readText_115 : decode cX2_readText 115 = .ok (.getfield 95, 3) := by decide +kernel
theorem dX2_readText_118 : decode cX2_readText 118 = .ok (.ldc2_w 142, 3) := by decide +kernel
theorem dX2_readText_12 : decode cX2_readText 12 = .ok (.aload_n 0, 1) := by decide +kernel
theorem dX2_readText_121 : decode cX2_readText 121 = .ok (.lcmp, 1) := by decide +kernel
theorem dX2_readText_122 : decode cX2_readText 122 = .ok (.ifCond .gt 7, 3) := by decide +kernel
theorem dX2_readText_125 : decode cX2_readText 125 = .ok (.iconst 1, 1) := by decide +kernel
theorem dX2_readText_126 : decode cX2_readText 126 = .ok (.goto 4, 3) := by decide +kernel
theorem dX2_readText_129 : decode cX2_readText 129 = .ok (.iconst 0, 1) := by decide +kernel
theorem dX2_readText_13 : decode cX2_readText 13 = .ok (.getfield 89, 3) := by decide +kernel
theorem dX2_readText_130 : decode cX2_readText 130 = .ok (.istore_n 2, 1) := by decide +kernel
theorem dX2_readText_131 : decode cX2_readText 131 = .ok (.aload_n 0, 1) := by decide +kernel
theorem dX2_readText_132 : decode cX2_readText 132 = .ok (.dup, 1) := by decide +kernel
theorem dX2_readText_133 : decode cX2_readText 133 = .ok (.getfield 89, 3) := by decide +kernel
theorem dX2_readText_136 : decode cX2_readText 136 = .ok (.iconst 1, 1) := by decide +kernel
theorem dX2_readText_137 : decode cX2_readText 137 = .ok (.iadd, 1) := by decide +kernel
theorem dX2_readText_138 : decode cX2_readText 138 = .ok (.putfield 89, 3) := by decide +kernel
theorem dX2_readText_141 : decode cX2_readText 141 = .ok (.iload_n 2, 1) := by decide +kernel
theorem dX2_readText_142 : decode cX2_readText 142 = .ok (.ifCond .eq 7, 3) := by decide +kernel
theorem dX2_readText_145 : decode cX2_readText 145 = .ok (.iconst 3, 1) := by decide +kernel
theorem dX2_readText_146 : decode cX2_readText 146 = .ok (.goto 4, 3) := by decide +kernel
theorem dX2_readText_149 : decode cX2_readText 149 = .ok (.iconst 5, 1) := by decide +kernel
theorem dX2_readText_150 : decode cX2_readText 150 = .ok (.ireturn, 1) := by decide +kernel
theorem dX2_readText_16 : decode cX2_readText 16 = .ok (.aload_n 0, 1) := by decide +kernel
theorem dX2_readText_17 : decode cX2_readText 17 = .ok (.getfield 61, 3) := by decide +kernel
theorem dX2_readText_20 : decode cX2_readText 20 = .ok (.if_icmp .ge 58, 3) := by decide +kernel
theorem dX2_readText_23 : decode cX2_readText 23 = .ok (.aload_n 0, 1) := by decide +kernel
theorem dX2_readText_24 : decode cX2_readText 24 = .ok (.getfield 11, 3) := by decide +kernel
theorem dX2_readText_27 : decode cX2_readText 27 = .ok (.aload_n 0, 1) := by decide +kernel
theorem dX2_readText_28 : decode cX2_readText 28 = .ok (.getfield 89, 3) := by decide +kernel
theorem dX2_readText_31 : decode cX2_readText 31 = .ok (.baload, 1) := by decide +kernel
theorem dX2_readText_32 : decode cX2_readText 32 = .ok (.bipush 32, 2) := by decide +kernel
theorem dX2_readText_34 : decode cX2_readText 34 = .ok (.if_icmp .lt 44, 3) := by decide +kernel
theorem dX2_readText_37 : decode cX2_readText 37 = .ok (.aload_n 0, 1) := by decide +kernel
theorem dX2_readText_38 : decode cX2_readText 38 = .ok (.getfield 11, 3) := by decide +kernel
theorem dX2_readText_4 : decode cX2_readText 4 = .ok (.iconst 1, 1) := by decide +kernel
theorem dX2_readText_41 : decode cX2_readText 41 = .ok (.aload_n 0, 1) := by decide +kernel
theorem dX2_readText_42 : decode cX2_readText 42 = .ok (.getfield 89, 3) := by decide +kernel
theorem dX2_readText_45 : decode cX2_readText 45 = .ok (.baload, 1) := by decide +kernel
theorem dX2_readText_46 : decode cX2_readText 46 = .ok (.bipush 126, 2) := by decide +kernel
theorem dX2_readText_48 : decode cX2_readText 48 = .ok (.if_icmp .gt 30, 3) := by decide +kernel
theorem dX2_readText_5 : decode cX2_readText 5 = .ok (.iadd, 1) := by decide +kernel
theorem dX2_readText_51 : decode cX2_readText 51 = .ok (.aload_n 0, 1) := by decide +kernel
theorem dX2_readText_52 : decode cX2_readText 52 = .ok (.getfield 11, 3) := by decide +kernel
theorem dX2_readText_55 : decode cX2_readText 55 = .ok (.aload_n 0, 1) := by decide +kernel
theorem dX2_readText_56 : decode cX2_readText 56 = .ok (.getfield 89, 3) := by decide +kernel
theorem dX2_readText_59 : decode cX2_readText 59 = .ok (.baload, 1) := by decide +kernel
theorem dX2_readText_6 : decode cX2_readText 6 = .ok (.istore_n 1, 1) := by decide +kernel
theorem dX2_readText_60 : decode cX2_readText 60 = .ok (.bipush 34, 2) := by decide +kernel
theorem dX2_readText_62 : decode cX2_readText 62 = .ok (.if_icmp .eq 16, 3) := by decide +kernel
theorem dX2_readText_65 : decode cX2_readText 65 = .ok (.aload_n 0, 1) := by decide +kernel
theorem dX2_readText_66 : decode cX2_readText 66 = .ok (.dup, 1) := by decide +kernel
theorem dX2_readText_67 : decode cX2_readText 67 = .ok (.getfield 89, 3) := by decide +kernel
theorem dX2_readText_7 : decode cX2_readText 7 = .ok (.aload_n 0, 1) := by decide +kernel
theorem dX2_readText_70 : decode cX2_readText 70 = .ok (.iconst 1, 1) := by decide +kernel
theorem dX2_readText_71 : decode cX2_readText 71 = .ok (.iadd, 1) := by decide +kernel
theorem dX2_readText_72 : decode cX2_readText 72 = .ok (.putfield 89, 3) := by decide +kernel
theorem dX2_readText_75 : decode cX2_readText 75 = .ok (.goto (-63), 3) := by decide +kernel
theorem dX2_readText_78 : decode cX2_readText 78 = .ok (.aload_n 0, 1) := by decide +kernel
theorem dX2_readText_79 : decode cX2_readText 79 = .ok (.aload_n 0, 1) := by decide +kernel
theorem dX2_readText_8 : decode cX2_readText 8 = .ok (.iload_n 1, 1) := by decide +kernel
theorem dX2_readText_80 : decode cX2_readText 80 = .ok (.getfield 89, 3) := by decide +kernel
theorem dX2_readText_83 : decode cX2_readText 83 = .ok (.iload_n 1, 1) := by decide +kernel
theorem dX2_readText_84 : decode cX2_readText 84 = .ok (.isub, 1) := by decide +kernel
theorem dX2_readText_85 : decode cX2_readText 85 = .ok (.i2l, 1) := by decide +kernel
theorem dX2_readText_86 : decode cX2_readText 86 = .ok (.putfield 95, 3) := by decide +kernel
theorem dX2_readText_89 : decode cX2_readText 89 = .ok (.aload_n 0, 1) := by decide +kernel
theorem dX2_readText_9 : decode cX2_readText 9 = .ok (.putfield 89, 3) := by decide +kernel
theorem dX2_readText_90 : decode cX2_readText 90 = .ok (.getfield 89, 3) := by decide +kernel
theorem dX2_readText_93 : decode cX2_readText 93 = .ok (.aload_n 0, 1) := by decide +kernel
theorem dX2_readText_94 : decode cX2_readText 94 = .ok (.getfield 61, 3) := by decide +kernel
theorem dX2_readText_97 : decode cX2_readText 97 = .ok (.if_icmp .ge 32, 3) := by decide +kernel
noncomputable def k_X2_readText_130 (k0 : Int32) (s : t_S) : Option (Int32 × t_S) :=
 t_let (t_setI s 1 2 ((s.1 1 2) + (1 : Int32))) (fun s1 =>
 if k0 = (0 : Int32) then (some ((5 : Int32), s1))
 else (some ((3 : Int32), s1)))
set_option maxRecDepth 4000 in
set_option maxHeartbeats 1000000 in
theorem B_X2_readText_130 {D : va_G} {cy : Nat → ClassId} {ad : Nat → Nat} {bs : Nat} {X : State → Heap → Prop} (k0 : Int32) (s : t_S) (Q : Int32 × t_S → Prop) (hk : t_hk (k_X2_readText_130 k0 s) Q) : mj_G D cy ad bs X cX2_readText 3 yX2_readText.cls (some .int) yX2_readText.name 0 0 0 1065 (t_P (fun v s' => ∃ x, v = some (.int x) ∧ Q ((x, s')))) 130 [(0, .ref 1)] [.int k0] (t_m s) 1065 0 0 := by
  refine mj_istore_n 2 (lv2 := [(2, .int k0), (0, .ref 1)]) dX2_readText_130 rfl (by decide) rfl ?_
  refine mj_aload_n dX2_readText_131 1 rfl ?_
  refine mj_dup dX2_readText_132 rfl ?_
  refine t_getI dX2_readText_133 F_X2_89 qf_1_2 ?_
  refine mj_iconst (v := 1) dX2_readText_136 (by decide) ?_
  refine mj_iadd dX2_readText_137 ?_
  refine t_putIK dX2_readText_138 F_X2_89 qf_1_2 rfl (fun s1 ws1 => t_letE hk ws1 (fun hk => ?_))
  refine mj_iload_n dX2_readText_141 0 rfl ?_
  refine mj_if_eq 149 dX2_readText_142 (by decide) (fun z => t_posK hk z (fun hk => ?_)) (fun z => t_negK hk z (fun hk => ?_))
  · refine mj_iconst (v := 5) dX2_readText_149 (by decide) ?_
    exact t_somK hk (fun hf => t_iret dX2_readText_150 rfl rfl ⟨_, rfl, hf⟩ (Nat.le_of_ble_eq_true rfl) (Nat.le_of_ble_eq_true rfl))
  · refine mj_iconst (v := 3) dX2_readText_145 (by decide) ?_
    refine mj_goto 150 dX2_readText_146 (by decide) ?_
    exact t_somK hk (fun hf => t_iret dX2_readText_150 rfl rfl ⟨_, rfl, hf⟩ (Nat.le_of_ble_eq_true rfl) (Nat.le_of_ble_eq_true rfl))
noncomputable def k_X2_readText_129 (s : t_S) : Option (Int32 × t_S) :=
 k_X2_readText_130 0 s
set_option maxRecDepth 4000 in
set_option maxHeartbeats 1000000 in
theorem B_X2_readText_129 {D : va_G} {cy : Nat → ClassId} {ad : Nat → Nat} {bs : Nat} {X : State → Heap → Prop} (s : t_S) (Q : Int32 × t_S → Prop) (hk : t_hk (k_X2_readText_129 s) Q) : mj_G D cy ad bs X cX2_readText 3 yX2_readText.cls (some .int) yX2_readText.name 0 0 0 1065 (t_P (fun v s' => ∃ x, v = some (.int x) ∧ Q ((x, s')))) 129 [(0, .ref 1)] [] (t_m s) 1065 0 0 := by
  refine mj_iconst (v := 0) dX2_readText_129 (by decide) ?_
  exact B_X2_readText_130 _ _ _ hk
noncomputable def k_X2_readText_78 (l1 : Int32) (s : t_S) : Option (Int32 × t_S) :=
 t_let (t_setJ s 1 10 (((s.1 1 2) - l1).toInt64)) (fun s1 =>
 if (s1.1 1 1) ≤ (s1.1 1 2) then (k_X2_readText_129 s1)
 else (if t_ix (s1.1 1 2) 12000 = true then
  if (s1.1 2 ((s1.1 1 2).toNatClampNeg)) = (34 : Int32) then (if (0 : Int32) < (lg_cmp (s1.2.1 1 10) (40 : Int64)) then (k_X2_readText_129 s1)
 else (k_X2_readText_130 1 s1))
 else (k_X2_readText_129 s1)
else none))
set_option maxRecDepth 4000 in
set_option maxHeartbeats 1000000 in
theorem B_X2_readText_78 {D : va_G} {cy : Nat → ClassId} {ad : Nat → Nat} {bs : Nat} {X : State → Heap → Prop} (l1 : Int32) (s : t_S) (Q : Int32 × t_S → Prop) (hk : t_hk (k_X2_readText_78 l1 s) Q) : mj_G D cy ad bs X cX2_readText 3 yX2_readText.cls (some .int) yX2_readText.name 0 0 0 1065 (t_P (fun v s' => ∃ x, v = some (.int x) ∧ Q ((x, s')))) 78 [(0, .ref 1), (1, .int l1)] [] (t_m s) 1065 0 0 := by
  refine mj_aload_n dX2_readText_78 0 rfl ?_
  refine mj_aload_n dX2_readText_79 0 rfl ?_
  refine t_getI dX2_readText_80 F_X2_89 qf_1_2 ?_
  refine mj_iload_n dX2_readText_83 1 rfl ?_
  refine mj_isub dX2_readText_84 ?_
  refine mj_i2l (v := ((s.1 1 2) - l1).toInt64) dX2_readText_85 rfl ?_
  refine t_putJK dX2_readText_86 F_X2_95 qf_1_10 rfl (fun s1 ws1 => t_letE hk ws1 (fun hk => ?_))
  refine mj_aload_n dX2_readText_89 0 rfl ?_
  refine t_getI dX2_readText_90 F_X2_89 qf_1_2 ?_
  refine mj_aload_n dX2_readText_93 0 rfl ?_
  refine t_getI dX2_readText_94 F_X2_61 qf_1_1 ?_
  refine mj_icmp_ge 129 dX2_readText_97 (by decide) (fun z => t_posK hk z (fun hk => ?_)) (fun z => t_negK hk z (fun hk => ?_))
  · refine mj_sublv [(0, .ref 1)] [0] rfl ?_
    exact B_X2_readText_129 _ _ hk
  · refine mj_aload_n dX2_readText_100 0 rfl ?_
    refine t_getR 2 dX2_readText_101 F_X2_11 qr_1_0 ?_
    refine mj_aload_n dX2_readText_104 0 rfl ?_
    refine t_getI dX2_readText_105 F_X2_89 qf_1_2 ?_
    refine t_chkK hk (fun c0 hk => ?_)
    refine t_bald dX2_readText_108 qa_2 (t_ixv c0) ?_
    refine mj_bipush (v := 34) dX2_readText_109 (by decide) ?_
    refine mj_icmp_ne 129 dX2_readText_111 (by decide) (fun z => t_negK hk z (fun hk => ?_)) (fun z => t_posK hk z (fun hk => ?_))
    · refine mj_sublv [(0, .ref 1)] [0] rfl ?_
      exact B_X2_readText_129 _ _ hk
    · refine mj_aload_n dX2_readText_114 0 rfl ?_
      refine t_getJ dX2_readText_115 F_X2_95 qf_1_10 ?_
      refine mj_ldc2 dX2_readText_118 K_X2_142 ?_
      refine mj_lcmp dX2_readText_121 ?_
      refine mj_if_gt 129 dX2_readText_122 (by decide) (fun z => t_posK hk z (fun hk => ?_)) (fun z => t_negK hk z (fun hk => ?_))
      · refine mj_sublv [(0, .ref 1)] [0] rfl ?_
        exact B_X2_readText_129 _ _ hk
      · refine mj_iconst (v := 1) dX2_readText_125 (by decide) ?_
        refine mj_goto 130 dX2_readText_126 (by decide) ?_
        refine mj_sublv [(0, .ref 1)] [0] rfl ?_
        exact B_X2_readText_130 _ _ _ hk
noncomputable def k_X2_readText_12 (l1 : Int32) (s : t_S) : Option ((Int32 × t_S) ⊕ (Int32 × t_S)) :=
 if (s.1 1 1) ≤ (s.1 1 2) then ((k_X2_readText_78 l1 s).map Sum.inr)
 else (if t_ix (s.1 1 2) 12000 = true then
  if (s.1 2 ((s.1 1 2).toNatClampNeg)) < (32 : Int32) then ((k_X2_readText_78 l1 s).map Sum.inr)
 else (if (126 : Int32) < (s.1 2 ((s.1 1 2).toNatClampNeg)) then ((k_X2_readText_78 l1 s).map Sum.inr)
 else (if (s.1 2 ((s.1 1 2).toNatClampNeg)) = (34 : Int32) then ((k_X2_readText_78 l1 s).map Sum.inr)
 else (t_let (t_setI s 1 2 ((s.1 1 2) + (1 : Int32))) (fun s1 =>
 some (.inl (l1, s1))))))
else none)
set_option maxRecDepth 4000 in
set_option maxHeartbeats 1000000 in
theorem B_X2_readText_12 {D : va_G} {cy : Nat → ClassId} {ad : Nat → Nat} {bs : Nat} {X : State → Heap → Prop} (l1 : Int32) (s : t_S) (Q : (Int32 × t_S) ⊕ (Int32 × t_S) → Prop) (Hb12 : ∀ (y0 : Int32) (y1 : t_S), Q (.inl (y0, y1)) → mj_G D cy ad bs X cX2_readText 3 yX2_readText.cls (some .int) yX2_readText.name 0 0 0 1065 (t_P (fun v s' => ∃ x, v = some (.int x) ∧ Q (.inr ((x, s'))))) 12 [(0, .ref 1), (1, .int (y0))] [] (t_m y1) 1065 0 0) (hk : t_hk (k_X2_readText_12 l1 s) Q) : mj_G D cy ad bs X cX2_readText 3 yX2_readText.cls (some .int) yX2_readText.name 0 0 0 1065 (t_P (fun v s' => ∃ x, v = some (.int x) ∧ Q (.inr ((x, s'))))) 12 [(0, .ref 1), (1, .int l1)] [] (t_m s) 1065 0 0 := by
  refine mj_aload_n dX2_readText_12 0 rfl ?_
  refine t_getI dX2_readText_13 F_X2_89 qf_1_2 ?_
  refine mj_aload_n dX2_readText_16 0 rfl ?_
  refine t_getI dX2_readText_17 F_X2_61 qf_1_1 ?_
  refine mj_icmp_ge 78 dX2_readText_20 (by decide) (fun z => t_posK hk z (fun hk => ?_)) (fun z => t_negK hk z (fun hk => ?_))
  · refine t_mapK hk (fun hk => ?_)
    exact B_X2_readText_78 _ _ _ hk
  · refine mj_aload_n dX2_readText_23 0 rfl ?_
    refine t_getR 2 dX2_readText_24 F_X2_11 qr_1_0 ?_
    refine mj_aload_n dX2_readText_27 0 rfl ?_
    refine t_getI dX2_readText_28 F_X2_89 qf_1_2 ?_
    refine t_chkK hk (fun c0 hk => ?_)
    refine t_bald dX2_readText_31 qa_2 (t_ixv c0) ?_
    refine mj_bipush (v := 32) dX2_readText_32 (by decide) ?_
    refine mj_icmp_lt 78 dX2_readText_34 (by decide) (fun z => t_posK hk z (fun hk => ?_)) (fun z => t_negK hk z (fun hk => ?_))
    · refine t_mapK hk (fun hk => ?_)
      exact B_X2_readText_78 _ _ _ hk
    · refine mj_aload_n dX2_readText_37 0 rfl ?_
      refine t_getR 2 dX2_readText_38 F_X2_11 qr_1_0 ?_
      refine mj_aload_n dX2_readText_41 0 rfl ?_
      refine t_getI dX2_readText_42 F_X2_89 qf_1_2 ?_
      refine t_bald dX2_readText_45 qa_2 (t_ixv c0) ?_
      refine mj_bipush (v := 126) dX2_readText_46 (by decide) ?_
      refine mj_icmp_gt 78 dX2_readText_48 (by decide) (fun z => t_posK hk z (fun hk => ?_)) (fun z => t_negK hk z (fun hk => ?_))
      · refine t_mapK hk (fun hk => ?_)
        exact B_X2_readText_78 _ _ _ hk
      · refine mj_aload_n dX2_readText_51 0 rfl ?_
        refine t_getR 2 dX2_readText_52 F_X2_11 qr_1_0 ?_
        refine mj_aload_n dX2_readText_55 0 rfl ?_
        refine t_getI dX2_readText_56 F_X2_89 qf_1_2 ?_
        refine t_bald dX2_readText_59 qa_2 (t_ixv c0) ?_
        refine mj_bipush (v := 34) dX2_readText_60 (by decide) ?_
        refine mj_icmp_eq 78 dX2_readText_62 (by decide) (fun z => t_posK hk z (fun hk => ?_)) (fun z => t_negK hk z (fun hk => ?_))
        · refine t_mapK hk (fun hk => ?_)
          exact B_X2_readText_78 _ _ _ hk
        · refine mj_aload_n dX2_readText_65 0 rfl ?_
          refine mj_dup dX2_readText_66 rfl ?_
          refine t_getI dX2_readText_67 F_X2_89 qf_1_2 ?_
          refine mj_iconst (v := 1) dX2_readText_70 (by decide) ?_
          refine mj_iadd dX2_readText_71 ?_
          refine t_putIK dX2_readText_72 F_X2_89 qf_1_2 rfl (fun s1 ws1 => t_letE hk ws1 (fun hk => ?_))
          refine mj_goto 12 dX2_readText_75 (by decide) ?_
          exact t_somK hk (fun hf => Hb12 l1 s1 hf)
noncomputable def b_X2_readText_12 (x : Int32 × t_S) : Option ((Int32 × t_S) ⊕ (Int32 × t_S)) := k_X2_readText_12 x.1 x.2
set_option maxRecDepth 4000 in
set_option maxHeartbeats 1000000 in
theorem LH_X2_readText_12 {D : va_G} {cy : Nat → ClassId} {ad : Nat → Nat} {bs : Nat} {X : State → Heap → Prop} : ∀ (n : Nat) (y0 : Int32) (y1 : t_S) (Q : Int32 × t_S → Prop) (hk : t_hk (t_loop (b_X2_readText_12) n (y0, y1)) Q), mj_G D cy ad bs X cX2_readText 3 yX2_readText.cls (some .int) yX2_readText.name 0 0 0 1065 (t_P (fun v s' => ∃ x, v = some (.int x) ∧ Q ((x, s')))) 12 [(0, .ref 1), (1, .int (y0))] [] (t_m y1) 1065 0 0 := by
  intro n
  induction n with
  | zero => intro y0 y1 Q hk; obtain ⟨r, hr, _⟩ := hk; cases hr
  | succ n ih =>
    intro y0 y1 Q hk
    exact B_X2_readText_12 y0 y1 (fun y => t_lq (b_X2_readText_12) n Q y) (fun y0' y1' hy => ih y0' y1' Q hy) (t_lp hk)
noncomputable def f_X2_readText (s : t_S) : Option (Int32 × t_S) :=
 t_let (t_setI s 1 2 ((s.1 1 2) + (1 : Int32))) (fun s1 =>
 t_loop (b_X2_readText_12) t_N (((s.1 1 2) + (1 : Int32)), s1))
set_option maxRecDepth 4000 in
set_option maxHeartbeats 1000000 in
theorem C_X2_readText (s : t_S) (r : Int32 × t_S) (hr : f_X2_readText s = some r) : t_C yX2_readText cX2_readText 3 (some .int) 0 [.ref 1] s (fun v s' => v = some (.int r.1) ∧ s' = r.2) := by
  refine t_C.imp (P := fun v s' => ∃ x, v = some (.int x) ∧ (fun q => q = r) ((x, s'))) (t_C.of (by decide +kernel) (Nat.le_of_ble_eq_true rfl) ?_) (fun v s' hp => by obtain ⟨x, rfl, rfl⟩ := hp; exact ⟨rfl, rfl⟩)
  intro D cy ad bs X
  have hk : t_hk (f_X2_readText s) (fun q => q = r) := ⟨r, hr, rfl⟩
  show mj_G D cy ad bs X cX2_readText 3 yX2_readText.cls (some .int) yX2_readText.name 0 0 0 1065 (t_P (fun v s' => ∃ x, v = some (.int x) ∧ (fun q => q = r) ((x, s')))) 0 [(0, .ref 1)] [] (t_m s) 1065 0 0
  refine mj_aload_n dX2_readText_0 0 rfl ?_
  refine t_getI dX2_readText_1 F_X2_89 qf_1_2 ?_
  refine mj_iconst (v := 1) dX2_readText_4 (by decide) ?_
  refine mj_iadd dX2_readText_5 ?_
  refine mj_istore_n 1 (lv2 := [(1, .int ((s.1 1 2) + (1 : Int32))), (0, .ref 1)]) dX2_readText_6 rfl (by decide) rfl ?_
  refine mj_aload_n dX2_readText_7 1 rfl ?_
  refine mj_iload_n dX2_readText_8 0 rfl ?_
  refine t_putIK dX2_readText_9 F_X2_89 qf_1_2 rfl (fun s1 ws1 => t_letE hk ws1 (fun hk => ?_))
  refine mj_sublv [(0, .ref 1), (1, .int ((s.1 1 2) + (1 : Int32)))] [1, 0] rfl ?_
  exact LH_X2_readText_12 _ ((s.1 1 2) + (1 : Int32)) s1 _ hk

noncomputable def f_X2_addWord (x1 : Int64) (x2 : Int32) (x3 : Int32) (s : t_S) : Option (Int32 × t_S) :=
 if (s.1 1 13) < (8000 : Int32) then (t_let (t_setI s 1 13 ((s.1 1 13) + (1 : Int32))) (fun s1 =>
 if t_ix (s.1 1 13) 8000 = true then
  t_let (t_setJ s1 8 ((s.1 1 13).toNatClampNeg) x1) (fun s2 =>
 t_let (t_setI s2 9 ((s.1 1 13).toNatClampNeg) x2) (fun s3 =>
 t_let (t_setI s3 10 ((s.1 1 13).toNatClampNeg) x3) (fun s4 =>
 if t_ix x3 16384 = true then
  t_let (t_setI s4 11 (x3.toNatClampNeg) ((s.1 1 13) + (1 : Int32))) (fun s5 =>
 t_let (t_setI s5 6 ((s.1 1 13).toNatClampNeg) (0 : Int32)) (fun s6 =>
 t_let (t_setI s6 7 ((s.1 1 13).toNatClampNeg) (0 : Int32)) (fun s7 =>
 some ((s.1 1 13), s7))))
else none)))
else none))
 else (some ((66 : Int32), s))
set_option maxRecDepth 4000 in
set_option maxHeartbeats 1000000 in
theorem CC_X2_addWord (x1 : Int64) (x2 : Int32) (x3 : Int32) (s : t_S) (r : Int32 × t_S) (hr : f_X2_addWord x1 x2 x3 s = some r) : t_C yX2_addWord cX2_addWord 6 (some .int) 0 [.ref 1, .long x1, .int x2, .int x3] s (fun v s' => v = some (.int r.1) ∧ s' = r.2) := by
  refine t_C.imp (P := fun v s' => ∃ x, v = some (.int x) ∧ (fun q => q = r) ((x, s'))) (t_C.of (by decide +kernel) (Nat.le_of_ble_eq_true rfl) ?_) (fun v s' hp => by obtain ⟨x, rfl, rfl⟩ := hp; exact ⟨rfl, rfl⟩)
  intro D cy ad bs X
  have hk : t_hk (f_X2_addWord x1 x2 x3 s) (fun q => q = r) := ⟨r, hr, rfl⟩
  show mj_G D cy ad bs X cX2_addWord 6 yX2_addWord.cls (some .int) yX2_addWord.name 0 0 0 1065 (t_P (fun v s' => ∃ x, v = some (.int x) ∧ (fun q => q = r) ((x, s')))) 0 [(0, .ref 1), (1, .long x1), (3, .int x2), (4, .int x3)] [] (t_m s) 1065 0 0
  refine mj_aload_n dX2_addWord_0 0 rfl ?_
  refine t_getI dX2_addWord_1 F_X2_68 qf_1_13 ?_
  refine mj_sipush (v := 8000) dX2_addWord_4 (by decide) ?_
  refine mj_icmp_lt 13 dX2_addWord_7 (by decide) (fun z => t_posK hk z (fun hk => ?_)) (fun z => t_negK hk z (fun hk => ?_))
  · refine mj_aload_n dX2_addWord_13 0 rfl ?_
    refine t_getI dX2_addWord_14 F_X2_68 qf_1_13 ?_
    refine mj_istore (lv2 := [(5, .int (s.1 1 13)), (0, .ref 1), (1, .long x1), (3, .int x2), (4, .int x3)]) dX2_addWord_17 (by decide) rfl ?_
    refine mj_aload_n dX2_addWord_19 1 rfl ?_
    refine mj_dup dX2_addWord_20 rfl ?_
    refine t_getI dX2_addWord_21 F_X2_68 qf_1_13 ?_
    refine mj_iconst (v := 1) dX2_addWord_24 (by decide) ?_
    refine mj_iadd dX2_addWord_25 ?_
    refine t_putIK dX2_addWord_26 F_X2_68 qf_1_13 rfl (fun s1 ws1 => t_letE hk ws1 (fun hk => ?_))
    refine mj_aload_n dX2_addWord_29 1 rfl ?_
    refine t_getR 8 dX2_addWord_30 F_X2_33 qr_1_16 ?_
    refine mj_iload dX2_addWord_33 0 rfl ?_
    refine mj_lload_n dX2_addWord_35 2 rfl ?_
    refine t_chkK hk (fun c0 hk => ?_)
    refine t_lastK dX2_addWord_36 qa_8 (t_ixv c0) (fun s2 ws2 => t_letE hk ws2 (fun hk => ?_))
    refine mj_aload_n dX2_addWord_37 1 rfl ?_
    refine t_getR 9 dX2_addWord_38 F_X2_36 qr_1_17 ?_
    refine mj_iload dX2_addWord_41 0 rfl ?_
    refine mj_iload_n dX2_addWord_43 3 rfl ?_
    refine t_iastK dX2_addWord_44 qa_9 (t_ixv c0) (fun s3 ws3 => t_letE hk ws3 (fun hk => ?_))
    refine mj_aload_n dX2_addWord_45 1 rfl ?_
    refine t_getR 10 dX2_addWord_46 F_X2_39 qr_1_18 ?_
    refine mj_iload dX2_addWord_49 0 rfl ?_
    refine mj_iload dX2_addWord_51 4 rfl ?_
    refine t_iastK dX2_addWord_53 qa_10 (t_ixv c0) (fun s4 ws4 => t_letE hk ws4 (fun hk => ?_))
    refine mj_aload_n dX2_addWord_54 1 rfl ?_
    refine t_getR 11 dX2_addWord_55 F_X2_42 qr_1_19 ?_
    refine mj_iload dX2_addWord_58 4 rfl ?_
    refine mj_iload dX2_addWord_60 0 rfl ?_
    refine mj_iconst (v := 1) dX2_addWord_62 (by decide) ?_
    refine mj_iadd dX2_addWord_63 ?_
    refine t_chkK hk (fun c1 hk => ?_)
    refine t_iastK dX2_addWord_64 qa_11 (t_ixv c1) (fun s5 ws5 => t_letE hk ws5 (fun hk => ?_))
    refine mj_aload_n dX2_addWord_65 1 rfl ?_
    refine t_getR 6 dX2_addWord_66 F_X2_26 qr_1_14 ?_
    refine mj_iload dX2_addWord_69 0 rfl ?_
    refine mj_iconst (v := 0) dX2_addWord_71 (by decide) ?_
    refine t_iastK dX2_addWord_72 qa_6 (t_ixv c0) (fun s6 ws6 => t_letE hk ws6 (fun hk => ?_))
    refine mj_aload_n dX2_addWord_73 1 rfl ?_
    refine t_getR 7 dX2_addWord_74 F_X2_29 qr_1_15 ?_
    refine mj_iload dX2_addWord_77 0 rfl ?_
    refine mj_iconst (v := 0) dX2_addWord_79 (by decide) ?_
    refine t_zastK dX2_addWord_80 qa_7 (t_ixv c0) (by decide) (fun s7 ws7 => t_letE hk ws7 (fun hk => ?_))
    refine mj_iload dX2_addWord_81 0 rfl ?_
    exact t_somK hk (fun hf => t_iret dX2_addWord_83 rfl rfl ⟨_, rfl, hf⟩ (Nat.le_of_ble_eq_true rfl) (Nat.le_of_ble_eq_true rfl))
  · refine mj_bipush (v := 66) dX2_addWord_10 (by decide) ?_
    exact t_somK hk (fun hf => t_iret dX2_addWord_12 rfl rfl ⟨_, rfl, hf⟩ (Nat.le_of_ble_eq_true rfl) (Nat.le_of_ble_eq_true rfl))

noncomputable def k_X2_packed_5 (l2 : Int32) (l3 : Int64) (l5 : Int32) (s : t_S) : Option ((Int32 × Int64 × Int32) ⊕ (Int64)) :=
 if l2 ≤ l5 then ((some (l3)).map Sum.inr)
 else (if t_ix l5 12000 = true then
  some (.inl (l2, ((l3 <<< ((8 : Int32).toInt64 &&& 63)) ||| (((s.1 2 (l5.toNatClampNeg)) &&& (255 : Int32)).toInt64)), (l5 + 1)))
else none)
set_option maxRecDepth 4000 in
set_option maxHeartbeats 1000000 in
theorem B_X2_packed_5 {D : va_G} {cy : Nat → ClassId} {ad : Nat → Nat} {bs : Nat} {X : State → Heap → Prop} (l2 : Int32) (l3 : Int64) (l5 : Int32) (s : t_S) (Q : (Int32 × Int64 × Int32) ⊕ (Int64) → Prop) (Hb5 : ∀ (y0 : Int32) (y1 : Int64) (y2 : Int32), Q (.inl (y0, y1, y2)) → mj_G D cy ad bs X cX2_packed 6 yX2_packed.cls (some .long) yX2_packed.name 0 0 0 1065 (t_P (fun v s' => s' = s ∧ ∃ x, v = some (.long x) ∧ Q (.inr (x)))) 5 [(0, .ref 1), (2, .int (y0)), (3, .long (y1)), (5, .int (y2))] [] (t_m s) 1065 0 0) (hk : t_hk (k_X2_packed_5 l2 l3 l5 s) Q) : mj_G D cy ad bs X cX2_packed 6 yX2_packed.cls (some .long) yX2_packed.name 0 0 0 1065 (t_P (fun v s' => s' = s ∧ ∃ x, v = some (.long x) ∧ Q (.inr (x)))) 5 [(0, .ref 1), (2, .int l2), (3, .long l3), (5, .int l5)] [] (t_m s) 1065 0 0 := by
  refine mj_iload dX2_packed_5 3 rfl ?_
  refine mj_iload_n dX2_packed_7 1 rfl ?_
  refine mj_icmp_ge 35 dX2_packed_8 (by decide) (fun z => t_posK hk z (fun hk => ?_)) (fun z => t_negK hk z (fun hk => ?_))
  · refine t_mapK hk (fun hk => ?_)
    refine mj_lload_n dX2_packed_35 2 rfl ?_
    exact t_somK hk (fun hf => t_lret dX2_packed_36 rfl ⟨rfl, _, rfl, hf⟩ (Nat.le_of_ble_eq_true rfl) (Nat.le_of_ble_eq_true rfl))
  · refine mj_lload_n dX2_packed_11 2 rfl ?_
    refine mj_bipush (v := 8) dX2_packed_12 (by decide) ?_
    refine mj_lshl dX2_packed_14 rfl ?_
    refine mj_aload_n dX2_packed_15 0 rfl ?_
    refine t_getR 2 dX2_packed_16 F_X2_11 qr_1_0 ?_
    refine mj_iload dX2_packed_19 3 rfl ?_
    refine t_chkK hk (fun c0 hk => ?_)
    refine t_bald dX2_packed_21 qa_2 (t_ixv c0) ?_
    refine mj_sipush (v := 255) dX2_packed_22 (by decide) ?_
    refine mj_iand dX2_packed_25 ?_
    refine mj_i2l (v := ((s.1 2 (l5.toNatClampNeg)) &&& (255 : Int32)).toInt64) dX2_packed_26 rfl ?_
    refine mj_lor dX2_packed_27 ?_
    refine mj_lstore_n 3 (lv2 := [(3, .long ((l3 <<< ((8 : Int32).toInt64 &&& 63)) ||| (((s.1 2 (l5.toNatClampNeg)) &&& (255 : Int32)).toInt64))), (0, .ref 1), (2, .int l2), (5, .int l5)]) dX2_packed_28 rfl (by decide) rfl ?_
    refine mj_iinc (k := 3) (v := (l5 + 1)) (lv2 := [(5, .int (l5 + 1)), (3, .long ((l3 <<< ((8 : Int32).toInt64 &&& 63)) ||| (((s.1 2 (l5.toNatClampNeg)) &&& (255 : Int32)).toInt64))), (0, .ref 1), (2, .int l2)]) dX2_packed_29 rfl rfl (by decide) rfl ?_
    refine mj_goto 5 dX2_packed_32 (by decide) ?_
    refine mj_sublv [(0, .ref 1), (2, .int l2), (3, .long ((l3 <<< ((8 : Int32).toInt64 &&& 63)) ||| (((s.1 2 (l5.toNatClampNeg)) &&& (255 : Int32)).toInt64))), (5, .int (l5 + 1))] [2, 3, 1, 0] rfl ?_
    exact t_somK hk (fun hf => Hb5 l2 ((l3 <<< ((8 : Int32).toInt64 &&& 63)) ||| (((s.1 2 (l5.toNatClampNeg)) &&& (255 : Int32)).toInt64)) (l5 + 1) hf)
noncomputable def b_X2_packed_5 (s : t_S) (x : Int32 × Int64 × Int32) : Option ((Int32 × Int64 × Int32) ⊕ (Int64)) := k_X2_packed_5 x.1 x.2.1 x.2.2 s
set_option maxRecDepth 4000 in
set_option maxHeartbeats 1000000 in
theorem LH_X2_packed_5 {D : va_G} {cy : Nat → ClassId} {ad : Nat → Nat} {bs : Nat} {X : State → Heap → Prop} (s : t_S) : ∀ (n : Nat) (y0 : Int32) (y1 : Int64) (y2 : Int32) (Q : Int64 → Prop) (hk : t_hk (t_loop (b_X2_packed_5 s) n (y0, y1, y2)) Q), mj_G D cy ad bs X cX2_packed 6 yX2_packed.cls (some .long) yX2_packed.name 0 0 0 1065 (t_P (fun v s' => s' = s ∧ ∃ x, v = some (.long x) ∧ Q (x))) 5 [(0, .ref 1), (2, .int (y0)), (3, .long (y1)), (5, .int (y2))] [] (t_m s) 1065 0 0 := by
  intro n
  induction n with
  | zero => intro y0 y1 y2 Q hk; obtain ⟨r, hr, _⟩ := hk; cases hr
  | succ n ih =>
    intro y0 y1 y2 Q hk
    exact B_X2_packed_5 y0 y1 y2 s (fun y => t_lq (b_X2_packed_5 s) n Q y) (fun y0' y1' y2' hy => ih y0' y1' y2' Q hy) (t_lp hk)
noncomputable def f_X2_packed (x1 : Int32) (x2 : Int32) (s : t_S) : Option (Int64) :=
 t_loop (b_X2_packed_5 s) t_N (x2, 0, x1)
set_option maxRecDepth 4000 in
set_option maxHeartbeats 1000000 in
theorem CC_X2_packed (x1 : Int32) (x2 : Int32) (s : t_S) (r : Int64) (hr : f_X2_packed x1 x2 s = some r) : t_C yX2_packed cX2_packed 6 (some .long) 0 [.ref 1, .int x1, .int x2] s (fun v s' => v = some (.long r) ∧ s' = s) := by
  refine t_C.imp (P := fun v s' => s' = s ∧ ∃ x, v = some (.long x) ∧ (fun q => q = r) (x)) (t_C.of (by decide +kernel) (Nat.le_of_ble_eq_true rfl) ?_) (fun v s' hp => by obtain ⟨rfl, x, rfl, rfl⟩ := hp; exact ⟨rfl, rfl⟩)
  intro D cy ad bs X
  have hk : t_hk (f_X2_packed x1 x2 s) (fun q => q = r) := ⟨r, hr, rfl⟩
  show mj_G D cy ad bs X cX2_packed 6 yX2_packed.cls (some .long) yX2_packed.name 0 0 0 1065 (t_P (fun v s' => s' = s ∧ ∃ x, v = some (.long x) ∧ (fun q => q = r) (x))) 0 [(0, .ref 1), (1, .int x1), (2, .int x2)] [] (t_m s) 1065 0 0
  refine mj_lconst (v := 0) dX2_packed_0 (by decide) ?_
  refine mj_lstore_n 3 (lv2 := [(3, .long 0), (0, .ref 1), (1, .int x1), (2, .int x2)]) dX2_packed_1 rfl (by decide) rfl ?_
  refine mj_iload_n dX2_packed_2 2 rfl ?_
  refine mj_istore (lv2 := [(5, .int x1), (3, .long 0), (0, .ref 1), (1, .int x1), (2, .int x2)]) dX2_packed_3 (by decide) rfl ?_
  refine mj_sublv [(0, .ref 1), (2, .int x2), (3, .long 0), (5, .int x1)] [2, 4, 1, 0] rfl ?_
  exact LH_X2_packed_5 _ _ x2 0 x1 _ hk

noncomputable def k_X2_wordOf_128 (l3 : Int64) (l5 : Int32) (l8 : Int32) (l9 : Int32) (s : t_S) : Option ((Int64 × Int32 × Int32 × Int32 × t_S) ⊕ (Int32 × t_S)) :=
 some (.inl (l3, l5, l8, (l9 + 1), s))
set_option maxRecDepth 4000 in
set_option maxHeartbeats 1000000 in
theorem B_X2_wordOf_128 {D : va_G} {cy : Nat → ClassId} {ad : Nat → Nat} {bs : Nat} {X : State → Heap → Prop} (l3 : Int64) (l5 : Int32) (l8 : Int32) (l9 : Int32) (s : t_S) (Q : (Int64 × Int32 × Int32 × Int32 × t_S) ⊕ (Int32 × t_S) → Prop) (Hb56 : ∀ (y0 : Int64) (y1 : Int32) (y2 : Int32) (y3 : Int32) (y4 : t_S), Q (.inl (y0, y1, y2, y3, y4)) → mj_G D cy ad bs X cX2_wordOf 12 yX2_wordOf.cls (some .int) yX2_wordOf.name 1 0 0 1065 (t_P (fun v s' => ∃ x, v = some (.int x) ∧ Q (.inr ((x, s'))))) 56 [(0, .ref 1), (3, .long (y0)), (5, .int (y1)), (8, .int (y2)), (9, .int (y3))] [] (t_m y4) 1065 0 0) (hk : t_hk (k_X2_wordOf_128 l3 l5 l8 l9 s) Q) : mj_G D cy ad bs X cX2_wordOf 12 yX2_wordOf.cls (some .int) yX2_wordOf.name 1 0 0 1065 (t_P (fun v s' => ∃ x, v = some (.int x) ∧ Q (.inr ((x, s'))))) 128 [(0, .ref 1), (3, .long l3), (5, .int l5), (8, .int l8), (9, .int l9)] [] (t_m s) 1065 0 0 := by
  refine mj_iinc (k := 4) (v := (l9 + 1)) (lv2 := [(9, .int (l9 + 1)), (0, .ref 1), (3, .long l3), (5, .int l5), (8, .int l8)]) dX2_wordOf_128 rfl rfl (by decide) rfl ?_
  refine mj_goto 56 dX2_wordOf_131 (by decide) ?_
  refine mj_sublv [(0, .ref 1), (3, .long l3), (5, .int l5), (8, .int l8), (9, .int (l9 + 1))] [1, 2, 3, 4, 0] rfl ?_
  exact t_somK hk (fun hf => Hb56 l3 l5 l8 (l9 + 1) s hf)
noncomputable def k_X2_wordOf_56 (l3 : Int64) (l5 : Int32) (l8 : Int32) (l9 : Int32) (s : t_S) : Option ((Int64 × Int32 × Int32 × Int32 × t_S) ⊕ (Int32 × t_S)) :=
 if (16384 : Int32) ≤ l9 then ((some ((66 : Int32), s)).map Sum.inr)
 else (if t_ix ((l8 + l9) &&& (16383 : Int32)) 16384 = true then
  if (0 : Int32) ≤ ((s.1 11 (((l8 + l9) &&& (16383 : Int32)).toNatClampNeg)) - (1 : Int32)) then (if t_ix ((s.1 11 (((l8 + l9) &&& (16383 : Int32)).toNatClampNeg)) - (1 : Int32)) 8000 = true then
  if (lg_cmp (s.2.1 8 (((s.1 11 (((l8 + l9) &&& (16383 : Int32)).toNatClampNeg)) - (1 : Int32)).toNatClampNeg)) l3) = (0 : Int32) then (if (s.1 9 (((s.1 11 (((l8 + l9) &&& (16383 : Int32)).toNatClampNeg)) - (1 : Int32)).toNatClampNeg)) = l5 then ((some (((s.1 11 (((l8 + l9) &&& (16383 : Int32)).toNatClampNeg)) - (1 : Int32)), s)).map Sum.inr)
 else (k_X2_wordOf_128 l3 l5 l8 l9 s))
 else (k_X2_wordOf_128 l3 l5 l8 l9 s)
else none)
 else (((f_X2_addWord l3 l5 ((l8 + l9) &&& (16383 : Int32)) s).bind (fun r3 =>
 some (r3.1, r3.2))).map Sum.inr)
else none)
set_option maxRecDepth 4000 in
set_option maxHeartbeats 1000000 in
theorem B_X2_wordOf_56 {D : va_G} {cy : Nat → ClassId} {ad : Nat → Nat} {bs : Nat} {X : State → Heap → Prop} (l3 : Int64) (l5 : Int32) (l8 : Int32) (l9 : Int32) (s : t_S) (Q : (Int64 × Int32 × Int32 × Int32 × t_S) ⊕ (Int32 × t_S) → Prop) (Hb56 : ∀ (y0 : Int64) (y1 : Int32) (y2 : Int32) (y3 : Int32) (y4 : t_S), Q (.inl (y0, y1, y2, y3, y4)) → mj_G D cy ad bs X cX2_wordOf 12 yX2_wordOf.cls (some .int) yX2_wordOf.name 1 0 0 1065 (t_P (fun v s' => ∃ x, v = some (.int x) ∧ Q (.inr ((x, s'))))) 56 [(0, .ref 1), (3, .long (y0)), (5, .int (y1)), (8, .int (y2)), (9, .int (y3))] [] (t_m y4) 1065 0 0) (hk : t_hk (k_X2_wordOf_56 l3 l5 l8 l9 s) Q) : mj_G D cy ad bs X cX2_wordOf 12 yX2_wordOf.cls (some .int) yX2_wordOf.name 1 0 0 1065 (t_P (fun v s' => ∃ x, v = some (.int x) ∧ Q (.inr ((x, s'))))) 56 [(0, .ref 1), (3, .long l3), (5, .int l5), (8, .int l8), (9, .int l9)] [] (t_m s) 1065 0 0 := by
  refine mj_iload dX2_wordOf_56 4 rfl ?_
  refine mj_sipush (v := 16384) dX2_wordOf_58 (by decide) ?_
  refine mj_icmp_ge 134 dX2_wordOf_61 (by decide) (fun z => t_posK hk z (fun hk => ?_)) (fun z => t_negK hk z (fun hk => ?_))
  · refine t_mapK hk (fun hk => ?_)
    refine mj_bipush (v := 66) dX2_wordOf_134 (by decide) ?_
    exact t_somK hk (fun hf => t_iret dX2_wordOf_136 rfl rfl ⟨_, rfl, hf⟩ (Nat.le_of_ble_eq_true rfl) (Nat.le_of_ble_eq_true rfl))
  · refine mj_iload dX2_wordOf_64 3 rfl ?_
    refine mj_iload dX2_wordOf_66 4 rfl ?_
    refine mj_iadd dX2_wordOf_68 ?_
    refine mj_sipush (v := 16383) dX2_wordOf_69 (by decide) ?_
    refine mj_iand dX2_wordOf_72 ?_
    refine mj_istore (lv2 := [(10, .int ((l8 + l9) &&& (16383 : Int32))), (0, .ref 1), (3, .long l3), (5, .int l5), (8, .int l8), (9, .int l9)]) dX2_wordOf_73 (by decide) rfl ?_
    refine mj_aload_n dX2_wordOf_75 1 rfl ?_
    refine t_getR 11 dX2_wordOf_76 F_X2_42 qr_1_19 ?_
    refine mj_iload dX2_wordOf_79 0 rfl ?_
    refine t_chkK hk (fun c0 hk => ?_)
    refine t_iald dX2_wordOf_81 qa_11 (t_ixv c0) ?_
    refine mj_iconst (v := 1) dX2_wordOf_82 (by decide) ?_
    refine mj_isub dX2_wordOf_83 ?_
    refine mj_istore (lv2 := [(11, .int ((s.1 11 (((l8 + l9) &&& (16383 : Int32)).toNatClampNeg)) - (1 : Int32))), (10, .int ((l8 + l9) &&& (16383 : Int32))), (0, .ref 1), (3, .long l3), (5, .int l5), (8, .int l8), (9, .int l9)]) dX2_wordOf_84 (by decide) rfl ?_
    refine mj_iload dX2_wordOf_86 0 rfl ?_
    refine mj_if_ge 101 dX2_wordOf_88 (by decide) (fun z => t_posK hk z (fun hk => ?_)) (fun z => t_negK hk z (fun hk => ?_))
    · refine mj_aload_n dX2_wordOf_101 2 rfl ?_
      refine t_getR 8 dX2_wordOf_102 F_X2_33 qr_1_16 ?_
      refine mj_iload dX2_wordOf_105 0 rfl ?_
      refine t_chkK hk (fun c1 hk => ?_)
      refine t_lald dX2_wordOf_107 qa_8 (t_ixv c1) ?_
      refine mj_lload_n dX2_wordOf_108 3 rfl ?_
      refine mj_lcmp dX2_wordOf_109 ?_
      refine mj_if_ne 128 dX2_wordOf_110 (by decide) (fun z => t_negK hk z (fun hk => ?_)) (fun z => t_posK hk z (fun hk => ?_))
      · refine mj_sublv [(0, .ref 1), (3, .long l3), (5, .int l5), (8, .int l8), (9, .int l9)] [2, 3, 4, 5, 6] rfl ?_
        exact B_X2_wordOf_128 _ _ _ _ _ _ (fun y0 y1 y2 y3 y4 hx => Hb56 y0 y1 y2 y3 y4 hx) hk
      · refine mj_aload_n dX2_wordOf_113 2 rfl ?_
        refine t_getR 9 dX2_wordOf_114 F_X2_36 qr_1_17 ?_
        refine mj_iload dX2_wordOf_117 0 rfl ?_
        refine t_iald dX2_wordOf_119 qa_9 (t_ixv c1) ?_
        refine mj_iload dX2_wordOf_120 4 rfl ?_
        refine mj_icmp_ne 128 dX2_wordOf_122 (by decide) (fun z => t_negK hk z (fun hk => ?_)) (fun z => t_posK hk z (fun hk => ?_))
        · refine mj_sublv [(0, .ref 1), (3, .long l3), (5, .int l5), (8, .int l8), (9, .int l9)] [2, 3, 4, 5, 6] rfl ?_
          exact B_X2_wordOf_128 _ _ _ _ _ _ (fun y0 y1 y2 y3 y4 hx => Hb56 y0 y1 y2 y3 y4 hx) hk
        · refine t_mapK hk (fun hk => ?_)
          refine mj_iload dX2_wordOf_125 0 rfl ?_
          exact t_somK hk (fun hf => t_iret dX2_wordOf_127 rfl rfl ⟨_, rfl, hf⟩ (Nat.le_of_ble_eq_true rfl) (Nat.le_of_ble_eq_true rfl))
    · refine t_mapK hk (fun hk => ?_)
      refine mj_aload_n dX2_wordOf_91 2 rfl ?_
      refine mj_lload_n dX2_wordOf_92 3 rfl ?_
      refine mj_iload dX2_wordOf_93 4 rfl ?_
      refine mj_iload dX2_wordOf_95 1 rfl ?_
      refine t_bndK hk (fun r3 er3 hk => ?_)
      refine t_callViE dX2_wordOf_97 M_X2_addWord (CC_X2_addWord _ _ _ _ _ er3) ML_X2_157 IM_X2_addWord SE_X2_addWord qc_1 rfl (As := [.long l3, .int l5, .int ((l8 + l9) &&& (16383 : Int32))]) rfl rfl (Nat.le_of_ble_eq_true rfl) (Nat.le_of_ble_eq_true rfl) (Nat.le_of_ble_eq_true rfl) (Nat.le_of_ble_eq_true rfl) ?_
      exact t_somK hk (fun hf => t_iret dX2_wordOf_100 rfl rfl ⟨_, rfl, hf⟩ (Nat.le_of_ble_eq_true rfl) (Nat.le_of_ble_eq_true rfl))
noncomputable def b_X2_wordOf_56 (x : Int64 × Int32 × Int32 × Int32 × t_S) : Option ((Int64 × Int32 × Int32 × Int32 × t_S) ⊕ (Int32 × t_S)) := k_X2_wordOf_56 x.1 x.2.1 x.2.2.1 x.2.2.2.1 x.2.2.2.2
set_option maxRecDepth 4000 in
set_option maxHeartbeats 1000000 in
theorem LH_X2_wordOf_56 {D : va_G} {cy : Nat → ClassId} {ad : Nat → Nat} {bs : Nat} {X : State → Heap → Prop} : ∀ (n : Nat) (y0 : Int64) (y1 : Int32) (y2 : Int32) (y3 : Int32) (y4 : t_S) (Q : Int32 × t_S → Prop) (hk : t_hk (t_loop (b_X2_wordOf_56) n (y0, y1, y2, y3, y4)) Q), mj_G D cy ad bs X cX2_wordOf 12 yX2_wordOf.cls (some .int) yX2_wordOf.name 1 0 0 1065 (t_P (fun v s' => ∃ x, v = some (.int x) ∧ Q ((x, s')))) 56 [(0, .ref 1), (3, .long (y0)), (5, .int (y1)), (8, .int (y2)), (9, .int (y3))] [] (t_m y4) 1065 0 0 := by
  intro n
  induction n with
  | zero => intro y0 y1 y2 y3 y4 Q hk; obtain ⟨r, hr, _⟩ := hk; cases hr
  | succ n ih =>
    intro y0 y1 y2 y3 y4 Q hk
    exact B_X2_wordOf_56 y0 y1 y2 y3 y4 (fun y => t_lq (b_X2_wordOf_56) n Q y) (fun y0' y1' y2' y3' y4' hy => ih y0' y1' y2' y3' y4' Q hy) (t_lp hk)
noncomputable def f_X2_wordOf (x1 : Int32) (x2 : Int32) (s : t_S) : Option (Int32 × t_S) :=
 (f_X2_packed x1 (if (x1 + (8 : Int32)) < x2 then (x1 + (8 : Int32)) else x2) s).bind (fun r1 =>
 (f_X2_packed (x1 + (8 : Int32)) x2 s).bind (fun r2 =>
 t_loop (b_X2_wordOf_56) t_N (r1, r2.toInt32, ((((((r1 ^^^ (r2.toInt32.toInt64 * (6364136223846793005 : Int64))) * (-7046029254386353131 : Int64)).toUInt64 >>> ((50 : Int32).toInt64.toUInt64 &&& Int64.toUInt64 63)).toInt64).toInt32) &&& (16383 : Int32)), 0, s)))
set_option maxRecDepth 4000 in
set_option maxHeartbeats 1000000 in
theorem CC_X2_wordOf (x1 : Int32) (x2 : Int32) (s : t_S) (r : Int32 × t_S) (hr : f_X2_wordOf x1 x2 s = some r) : t_C yX2_wordOf cX2_wordOf 12 (some .int) 1 [.ref 1, .int x1, .int x2] s (fun v s' => v = some (.int r.1) ∧ s' = r.2) := by
  refine t_C.imp (P := fun v s' => ∃ x, v = some (.int x) ∧ (fun q => q = r) ((x, s'))) (t_C.of (by decide +kernel) (Nat.le_of_ble_eq_true rfl) ?_) (fun v s' hp => by obtain ⟨x, rfl, rfl⟩ := hp; exact ⟨rfl, rfl⟩)
  intro D cy ad bs X
  have hk : t_hk (f_X2_wordOf x1 x2 s) (fun q => q = r) := ⟨r, hr, rfl⟩
  show mj_G D cy ad bs X cX2_wordOf 12 yX2_wordOf.cls (some .int) yX2_wordOf.name 1 0 0 1065 (t_P (fun v s' => ∃ x, v = some (.int x) ∧ (fun q => q = r) ((x, s')))) 0 [(0, .ref 1), (1, .int x1), (2, .int x2)] [] (t_m s) 1065 0 0
  refine mj_aload_n dX2_wordOf_0 0 rfl ?_
  refine mj_iload_n dX2_wordOf_1 1 rfl ?_
  refine mj_iload_n dX2_wordOf_2 2 rfl ?_
  refine mj_iload_n dX2_wordOf_3 1 rfl ?_
  refine mj_bipush (v := 8) dX2_wordOf_4 (by decide) ?_
  refine mj_iadd dX2_wordOf_6 ?_
  refine mj_imin dX2_wordOf_7 MM_min_X2_144 (Nat.le_of_ble_eq_true rfl) (Nat.le_of_ble_eq_true rfl) (Nat.le_of_ble_eq_true rfl) (Nat.le_of_ble_eq_true rfl) ?_
  refine t_bndK hk (fun r1 er1 hk => ?_)
  refine t_callVlP dX2_wordOf_10 M_X2_packed (CC_X2_packed _ _ _ _ er1) ML_X2_149 IM_X2_packed SE_X2_packed qc_1 rfl (As := [.int x1, .int (if (x1 + (8 : Int32)) < x2 then (x1 + (8 : Int32)) else x2)]) rfl rfl (Nat.le_of_ble_eq_true rfl) (Nat.le_of_ble_eq_true rfl) (Nat.le_of_ble_eq_true rfl) (Nat.le_of_ble_eq_true rfl) ?_
  refine mj_lstore_n 3 (lv2 := [(3, .long r1), (0, .ref 1), (1, .int x1), (2, .int x2)]) dX2_wordOf_13 rfl (by decide) rfl ?_
  refine mj_aload_n dX2_wordOf_14 1 rfl ?_
  refine mj_iload_n dX2_wordOf_15 2 rfl ?_
  refine mj_bipush (v := 8) dX2_wordOf_16 (by decide) ?_
  refine mj_iadd dX2_wordOf_18 ?_
  refine mj_iload_n dX2_wordOf_19 3 rfl ?_
  refine t_bndK hk (fun r2 er2 hk => ?_)
  refine t_callVlP dX2_wordOf_20 M_X2_packed (CC_X2_packed _ _ _ _ er2) ML_X2_149 IM_X2_packed SE_X2_packed qc_1 rfl (As := [.int (x1 + (8 : Int32)), .int x2]) rfl rfl (Nat.le_of_ble_eq_true rfl) (Nat.le_of_ble_eq_true rfl) (Nat.le_of_ble_eq_true rfl) (Nat.le_of_ble_eq_true rfl) ?_
  refine mj_l2i (v := r2.toInt32) dX2_wordOf_23 rfl ?_
  refine mj_istore (lv2 := [(5, .int r2.toInt32), (3, .long r1), (0, .ref 1), (1, .int x1), (2, .int x2)]) dX2_wordOf_24 (by decide) rfl ?_
  refine mj_lload_n dX2_wordOf_26 1 rfl ?_
  refine mj_iload dX2_wordOf_27 0 rfl ?_
  refine mj_i2l (v := r2.toInt32.toInt64) dX2_wordOf_29 rfl ?_
  refine mj_ldc2 dX2_wordOf_30 K_X2_153 ?_
  refine mj_lmul dX2_wordOf_33 ?_
  refine mj_lxor dX2_wordOf_34 ?_
  refine mj_ldc2 dX2_wordOf_35 K_X2_155 ?_
  refine mj_lmul dX2_wordOf_38 ?_
  refine mj_lstore (lv2 := [(6, .long ((r1 ^^^ (r2.toInt32.toInt64 * (6364136223846793005 : Int64))) * (-7046029254386353131 : Int64))), (5, .int r2.toInt32), (3, .long r1), (0, .ref 1), (1, .int x1), (2, .int x2)]) dX2_wordOf_39 (by decide) rfl ?_
  refine mj_lload dX2_wordOf_41 0 rfl ?_
  refine mj_bipush (v := 50) dX2_wordOf_43 (by decide) ?_
  refine mj_lushr dX2_wordOf_45 rfl ?_
  refine mj_l2i (v := ((((r1 ^^^ (r2.toInt32.toInt64 * (6364136223846793005 : Int64))) * (-7046029254386353131 : Int64)).toUInt64 >>> ((50 : Int32).toInt64.toUInt64 &&& Int64.toUInt64 63)).toInt64).toInt32) dX2_wordOf_46 rfl ?_
  refine mj_sipush (v := 16383) dX2_wordOf_47 (by decide) ?_
  refine mj_iand dX2_wordOf_50 ?_
  refine mj_istore (lv2 := [(8, .int ((((((r1 ^^^ (r2.toInt32.toInt64 * (6364136223846793005 : Int64))) * (-7046029254386353131 : Int64)).toUInt64 >>> ((50 : Int32).toInt64.toUInt64 &&& Int64.toUInt64 63)).toInt64).toInt32) &&& (16383 : Int32))), (6, .long ((r1 ^^^ (r2.toInt32.toInt64 * (6364136223846793005 : Int64))) * (-7046029254386353131 : Int64))), (5, .int r2.toInt32), (3, .long r1), (0, .ref 1), (1, .int x1), (2, .int x2)]) dX2_wordOf_51 (by decide) rfl ?_
  refine mj_iconst (v := 0) dX2_wordOf_53 (by decide) ?_
  refine mj_istore (lv2 := [(9, .int 0), (8, .int ((((((r1 ^^^ (r2.toInt32.toInt64 * (6364136223846793005 : Int64))) * (-7046029254386353131 : Int64)).toUInt64 >>> ((50 : Int32).toInt64.toUInt64 &&& Int64.toUInt64 63)).toInt64).toInt32) &&& (16383 : Int32))), (6, .long ((r1 ^^^ (r2.toInt32.toInt64 * (6364136223846793005 : Int64))) * (-7046029254386353131 : Int64))), (5, .int r2.toInt32), (3, .long r1), (0, .ref 1), (1, .int x1), (2, .int x2)]) dX2_wordOf_54 (by decide) rfl ?_
  refine mj_sublv [(0, .ref 1), (3, .long r1), (5, .int r2.toInt32), (8, .int ((((((r1 ^^^ (r2.toInt32.toInt64 * (6364136223846793005 : Int64))) * (-7046029254386353131 : Int64)).toUInt64 >>> ((50 : Int32).toInt64.toUInt64 &&& Int64.toUInt64 63)).toInt64).toInt32) &&& (16383 : Int32))), (9, .int 0)] [5, 4, 3, 1, 0] rfl ?_
  exact LH_X2_wordOf_56 _ r1 r2.toInt32 ((((((r1 ^^^ (r2.toInt32.toInt64 * (6364136223846793005 : Int64))) * (-7046029254386353131 : Int64)).toUInt64 >>> ((50 : Int32).toInt64.toUInt64 &&& Int64.toUInt64 63)).toInt64).toInt32) &&& (16383 : Int32)) 0 s _ hk

theorem dX2_readWord_0 : decode cX2_readWord 0 = .ok (.aload_n 0, 1) := by decide +kernel
theorem dX2_readWord_1 : decode cX2_readWord 1 = .ok (.getfield 89, 3) := by decide +kernel
theorem dX2_readWord_10 : decode cX2_readWord 10 = .ok (.getfield 61, 3) := by decide +kernel
theorem dX2_readWord_100 : decode cX2_readWord 100 = .ok (.invokevirtual 57, 3) := by decide +kernel
theorem dX2_readWord_103 : decode cX2_readWord 103 = .ok (.istore_n 2, 1) := by decide +kernel
theorem dX2_readWord_104 : decode cX2_readWord 104 = .ok (.aload_n 0, 1) := by decide +kernel
theorem dX2_readWord_105 : decode cX2_readWord 105 = .ok (.iload_n 2, 1) := by decide +kernel
theorem dX2_readWord_106 : decode cX2_readWord 106 = .ok (.i2l, 1) := by decide +kernel
theorem dX2_readWord_107 : decode cX2_readWord 107 = .ok (.putfield 95, 3) := by decide +kernel
theorem dX2_readWord_110 : decode cX2_readWord 110 = .ok (.iload_n 2, 1) := by decide +kernel
theorem dX2_readWord_111 : decode cX2_readWord 111 = .ok (.bipush 66, 2) := by decide +kernel
theorem dX2_readWord_113 : decode cX2_readWord 113 = .ok (.if_icmp .ge 11, 3) := by decide +kernel
theorem dX2_readWord_116 : decode cX2_readWord 116 = .ok (.sipush 200, 3) := by decide +kernel
theorem dX2_readWord_119 : decode cX2_readWord 119 = .ok (.iload_n 2, 1) := by decide +kernel
theorem dX2_readWord_120 : decode cX2_readWord 120 = .ok (.iadd, 1) := by decide +kernel
theorem dX2_readWord_121 : decode cX2_readWord 121 = .ok (.goto 4, 3) := by decide +kernel
theorem dX2_readWord_124 : decode cX2_readWord 124 = .ok (.iconst 1, 1) := by decide +kernel
theorem dX2_readWord_125 : decode cX2_readWord 125 = .ok (.ireturn, 1) := by decide +kernel
theorem dX2_readWord_13 : decode cX2_readWord 13 = .ok (.if_icmp .ge 68, 3) := by decide +kernel
theorem dX2_readWord_16 : decode cX2_readWord 16 = .ok (.aload_n 0, 1) := by decide +kernel
theorem dX2_readWord_17 : decode cX2_readWord 17 = .ok (.getfield 11, 3) := by decide +kernel
theorem dX2_readWord_20 : decode cX2_readWord 20 = .ok (.aload_n 0, 1) := by decide +kernel
theorem dX2_readWord_21 : decode cX2_readWord 21 = .ok (.getfield 89, 3) := by decide +kernel
theorem dX2_readWord_24 : decode cX2_readWord 24 = .ok (.baload, 1) := by decide +kernel
theorem dX2_readWord_25 : decode cX2_readWord 25 = .ok (.sipush 255, 3) := by decide +kernel
theorem dX2_readWord_28 : decode cX2_readWord 28 = .ok (.iand, 1) := by decide +kernel
theorem dX2_readWord_29 : decode cX2_readWord 29 = .ok (.invokestatic 118, 3) := by decide +kernel
theorem dX2_readWord_32 : decode cX2_readWord 32 = .ok (.ifCond .ne 36, 3) := by decide +kernel
theorem dX2_readWord_35 : decode cX2_readWord 35 = .ok (.aload_n 0, 1) := by decide +kernel
theorem dX2_readWord_36 : decode cX2_readWord 36 = .ok (.getfield 11, 3) := by decide +kernel
theorem dX2_readWord_39 : decode cX2_readWord 39 = .ok (.aload_n 0, 1) := by decide +kernel
theorem dX2_readWord_4 : decode cX2_readWord 4 = .ok (.istore_n 1, 1) := by decide +kernel
theorem dX2_readWord_40 : decode cX2_readWord 40 = .ok (.getfield 89, 3) := by decide +kernel
theorem dX2_readWord_43 : decode cX2_readWord 43 = .ok (.baload, 1) := by decide +kernel
theorem dX2_readWord_44 : decode cX2_readWord 44 = .ok (.sipush 255, 3) := by decide +kernel
theorem dX2_readWord_47 : decode cX2_readWord 47 = .ok (.iand, 1) := by decide +kernel
theorem dX2_readWord_48 : decode cX2_readWord 48 = .ok (.invokestatic 125, 3) := by decide +kernel
theorem dX2_readWord_5 : decode cX2_readWord 5 = .ok (.aload_n 0, 1) := by decide +kernel
theorem dX2_readWord_51 : decode cX2_readWord 51 = .ok (.ifCond .ne 17, 3) := by decide +kernel
theorem dX2_readWord_54 : decode cX2_readWord 54 = .ok (.aload_n 0, 1) := by decide +kernel
theorem dX2_readWord_55 : decode cX2_readWord 55 = .ok (.getfield 11, 3) := by decide +kernel
theorem dX2_readWord_58 : decode cX2_readWord 58 = .ok (.aload_n 0, 1) := by decide +kernel
theorem dX2_readWord_59 : decode cX2_readWord 59 = .ok (.getfield 89, 3) := by decide +kernel
theorem dX2_readWord_6 : decode cX2_readWord 6 = .ok (.getfield 89, 3) := by decide +kernel
theorem dX2_readWord_62 : decode cX2_readWord 62 = .ok (.baload, 1) := by decide +kernel
theorem dX2_readWord_63 : decode cX2_readWord 63 = .ok (.bipush 95, 2) := by decide +kernel
theorem dX2_readWord_65 : decode cX2_readWord 65 = .ok (.if_icmp .ne 16, 3) := by decide +kernel
theorem dX2_readWord_68 : decode cX2_readWord 68 = .ok (.aload_n 0, 1) := by decide +kernel
theorem dX2_readWord_69 : decode cX2_readWord 69 = .ok (.dup, 1) := by decide +kernel
theorem dX2_readWord_70 : decode cX2_readWord 70 = .ok (.getfield 89, 3) := by decide +kernel
theorem dX2_readWord_73 : decode cX2_readWord 73 = .ok (.iconst 1, 1) := by decide +kernel
theorem dX2_readWord_74 : decode cX2_readWord 74 = .ok (.iadd, 1) := by decide +kernel
theorem dX2_readWord_75 : decode cX2_readWord 75 = .ok (.putfield 89, 3) := by decide +kernel
theorem dX2_readWord_78 : decode cX2_readWord 78 = .ok (.goto (-73), 3) := by decide +kernel
theorem dX2_readWord_81 : decode cX2_readWord 81 = .ok (.aload_n 0, 1) := by decide +kernel
theorem dX2_readWord_82 : decode cX2_readWord 82 = .ok (.getfield 89, 3) := by decide +kernel
theorem dX2_readWord_85 : decode cX2_readWord 85 = .ok (.iload_n 1, 1) := by decide +kernel
theorem dX2_readWord_86 : decode cX2_readWord 86 = .ok (.isub, 1) := by decide +kernel
theorem dX2_readWord_87 : decode cX2_readWord 87 = .ok (.bipush 12, 2) := by decide +kernel
theorem dX2_readWord_89 : decode cX2_readWord 89 = .ok (.if_icmp .le 5, 3) := by decide +kernel
theorem dX2_readWord_9 : decode cX2_readWord 9 = .ok (.aload_n 0, 1) := by decide +kernel
theorem dX2_readWord_92 : decode cX2_readWord 92 = .ok (.iconst 5, 1) := by decide +kernel
theorem dX2_readWord_93 : decode cX2_readWord 93 = .ok (.ireturn, 1) := by decide +kernel
theorem dX2_readWord_94 : decode cX2_readWord 94 = .ok (.aload_n 0, 1) := by decide +kernel
theorem dX2_readWord_95 : decode cX2_readWord 95 = .ok (.iload_n 1, 1) := by decide +kernel
theorem dX2_readWord_96 : decode cX2_readWord 96 = .ok (.aload_n 0, 1) := by decide +kernel
theorem dX2_readWord_97 : decode cX2_readWord 97 = .ok (.getfield 89, 3) := by decide +kernel
noncomputable def k_X2_readWord_81 (l1 : Int32) (s : t_S) : Option (Int32 × t_S) :=
 if ((s.1 1 2) - l1) ≤ (12 : Int32) then ((f_X2_wordOf l1 (s.1 1 2) s).bind (fun r1 =>
 t_let (t_setJ r1.2 1 10 r1.1.toInt64) (fun s1 =>
 if (66 : Int32) ≤ r1.1 then (some ((1 : Int32), s1))
 else (some (((200 : Int32) + r1.1), s1)))))
 else (some ((5 : Int32), s))
set_option maxRecDepth 4000 in
set_option maxHeartbeats 1000000 in
theorem B_X2_readWord_81 {D : va_G} {cy : Nat → ClassId} {ad : Nat → Nat} {bs : Nat} {X : State → Heap → Prop} (l1 : Int32) (s : t_S) (Q : Int32 × t_S → Prop) (hk : t_hk (k_X2_readWord_81 l1 s) Q) : mj_G D cy ad bs X cX2_readWord 3 yX2_readWord.cls (some .int) yX2_readWord.name 2 0 0 1065 (t_P (fun v s' => ∃ x, v = some (.int x) ∧ Q ((x, s')))) 81 [(0, .ref 1), (1, .int l1)] [] (t_m s) 1065 0 0 := by
  refine mj_aload_n dX2_readWord_81 0 rfl ?_
  refine t_getI dX2_readWord_82 F_X2_89 qf_1_2 ?_
  refine mj_iload_n dX2_readWord_85 1 rfl ?_
  refine mj_isub dX2_readWord_86 ?_
  refine mj_bipush (v := 12) dX2_readWord_87 (by decide) ?_
  refine mj_icmp_le 94 dX2_readWord_89 (by decide) (fun z => t_posK hk z (fun hk => ?_)) (fun z => t_negK hk z (fun hk => ?_))
  · refine mj_aload_n dX2_readWord_94 0 rfl ?_
    refine mj_iload_n dX2_readWord_95 1 rfl ?_
    refine mj_aload_n dX2_readWord_96 0 rfl ?_
    refine t_getI dX2_readWord_97 F_X2_89 qf_1_2 ?_
    refine t_bndK hk (fun r1 er1 hk => ?_)
    refine t_callViE dX2_readWord_100 M_X2_wordOf (CC_X2_wordOf _ _ _ _ er1) ML_X2_57 IM_X2_wordOf SE_X2_wordOf qc_1 rfl (As := [.int l1, .int (s.1 1 2)]) rfl rfl (Nat.le_of_ble_eq_true rfl) (Nat.le_of_ble_eq_true rfl) (Nat.le_of_ble_eq_true rfl) (Nat.le_of_ble_eq_true rfl) ?_
    refine mj_istore_n 2 (lv2 := [(2, .int r1.1), (0, .ref 1), (1, .int l1)]) dX2_readWord_103 rfl (by decide) rfl ?_
    refine mj_aload_n dX2_readWord_104 1 rfl ?_
    refine mj_iload_n dX2_readWord_105 0 rfl ?_
    refine mj_i2l (v := r1.1.toInt64) dX2_readWord_106 rfl ?_
    refine t_putJK dX2_readWord_107 F_X2_95 qf_1_10 rfl (fun s1 ws1 => t_letE hk ws1 (fun hk => ?_))
    refine mj_iload_n dX2_readWord_110 0 rfl ?_
    refine mj_bipush (v := 66) dX2_readWord_111 (by decide) ?_
    refine mj_icmp_ge 124 dX2_readWord_113 (by decide) (fun z => t_posK hk z (fun hk => ?_)) (fun z => t_negK hk z (fun hk => ?_))
    · refine mj_iconst (v := 1) dX2_readWord_124 (by decide) ?_
      exact t_somK hk (fun hf => t_iret dX2_readWord_125 rfl rfl ⟨_, rfl, hf⟩ (Nat.le_of_ble_eq_true rfl) (Nat.le_of_ble_eq_true rfl))
    · refine mj_sipush (v := 200) dX2_readWord_116 (by decide) ?_
      refine mj_iload_n dX2_readWord_119 0 rfl ?_
      refine mj_iadd dX2_readWord_120 ?_
      refine mj_goto 125 dX2_readWord_121 (by decide) ?_
      exact t_somK hk (fun hf => t_iret dX2_readWord_125 rfl rfl ⟨_, rfl, hf⟩ (Nat.le_of_ble_eq_true rfl) (Nat.le_of_ble_eq_true rfl))
  · refine mj_iconst (v := 5) dX2_readWord_92 (by decide) ?_
    exact t_somK hk (fun hf => t_iret dX2_readWord_93 rfl rfl ⟨_, rfl, hf⟩ (Nat.le_of_ble_eq_true rfl) (Nat.le_of_ble_eq_true rfl))
noncomputable def k_X2_readWord_68 (l1 : Int32) (s : t_S) : Option ((Int32 × t_S) ⊕ (Int32 × t_S)) :=
 t_let (t_setI s 1 2 ((s.1 1 2) + (1 : Int32))) (fun s1 =>
 some (.inl (l1, s1)))
set_option maxRecDepth 4000 in
set_option maxHeartbeats 1000000 in
theorem B_X2_readWord_68 {D : va_G} {cy : Nat → ClassId} {ad : Nat → Nat} {bs : Nat} {X : State → Heap → Prop} (l1 : Int32) (s : t_S) (Q : (Int32 × t_S) ⊕ (Int32 × t_S) → Prop) (Hb5 : ∀ (y0 : Int32) (y1 : t_S), Q (.inl (y0, y1)) → mj_G D cy ad bs X cX2_readWord 3 yX2_readWord.cls (some .int) yX2_readWord.name 2 0 0 1065 (t_P (fun v s' => ∃ x, v = some (.int x) ∧ Q (.inr ((x, s'))))) 5 [(0, .ref 1), (1, .int (y0))] [] (t_m y1) 1065 0 0) (hk : t_hk (k_X2_readWord_68 l1 s) Q) : mj_G D cy ad bs X cX2_readWord 3 yX2_readWord.cls (some .int) yX2_readWord.name 2 0 0 1065 (t_P (fun v s' => ∃ x, v = some (.int x) ∧ Q (.inr ((x, s'))))) 68 [(0, .ref 1), (1, .int l1)] [] (t_m s) 1065 0 0 := by
  refine mj_aload_n dX2_readWord_68 0 rfl ?_
  refine mj_dup dX2_readWord_69 rfl ?_
  refine t_getI dX2_readWord_70 F_X2_89 qf_1_2 ?_
  refine mj_iconst (v := 1) dX2_readWord_73 (by decide) ?_
  refine mj_iadd dX2_readWord_74 ?_
  refine t_putIK dX2_readWord_75 F_X2_89 qf_1_2 rfl (fun s1 ws1 => t_letE hk ws1 (fun hk => ?_))
  refine mj_goto 5 dX2_readWord_78 (by decide) ?_
  exact t_somK hk (fun hf => Hb5 l1 s1 hf)
noncomputable def k_X2_readWord_5 (l1 : Int32) (s : t_S) : Option ((Int32 × t_S) ⊕ (Int32 × t_S)) :=
 if (s.1 1 1) ≤ (s.1 1 2) then ((k_X2_readWord_81 l1 s).map Sum.inr)
 else (if t_ix (s.1 1 2) 12000 = true then
  if (f_X2_isLetter ((s.1 2 ((s.1 1 2).toNatClampNeg)) &&& (255 : Int32)) s) = (0 : Int32) then (if (f_X2_isDigit ((s.1 2 ((s.1 1 2).toNatClampNeg)) &&& (255 : Int32)) s) = (0 : Int32) then (if (s.1 2 ((s.1 1 2).toNatClampNeg)) = (95 : Int32) then (k_X2_readWord_68 l1 s)
 else ((k_X2_readWord_81 l1 s).map Sum.inr))
 else (k_X2_readWord_68 l1 s))
 else (k_X2_readWord_68 l1 s)
else none)
set_option maxRecDepth 4000 in
set_option maxHeartbeats 1000000 in
theorem B_X2_readWord_5 {D : va_G} {cy : Nat → ClassId} {ad : Nat → Nat} {bs : Nat} {X : State → Heap → Prop} (l1 : Int32) (s : t_S) (Q : (Int32 × t_S) ⊕ (Int32 × t_S) → Prop) (Hb5 : ∀ (y0 : Int32) (y1 : t_S), Q (.inl (y0, y1)) → mj_G D cy ad bs X cX2_readWord 3 yX2_readWord.cls (some .int) yX2_readWord.name 2 0 0 1065 (t_P (fun v s' => ∃ x, v = some (.int x) ∧ Q (.inr ((x, s'))))) 5 [(0, .ref 1), (1, .int (y0))] [] (t_m y1) 1065 0 0) (hk : t_hk (k_X2_readWord_5 l1 s) Q) : mj_G D cy ad bs X cX2_readWord 3 yX2_readWord.cls (some .int) yX2_readWord.name 2 0 0 1065 (t_P (fun v s' => ∃ x, v = some (.int x) ∧ Q (.inr ((x, s'))))) 5 [(0, .ref 1), (1, .int l1)] [] (t_m s) 1065 0 0 := by
  refine mj_aload_n dX2_readWord_5 0 rfl ?_
  refine t_getI dX2_readWord_6 F_X2_89 qf_1_2 ?_
  refine mj_aload_n dX2_readWord_9 0 rfl ?_
  refine t_getI dX2_readWord_10 F_X2_61 qf_1_1 ?_
  refine mj_icmp_ge 81 dX2_readWord_13 (by decide) (fun z => t_posK hk z (fun hk => ?_)) (fun z => t_negK hk z (fun hk => ?_))
  · refine t_mapK hk (fun hk => ?_)
    exact B_X2_readWord_81 _ _ _ hk
  · refine mj_aload_n dX2_readWord_16 0 rfl ?_
    refine t_getR 2 dX2_readWord_17 F_X2_11 qr_1_0 ?_
    refine mj_aload_n dX2_readWord_20 0 rfl ?_
    refine t_getI dX2_readWord_21 F_X2_89 qf_1_2 ?_
    refine t_chkK hk (fun c0 hk => ?_)
    refine t_bald dX2_readWord_24 qa_2 (t_ixv c0) ?_
    refine mj_sipush (v := 255) dX2_readWord_25 (by decide) ?_
    refine mj_iand dX2_readWord_28 ?_
    refine t_callSiP dX2_readWord_29 M_X2_isLetter (C_X2_isLetter _ _) ML_X2_118 SM_X2_isLetter (As := [.int ((s.1 2 ((s.1 1 2).toNatClampNeg)) &&& (255 : Int32))]) rfl rfl (Nat.le_of_ble_eq_true rfl) (Nat.le_of_ble_eq_true rfl) (Nat.le_of_ble_eq_true rfl) (Nat.le_of_ble_eq_true rfl) ?_
    refine mj_if_ne 68 dX2_readWord_32 (by decide) (fun z => t_negK hk z (fun hk => ?_)) (fun z => t_posK hk z (fun hk => ?_))
    · exact B_X2_readWord_68 _ _ _ (fun y0 y1 hx => Hb5 y0 y1 hx) hk
    · refine mj_aload_n dX2_readWord_35 0 rfl ?_
      refine t_getR 2 dX2_readWord_36 F_X2_11 qr_1_0 ?_
      refine mj_aload_n dX2_readWord_39 0 rfl ?_
      refine t_getI dX2_readWord_40 F_X2_89 qf_1_2 ?_
      refine t_bald dX2_readWord_43 qa_2 (t_ixv c0) ?_
      refine mj_sipush (v := 255) dX2_readWord_44 (by decide) ?_
      refine mj_iand dX2_readWord_47 ?_
      refine t_callSiP dX2_readWord_48 M_X2_isDigit (C_X2_isDigit _ _) ML_X2_125 SM_X2_isDigit (As := [.int ((s.1 2 ((s.1 1 2).toNatClampNeg)) &&& (255 : Int32))]) rfl rfl (Nat.le_of_ble_eq_true rfl) (Nat.le_of_ble_eq_true rfl) (Nat.le_of_ble_eq_true rfl) (Nat.le_of_ble_eq_true rfl) ?_
      refine mj_if_ne 68 dX2_readWord_51 (by decide) (fun z => t_negK hk z (fun hk => ?_)) (fun z => t_posK hk z (fun hk => ?_))
      · exact B_X2_readWord_68 _ _ _ (fun y0 y1 hx => Hb5 y0 y1 hx) hk
      · refine mj_aload_n dX2_readWord_54 0 rfl ?_
        refine t_getR 2 dX2_readWord_55 F_X2_11 qr_1_0 ?_
        refine mj_aload_n dX2_readWord_58 0 rfl ?_
        refine t_getI dX2_readWord_59 F_X2_89 qf_1_2 ?_
        refine t_bald dX2_readWord_62 qa_2 (t_ixv c0) ?_
        refine mj_bipush (v := 95) dX2_readWord_63 (by decide) ?_
        refine mj_icmp_ne 81 dX2_readWord_65 (by decide) (fun z => t_negK hk z (fun hk => ?_)) (fun z => t_posK hk z (fun hk => ?_))
        · refine t_mapK hk (fun hk => ?_)
          exact B_X2_readWord_81 _ _ _ hk
        · exact B_X2_readWord_68 _ _ _ (fun y0 y1 hx => Hb5 y0 y1 hx) hk
noncomputable def b_X2_readWord_5 (x : Int32 × t_S) : Option ((Int32 × t_S) ⊕ (Int32 × t_S)) := k_X2_readWord_5 x.1 x.2
set_option maxRecDepth 4000 in
set_option maxHeartbeats 1000000 in
theorem LH_X2_readWord_5 {D : va_G} {cy : Nat → ClassId} {ad : Nat → Nat} {bs : Nat} {X : State → Heap → Prop} : ∀ (n : Nat) (y0 : Int32) (y1 : t_S) (Q : Int32 × t_S → Prop) (hk : t_hk (t_loop (b_X2_readWord_5) n (y0, y1)) Q), mj_G D cy ad bs X cX2_readWord 3 yX2_readWord.cls (some .int) yX2_readWord.name 2 0 0 1065 (t_P (fun v s' => ∃ x, v = some (.int x) ∧ Q ((x, s')))) 5 [(0, .ref 1), (1, .int (y0))] [] (t_m y1) 1065 0 0 := by
  intro n
  induction n with
  | zero => intro y0 y1 Q hk; obtain ⟨r, hr, _⟩ := hk; cases hr
  | succ n ih =>
    intro y0 y1 Q hk
    exact B_X2_readWord_5 y0 y1 (fun y => t_lq (b_X2_readWord_5) n Q y) (fun y0' y1' hy => ih y0' y1' Q hy) (t_lp hk)
noncomputable def f_X2_readWord (s : t_S) : Option (Int32 × t_S) :=
 t_loop (b_X2_readWord_5) t_N ((s.1 1 2), s)
set_option maxRecDepth 4000 in
set_option maxHeartbeats 1000000 in
theorem C_X2_readWord (s : t_S) (r : Int32 × t_S) (hr : f_X2_readWord s = some r) : t_C yX2_readWord cX2_readWord 3 (some .int) 2 [.ref 1] s (fun v s' => v = some (.int r.1) ∧ s' = r.2) := by
  refine t_C.imp (P := fun v s' => ∃ x, v = some (.int x) ∧ (fun q => q = r) ((x, s'))) (t_C.of (by decide +kernel) (Nat.le_of_ble_eq_true rfl) ?_) (fun v s' hp => by obtain ⟨x, rfl, rfl⟩ := hp; exact ⟨rfl, rfl⟩)
  intro D cy ad bs X
  have hk : t_hk (f_X2_readWord s) (fun q => q = r) := ⟨r, hr, rfl⟩
  show mj_G D cy ad bs X cX2_readWord 3 yX2_readWord.cls (some .int) yX2_readWord.name 2 0 0 1065 (t_P (fun v s' => ∃ x, v = some (.int x) ∧ (fun q => q = r) ((x, s')))) 0 [(0, .ref 1)] [] (t_m s) 1065 0 0
  refine mj_aload_n dX2_readWord_0 0 rfl ?_
  refine t_getI dX2_readWord_1 F_X2_89 qf_1_2 ?_
  refine mj_istore_n 1 (lv2 := [(1, .int (s.1 1 2)), (0, .ref 1)]) dX2_readWord_4 rfl (by decide) rfl ?_
  refine mj_sublv [(0, .ref 1), (1, .int (s.1 1 2))] [1, 0] rfl ?_
  exact LH_X2_readWord_5 _ (s.1 1 2) s _ hk

