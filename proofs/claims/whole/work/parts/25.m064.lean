/-! Methods as functions, 64: X13_arePlain, X13_covers, X13_coversRanges, X13_isPairGood -/
theorem qa_1014 : t_oka 1014 1 3100 = true := by decide +kernel
theorem qa_1016 : t_oka 1016 2 150200 = true := by decide +kernel
theorem qr_950_111 : t_okr 950 13 111 1014 = true := by decide +kernel
theorem qr_950_113 : t_okr 950 13 113 1016 = true := by decide +kernel
theorem dX13_arePlain_0 : decode cX13_arePlain 0 = .ok (.iconst 1, 1) := by decide +kernel
theorem dX13_arePlain_1 : decode cX13_arePlain 1 = .ok (.istore_n 2, 1) := by decide +kernel
theorem dX13_arePlain_10 : decode cX13_arePlain 10 = .ok (.ifCond .lt 54, 3) := by decide +kernel
theorem dX13_arePlain_13 : decode cX13_arePlain 13 = .ok (.iload_n 2, 1) := by decide +kernel
theorem dX13_arePlain_14 : decode cX13_arePlain 14 = .ok (.ifCond .eq 38, 3) := by decide +kernel
theorem dX13_arePlain_17 : decode cX13_arePlain 17 = .ok (.aload_n 0, 1) := by decide +kernel
theorem dX13_arePlain_18 : decode cX13_arePlain 18 = .ok (.getfield 26, 3) := by decide +kernel
theorem dX13_arePlain_2 : decode cX13_arePlain 2 = .ok (.aload_n 0, 1) := by decide +kernel
theorem dX13_arePlain_21 : decode cX13_arePlain 21 = .ok (.iload_n 3, 1) := by decide +kernel
theorem dX13_arePlain_22 : decode cX13_arePlain 22 = .ok (.iaload, 1) := by decide +kernel
theorem dX13_arePlain_23 : decode cX13_arePlain 23 = .ok (.bipush 39, 2) := by decide +kernel
theorem dX13_arePlain_25 : decode cX13_arePlain 25 = .ok (.if_icmp .eq 27, 3) := by decide +kernel
theorem dX13_arePlain_28 : decode cX13_arePlain 28 = .ok (.aload_n 0, 1) := by decide +kernel
theorem dX13_arePlain_29 : decode cX13_arePlain 29 = .ok (.getfield 26, 3) := by decide +kernel
theorem dX13_arePlain_3 : decode cX13_arePlain 3 = .ok (.getfield 39, 3) := by decide +kernel
theorem dX13_arePlain_32 : decode cX13_arePlain 32 = .ok (.iload_n 3, 1) := by decide +kernel
theorem dX13_arePlain_33 : decode cX13_arePlain 33 = .ok (.iaload, 1) := by decide +kernel
theorem dX13_arePlain_34 : decode cX13_arePlain 34 = .ok (.bipush 21, 2) := by decide +kernel
theorem dX13_arePlain_36 : decode cX13_arePlain 36 = .ok (.if_icmp .ne 12, 3) := by decide +kernel
theorem dX13_arePlain_39 : decode cX13_arePlain 39 = .ok (.aload_n 0, 1) := by decide +kernel
theorem dX13_arePlain_40 : decode cX13_arePlain 40 = .ok (.getfield 45, 3) := by decide +kernel
theorem dX13_arePlain_43 : decode cX13_arePlain 43 = .ok (.iload_n 3, 1) := by decide +kernel
theorem dX13_arePlain_44 : decode cX13_arePlain 44 = .ok (.iaload, 1) := by decide +kernel
theorem dX13_arePlain_45 : decode cX13_arePlain 45 = .ok (.ifCond .eq 7, 3) := by decide +kernel
theorem dX13_arePlain_48 : decode cX13_arePlain 48 = .ok (.iconst 1, 1) := by decide +kernel
theorem dX13_arePlain_49 : decode cX13_arePlain 49 = .ok (.goto 4, 3) := by decide +kernel
theorem dX13_arePlain_52 : decode cX13_arePlain 52 = .ok (.iconst 0, 1) := by decide +kernel
theorem dX13_arePlain_53 : decode cX13_arePlain 53 = .ok (.istore_n 2, 1) := by decide +kernel
theorem dX13_arePlain_54 : decode cX13_arePlain 54 = .ok (.aload_n 0, 1) := by decide +kernel
theorem dX13_arePlain_55 : decode cX13_arePlain 55 = .ok (.getfield 42, 3) := by decide +kernel
theorem dX13_arePlain_58 : decode cX13_arePlain 58 = .ok (.iload_n 3, 1) := by decide +kernel
theorem dX13_arePlain_59 : decode cX13_arePlain 59 = .ok (.iaload, 1) := by decide +kernel
theorem dX13_arePlain_6 : decode cX13_arePlain 6 = .ok (.iload_n 1, 1) := by decide +kernel
theorem dX13_arePlain_60 : decode cX13_arePlain 60 = .ok (.istore_n 3, 1) := by decide +kernel
theorem dX13_arePlain_61 : decode cX13_arePlain 61 = .ok (.goto (-52), 3) := by decide +kernel
theorem dX13_arePlain_64 : decode cX13_arePlain 64 = .ok (.iload_n 2, 1) := by decide +kernel
theorem dX13_arePlain_65 : decode cX13_arePlain 65 = .ok (.ireturn, 1) := by decide +kernel
theorem dX13_arePlain_7 : decode cX13_arePlain 7 = .ok (.iaload, 1) := by decide +kernel
theorem dX13_arePlain_8 : decode cX13_arePlain 8 = .ok (.istore_n 3, 1) := by decide +kernel
theorem dX13_arePlain_9 : decode cX13_arePlain 9 = .ok (.iload_n 3, 1) := by decide +kernel
noncomputable def k_X13_arePlain_53 (l3 : Int32) (k0 : Int32) (s : t_S) : Option ((Int32 × Int32) ⊕ (Int32)) :=
 if t_ix l3 13000 = true then
  some (.inl (k0, (s.1 960 (l3.toNatClampNeg))))
else none
set_option maxRecDepth 4000 in
set_option maxHeartbeats 1000000 in
theorem B_X13_arePlain_53 {D : va_G} {cy : Nat → ClassId} {ad : Nat → Nat} {bs : Nat} {X : State → Heap → Prop} (l3 : Int32) (k0 : Int32) (s : t_S) (Q : (Int32 × Int32) ⊕ (Int32) → Prop) (Hb9 : ∀ (y0 : Int32) (y1 : Int32), Q (.inl (y0, y1)) → mj_G D cy ad bs X cX13_arePlain 4 yX13_arePlain.cls (some .boolean) yX13_arePlain.name 0 0 0 1065 (t_P (fun v s' => s' = s ∧ ∃ x, v = some (.int x) ∧ Q (.inr (x)))) 9 [(0, .ref 950), (2, .int (y0)), (3, .int (y1))] [] (t_m s) 1065 0 0) (hk : t_hk (k_X13_arePlain_53 l3 k0 s) Q) : mj_G D cy ad bs X cX13_arePlain 4 yX13_arePlain.cls (some .boolean) yX13_arePlain.name 0 0 0 1065 (t_P (fun v s' => s' = s ∧ ∃ x, v = some (.int x) ∧ Q (.inr (x)))) 53 [(0, .ref 950), (3, .int l3)] [.int k0] (t_m s) 1065 0 0 := by
  refine mj_istore_n 2 (lv2 := [(2, .int k0), (0, .ref 950), (3, .int l3)]) dX13_arePlain_53 rfl (by decide) rfl ?_
  refine mj_aload_n dX13_arePlain_54 1 rfl ?_
  refine t_getR 960 dX13_arePlain_55 F_X13_42 qr_950_22 ?_
  refine mj_iload_n dX13_arePlain_58 2 rfl ?_
  refine t_chkK hk (fun c0 hk => ?_)
  refine t_iald dX13_arePlain_59 qa_960 (t_ixv c0) ?_
  refine mj_istore_n 3 (lv2 := [(3, .int (s.1 960 (l3.toNatClampNeg))), (2, .int k0), (0, .ref 950)]) dX13_arePlain_60 rfl (by decide) rfl ?_
  refine mj_goto 9 dX13_arePlain_61 (by decide) ?_
  refine mj_sublv [(0, .ref 950), (2, .int k0), (3, .int (s.1 960 (l3.toNatClampNeg)))] [2, 1, 0] rfl ?_
  exact t_somK hk (fun hf => Hb9 k0 (s.1 960 (l3.toNatClampNeg)) hf)
noncomputable def k_X13_arePlain_48 (l3 : Int32) (s : t_S) : Option ((Int32 × Int32) ⊕ (Int32)) :=
 k_X13_arePlain_53 l3 1 s
set_option maxRecDepth 4000 in
set_option maxHeartbeats 1000000 in
theorem B_X13_arePlain_48 {D : va_G} {cy : Nat → ClassId} {ad : Nat → Nat} {bs : Nat} {X : State → Heap → Prop} (l3 : Int32) (s : t_S) (Q : (Int32 × Int32) ⊕ (Int32) → Prop) (Hb9 : ∀ (y0 : Int32) (y1 : Int32), Q (.inl (y0, y1)) → mj_G D cy ad bs X cX13_arePlain 4 yX13_arePlain.cls (some .boolean) yX13_arePlain.name 0 0 0 1065 (t_P (fun v s' => s' = s ∧ ∃ x, v = some (.int x) ∧ Q (.inr (x)))) 9 [(0, .ref 950), (2, .int (y0)), (3, .int (y1))] [] (t_m s) 1065 0 0) (hk : t_hk (k_X13_arePlain_48 l3 s) Q) : mj_G D cy ad bs X cX13_arePlain 4 yX13_arePlain.cls (some .boolean) yX13_arePlain.name 0 0 0 1065 (t_P (fun v s' => s' = s ∧ ∃ x, v = some (.int x) ∧ Q (.inr (x)))) 48 [(0, .ref 950), (3, .int l3)] [] (t_m s) 1065 0 0 := by
  refine mj_iconst (v := 1) dX13_arePlain_48 (by decide) ?_
  refine mj_goto 53 dX13_arePlain_49 (by decide) ?_
  exact B_X13_arePlain_53 _ _ _ _ (fun y0 y1 hx => Hb9 y0 y1 hx) hk
noncomputable def k_X13_arePlain_52 (l3 : Int32) (s : t_S) : Option ((Int32 × Int32) ⊕ (Int32)) :=
 k_X13_arePlain_53 l3 0 s
set_option maxRecDepth 4000 in
set_option maxHeartbeats 1000000 in
theorem B_X13_arePlain_52 {D : va_G} {cy : Nat → ClassId} {ad : Nat → Nat} {bs : Nat} {X : State → Heap → Prop} (l3 : Int32) (s : t_S) (Q : (Int32 × Int32) ⊕ (Int32) → Prop) (Hb9 : ∀ (y0 : Int32) (y1 : Int32), Q (.inl (y0, y1)) → mj_G D cy ad bs X cX13_arePlain 4 yX13_arePlain.cls (some .boolean) yX13_arePlain.name 0 0 0 1065 (t_P (fun v s' => s' = s ∧ ∃ x, v = some (.int x) ∧ Q (.inr (x)))) 9 [(0, .ref 950), (2, .int (y0)), (3, .int (y1))] [] (t_m s) 1065 0 0) (hk : t_hk (k_X13_arePlain_52 l3 s) Q) : mj_G D cy ad bs X cX13_arePlain 4 yX13_arePlain.cls (some .boolean) yX13_arePlain.name 0 0 0 1065 (t_P (fun v s' => s' = s ∧ ∃ x, v = some (.int x) ∧ Q (.inr (x)))) 52 [(0, .ref 950), (3, .int l3)] [] (t_m s) 1065 0 0 := by
  refine mj_iconst (v := 0) dX13_arePlain_52 (by decide) ?_
  exact B_X13_arePlain_53 _ _ _ _ (fun y0 y1 hx => Hb9 y0 y1 hx) hk
noncomputable def k_X13_arePlain_9 (l2 : Int32) (l3 : Int32) (s : t_S) : Option ((Int32 × Int32) ⊕ (Int32)) :=
 if l3 < (0 : Int32) then ((if l2 = 0 ∨ l2 = 1 then
  some (l2)
else none).map Sum.inr)
 else (if l2 = (0 : Int32) then (k_X13_arePlain_52 l3 s)
 else (if t_ix l3 13000 = true then
  if (s.1 955 (l3.toNatClampNeg)) = (39 : Int32) then (k_X13_arePlain_52 l3 s)
 else (if (s.1 955 (l3.toNatClampNeg)) = (21 : Int32) then (if (s.1 961 (l3.toNatClampNeg)) = (0 : Int32) then (k_X13_arePlain_52 l3 s)
 else (k_X13_arePlain_48 l3 s))
 else (k_X13_arePlain_48 l3 s))
else none))
set_option maxRecDepth 4000 in
set_option maxHeartbeats 1000000 in
theorem B_X13_arePlain_9 {D : va_G} {cy : Nat → ClassId} {ad : Nat → Nat} {bs : Nat} {X : State → Heap → Prop} (l2 : Int32) (l3 : Int32) (s : t_S) (Q : (Int32 × Int32) ⊕ (Int32) → Prop) (Hb9 : ∀ (y0 : Int32) (y1 : Int32), Q (.inl (y0, y1)) → mj_G D cy ad bs X cX13_arePlain 4 yX13_arePlain.cls (some .boolean) yX13_arePlain.name 0 0 0 1065 (t_P (fun v s' => s' = s ∧ ∃ x, v = some (.int x) ∧ Q (.inr (x)))) 9 [(0, .ref 950), (2, .int (y0)), (3, .int (y1))] [] (t_m s) 1065 0 0) (hk : t_hk (k_X13_arePlain_9 l2 l3 s) Q) : mj_G D cy ad bs X cX13_arePlain 4 yX13_arePlain.cls (some .boolean) yX13_arePlain.name 0 0 0 1065 (t_P (fun v s' => s' = s ∧ ∃ x, v = some (.int x) ∧ Q (.inr (x)))) 9 [(0, .ref 950), (2, .int l2), (3, .int l3)] [] (t_m s) 1065 0 0 := by
  refine mj_iload_n dX13_arePlain_9 2 rfl ?_
  refine mj_if_lt 64 dX13_arePlain_10 (by decide) (fun z => t_posK hk z (fun hk => ?_)) (fun z => t_negK hk z (fun hk => ?_))
  · refine t_mapK hk (fun hk => ?_)
    refine mj_iload_n dX13_arePlain_64 1 rfl ?_
    refine t_chkK hk (fun c0 hk => ?_)
    exact t_somK hk (fun hf => t_iret dX13_arePlain_65 rfl (t_zfit c0) ⟨rfl, _, rfl, hf⟩ (Nat.le_of_ble_eq_true rfl) (Nat.le_of_ble_eq_true rfl))
  · refine mj_iload_n dX13_arePlain_13 1 rfl ?_
    refine mj_if_eq 52 dX13_arePlain_14 (by decide) (fun z => t_posK hk z (fun hk => ?_)) (fun z => t_negK hk z (fun hk => ?_))
    · refine mj_sublv [(0, .ref 950), (3, .int l3)] [0, 2] rfl ?_
      exact B_X13_arePlain_52 _ _ _ (fun y0 y1 hx => Hb9 y0 y1 hx) hk
    · refine mj_aload_n dX13_arePlain_17 0 rfl ?_
      refine t_getR 955 dX13_arePlain_18 F_X13_26 qr_950_17 ?_
      refine mj_iload_n dX13_arePlain_21 2 rfl ?_
      refine t_chkK hk (fun c1 hk => ?_)
      refine t_iald dX13_arePlain_22 qa_955 (t_ixv c1) ?_
      refine mj_bipush (v := 39) dX13_arePlain_23 (by decide) ?_
      refine mj_icmp_eq 52 dX13_arePlain_25 (by decide) (fun z => t_posK hk z (fun hk => ?_)) (fun z => t_negK hk z (fun hk => ?_))
      · refine mj_sublv [(0, .ref 950), (3, .int l3)] [0, 2] rfl ?_
        exact B_X13_arePlain_52 _ _ _ (fun y0 y1 hx => Hb9 y0 y1 hx) hk
      · refine mj_aload_n dX13_arePlain_28 0 rfl ?_
        refine t_getR 955 dX13_arePlain_29 F_X13_26 qr_950_17 ?_
        refine mj_iload_n dX13_arePlain_32 2 rfl ?_
        refine t_iald dX13_arePlain_33 qa_955 (t_ixv c1) ?_
        refine mj_bipush (v := 21) dX13_arePlain_34 (by decide) ?_
        refine mj_icmp_ne 48 dX13_arePlain_36 (by decide) (fun z => t_negK hk z (fun hk => ?_)) (fun z => t_posK hk z (fun hk => ?_))
        · refine mj_sublv [(0, .ref 950), (3, .int l3)] [0, 2] rfl ?_
          exact B_X13_arePlain_48 _ _ _ (fun y0 y1 hx => Hb9 y0 y1 hx) hk
        · refine mj_aload_n dX13_arePlain_39 0 rfl ?_
          refine t_getR 961 dX13_arePlain_40 F_X13_45 qr_950_23 ?_
          refine mj_iload_n dX13_arePlain_43 2 rfl ?_
          refine t_iald dX13_arePlain_44 qa_961 (t_ixv c1) ?_
          refine mj_if_eq 52 dX13_arePlain_45 (by decide) (fun z => t_posK hk z (fun hk => ?_)) (fun z => t_negK hk z (fun hk => ?_))
          · refine mj_sublv [(0, .ref 950), (3, .int l3)] [0, 2] rfl ?_
            exact B_X13_arePlain_52 _ _ _ (fun y0 y1 hx => Hb9 y0 y1 hx) hk
          · refine mj_sublv [(0, .ref 950), (3, .int l3)] [0, 2] rfl ?_
            exact B_X13_arePlain_48 _ _ _ (fun y0 y1 hx => Hb9 y0 y1 hx) hk
noncomputable def b_X13_arePlain_9 (s : t_S) (x : Int32 × Int32) : Option ((Int32 × Int32) ⊕ (Int32)) := k_X13_arePlain_9 x.1 x.2 s
set_option maxRecDepth 4000 in
set_option maxHeartbeats 1000000 in
theorem LH_X13_arePlain_9 {D : va_G} {cy : Nat → ClassId} {ad : Nat → Nat} {bs : Nat} {X : State → Heap → Prop} (s : t_S) : ∀ (n : Nat) (y0 : Int32) (y1 : Int32) (Q : Int32 → Prop) (hk : t_hk (t_loop (b_X13_arePlain_9 s) n (y0, y1)) Q), mj_G D cy ad bs X cX13_arePlain 4 yX13_arePlain.cls (some .boolean) yX13_arePlain.name 0 0 0 1065 (t_P (fun v s' => s' = s ∧ ∃ x, v = some (.int x) ∧ Q (x))) 9 [(0, .ref 950), (2, .int (y0)), (3, .int (y1))] [] (t_m s) 1065 0 0 := by
  intro n
  induction n with
  | zero => intro y0 y1 Q hk; obtain ⟨r, hr, _⟩ := hk; cases hr
  | succ n ih =>
    intro y0 y1 Q hk
    exact B_X13_arePlain_9 y0 y1 s (fun y => t_lq (b_X13_arePlain_9 s) n Q y) (fun y0' y1' hy => ih y0' y1' Q hy) (t_lp (b := b_X13_arePlain_9 s) (n := n) (x := (y0, y1)) hk)
noncomputable def f_X13_arePlain (x1 : Int32) (s : t_S) : Option (Int32) :=
 if t_ix x1 13000 = true then
  t_loop (b_X13_arePlain_9 s) t_N (1, (s.1 959 (x1.toNatClampNeg)))
else none
set_option maxRecDepth 4000 in
set_option maxHeartbeats 1000000 in
theorem C_X13_arePlain (x1 : Int32) (s : t_S) (r : Int32) (hr : f_X13_arePlain x1 s = some r) : t_C yX13_arePlain cX13_arePlain 4 (some .boolean) 0 [.ref 950, .int x1] s (fun v s' => v = some (.int r) ∧ s' = s) := by
  refine t_C.imp (P := fun v s' => s' = s ∧ ∃ x, v = some (.int x) ∧ (fun q => q = r) (x)) (t_C.of (by decide +kernel) (Nat.le_of_ble_eq_true rfl) ?_) (fun v s' hp => by obtain ⟨rfl, x, rfl, rfl⟩ := hp; exact ⟨rfl, rfl⟩)
  intro D cy ad bs X
  have hk : t_hk (f_X13_arePlain x1 s) (fun q => q = r) := ⟨r, hr, rfl⟩
  show mj_G D cy ad bs X cX13_arePlain 4 yX13_arePlain.cls (some .boolean) yX13_arePlain.name 0 0 0 1065 (t_P (fun v s' => s' = s ∧ ∃ x, v = some (.int x) ∧ (fun q => q = r) (x))) 0 [(0, .ref 950), (1, .int x1)] [] (t_m s) 1065 0 0
  refine mj_iconst (v := 1) dX13_arePlain_0 (by decide) ?_
  refine mj_istore_n 2 (lv2 := [(2, .int 1), (0, .ref 950), (1, .int x1)]) dX13_arePlain_1 rfl (by decide) rfl ?_
  refine mj_aload_n dX13_arePlain_2 1 rfl ?_
  refine t_getR 959 dX13_arePlain_3 F_X13_39 qr_950_21 ?_
  refine mj_iload_n dX13_arePlain_6 2 rfl ?_
  refine t_chkK hk (fun c0 hk => ?_)
  refine t_iald dX13_arePlain_7 qa_959 (t_ixv c0) ?_
  refine mj_istore_n 3 (lv2 := [(3, .int (s.1 959 (x1.toNatClampNeg))), (2, .int 1), (0, .ref 950), (1, .int x1)]) dX13_arePlain_8 rfl (by decide) rfl ?_
  refine mj_sublv [(0, .ref 950), (2, .int 1), (3, .int (s.1 959 (x1.toNatClampNeg)))] [2, 1, 0] rfl ?_
  exact LH_X13_arePlain_9 _ _ 1 (s.1 959 (x1.toNatClampNeg)) _ hk

theorem dX13_covers_0 : decode cX13_covers 0 = .ok (.lload_n 2, 1) := by decide +kernel
theorem dX13_covers_1 : decode cX13_covers 1 = .ok (.lstore 6, 2) := by decide +kernel
theorem dX13_covers_101 : decode cX13_covers 101 = .ok (.lload 6, 2) := by decide +kernel
theorem dX13_covers_103 : decode cX13_covers 103 = .ok (.lcmp, 1) := by decide +kernel
theorem dX13_covers_104 : decode cX13_covers 104 = .ok (.ifCond .lt 7, 3) := by decide +kernel
theorem dX13_covers_107 : decode cX13_covers 107 = .ok (.iconst 1, 1) := by decide +kernel
theorem dX13_covers_108 : decode cX13_covers 108 = .ok (.goto 4, 3) := by decide +kernel
theorem dX13_covers_11 : decode cX13_covers 11 = .ok (.lload 6, 2) := by decide +kernel
theorem dX13_covers_111 : decode cX13_covers 111 = .ok (.iconst 0, 1) := by decide +kernel
theorem dX13_covers_112 : decode cX13_covers 112 = .ok (.istore 8, 2) := by decide +kernel
theorem dX13_covers_114 : decode cX13_covers 114 = .ok (.lload 9, 2) := by decide +kernel
theorem dX13_covers_116 : decode cX13_covers 116 = .ok (.lconst 1, 1) := by decide +kernel
theorem dX13_covers_117 : decode cX13_covers 117 = .ok (.ladd, 1) := by decide +kernel
theorem dX13_covers_118 : decode cX13_covers 118 = .ok (.lstore 6, 2) := by decide +kernel
theorem dX13_covers_120 : decode cX13_covers 120 = .ok (.goto (-114), 3) := by decide +kernel
theorem dX13_covers_123 : decode cX13_covers 123 = .ok (.lload 6, 2) := by decide +kernel
theorem dX13_covers_125 : decode cX13_covers 125 = .ok (.lload 4, 2) := by decide +kernel
theorem dX13_covers_127 : decode cX13_covers 127 = .ok (.lcmp, 1) := by decide +kernel
theorem dX13_covers_128 : decode cX13_covers 128 = .ok (.ifCond .le 7, 3) := by decide +kernel
theorem dX13_covers_13 : decode cX13_covers 13 = .ok (.lload 4, 2) := by decide +kernel
theorem dX13_covers_131 : decode cX13_covers 131 = .ok (.iconst 1, 1) := by decide +kernel
theorem dX13_covers_132 : decode cX13_covers 132 = .ok (.goto 4, 3) := by decide +kernel
theorem dX13_covers_135 : decode cX13_covers 135 = .ok (.iconst 0, 1) := by decide +kernel
theorem dX13_covers_136 : decode cX13_covers 136 = .ok (.ireturn, 1) := by decide +kernel
theorem dX13_covers_15 : decode cX13_covers 15 = .ok (.lcmp, 1) := by decide +kernel
theorem dX13_covers_16 : decode cX13_covers 16 = .ok (.ifCond .gt 107, 3) := by decide +kernel
theorem dX13_covers_19 : decode cX13_covers 19 = .ok (.lload 6, 2) := by decide +kernel
theorem dX13_covers_21 : decode cX13_covers 21 = .ok (.lconst 1, 1) := by decide +kernel
theorem dX13_covers_22 : decode cX13_covers 22 = .ok (.lsub, 1) := by decide +kernel
theorem dX13_covers_23 : decode cX13_covers 23 = .ok (.lstore 9, 2) := by decide +kernel
theorem dX13_covers_25 : decode cX13_covers 25 = .ok (.aload_n 0, 1) := by decide +kernel
theorem dX13_covers_26 : decode cX13_covers 26 = .ok (.getfield 39, 3) := by decide +kernel
theorem dX13_covers_29 : decode cX13_covers 29 = .ok (.iload_n 1, 1) := by decide +kernel
theorem dX13_covers_3 : decode cX13_covers 3 = .ok (.iconst 1, 1) := by decide +kernel
theorem dX13_covers_30 : decode cX13_covers 30 = .ok (.iaload, 1) := by decide +kernel
theorem dX13_covers_31 : decode cX13_covers 31 = .ok (.istore 11, 2) := by decide +kernel
theorem dX13_covers_33 : decode cX13_covers 33 = .ok (.iload 11, 2) := by decide +kernel
theorem dX13_covers_35 : decode cX13_covers 35 = .ok (.ifCond .lt 64, 3) := by decide +kernel
theorem dX13_covers_38 : decode cX13_covers 38 = .ok (.lload 6, 2) := by decide +kernel
theorem dX13_covers_4 : decode cX13_covers 4 = .ok (.istore 8, 2) := by decide +kernel
theorem dX13_covers_40 : decode cX13_covers 40 = .ok (.aload_n 0, 1) := by decide +kernel
theorem dX13_covers_41 : decode cX13_covers 41 = .ok (.getfield 32, 3) := by decide +kernel
theorem dX13_covers_44 : decode cX13_covers 44 = .ok (.iload 11, 2) := by decide +kernel
theorem dX13_covers_46 : decode cX13_covers 46 = .ok (.laload, 1) := by decide +kernel
theorem dX13_covers_47 : decode cX13_covers 47 = .ok (.aload_n 0, 1) := by decide +kernel
theorem dX13_covers_48 : decode cX13_covers 48 = .ok (.getfield 36, 3) := by decide +kernel
theorem dX13_covers_51 : decode cX13_covers 51 = .ok (.iload 11, 2) := by decide +kernel
theorem dX13_covers_53 : decode cX13_covers 53 = .ok (.laload, 1) := by decide +kernel
theorem dX13_covers_54 : decode cX13_covers 54 = .ok (.invokestatic 371, 3) := by decide +kernel
theorem dX13_covers_57 : decode cX13_covers 57 = .ok (.ifCond .eq 26, 3) := by decide +kernel
theorem dX13_covers_6 : decode cX13_covers 6 = .ok (.iload 8, 2) := by decide +kernel
theorem dX13_covers_60 : decode cX13_covers 60 = .ok (.aload_n 0, 1) := by decide +kernel
theorem dX13_covers_61 : decode cX13_covers 61 = .ok (.getfield 36, 3) := by decide +kernel
theorem dX13_covers_64 : decode cX13_covers 64 = .ok (.iload 11, 2) := by decide +kernel
theorem dX13_covers_66 : decode cX13_covers 66 = .ok (.laload, 1) := by decide +kernel
theorem dX13_covers_67 : decode cX13_covers 67 = .ok (.lload 9, 2) := by decide +kernel
theorem dX13_covers_69 : decode cX13_covers 69 = .ok (.lcmp, 1) := by decide +kernel
theorem dX13_covers_70 : decode cX13_covers 70 = .ok (.ifCond .le 13, 3) := by decide +kernel
theorem dX13_covers_73 : decode cX13_covers 73 = .ok (.aload_n 0, 1) := by decide +kernel
theorem dX13_covers_74 : decode cX13_covers 74 = .ok (.getfield 36, 3) := by decide +kernel
theorem dX13_covers_77 : decode cX13_covers 77 = .ok (.iload 11, 2) := by decide +kernel
theorem dX13_covers_79 : decode cX13_covers 79 = .ok (.laload, 1) := by decide +kernel
theorem dX13_covers_8 : decode cX13_covers 8 = .ok (.ifCond .eq 115, 3) := by decide +kernel
theorem dX13_covers_80 : decode cX13_covers 80 = .ok (.goto 5, 3) := by decide +kernel
theorem dX13_covers_83 : decode cX13_covers 83 = .ok (.lload 9, 2) := by decide +kernel
theorem dX13_covers_85 : decode cX13_covers 85 = .ok (.lstore 9, 2) := by decide +kernel
theorem dX13_covers_87 : decode cX13_covers 87 = .ok (.aload_n 0, 1) := by decide +kernel
theorem dX13_covers_88 : decode cX13_covers 88 = .ok (.getfield 42, 3) := by decide +kernel
theorem dX13_covers_91 : decode cX13_covers 91 = .ok (.iload 11, 2) := by decide +kernel
theorem dX13_covers_93 : decode cX13_covers 93 = .ok (.iaload, 1) := by decide +kernel
theorem dX13_covers_94 : decode cX13_covers 94 = .ok (.istore 11, 2) := by decide +kernel
theorem dX13_covers_96 : decode cX13_covers 96 = .ok (.goto (-63), 3) := by decide +kernel
theorem dX13_covers_99 : decode cX13_covers 99 = .ok (.lload 9, 2) := by decide +kernel
noncomputable def k_X13_covers_112 (l1 : Int32) (l4 : Int64) (l9 : Int64) (k0 : Int32) (s : t_S) : Option ((Int32 × Int64 × Int64 × Int32) ⊕ (Int32)) :=
 some (.inl (l1, l4, (l9 + (1 : Int64)), k0))
set_option maxRecDepth 4000 in
set_option maxHeartbeats 1000000 in
theorem B_X13_covers_112 {D : va_G} {cy : Nat → ClassId} {ad : Nat → Nat} {bs : Nat} {X : State → Heap → Prop} (l1 : Int32) (l4 : Int64) (l9 : Int64) (k0 : Int32) (s : t_S) (Q : (Int32 × Int64 × Int64 × Int32) ⊕ (Int32) → Prop) (Hb6 : ∀ (y0 : Int32) (y1 : Int64) (y2 : Int64) (y3 : Int32), Q (.inl (y0, y1, y2, y3)) → mj_G D cy ad bs X cX13_covers 12 yX13_covers.cls (some .boolean) yX13_covers.name 1 0 0 1065 (t_P (fun v s' => s' = s ∧ ∃ x, v = some (.int x) ∧ Q (.inr (x)))) 6 [(0, .ref 950), (1, .int (y0)), (4, .long (y1)), (6, .long (y2)), (8, .int (y3))] [] (t_m s) 1065 0 0) (hk : t_hk (k_X13_covers_112 l1 l4 l9 k0 s) Q) : mj_G D cy ad bs X cX13_covers 12 yX13_covers.cls (some .boolean) yX13_covers.name 1 0 0 1065 (t_P (fun v s' => s' = s ∧ ∃ x, v = some (.int x) ∧ Q (.inr (x)))) 112 [(0, .ref 950), (1, .int l1), (4, .long l4), (9, .long l9)] [.int k0] (t_m s) 1065 0 0 := by
  refine mj_istore (lv2 := [(8, .int k0), (0, .ref 950), (1, .int l1), (4, .long l4), (9, .long l9)]) dX13_covers_112 (by decide) rfl ?_
  refine mj_lload dX13_covers_114 4 rfl ?_
  refine mj_lconst (v := 1) dX13_covers_116 (by decide) ?_
  refine mj_ladd dX13_covers_117 ?_
  refine mj_lstore (lv2 := [(6, .long (l9 + (1 : Int64))), (8, .int k0), (0, .ref 950), (1, .int l1), (4, .long l4), (9, .long l9)]) dX13_covers_118 (by decide) rfl ?_
  refine mj_goto 6 dX13_covers_120 (by decide) ?_
  refine mj_sublv [(0, .ref 950), (1, .int l1), (4, .long l4), (6, .long (l9 + (1 : Int64))), (8, .int k0)] [2, 3, 4, 0, 1] rfl ?_
  exact t_somK hk (fun hf => Hb6 l1 l4 (l9 + (1 : Int64)) k0 hf)
noncomputable def k_X13_covers_85 (l1 : Int32) (l4 : Int64) (l6 : Int64) (l11 : Int32) (k0 : Int64) (s : t_S) : Option ((Int32 × Int64 × Int64 × Int64 × Int32) ⊕ ((Int32 × Int64 × Int64 × Int32) ⊕ (Int32))) :=
 if t_ix l11 13000 = true then
  some (.inl (l1, l4, l6, k0, (s.1 960 (l11.toNatClampNeg))))
else none
set_option maxRecDepth 4000 in
set_option maxHeartbeats 1000000 in
theorem B_X13_covers_85 {D : va_G} {cy : Nat → ClassId} {ad : Nat → Nat} {bs : Nat} {X : State → Heap → Prop} (l1 : Int32) (l4 : Int64) (l6 : Int64) (l11 : Int32) (k0 : Int64) (s : t_S) (Q : (Int32 × Int64 × Int64 × Int64 × Int32) ⊕ ((Int32 × Int64 × Int64 × Int32) ⊕ (Int32)) → Prop) (Hb6 : ∀ (y0 : Int32) (y1 : Int64) (y2 : Int64) (y3 : Int32), Q (.inr (.inl (y0, y1, y2, y3))) → mj_G D cy ad bs X cX13_covers 12 yX13_covers.cls (some .boolean) yX13_covers.name 1 0 0 1065 (t_P (fun v s' => s' = s ∧ ∃ x, v = some (.int x) ∧ Q (.inr (.inr (x))))) 6 [(0, .ref 950), (1, .int (y0)), (4, .long (y1)), (6, .long (y2)), (8, .int (y3))] [] (t_m s) 1065 0 0) (Hb33 : ∀ (y0 : Int32) (y1 : Int64) (y2 : Int64) (y3 : Int64) (y4 : Int32), Q (.inl (y0, y1, y2, y3, y4)) → mj_G D cy ad bs X cX13_covers 12 yX13_covers.cls (some .boolean) yX13_covers.name 1 0 0 1065 (t_P (fun v s' => s' = s ∧ ∃ x, v = some (.int x) ∧ Q (.inr (.inr (x))))) 33 [(0, .ref 950), (1, .int (y0)), (4, .long (y1)), (6, .long (y2)), (9, .long (y3)), (11, .int (y4))] [] (t_m s) 1065 0 0) (hk : t_hk (k_X13_covers_85 l1 l4 l6 l11 k0 s) Q) : mj_G D cy ad bs X cX13_covers 12 yX13_covers.cls (some .boolean) yX13_covers.name 1 0 0 1065 (t_P (fun v s' => s' = s ∧ ∃ x, v = some (.int x) ∧ Q (.inr (.inr (x))))) 85 [(0, .ref 950), (1, .int l1), (4, .long l4), (6, .long l6), (11, .int l11)] [.long k0] (t_m s) 1065 0 0 := by
  refine mj_lstore (lv2 := [(9, .long k0), (0, .ref 950), (1, .int l1), (4, .long l4), (6, .long l6), (11, .int l11)]) dX13_covers_85 (by decide) rfl ?_
  refine mj_aload_n dX13_covers_87 1 rfl ?_
  refine t_getR 960 dX13_covers_88 F_X13_42 qr_950_22 ?_
  refine mj_iload dX13_covers_91 5 rfl ?_
  refine t_chkK hk (fun c0 hk => ?_)
  refine t_iald dX13_covers_93 qa_960 (t_ixv c0) ?_
  refine mj_istore (lv2 := [(11, .int (s.1 960 (l11.toNatClampNeg))), (9, .long k0), (0, .ref 950), (1, .int l1), (4, .long l4), (6, .long l6)]) dX13_covers_94 (by decide) rfl ?_
  refine mj_goto 33 dX13_covers_96 (by decide) ?_
  refine mj_sublv [(0, .ref 950), (1, .int l1), (4, .long l4), (6, .long l6), (9, .long k0), (11, .int (s.1 960 (l11.toNatClampNeg)))] [2, 3, 4, 5, 1, 0] rfl ?_
  exact t_somK hk (fun hf => Hb33 l1 l4 l6 k0 (s.1 960 (l11.toNatClampNeg)) hf)
noncomputable def k_X13_covers_83 (l1 : Int32) (l4 : Int64) (l6 : Int64) (l9 : Int64) (l11 : Int32) (s : t_S) : Option ((Int32 × Int64 × Int64 × Int64 × Int32) ⊕ ((Int32 × Int64 × Int64 × Int32) ⊕ (Int32))) :=
 k_X13_covers_85 l1 l4 l6 l11 l9 s
set_option maxRecDepth 4000 in
set_option maxHeartbeats 1000000 in
theorem B_X13_covers_83 {D : va_G} {cy : Nat → ClassId} {ad : Nat → Nat} {bs : Nat} {X : State → Heap → Prop} (l1 : Int32) (l4 : Int64) (l6 : Int64) (l9 : Int64) (l11 : Int32) (s : t_S) (Q : (Int32 × Int64 × Int64 × Int64 × Int32) ⊕ ((Int32 × Int64 × Int64 × Int32) ⊕ (Int32)) → Prop) (Hb6 : ∀ (y0 : Int32) (y1 : Int64) (y2 : Int64) (y3 : Int32), Q (.inr (.inl (y0, y1, y2, y3))) → mj_G D cy ad bs X cX13_covers 12 yX13_covers.cls (some .boolean) yX13_covers.name 1 0 0 1065 (t_P (fun v s' => s' = s ∧ ∃ x, v = some (.int x) ∧ Q (.inr (.inr (x))))) 6 [(0, .ref 950), (1, .int (y0)), (4, .long (y1)), (6, .long (y2)), (8, .int (y3))] [] (t_m s) 1065 0 0) (Hb33 : ∀ (y0 : Int32) (y1 : Int64) (y2 : Int64) (y3 : Int64) (y4 : Int32), Q (.inl (y0, y1, y2, y3, y4)) → mj_G D cy ad bs X cX13_covers 12 yX13_covers.cls (some .boolean) yX13_covers.name 1 0 0 1065 (t_P (fun v s' => s' = s ∧ ∃ x, v = some (.int x) ∧ Q (.inr (.inr (x))))) 33 [(0, .ref 950), (1, .int (y0)), (4, .long (y1)), (6, .long (y2)), (9, .long (y3)), (11, .int (y4))] [] (t_m s) 1065 0 0) (hk : t_hk (k_X13_covers_83 l1 l4 l6 l9 l11 s) Q) : mj_G D cy ad bs X cX13_covers 12 yX13_covers.cls (some .boolean) yX13_covers.name 1 0 0 1065 (t_P (fun v s' => s' = s ∧ ∃ x, v = some (.int x) ∧ Q (.inr (.inr (x))))) 83 [(0, .ref 950), (1, .int l1), (4, .long l4), (6, .long l6), (9, .long l9), (11, .int l11)] [] (t_m s) 1065 0 0 := by
  refine mj_lload dX13_covers_83 4 rfl ?_
  refine mj_sublv [(0, .ref 950), (1, .int l1), (4, .long l4), (6, .long l6), (11, .int l11)] [0, 1, 2, 3, 5] rfl ?_
  exact B_X13_covers_85 _ _ _ _ _ _ _ (fun y0 y1 y2 y3 hx => Hb6 y0 y1 y2 y3 hx) (fun y0 y1 y2 y3 y4 hx => Hb33 y0 y1 y2 y3 y4 hx) hk
noncomputable def k_X13_covers_33 (l1 : Int32) (l4 : Int64) (l6 : Int64) (l9 : Int64) (l11 : Int32) (s : t_S) : Option ((Int32 × Int64 × Int64 × Int64 × Int32) ⊕ ((Int32 × Int64 × Int64 × Int32) ⊕ (Int32))) :=
 if l11 < (0 : Int32) then ((if (lg_cmp l9 l6) < (0 : Int32) then (k_X13_covers_112 l1 l4 l9 0 s)
 else (k_X13_covers_112 l1 l4 l9 1 s)).map Sum.inr)
 else (if t_ix l11 13000 = true then
  if (f_X13_in l6 (s.2.1 957 (l11.toNatClampNeg)) (s.2.1 958 (l11.toNatClampNeg)) s) = (0 : Int32) then (k_X13_covers_83 l1 l4 l6 l9 l11 s)
 else (if (lg_cmp (s.2.1 958 (l11.toNatClampNeg)) l9) ≤ (0 : Int32) then (k_X13_covers_83 l1 l4 l6 l9 l11 s)
 else (k_X13_covers_85 l1 l4 l6 l11 (s.2.1 958 (l11.toNatClampNeg)) s))
else none)
set_option maxRecDepth 4000 in
set_option maxHeartbeats 1000000 in
theorem B_X13_covers_33 {D : va_G} {cy : Nat → ClassId} {ad : Nat → Nat} {bs : Nat} {X : State → Heap → Prop} (l1 : Int32) (l4 : Int64) (l6 : Int64) (l9 : Int64) (l11 : Int32) (s : t_S) (Q : (Int32 × Int64 × Int64 × Int64 × Int32) ⊕ ((Int32 × Int64 × Int64 × Int32) ⊕ (Int32)) → Prop) (Hb6 : ∀ (y0 : Int32) (y1 : Int64) (y2 : Int64) (y3 : Int32), Q (.inr (.inl (y0, y1, y2, y3))) → mj_G D cy ad bs X cX13_covers 12 yX13_covers.cls (some .boolean) yX13_covers.name 1 0 0 1065 (t_P (fun v s' => s' = s ∧ ∃ x, v = some (.int x) ∧ Q (.inr (.inr (x))))) 6 [(0, .ref 950), (1, .int (y0)), (4, .long (y1)), (6, .long (y2)), (8, .int (y3))] [] (t_m s) 1065 0 0) (Hb33 : ∀ (y0 : Int32) (y1 : Int64) (y2 : Int64) (y3 : Int64) (y4 : Int32), Q (.inl (y0, y1, y2, y3, y4)) → mj_G D cy ad bs X cX13_covers 12 yX13_covers.cls (some .boolean) yX13_covers.name 1 0 0 1065 (t_P (fun v s' => s' = s ∧ ∃ x, v = some (.int x) ∧ Q (.inr (.inr (x))))) 33 [(0, .ref 950), (1, .int (y0)), (4, .long (y1)), (6, .long (y2)), (9, .long (y3)), (11, .int (y4))] [] (t_m s) 1065 0 0) (hk : t_hk (k_X13_covers_33 l1 l4 l6 l9 l11 s) Q) : mj_G D cy ad bs X cX13_covers 12 yX13_covers.cls (some .boolean) yX13_covers.name 1 0 0 1065 (t_P (fun v s' => s' = s ∧ ∃ x, v = some (.int x) ∧ Q (.inr (.inr (x))))) 33 [(0, .ref 950), (1, .int l1), (4, .long l4), (6, .long l6), (9, .long l9), (11, .int l11)] [] (t_m s) 1065 0 0 := by
  refine mj_iload dX13_covers_33 5 rfl ?_
  refine mj_if_lt 99 dX13_covers_35 (by decide) (fun z => t_posK hk z (fun hk => ?_)) (fun z => t_negK hk z (fun hk => ?_))
  · refine t_mapK hk (fun hk => ?_)
    refine mj_lload dX13_covers_99 4 rfl ?_
    refine mj_lload dX13_covers_101 3 rfl ?_
    refine mj_lcmp dX13_covers_103 ?_
    refine mj_if_lt 111 dX13_covers_104 (by decide) (fun z => t_posK hk z (fun hk => ?_)) (fun z => t_negK hk z (fun hk => ?_))
    · refine mj_iconst (v := 0) dX13_covers_111 (by decide) ?_
      refine mj_sublv [(0, .ref 950), (1, .int l1), (4, .long l4), (9, .long l9)] [0, 1, 2, 4] rfl ?_
      exact B_X13_covers_112 _ _ _ _ _ _ (fun y0 y1 y2 y3 hx => Hb6 y0 y1 y2 y3 hx) hk
    · refine mj_iconst (v := 1) dX13_covers_107 (by decide) ?_
      refine mj_goto 112 dX13_covers_108 (by decide) ?_
      refine mj_sublv [(0, .ref 950), (1, .int l1), (4, .long l4), (9, .long l9)] [0, 1, 2, 4] rfl ?_
      exact B_X13_covers_112 _ _ _ _ _ _ (fun y0 y1 y2 y3 hx => Hb6 y0 y1 y2 y3 hx) hk
  · refine mj_lload dX13_covers_38 3 rfl ?_
    refine mj_aload_n dX13_covers_40 0 rfl ?_
    refine t_getR 957 dX13_covers_41 F_X13_32 qr_950_19 ?_
    refine mj_iload dX13_covers_44 5 rfl ?_
    refine t_chkK hk (fun c0 hk => ?_)
    refine t_lald dX13_covers_46 qa_957 (t_ixv c0) ?_
    refine mj_aload_n dX13_covers_47 0 rfl ?_
    refine t_getR 958 dX13_covers_48 F_X13_36 qr_950_20 ?_
    refine mj_iload dX13_covers_51 5 rfl ?_
    refine t_lald dX13_covers_53 qa_958 (t_ixv c0) ?_
    refine t_callSiP dX13_covers_54 M_X13_in (C_X13_in _ _ _ _) ML_X13_371 SM_X13_in (As := [.long l6, .long (s.2.1 957 (l11.toNatClampNeg)), .long (s.2.1 958 (l11.toNatClampNeg))]) rfl rfl (Nat.le_of_ble_eq_true rfl) (Nat.le_of_ble_eq_true rfl) (Nat.le_of_ble_eq_true rfl) (Nat.le_of_ble_eq_true rfl) ?_
    refine mj_if_eq 83 dX13_covers_57 (by decide) (fun z => t_posK hk z (fun hk => ?_)) (fun z => t_negK hk z (fun hk => ?_))
    · exact B_X13_covers_83 _ _ _ _ _ _ _ (fun y0 y1 y2 y3 hx => Hb6 y0 y1 y2 y3 hx) (fun y0 y1 y2 y3 y4 hx => Hb33 y0 y1 y2 y3 y4 hx) hk
    · refine mj_aload_n dX13_covers_60 0 rfl ?_
      refine t_getR 958 dX13_covers_61 F_X13_36 qr_950_20 ?_
      refine mj_iload dX13_covers_64 5 rfl ?_
      refine t_lald dX13_covers_66 qa_958 (t_ixv c0) ?_
      refine mj_lload dX13_covers_67 4 rfl ?_
      refine mj_lcmp dX13_covers_69 ?_
      refine mj_if_le 83 dX13_covers_70 (by decide) (fun z => t_posK hk z (fun hk => ?_)) (fun z => t_negK hk z (fun hk => ?_))
      · exact B_X13_covers_83 _ _ _ _ _ _ _ (fun y0 y1 y2 y3 hx => Hb6 y0 y1 y2 y3 hx) (fun y0 y1 y2 y3 y4 hx => Hb33 y0 y1 y2 y3 y4 hx) hk
      · refine mj_aload_n dX13_covers_73 0 rfl ?_
        refine t_getR 958 dX13_covers_74 F_X13_36 qr_950_20 ?_
        refine mj_iload dX13_covers_77 5 rfl ?_
        refine t_lald dX13_covers_79 qa_958 (t_ixv c0) ?_
        refine mj_goto 85 dX13_covers_80 (by decide) ?_
        refine mj_sublv [(0, .ref 950), (1, .int l1), (4, .long l4), (6, .long l6), (11, .int l11)] [0, 1, 2, 3, 5] rfl ?_
        exact B_X13_covers_85 _ _ _ _ _ _ _ (fun y0 y1 y2 y3 hx => Hb6 y0 y1 y2 y3 hx) (fun y0 y1 y2 y3 y4 hx => Hb33 y0 y1 y2 y3 y4 hx) hk
noncomputable def b_X13_covers_33 (s : t_S) (x : Int32 × Int64 × Int64 × Int64 × Int32) : Option ((Int32 × Int64 × Int64 × Int64 × Int32) ⊕ ((Int32 × Int64 × Int64 × Int32) ⊕ (Int32))) := k_X13_covers_33 x.1 x.2.1 x.2.2.1 x.2.2.2.1 x.2.2.2.2 s
set_option maxRecDepth 4000 in
set_option maxHeartbeats 1000000 in
theorem LH_X13_covers_33 {D : va_G} {cy : Nat → ClassId} {ad : Nat → Nat} {bs : Nat} {X : State → Heap → Prop} (s : t_S) : ∀ (n : Nat) (y0 : Int32) (y1 : Int64) (y2 : Int64) (y3 : Int64) (y4 : Int32) (Q : (Int32 × Int64 × Int64 × Int32) ⊕ (Int32) → Prop) (Hb6 : ∀ (y0 : Int32) (y1 : Int64) (y2 : Int64) (y3 : Int32), Q (.inl (y0, y1, y2, y3)) → mj_G D cy ad bs X cX13_covers 12 yX13_covers.cls (some .boolean) yX13_covers.name 1 0 0 1065 (t_P (fun v s' => s' = s ∧ ∃ x, v = some (.int x) ∧ Q (.inr (x)))) 6 [(0, .ref 950), (1, .int (y0)), (4, .long (y1)), (6, .long (y2)), (8, .int (y3))] [] (t_m s) 1065 0 0) (hk : t_hk (t_loop (b_X13_covers_33 s) n (y0, y1, y2, y3, y4)) Q), mj_G D cy ad bs X cX13_covers 12 yX13_covers.cls (some .boolean) yX13_covers.name 1 0 0 1065 (t_P (fun v s' => s' = s ∧ ∃ x, v = some (.int x) ∧ Q (.inr (x)))) 33 [(0, .ref 950), (1, .int (y0)), (4, .long (y1)), (6, .long (y2)), (9, .long (y3)), (11, .int (y4))] [] (t_m s) 1065 0 0 := by
  intro n
  induction n with
  | zero => intro y0 y1 y2 y3 y4 Q Hb6 hk; obtain ⟨r, hr, _⟩ := hk; cases hr
  | succ n ih =>
    intro y0 y1 y2 y3 y4 Q Hb6 hk
    exact B_X13_covers_33 y0 y1 y2 y3 y4 s (fun y => t_lq (b_X13_covers_33 s) n Q y) (fun y0' y1' y2' y3' hy => Hb6 y0' y1' y2' y3' hy) (fun y0' y1' y2' y3' y4' hy => ih y0' y1' y2' y3' y4' Q Hb6 hy) (t_lp (b := b_X13_covers_33 s) (n := n) (x := (y0, y1, y2, y3, y4)) hk)
noncomputable def k_X13_covers_123 (l4 : Int64) (l6 : Int64) (s : t_S) : Option (Int32) :=
 if (lg_cmp l6 l4) ≤ (0 : Int32) then (some (0 : Int32))
 else (some (1 : Int32))
set_option maxRecDepth 4000 in
set_option maxHeartbeats 1000000 in
theorem B_X13_covers_123 {D : va_G} {cy : Nat → ClassId} {ad : Nat → Nat} {bs : Nat} {X : State → Heap → Prop} (l4 : Int64) (l6 : Int64) (s : t_S) (Q : Int32 → Prop) (hk : t_hk (k_X13_covers_123 l4 l6 s) Q) : mj_G D cy ad bs X cX13_covers 12 yX13_covers.cls (some .boolean) yX13_covers.name 1 0 0 1065 (t_P (fun v s' => s' = s ∧ ∃ x, v = some (.int x) ∧ Q (x))) 123 [(4, .long l4), (6, .long l6)] [] (t_m s) 1065 0 0 := by
  refine mj_lload dX13_covers_123 1 rfl ?_
  refine mj_lload dX13_covers_125 0 rfl ?_
  refine mj_lcmp dX13_covers_127 ?_
  refine mj_if_le 135 dX13_covers_128 (by decide) (fun z => t_posK hk z (fun hk => ?_)) (fun z => t_negK hk z (fun hk => ?_))
  · refine mj_iconst (v := 0) dX13_covers_135 (by decide) ?_
    exact t_somK hk (fun hf => t_iret dX13_covers_136 rfl (by decide) ⟨rfl, _, rfl, hf⟩ (Nat.le_of_ble_eq_true rfl) (Nat.le_of_ble_eq_true rfl))
  · refine mj_iconst (v := 1) dX13_covers_131 (by decide) ?_
    refine mj_goto 136 dX13_covers_132 (by decide) ?_
    exact t_somK hk (fun hf => t_iret dX13_covers_136 rfl (by decide) ⟨rfl, _, rfl, hf⟩ (Nat.le_of_ble_eq_true rfl) (Nat.le_of_ble_eq_true rfl))
noncomputable def k_X13_covers_6 (l1 : Int32) (l4 : Int64) (l6 : Int64) (l8 : Int32) (s : t_S) : Option ((Int32 × Int64 × Int64 × Int32) ⊕ (Int32)) :=
 if l8 = (0 : Int32) then ((k_X13_covers_123 l4 l6 s).map Sum.inr)
 else (if (0 : Int32) < (lg_cmp l6 l4) then ((k_X13_covers_123 l4 l6 s).map Sum.inr)
 else (if t_ix l1 13000 = true then
  t_loop (b_X13_covers_33 s) t_N (l1, l4, l6, (l6 - (1 : Int64)), (s.1 959 (l1.toNatClampNeg)))
else none))
set_option maxRecDepth 4000 in
set_option maxHeartbeats 1000000 in
theorem B_X13_covers_6 {D : va_G} {cy : Nat → ClassId} {ad : Nat → Nat} {bs : Nat} {X : State → Heap → Prop} (l1 : Int32) (l4 : Int64) (l6 : Int64) (l8 : Int32) (s : t_S) (Q : (Int32 × Int64 × Int64 × Int32) ⊕ (Int32) → Prop) (Hb6 : ∀ (y0 : Int32) (y1 : Int64) (y2 : Int64) (y3 : Int32), Q (.inl (y0, y1, y2, y3)) → mj_G D cy ad bs X cX13_covers 12 yX13_covers.cls (some .boolean) yX13_covers.name 1 0 0 1065 (t_P (fun v s' => s' = s ∧ ∃ x, v = some (.int x) ∧ Q (.inr (x)))) 6 [(0, .ref 950), (1, .int (y0)), (4, .long (y1)), (6, .long (y2)), (8, .int (y3))] [] (t_m s) 1065 0 0) (hk : t_hk (k_X13_covers_6 l1 l4 l6 l8 s) Q) : mj_G D cy ad bs X cX13_covers 12 yX13_covers.cls (some .boolean) yX13_covers.name 1 0 0 1065 (t_P (fun v s' => s' = s ∧ ∃ x, v = some (.int x) ∧ Q (.inr (x)))) 6 [(0, .ref 950), (1, .int l1), (4, .long l4), (6, .long l6), (8, .int l8)] [] (t_m s) 1065 0 0 := by
  refine mj_iload dX13_covers_6 4 rfl ?_
  refine mj_if_eq 123 dX13_covers_8 (by decide) (fun z => t_posK hk z (fun hk => ?_)) (fun z => t_negK hk z (fun hk => ?_))
  · refine mj_sublv [(4, .long l4), (6, .long l6)] [2, 3] rfl ?_
    refine t_mapK hk (fun hk => ?_)
    exact B_X13_covers_123 _ _ _ _ hk
  · refine mj_lload dX13_covers_11 3 rfl ?_
    refine mj_lload dX13_covers_13 2 rfl ?_
    refine mj_lcmp dX13_covers_15 ?_
    refine mj_if_gt 123 dX13_covers_16 (by decide) (fun z => t_posK hk z (fun hk => ?_)) (fun z => t_negK hk z (fun hk => ?_))
    · refine mj_sublv [(4, .long l4), (6, .long l6)] [2, 3] rfl ?_
      refine t_mapK hk (fun hk => ?_)
      exact B_X13_covers_123 _ _ _ _ hk
    · refine mj_lload dX13_covers_19 3 rfl ?_
      refine mj_lconst (v := 1) dX13_covers_21 (by decide) ?_
      refine mj_lsub dX13_covers_22 ?_
      refine mj_lstore (lv2 := [(9, .long (l6 - (1 : Int64))), (0, .ref 950), (1, .int l1), (4, .long l4), (6, .long l6), (8, .int l8)]) dX13_covers_23 (by decide) rfl ?_
      refine mj_aload_n dX13_covers_25 1 rfl ?_
      refine t_getR 959 dX13_covers_26 F_X13_39 qr_950_21 ?_
      refine mj_iload_n dX13_covers_29 2 rfl ?_
      refine t_chkK hk (fun c0 hk => ?_)
      refine t_iald dX13_covers_30 qa_959 (t_ixv c0) ?_
      refine mj_istore (lv2 := [(11, .int (s.1 959 (l1.toNatClampNeg))), (9, .long (l6 - (1 : Int64))), (0, .ref 950), (1, .int l1), (4, .long l4), (6, .long l6), (8, .int l8)]) dX13_covers_31 (by decide) rfl ?_
      refine mj_sublv [(0, .ref 950), (1, .int l1), (4, .long l4), (6, .long l6), (9, .long (l6 - (1 : Int64))), (11, .int (s.1 959 (l1.toNatClampNeg)))] [2, 3, 4, 5, 1, 0] rfl ?_
      exact LH_X13_covers_33 _ _ l1 l4 l6 (l6 - (1 : Int64)) (s.1 959 (l1.toNatClampNeg)) _ (fun y0 y1 y2 y3 hx => Hb6 y0 y1 y2 y3 hx) hk
noncomputable def b_X13_covers_6 (s : t_S) (x : Int32 × Int64 × Int64 × Int32) : Option ((Int32 × Int64 × Int64 × Int32) ⊕ (Int32)) := k_X13_covers_6 x.1 x.2.1 x.2.2.1 x.2.2.2 s
set_option maxRecDepth 4000 in
set_option maxHeartbeats 1000000 in
theorem LH_X13_covers_6 {D : va_G} {cy : Nat → ClassId} {ad : Nat → Nat} {bs : Nat} {X : State → Heap → Prop} (s : t_S) : ∀ (n : Nat) (y0 : Int32) (y1 : Int64) (y2 : Int64) (y3 : Int32) (Q : Int32 → Prop) (hk : t_hk (t_loop (b_X13_covers_6 s) n (y0, y1, y2, y3)) Q), mj_G D cy ad bs X cX13_covers 12 yX13_covers.cls (some .boolean) yX13_covers.name 1 0 0 1065 (t_P (fun v s' => s' = s ∧ ∃ x, v = some (.int x) ∧ Q (x))) 6 [(0, .ref 950), (1, .int (y0)), (4, .long (y1)), (6, .long (y2)), (8, .int (y3))] [] (t_m s) 1065 0 0 := by
  intro n
  induction n with
  | zero => intro y0 y1 y2 y3 Q hk; obtain ⟨r, hr, _⟩ := hk; cases hr
  | succ n ih =>
    intro y0 y1 y2 y3 Q hk
    exact B_X13_covers_6 y0 y1 y2 y3 s (fun y => t_lq (b_X13_covers_6 s) n Q y) (fun y0' y1' y2' y3' hy => ih y0' y1' y2' y3' Q hy) (t_lp (b := b_X13_covers_6 s) (n := n) (x := (y0, y1, y2, y3)) hk)
noncomputable def f_X13_covers (x1 : Int32) (x2 : Int64) (x3 : Int64) (s : t_S) : Option (Int32) :=
 t_loop (b_X13_covers_6 s) t_N (x1, x3, x2, 1)
set_option maxRecDepth 4000 in
set_option maxHeartbeats 1000000 in
theorem C_X13_covers (x1 : Int32) (x2 : Int64) (x3 : Int64) (s : t_S) (r : Int32) (hr : f_X13_covers x1 x2 x3 s = some r) : t_C yX13_covers cX13_covers 12 (some .boolean) 1 [.ref 950, .int x1, .long x2, .long x3] s (fun v s' => v = some (.int r) ∧ s' = s) := by
  refine t_C.imp (P := fun v s' => s' = s ∧ ∃ x, v = some (.int x) ∧ (fun q => q = r) (x)) (t_C.of (by decide +kernel) (Nat.le_of_ble_eq_true rfl) ?_) (fun v s' hp => by obtain ⟨rfl, x, rfl, rfl⟩ := hp; exact ⟨rfl, rfl⟩)
  intro D cy ad bs X
  have hk : t_hk (f_X13_covers x1 x2 x3 s) (fun q => q = r) := ⟨r, hr, rfl⟩
  show mj_G D cy ad bs X cX13_covers 12 yX13_covers.cls (some .boolean) yX13_covers.name 1 0 0 1065 (t_P (fun v s' => s' = s ∧ ∃ x, v = some (.int x) ∧ (fun q => q = r) (x))) 0 [(0, .ref 950), (1, .int x1), (2, .long x2), (4, .long x3)] [] (t_m s) 1065 0 0
  refine mj_lload_n dX13_covers_0 2 rfl ?_
  refine mj_lstore (lv2 := [(6, .long x2), (0, .ref 950), (1, .int x1), (2, .long x2), (4, .long x3)]) dX13_covers_1 (by decide) rfl ?_
  refine mj_iconst (v := 1) dX13_covers_3 (by decide) ?_
  refine mj_istore (lv2 := [(8, .int 1), (6, .long x2), (0, .ref 950), (1, .int x1), (2, .long x2), (4, .long x3)]) dX13_covers_4 (by decide) rfl ?_
  refine mj_sublv [(0, .ref 950), (1, .int x1), (4, .long x3), (6, .long x2), (8, .int 1)] [2, 3, 5, 1, 0] rfl ?_
  exact LH_X13_covers_6 _ _ x1 x3 x2 1 _ hk

theorem dX13_coversRanges_0 : decode cX13_coversRanges 0 = .ok (.aload_n 0, 1) := by decide +kernel
theorem dX13_coversRanges_1 : decode cX13_coversRanges 1 = .ok (.getfield 39, 3) := by decide +kernel
theorem dX13_coversRanges_10 : decode cX13_coversRanges 10 = .ok (.ireturn, 1) := by decide +kernel
theorem dX13_coversRanges_11 : decode cX13_coversRanges 11 = .ok (.aload_n 0, 1) := by decide +kernel
theorem dX13_coversRanges_12 : decode cX13_coversRanges 12 = .ok (.getfield 39, 3) := by decide +kernel
theorem dX13_coversRanges_15 : decode cX13_coversRanges 15 = .ok (.iload_n 1, 1) := by decide +kernel
theorem dX13_coversRanges_16 : decode cX13_coversRanges 16 = .ok (.iaload, 1) := by decide +kernel
theorem dX13_coversRanges_17 : decode cX13_coversRanges 17 = .ok (.ifCond .ge 15, 3) := by decide +kernel
theorem dX13_coversRanges_20 : decode cX13_coversRanges 20 = .ok (.aload_n 0, 1) := by decide +kernel
theorem dX13_coversRanges_21 : decode cX13_coversRanges 21 = .ok (.iload_n 2, 1) := by decide +kernel
theorem dX13_coversRanges_22 : decode cX13_coversRanges 22 = .ok (.ldc2_w 522, 3) := by decide +kernel
theorem dX13_coversRanges_25 : decode cX13_coversRanges 25 = .ok (.ldc2_w 864, 3) := by decide +kernel
theorem dX13_coversRanges_28 : decode cX13_coversRanges 28 = .ok (.invokevirtual 1098, 3) := by decide +kernel
theorem dX13_coversRanges_31 : decode cX13_coversRanges 31 = .ok (.ireturn, 1) := by decide +kernel
theorem dX13_coversRanges_32 : decode cX13_coversRanges 32 = .ok (.iconst 1, 1) := by decide +kernel
theorem dX13_coversRanges_33 : decode cX13_coversRanges 33 = .ok (.istore_n 3, 1) := by decide +kernel
theorem dX13_coversRanges_34 : decode cX13_coversRanges 34 = .ok (.aload_n 0, 1) := by decide +kernel
theorem dX13_coversRanges_35 : decode cX13_coversRanges 35 = .ok (.getfield 39, 3) := by decide +kernel
theorem dX13_coversRanges_38 : decode cX13_coversRanges 38 = .ok (.iload_n 1, 1) := by decide +kernel
theorem dX13_coversRanges_39 : decode cX13_coversRanges 39 = .ok (.iaload, 1) := by decide +kernel
theorem dX13_coversRanges_4 : decode cX13_coversRanges 4 = .ok (.iload_n 2, 1) := by decide +kernel
theorem dX13_coversRanges_40 : decode cX13_coversRanges 40 = .ok (.istore 4, 2) := by decide +kernel
theorem dX13_coversRanges_42 : decode cX13_coversRanges 42 = .ok (.iload 4, 2) := by decide +kernel
theorem dX13_coversRanges_44 : decode cX13_coversRanges 44 = .ok (.ifCond .lt 47, 3) := by decide +kernel
theorem dX13_coversRanges_47 : decode cX13_coversRanges 47 = .ok (.iload_n 3, 1) := by decide +kernel
theorem dX13_coversRanges_48 : decode cX13_coversRanges 48 = .ok (.ifCond .eq 29, 3) := by decide +kernel
theorem dX13_coversRanges_5 : decode cX13_coversRanges 5 = .ok (.iaload, 1) := by decide +kernel
theorem dX13_coversRanges_51 : decode cX13_coversRanges 51 = .ok (.aload_n 0, 1) := by decide +kernel
theorem dX13_coversRanges_52 : decode cX13_coversRanges 52 = .ok (.iload_n 2, 1) := by decide +kernel
theorem dX13_coversRanges_53 : decode cX13_coversRanges 53 = .ok (.aload_n 0, 1) := by decide +kernel
theorem dX13_coversRanges_54 : decode cX13_coversRanges 54 = .ok (.getfield 32, 3) := by decide +kernel
theorem dX13_coversRanges_57 : decode cX13_coversRanges 57 = .ok (.iload 4, 2) := by decide +kernel
theorem dX13_coversRanges_59 : decode cX13_coversRanges 59 = .ok (.laload, 1) := by decide +kernel
theorem dX13_coversRanges_6 : decode cX13_coversRanges 6 = .ok (.ifCond .ge 5, 3) := by decide +kernel
theorem dX13_coversRanges_60 : decode cX13_coversRanges 60 = .ok (.aload_n 0, 1) := by decide +kernel
theorem dX13_coversRanges_61 : decode cX13_coversRanges 61 = .ok (.getfield 36, 3) := by decide +kernel
theorem dX13_coversRanges_64 : decode cX13_coversRanges 64 = .ok (.iload 4, 2) := by decide +kernel
theorem dX13_coversRanges_66 : decode cX13_coversRanges 66 = .ok (.laload, 1) := by decide +kernel
theorem dX13_coversRanges_67 : decode cX13_coversRanges 67 = .ok (.invokevirtual 1098, 3) := by decide +kernel
theorem dX13_coversRanges_70 : decode cX13_coversRanges 70 = .ok (.ifCond .eq 7, 3) := by decide +kernel
theorem dX13_coversRanges_73 : decode cX13_coversRanges 73 = .ok (.iconst 1, 1) := by decide +kernel
theorem dX13_coversRanges_74 : decode cX13_coversRanges 74 = .ok (.goto 4, 3) := by decide +kernel
theorem dX13_coversRanges_77 : decode cX13_coversRanges 77 = .ok (.iconst 0, 1) := by decide +kernel
theorem dX13_coversRanges_78 : decode cX13_coversRanges 78 = .ok (.istore_n 3, 1) := by decide +kernel
theorem dX13_coversRanges_79 : decode cX13_coversRanges 79 = .ok (.aload_n 0, 1) := by decide +kernel
theorem dX13_coversRanges_80 : decode cX13_coversRanges 80 = .ok (.getfield 42, 3) := by decide +kernel
theorem dX13_coversRanges_83 : decode cX13_coversRanges 83 = .ok (.iload 4, 2) := by decide +kernel
theorem dX13_coversRanges_85 : decode cX13_coversRanges 85 = .ok (.iaload, 1) := by decide +kernel
theorem dX13_coversRanges_86 : decode cX13_coversRanges 86 = .ok (.istore 4, 2) := by decide +kernel
theorem dX13_coversRanges_88 : decode cX13_coversRanges 88 = .ok (.goto (-46), 3) := by decide +kernel
theorem dX13_coversRanges_9 : decode cX13_coversRanges 9 = .ok (.iconst 1, 1) := by decide +kernel
theorem dX13_coversRanges_91 : decode cX13_coversRanges 91 = .ok (.iload_n 3, 1) := by decide +kernel
theorem dX13_coversRanges_92 : decode cX13_coversRanges 92 = .ok (.ireturn, 1) := by decide +kernel
noncomputable def k_X13_coversRanges_78 (l2 : Int32) (l4 : Int32) (k0 : Int32) (s : t_S) : Option ((Int32 × Int32 × Int32) ⊕ (Int32)) :=
 if t_ix l4 13000 = true then
  some (.inl (l2, k0, (s.1 960 (l4.toNatClampNeg))))
else none
set_option maxRecDepth 4000 in
set_option maxHeartbeats 1000000 in
theorem B_X13_coversRanges_78 {D : va_G} {cy : Nat → ClassId} {ad : Nat → Nat} {bs : Nat} {X : State → Heap → Prop} (l2 : Int32) (l4 : Int32) (k0 : Int32) (s : t_S) (Q : (Int32 × Int32 × Int32) ⊕ (Int32) → Prop) (Hb42 : ∀ (y0 : Int32) (y1 : Int32) (y2 : Int32), Q (.inl (y0, y1, y2)) → mj_G D cy ad bs X cX13_coversRanges 5 yX13_coversRanges.cls (some .boolean) yX13_coversRanges.name 2 0 0 1065 (t_P (fun v s' => s' = s ∧ ∃ x, v = some (.int x) ∧ Q (.inr (x)))) 42 [(0, .ref 950), (2, .int (y0)), (3, .int (y1)), (4, .int (y2))] [] (t_m s) 1065 0 0) (hk : t_hk (k_X13_coversRanges_78 l2 l4 k0 s) Q) : mj_G D cy ad bs X cX13_coversRanges 5 yX13_coversRanges.cls (some .boolean) yX13_coversRanges.name 2 0 0 1065 (t_P (fun v s' => s' = s ∧ ∃ x, v = some (.int x) ∧ Q (.inr (x)))) 78 [(0, .ref 950), (2, .int l2), (4, .int l4)] [.int k0] (t_m s) 1065 0 0 := by
  refine mj_istore_n 3 (lv2 := [(3, .int k0), (0, .ref 950), (2, .int l2), (4, .int l4)]) dX13_coversRanges_78 rfl (by decide) rfl ?_
  refine mj_aload_n dX13_coversRanges_79 1 rfl ?_
  refine t_getR 960 dX13_coversRanges_80 F_X13_42 qr_950_22 ?_
  refine mj_iload dX13_coversRanges_83 3 rfl ?_
  refine t_chkK hk (fun c0 hk => ?_)
  refine t_iald dX13_coversRanges_85 qa_960 (t_ixv c0) ?_
  refine mj_istore (lv2 := [(4, .int (s.1 960 (l4.toNatClampNeg))), (3, .int k0), (0, .ref 950), (2, .int l2)]) dX13_coversRanges_86 (by decide) rfl ?_
  refine mj_goto 42 dX13_coversRanges_88 (by decide) ?_
  refine mj_sublv [(0, .ref 950), (2, .int l2), (3, .int k0), (4, .int (s.1 960 (l4.toNatClampNeg)))] [2, 3, 1, 0] rfl ?_
  exact t_somK hk (fun hf => Hb42 l2 k0 (s.1 960 (l4.toNatClampNeg)) hf)
noncomputable def k_X13_coversRanges_77 (l2 : Int32) (l4 : Int32) (s : t_S) : Option ((Int32 × Int32 × Int32) ⊕ (Int32)) :=
 k_X13_coversRanges_78 l2 l4 0 s
set_option maxRecDepth 4000 in
set_option maxHeartbeats 1000000 in
theorem B_X13_coversRanges_77 {D : va_G} {cy : Nat → ClassId} {ad : Nat → Nat} {bs : Nat} {X : State → Heap → Prop} (l2 : Int32) (l4 : Int32) (s : t_S) (Q : (Int32 × Int32 × Int32) ⊕ (Int32) → Prop) (Hb42 : ∀ (y0 : Int32) (y1 : Int32) (y2 : Int32), Q (.inl (y0, y1, y2)) → mj_G D cy ad bs X cX13_coversRanges 5 yX13_coversRanges.cls (some .boolean) yX13_coversRanges.name 2 0 0 1065 (t_P (fun v s' => s' = s ∧ ∃ x, v = some (.int x) ∧ Q (.inr (x)))) 42 [(0, .ref 950), (2, .int (y0)), (3, .int (y1)), (4, .int (y2))] [] (t_m s) 1065 0 0) (hk : t_hk (k_X13_coversRanges_77 l2 l4 s) Q) : mj_G D cy ad bs X cX13_coversRanges 5 yX13_coversRanges.cls (some .boolean) yX13_coversRanges.name 2 0 0 1065 (t_P (fun v s' => s' = s ∧ ∃ x, v = some (.int x) ∧ Q (.inr (x)))) 77 [(0, .ref 950), (2, .int l2), (4, .int l4)] [] (t_m s) 1065 0 0 := by
  refine mj_iconst (v := 0) dX13_coversRanges_77 (by decide) ?_
  exact B_X13_coversRanges_78 _ _ _ _ _ (fun y0 y1 y2 hx => Hb42 y0 y1 y2 hx) hk
noncomputable def k_X13_coversRanges_42 (l2 : Int32) (l3 : Int32) (l4 : Int32) (s : t_S) : Option ((Int32 × Int32 × Int32) ⊕ (Int32)) :=
 if l4 < (0 : Int32) then ((if l3 = 0 ∨ l3 = 1 then
  some (l3)
else none).map Sum.inr)
 else (if l3 = (0 : Int32) then (k_X13_coversRanges_77 l2 l4 s)
 else (if t_ix l4 13000 = true then
  (f_X13_covers l2 (s.2.1 957 (l4.toNatClampNeg)) (s.2.1 958 (l4.toNatClampNeg)) s).bind (fun r3 =>
 if r3 = (0 : Int32) then (k_X13_coversRanges_77 l2 l4 s)
 else (k_X13_coversRanges_78 l2 l4 1 s))
else none))
set_option maxRecDepth 4000 in
set_option maxHeartbeats 1000000 in
theorem B_X13_coversRanges_42 {D : va_G} {cy : Nat → ClassId} {ad : Nat → Nat} {bs : Nat} {X : State → Heap → Prop} (l2 : Int32) (l3 : Int32) (l4 : Int32) (s : t_S) (Q : (Int32 × Int32 × Int32) ⊕ (Int32) → Prop) (Hb42 : ∀ (y0 : Int32) (y1 : Int32) (y2 : Int32), Q (.inl (y0, y1, y2)) → mj_G D cy ad bs X cX13_coversRanges 5 yX13_coversRanges.cls (some .boolean) yX13_coversRanges.name 2 0 0 1065 (t_P (fun v s' => s' = s ∧ ∃ x, v = some (.int x) ∧ Q (.inr (x)))) 42 [(0, .ref 950), (2, .int (y0)), (3, .int (y1)), (4, .int (y2))] [] (t_m s) 1065 0 0) (hk : t_hk (k_X13_coversRanges_42 l2 l3 l4 s) Q) : mj_G D cy ad bs X cX13_coversRanges 5 yX13_coversRanges.cls (some .boolean) yX13_coversRanges.name 2 0 0 1065 (t_P (fun v s' => s' = s ∧ ∃ x, v = some (.int x) ∧ Q (.inr (x)))) 42 [(0, .ref 950), (2, .int l2), (3, .int l3), (4, .int l4)] [] (t_m s) 1065 0 0 := by
  refine mj_iload dX13_coversRanges_42 3 rfl ?_
  refine mj_if_lt 91 dX13_coversRanges_44 (by decide) (fun z => t_posK hk z (fun hk => ?_)) (fun z => t_negK hk z (fun hk => ?_))
  · refine t_mapK hk (fun hk => ?_)
    refine mj_iload_n dX13_coversRanges_91 2 rfl ?_
    refine t_chkK hk (fun c0 hk => ?_)
    exact t_somK hk (fun hf => t_iret dX13_coversRanges_92 rfl (t_zfit c0) ⟨rfl, _, rfl, hf⟩ (Nat.le_of_ble_eq_true rfl) (Nat.le_of_ble_eq_true rfl))
  · refine mj_iload_n dX13_coversRanges_47 2 rfl ?_
    refine mj_if_eq 77 dX13_coversRanges_48 (by decide) (fun z => t_posK hk z (fun hk => ?_)) (fun z => t_negK hk z (fun hk => ?_))
    · refine mj_sublv [(0, .ref 950), (2, .int l2), (4, .int l4)] [0, 1, 3] rfl ?_
      exact B_X13_coversRanges_77 _ _ _ _ (fun y0 y1 y2 hx => Hb42 y0 y1 y2 hx) hk
    · refine mj_aload_n dX13_coversRanges_51 0 rfl ?_
      refine mj_iload_n dX13_coversRanges_52 1 rfl ?_
      refine mj_aload_n dX13_coversRanges_53 0 rfl ?_
      refine t_getR 957 dX13_coversRanges_54 F_X13_32 qr_950_19 ?_
      refine mj_iload dX13_coversRanges_57 3 rfl ?_
      refine t_chkK hk (fun c1 hk => ?_)
      refine t_lald dX13_coversRanges_59 qa_957 (t_ixv c1) ?_
      refine mj_aload_n dX13_coversRanges_60 0 rfl ?_
      refine t_getR 958 dX13_coversRanges_61 F_X13_36 qr_950_20 ?_
      refine mj_iload dX13_coversRanges_64 3 rfl ?_
      refine t_lald dX13_coversRanges_66 qa_958 (t_ixv c1) ?_
      refine t_bndK hk (fun r3 er3 hk => ?_)
      refine t_callViP dX13_coversRanges_67 M_X13_covers (C_X13_covers _ _ _ _ _ er3) ML_X13_1098 IM_X13_covers SE_X13_covers qc_950 rfl (As := [.int l2, .long (s.2.1 957 (l4.toNatClampNeg)), .long (s.2.1 958 (l4.toNatClampNeg))]) rfl rfl (Nat.le_of_ble_eq_true rfl) (Nat.le_of_ble_eq_true rfl) (Nat.le_of_ble_eq_true rfl) (Nat.le_of_ble_eq_true rfl) ?_
      refine mj_if_eq 77 dX13_coversRanges_70 (by decide) (fun z => t_posK hk z (fun hk => ?_)) (fun z => t_negK hk z (fun hk => ?_))
      · refine mj_sublv [(0, .ref 950), (2, .int l2), (4, .int l4)] [0, 1, 3] rfl ?_
        exact B_X13_coversRanges_77 _ _ _ _ (fun y0 y1 y2 hx => Hb42 y0 y1 y2 hx) hk
      · refine mj_iconst (v := 1) dX13_coversRanges_73 (by decide) ?_
        refine mj_goto 78 dX13_coversRanges_74 (by decide) ?_
        refine mj_sublv [(0, .ref 950), (2, .int l2), (4, .int l4)] [0, 1, 3] rfl ?_
        exact B_X13_coversRanges_78 _ _ _ _ _ (fun y0 y1 y2 hx => Hb42 y0 y1 y2 hx) hk
noncomputable def b_X13_coversRanges_42 (s : t_S) (x : Int32 × Int32 × Int32) : Option ((Int32 × Int32 × Int32) ⊕ (Int32)) := k_X13_coversRanges_42 x.1 x.2.1 x.2.2 s
set_option maxRecDepth 4000 in
set_option maxHeartbeats 1000000 in
theorem LH_X13_coversRanges_42 {D : va_G} {cy : Nat → ClassId} {ad : Nat → Nat} {bs : Nat} {X : State → Heap → Prop} (s : t_S) : ∀ (n : Nat) (y0 : Int32) (y1 : Int32) (y2 : Int32) (Q : Int32 → Prop) (hk : t_hk (t_loop (b_X13_coversRanges_42 s) n (y0, y1, y2)) Q), mj_G D cy ad bs X cX13_coversRanges 5 yX13_coversRanges.cls (some .boolean) yX13_coversRanges.name 2 0 0 1065 (t_P (fun v s' => s' = s ∧ ∃ x, v = some (.int x) ∧ Q (x))) 42 [(0, .ref 950), (2, .int (y0)), (3, .int (y1)), (4, .int (y2))] [] (t_m s) 1065 0 0 := by
  intro n
  induction n with
  | zero => intro y0 y1 y2 Q hk; obtain ⟨r, hr, _⟩ := hk; cases hr
  | succ n ih =>
    intro y0 y1 y2 Q hk
    exact B_X13_coversRanges_42 y0 y1 y2 s (fun y => t_lq (b_X13_coversRanges_42 s) n Q y) (fun y0' y1' y2' hy => ih y0' y1' y2' Q hy) (t_lp (b := b_X13_coversRanges_42 s) (n := n) (x := (y0, y1, y2)) hk)
noncomputable def f_X13_coversRanges (x1 : Int32) (x2 : Int32) (s : t_S) : Option (Int32) :=
 if t_ix x2 13000 = true then
  if (0 : Int32) ≤ (s.1 959 (x2.toNatClampNeg)) then (if t_ix x1 13000 = true then
  if (0 : Int32) ≤ (s.1 959 (x1.toNatClampNeg)) then (t_loop (b_X13_coversRanges_42 s) t_N (x2, 1, (s.1 959 (x1.toNatClampNeg))))
 else ((f_X13_covers x2 (-1000000000000000 : Int64) (1000000000000000 : Int64) s).bind (fun r3 =>
 if r3 = 0 ∨ r3 = 1 then
  some (r3)
else none))
else none)
 else (some (1 : Int32))
else none
set_option maxRecDepth 4000 in
set_option maxHeartbeats 1000000 in
theorem C_X13_coversRanges (x1 : Int32) (x2 : Int32) (s : t_S) (r : Int32) (hr : f_X13_coversRanges x1 x2 s = some r) : t_C yX13_coversRanges cX13_coversRanges 5 (some .boolean) 2 [.ref 950, .int x1, .int x2] s (fun v s' => v = some (.int r) ∧ s' = s) := by
  refine t_C.imp (P := fun v s' => s' = s ∧ ∃ x, v = some (.int x) ∧ (fun q => q = r) (x)) (t_C.of (by decide +kernel) (Nat.le_of_ble_eq_true rfl) ?_) (fun v s' hp => by obtain ⟨rfl, x, rfl, rfl⟩ := hp; exact ⟨rfl, rfl⟩)
  intro D cy ad bs X
  have hk : t_hk (f_X13_coversRanges x1 x2 s) (fun q => q = r) := ⟨r, hr, rfl⟩
  show mj_G D cy ad bs X cX13_coversRanges 5 yX13_coversRanges.cls (some .boolean) yX13_coversRanges.name 2 0 0 1065 (t_P (fun v s' => s' = s ∧ ∃ x, v = some (.int x) ∧ (fun q => q = r) (x))) 0 [(0, .ref 950), (1, .int x1), (2, .int x2)] [] (t_m s) 1065 0 0
  refine mj_aload_n dX13_coversRanges_0 0 rfl ?_
  refine t_getR 959 dX13_coversRanges_1 F_X13_39 qr_950_21 ?_
  refine mj_iload_n dX13_coversRanges_4 2 rfl ?_
  refine t_chkK hk (fun c0 hk => ?_)
  refine t_iald dX13_coversRanges_5 qa_959 (t_ixv c0) ?_
  refine mj_if_ge 11 dX13_coversRanges_6 (by decide) (fun z => t_posK hk z (fun hk => ?_)) (fun z => t_negK hk z (fun hk => ?_))
  · refine mj_aload_n dX13_coversRanges_11 0 rfl ?_
    refine t_getR 959 dX13_coversRanges_12 F_X13_39 qr_950_21 ?_
    refine mj_iload_n dX13_coversRanges_15 1 rfl ?_
    refine t_chkK hk (fun c1 hk => ?_)
    refine t_iald dX13_coversRanges_16 qa_959 (t_ixv c1) ?_
    refine mj_if_ge 32 dX13_coversRanges_17 (by decide) (fun z => t_posK hk z (fun hk => ?_)) (fun z => t_negK hk z (fun hk => ?_))
    · refine mj_iconst (v := 1) dX13_coversRanges_32 (by decide) ?_
      refine mj_istore_n 3 (lv2 := [(3, .int 1), (0, .ref 950), (1, .int x1), (2, .int x2)]) dX13_coversRanges_33 rfl (by decide) rfl ?_
      refine mj_aload_n dX13_coversRanges_34 1 rfl ?_
      refine t_getR 959 dX13_coversRanges_35 F_X13_39 qr_950_21 ?_
      refine mj_iload_n dX13_coversRanges_38 2 rfl ?_
      refine t_iald dX13_coversRanges_39 qa_959 (t_ixv c1) ?_
      refine mj_istore (lv2 := [(4, .int (s.1 959 (x1.toNatClampNeg))), (3, .int 1), (0, .ref 950), (1, .int x1), (2, .int x2)]) dX13_coversRanges_40 (by decide) rfl ?_
      refine mj_sublv [(0, .ref 950), (2, .int x2), (3, .int 1), (4, .int (s.1 959 (x1.toNatClampNeg)))] [2, 4, 1, 0] rfl ?_
      exact LH_X13_coversRanges_42 _ _ x2 1 (s.1 959 (x1.toNatClampNeg)) _ hk
    · refine mj_aload_n dX13_coversRanges_20 0 rfl ?_
      refine mj_iload_n dX13_coversRanges_21 2 rfl ?_
      refine mj_ldc2 dX13_coversRanges_22 K_X13_522 ?_
      refine mj_ldc2 dX13_coversRanges_25 K_X13_864 ?_
      refine t_bndK hk (fun r3 er3 hk => ?_)
      refine t_callViP dX13_coversRanges_28 M_X13_covers (C_X13_covers _ _ _ _ _ er3) ML_X13_1098 IM_X13_covers SE_X13_covers qc_950 rfl (As := [.int x2, .long (-1000000000000000), .long 1000000000000000]) rfl rfl (Nat.le_of_ble_eq_true rfl) (Nat.le_of_ble_eq_true rfl) (Nat.le_of_ble_eq_true rfl) (Nat.le_of_ble_eq_true rfl) ?_
      refine t_chkK hk (fun c3 hk => ?_)
      exact t_somK hk (fun hf => t_iret dX13_coversRanges_31 rfl (t_zfit c3) ⟨rfl, _, rfl, hf⟩ (Nat.le_of_ble_eq_true rfl) (Nat.le_of_ble_eq_true rfl))
  · refine mj_iconst (v := 1) dX13_coversRanges_9 (by decide) ?_
    exact t_somK hk (fun hf => t_iret dX13_coversRanges_10 rfl (by decide) ⟨rfl, _, rfl, hf⟩ (Nat.le_of_ble_eq_true rfl) (Nat.le_of_ble_eq_true rfl))

theorem dX13_isPairGood_0 : decode cX13_isPairGood 0 = .ok (.aload_n 0, 1) := by decide +kernel
theorem dX13_isPairGood_1 : decode cX13_isPairGood 1 = .ok (.getfield 26, 3) := by decide +kernel
theorem dX13_isPairGood_101 : decode cX13_isPairGood 101 = .ok (.iload_n 1, 1) := by decide +kernel
theorem dX13_isPairGood_102 : decode cX13_isPairGood 102 = .ok (.iaload, 1) := by decide +kernel
theorem dX13_isPairGood_103 : decode cX13_isPairGood 103 = .ok (.istore 4, 2) := by decide +kernel
theorem dX13_isPairGood_105 : decode cX13_isPairGood 105 = .ok (.iload 4, 2) := by decide +kernel
theorem dX13_isPairGood_107 : decode cX13_isPairGood 107 = .ok (.ifCond .lt 40, 3) := by decide +kernel
theorem dX13_isPairGood_110 : decode cX13_isPairGood 110 = .ok (.iload_n 3, 1) := by decide +kernel
theorem dX13_isPairGood_111 : decode cX13_isPairGood 111 = .ok (.ifCond .eq 22, 3) := by decide +kernel
theorem dX13_isPairGood_114 : decode cX13_isPairGood 114 = .ok (.aload_n 0, 1) := by decide +kernel
theorem dX13_isPairGood_115 : decode cX13_isPairGood 115 = .ok (.iload_n 2, 1) := by decide +kernel
theorem dX13_isPairGood_116 : decode cX13_isPairGood 116 = .ok (.aload_n 0, 1) := by decide +kernel
theorem dX13_isPairGood_117 : decode cX13_isPairGood 117 = .ok (.getfield 32, 3) := by decide +kernel
theorem dX13_isPairGood_120 : decode cX13_isPairGood 120 = .ok (.iload 4, 2) := by decide +kernel
theorem dX13_isPairGood_122 : decode cX13_isPairGood 122 = .ok (.laload, 1) := by decide +kernel
theorem dX13_isPairGood_123 : decode cX13_isPairGood 123 = .ok (.invokevirtual 538, 3) := by decide +kernel
theorem dX13_isPairGood_126 : decode cX13_isPairGood 126 = .ok (.ifCond .eq 7, 3) := by decide +kernel
theorem dX13_isPairGood_129 : decode cX13_isPairGood 129 = .ok (.iconst 1, 1) := by decide +kernel
theorem dX13_isPairGood_130 : decode cX13_isPairGood 130 = .ok (.goto 4, 3) := by decide +kernel
theorem dX13_isPairGood_133 : decode cX13_isPairGood 133 = .ok (.iconst 0, 1) := by decide +kernel
theorem dX13_isPairGood_134 : decode cX13_isPairGood 134 = .ok (.istore_n 3, 1) := by decide +kernel
theorem dX13_isPairGood_135 : decode cX13_isPairGood 135 = .ok (.aload_n 0, 1) := by decide +kernel
theorem dX13_isPairGood_136 : decode cX13_isPairGood 136 = .ok (.getfield 42, 3) := by decide +kernel
theorem dX13_isPairGood_139 : decode cX13_isPairGood 139 = .ok (.iload 4, 2) := by decide +kernel
theorem dX13_isPairGood_141 : decode cX13_isPairGood 141 = .ok (.iaload, 1) := by decide +kernel
theorem dX13_isPairGood_142 : decode cX13_isPairGood 142 = .ok (.istore 4, 2) := by decide +kernel
theorem dX13_isPairGood_144 : decode cX13_isPairGood 144 = .ok (.goto (-39), 3) := by decide +kernel
theorem dX13_isPairGood_147 : decode cX13_isPairGood 147 = .ok (.iload_n 3, 1) := by decide +kernel
theorem dX13_isPairGood_148 : decode cX13_isPairGood 148 = .ok (.ireturn, 1) := by decide +kernel
theorem dX13_isPairGood_149 : decode cX13_isPairGood 149 = .ok (.aload_n 0, 1) := by decide +kernel
theorem dX13_isPairGood_150 : decode cX13_isPairGood 150 = .ok (.getfield 200, 3) := by decide +kernel
theorem dX13_isPairGood_153 : decode cX13_isPairGood 153 = .ok (.aload_n 0, 1) := by decide +kernel
theorem dX13_isPairGood_154 : decode cX13_isPairGood 154 = .ok (.getfield 39, 3) := by decide +kernel
theorem dX13_isPairGood_157 : decode cX13_isPairGood 157 = .ok (.iload_n 1, 1) := by decide +kernel
theorem dX13_isPairGood_158 : decode cX13_isPairGood 158 = .ok (.iaload, 1) := by decide +kernel
theorem dX13_isPairGood_159 : decode cX13_isPairGood 159 = .ok (.baload, 1) := by decide +kernel
theorem dX13_isPairGood_160 : decode cX13_isPairGood 160 = .ok (.ifCond .ne 7, 3) := by decide +kernel
theorem dX13_isPairGood_163 : decode cX13_isPairGood 163 = .ok (.iconst 1, 1) := by decide +kernel
theorem dX13_isPairGood_164 : decode cX13_isPairGood 164 = .ok (.goto 4, 3) := by decide +kernel
theorem dX13_isPairGood_167 : decode cX13_isPairGood 167 = .ok (.iconst 0, 1) := by decide +kernel
theorem dX13_isPairGood_168 : decode cX13_isPairGood 168 = .ok (.istore 4, 2) := by decide +kernel
theorem dX13_isPairGood_170 : decode cX13_isPairGood 170 = .ok (.aload_n 0, 1) := by decide +kernel
theorem dX13_isPairGood_171 : decode cX13_isPairGood 171 = .ok (.getfield 32, 3) := by decide +kernel
theorem dX13_isPairGood_174 : decode cX13_isPairGood 174 = .ok (.iload_n 1, 1) := by decide +kernel
theorem dX13_isPairGood_175 : decode cX13_isPairGood 175 = .ok (.laload, 1) := by decide +kernel
theorem dX13_isPairGood_176 : decode cX13_isPairGood 176 = .ok (.aload_n 0, 1) := by decide +kernel
theorem dX13_isPairGood_177 : decode cX13_isPairGood 177 = .ok (.getfield 32, 3) := by decide +kernel
theorem dX13_isPairGood_180 : decode cX13_isPairGood 180 = .ok (.iload_n 2, 1) := by decide +kernel
theorem dX13_isPairGood_181 : decode cX13_isPairGood 181 = .ok (.laload, 1) := by decide +kernel
theorem dX13_isPairGood_182 : decode cX13_isPairGood 182 = .ok (.lcmp, 1) := by decide +kernel
theorem dX13_isPairGood_183 : decode cX13_isPairGood 183 = .ok (.ifCond .lt 28, 3) := by decide +kernel
theorem dX13_isPairGood_186 : decode cX13_isPairGood 186 = .ok (.iload 4, 2) := by decide +kernel
theorem dX13_isPairGood_188 : decode cX13_isPairGood 188 = .ok (.ifCond .eq 7, 3) := by decide +kernel
theorem dX13_isPairGood_191 : decode cX13_isPairGood 191 = .ok (.lconst 0, 1) := by decide +kernel
theorem dX13_isPairGood_192 : decode cX13_isPairGood 192 = .ok (.goto 9, 3) := by decide +kernel
theorem dX13_isPairGood_195 : decode cX13_isPairGood 195 = .ok (.aload_n 0, 1) := by decide +kernel
theorem dX13_isPairGood_196 : decode cX13_isPairGood 196 = .ok (.getfield 36, 3) := by decide +kernel
theorem dX13_isPairGood_199 : decode cX13_isPairGood 199 = .ok (.iload_n 1, 1) := by decide +kernel
theorem dX13_isPairGood_200 : decode cX13_isPairGood 200 = .ok (.laload, 1) := by decide +kernel
theorem dX13_isPairGood_201 : decode cX13_isPairGood 201 = .ok (.aload_n 0, 1) := by decide +kernel
theorem dX13_isPairGood_202 : decode cX13_isPairGood 202 = .ok (.getfield 36, 3) := by decide +kernel
theorem dX13_isPairGood_205 : decode cX13_isPairGood 205 = .ok (.iload_n 2, 1) := by decide +kernel
theorem dX13_isPairGood_206 : decode cX13_isPairGood 206 = .ok (.laload, 1) := by decide +kernel
theorem dX13_isPairGood_207 : decode cX13_isPairGood 207 = .ok (.lcmp, 1) := by decide +kernel
theorem dX13_isPairGood_208 : decode cX13_isPairGood 208 = .ok (.ifCond .le 5, 3) := by decide +kernel
theorem dX13_isPairGood_211 : decode cX13_isPairGood 211 = .ok (.iconst 0, 1) := by decide +kernel
theorem dX13_isPairGood_212 : decode cX13_isPairGood 212 = .ok (.ireturn, 1) := by decide +kernel
theorem dX13_isPairGood_213 : decode cX13_isPairGood 213 = .ok (.iload 4, 2) := by decide +kernel
theorem dX13_isPairGood_215 : decode cX13_isPairGood 215 = .ok (.ifCond .ne 30, 3) := by decide +kernel
theorem dX13_isPairGood_218 : decode cX13_isPairGood 218 = .ok (.aload_n 0, 1) := by decide +kernel
theorem dX13_isPairGood_219 : decode cX13_isPairGood 219 = .ok (.getfield 36, 3) := by decide +kernel
theorem dX13_isPairGood_222 : decode cX13_isPairGood 222 = .ok (.iload_n 1, 1) := by decide +kernel
theorem dX13_isPairGood_223 : decode cX13_isPairGood 223 = .ok (.laload, 1) := by decide +kernel
theorem dX13_isPairGood_224 : decode cX13_isPairGood 224 = .ok (.lconst 0, 1) := by decide +kernel
theorem dX13_isPairGood_225 : decode cX13_isPairGood 225 = .ok (.lcmp, 1) := by decide +kernel
theorem dX13_isPairGood_226 : decode cX13_isPairGood 226 = .ok (.ifCond .le 19, 3) := by decide +kernel
theorem dX13_isPairGood_229 : decode cX13_isPairGood 229 = .ok (.aload_n 0, 1) := by decide +kernel
theorem dX13_isPairGood_230 : decode cX13_isPairGood 230 = .ok (.aload_n 0, 1) := by decide +kernel
theorem dX13_isPairGood_231 : decode cX13_isPairGood 231 = .ok (.getfield 39, 3) := by decide +kernel
theorem dX13_isPairGood_234 : decode cX13_isPairGood 234 = .ok (.iload_n 1, 1) := by decide +kernel
theorem dX13_isPairGood_235 : decode cX13_isPairGood 235 = .ok (.iaload, 1) := by decide +kernel
theorem dX13_isPairGood_236 : decode cX13_isPairGood 236 = .ok (.aload_n 0, 1) := by decide +kernel
theorem dX13_isPairGood_237 : decode cX13_isPairGood 237 = .ok (.getfield 39, 3) := by decide +kernel
theorem dX13_isPairGood_240 : decode cX13_isPairGood 240 = .ok (.iload_n 2, 1) := by decide +kernel
theorem dX13_isPairGood_241 : decode cX13_isPairGood 241 = .ok (.iaload, 1) := by decide +kernel
theorem dX13_isPairGood_242 : decode cX13_isPairGood 242 = .ok (.invokevirtual 1081, 3) := by decide +kernel
theorem dX13_isPairGood_245 : decode cX13_isPairGood 245 = .ok (.iconst 1, 1) := by decide +kernel
theorem dX13_isPairGood_246 : decode cX13_isPairGood 246 = .ok (.ireturn, 1) := by decide +kernel
theorem dX13_isPairGood_247 : decode cX13_isPairGood 247 = .ok (.aload_n 0, 1) := by decide +kernel
theorem dX13_isPairGood_248 : decode cX13_isPairGood 248 = .ok (.iload_n 1, 1) := by decide +kernel
theorem dX13_isPairGood_249 : decode cX13_isPairGood 249 = .ok (.iload_n 2, 1) := by decide +kernel
theorem dX13_isPairGood_250 : decode cX13_isPairGood 250 = .ok (.invokevirtual 1095, 3) := by decide +kernel
theorem dX13_isPairGood_253 : decode cX13_isPairGood 253 = .ok (.ireturn, 1) := by decide +kernel
theorem dX13_isPairGood_4 : decode cX13_isPairGood 4 = .ok (.iload_n 1, 1) := by decide +kernel
theorem dX13_isPairGood_48 : decode cX13_isPairGood 48 = .ok (.aload_n 0, 1) := by decide +kernel
theorem dX13_isPairGood_49 : decode cX13_isPairGood 49 = .ok (.iload_n 1, 1) := by decide +kernel
theorem dX13_isPairGood_5 : decode cX13_isPairGood 5 = .ok (.iaload, 1) := by decide +kernel
theorem dX13_isPairGood_50 : decode cX13_isPairGood 50 = .ok (.iload_n 2, 1) := by decide +kernel
theorem dX13_isPairGood_51 : decode cX13_isPairGood 51 = .ok (.invokevirtual 1092, 3) := by decide +kernel
theorem dX13_isPairGood_54 : decode cX13_isPairGood 54 = .ok (.ireturn, 1) := by decide +kernel
theorem dX13_isPairGood_55 : decode cX13_isPairGood 55 = .ok (.iconst 1, 1) := by decide +kernel
theorem dX13_isPairGood_56 : decode cX13_isPairGood 56 = .ok (.ireturn, 1) := by decide +kernel
theorem dX13_isPairGood_57 : decode cX13_isPairGood 57 = .ok (.aload_n 0, 1) := by decide +kernel
theorem dX13_isPairGood_58 : decode cX13_isPairGood 58 = .ok (.getfield 32, 3) := by decide +kernel
theorem dX13_isPairGood_6 : decode cX13_isPairGood 6 = .ok (.tableswitch 241 1 7 #[42, 49, 51, 89, 241, 241, 143], 42) := by decide +kernel
theorem dX13_isPairGood_61 : decode cX13_isPairGood 61 = .ok (.iload_n 1, 1) := by decide +kernel
theorem dX13_isPairGood_62 : decode cX13_isPairGood 62 = .ok (.laload, 1) := by decide +kernel
theorem dX13_isPairGood_63 : decode cX13_isPairGood 63 = .ok (.aload_n 0, 1) := by decide +kernel
theorem dX13_isPairGood_64 : decode cX13_isPairGood 64 = .ok (.getfield 32, 3) := by decide +kernel
theorem dX13_isPairGood_67 : decode cX13_isPairGood 67 = .ok (.iload_n 2, 1) := by decide +kernel
theorem dX13_isPairGood_68 : decode cX13_isPairGood 68 = .ok (.laload, 1) := by decide +kernel
theorem dX13_isPairGood_69 : decode cX13_isPairGood 69 = .ok (.lcmp, 1) := by decide +kernel
theorem dX13_isPairGood_70 : decode cX13_isPairGood 70 = .ok (.ifCond .lt 23, 3) := by decide +kernel
theorem dX13_isPairGood_73 : decode cX13_isPairGood 73 = .ok (.aload_n 0, 1) := by decide +kernel
theorem dX13_isPairGood_74 : decode cX13_isPairGood 74 = .ok (.getfield 36, 3) := by decide +kernel
theorem dX13_isPairGood_77 : decode cX13_isPairGood 77 = .ok (.iload_n 1, 1) := by decide +kernel
theorem dX13_isPairGood_78 : decode cX13_isPairGood 78 = .ok (.laload, 1) := by decide +kernel
theorem dX13_isPairGood_79 : decode cX13_isPairGood 79 = .ok (.aload_n 0, 1) := by decide +kernel
theorem dX13_isPairGood_80 : decode cX13_isPairGood 80 = .ok (.getfield 36, 3) := by decide +kernel
theorem dX13_isPairGood_83 : decode cX13_isPairGood 83 = .ok (.iload_n 2, 1) := by decide +kernel
theorem dX13_isPairGood_84 : decode cX13_isPairGood 84 = .ok (.laload, 1) := by decide +kernel
theorem dX13_isPairGood_85 : decode cX13_isPairGood 85 = .ok (.lcmp, 1) := by decide +kernel
theorem dX13_isPairGood_86 : decode cX13_isPairGood 86 = .ok (.ifCond .gt 7, 3) := by decide +kernel
theorem dX13_isPairGood_89 : decode cX13_isPairGood 89 = .ok (.iconst 1, 1) := by decide +kernel
theorem dX13_isPairGood_90 : decode cX13_isPairGood 90 = .ok (.goto 4, 3) := by decide +kernel
theorem dX13_isPairGood_93 : decode cX13_isPairGood 93 = .ok (.iconst 0, 1) := by decide +kernel
theorem dX13_isPairGood_94 : decode cX13_isPairGood 94 = .ok (.ireturn, 1) := by decide +kernel
theorem dX13_isPairGood_95 : decode cX13_isPairGood 95 = .ok (.iconst 1, 1) := by decide +kernel
theorem dX13_isPairGood_96 : decode cX13_isPairGood 96 = .ok (.istore_n 3, 1) := by decide +kernel
theorem dX13_isPairGood_97 : decode cX13_isPairGood 97 = .ok (.aload_n 0, 1) := by decide +kernel
theorem dX13_isPairGood_98 : decode cX13_isPairGood 98 = .ok (.getfield 39, 3) := by decide +kernel
noncomputable def k_X13_isPairGood_201 (l1 : Int32) (l2 : Int32) (l4 : Int32) (k0 : Int64) (s : t_S) : Option (Int32 × t_S) :=
 if t_ix l2 13000 = true then
  if (lg_cmp k0 (s.2.1 958 (l2.toNatClampNeg))) ≤ (0 : Int32) then (if l4 = (0 : Int32) then (if t_ix l1 13000 = true then
  if (lg_cmp (s.2.1 958 (l1.toNatClampNeg)) (0 : Int64)) ≤ (0 : Int32) then (some ((1 : Int32), s))
 else ((f_X13_addPair (s.1 959 (l1.toNatClampNeg)) (s.1 959 (l2.toNatClampNeg)) s).bind (fun r3 =>
 some ((1 : Int32), r3)))
else none)
 else (some ((1 : Int32), s)))
 else (some ((0 : Int32), s))
else none
set_option maxRecDepth 4000 in
set_option maxHeartbeats 1000000 in
theorem B_X13_isPairGood_201 {D : va_G} {cy : Nat → ClassId} {ad : Nat → Nat} {bs : Nat} {X : State → Heap → Prop} (l1 : Int32) (l2 : Int32) (l4 : Int32) (k0 : Int64) (s : t_S) (Q : Int32 × t_S → Prop) (hk : t_hk (k_X13_isPairGood_201 l1 l2 l4 k0 s) Q) : mj_G D cy ad bs X cX13_isPairGood 5 yX13_isPairGood.cls (some .boolean) yX13_isPairGood.name 4 0 0 1065 (t_P (fun v s' => ∃ x, v = some (.int x) ∧ Q ((x, s')))) 201 [(0, .ref 950), (1, .int l1), (2, .int l2), (4, .int l4)] [.long k0] (t_m s) 1065 0 0 := by
  refine mj_aload_n dX13_isPairGood_201 0 rfl ?_
  refine t_getR 958 dX13_isPairGood_202 F_X13_36 qr_950_20 ?_
  refine mj_iload_n dX13_isPairGood_205 2 rfl ?_
  refine t_chkK hk (fun c0 hk => ?_)
  refine t_lald dX13_isPairGood_206 qa_958 (t_ixv c0) ?_
  refine mj_lcmp dX13_isPairGood_207 ?_
  refine mj_if_le 213 dX13_isPairGood_208 (by decide) (fun z => t_posK hk z (fun hk => ?_)) (fun z => t_negK hk z (fun hk => ?_))
  · refine mj_iload dX13_isPairGood_213 3 rfl ?_
    refine mj_if_ne 245 dX13_isPairGood_215 (by decide) (fun z => t_negK hk z (fun hk => ?_)) (fun z => t_posK hk z (fun hk => ?_))
    · refine mj_iconst (v := 1) dX13_isPairGood_245 (by decide) ?_
      exact t_somK hk (fun hf => t_iret dX13_isPairGood_246 rfl (by decide) ⟨_, rfl, hf⟩ (Nat.le_of_ble_eq_true rfl) (Nat.le_of_ble_eq_true rfl))
    · refine mj_aload_n dX13_isPairGood_218 0 rfl ?_
      refine t_getR 958 dX13_isPairGood_219 F_X13_36 qr_950_20 ?_
      refine mj_iload_n dX13_isPairGood_222 1 rfl ?_
      refine t_chkK hk (fun c1 hk => ?_)
      refine t_lald dX13_isPairGood_223 qa_958 (t_ixv c1) ?_
      refine mj_lconst (v := 0) dX13_isPairGood_224 (by decide) ?_
      refine mj_lcmp dX13_isPairGood_225 ?_
      refine mj_if_le 245 dX13_isPairGood_226 (by decide) (fun z => t_posK hk z (fun hk => ?_)) (fun z => t_negK hk z (fun hk => ?_))
      · refine mj_iconst (v := 1) dX13_isPairGood_245 (by decide) ?_
        exact t_somK hk (fun hf => t_iret dX13_isPairGood_246 rfl (by decide) ⟨_, rfl, hf⟩ (Nat.le_of_ble_eq_true rfl) (Nat.le_of_ble_eq_true rfl))
      · refine mj_aload_n dX13_isPairGood_229 0 rfl ?_
        refine mj_aload_n dX13_isPairGood_230 0 rfl ?_
        refine t_getR 959 dX13_isPairGood_231 F_X13_39 qr_950_21 ?_
        refine mj_iload_n dX13_isPairGood_234 1 rfl ?_
        refine t_iald dX13_isPairGood_235 qa_959 (t_ixv c1) ?_
        refine mj_aload_n dX13_isPairGood_236 0 rfl ?_
        refine t_getR 959 dX13_isPairGood_237 F_X13_39 qr_950_21 ?_
        refine mj_iload_n dX13_isPairGood_240 2 rfl ?_
        refine t_iald dX13_isPairGood_241 qa_959 (t_ixv c0) ?_
        refine t_bndK hk (fun r3 er3 hk => ?_)
        refine t_callVvE dX13_isPairGood_242 M_X13_addPair (C_X13_addPair _ _ _ _ er3) ML_X13_1081 IM_X13_addPair SE_X13_addPair qc_950 rfl (As := [.int (s.1 959 (l1.toNatClampNeg)), .int (s.1 959 (l2.toNatClampNeg))]) rfl rfl (Nat.le_of_ble_eq_true rfl) (Nat.le_of_ble_eq_true rfl) (Nat.le_of_ble_eq_true rfl) (Nat.le_of_ble_eq_true rfl) ?_
        refine mj_iconst (v := 1) dX13_isPairGood_245 (by decide) ?_
        exact t_somK hk (fun hf => t_iret dX13_isPairGood_246 rfl (by decide) ⟨_, rfl, hf⟩ (Nat.le_of_ble_eq_true rfl) (Nat.le_of_ble_eq_true rfl))
  · refine mj_iconst (v := 0) dX13_isPairGood_211 (by decide) ?_
    exact t_somK hk (fun hf => t_iret dX13_isPairGood_212 rfl (by decide) ⟨_, rfl, hf⟩ (Nat.le_of_ble_eq_true rfl) (Nat.le_of_ble_eq_true rfl))
noncomputable def k_X13_isPairGood_168 (l1 : Int32) (l2 : Int32) (k0 : Int32) (s : t_S) : Option (Int32 × t_S) :=
 if t_ix l1 13000 = true then
  if t_ix l2 13000 = true then
  if (lg_cmp (s.2.1 957 (l1.toNatClampNeg)) (s.2.1 957 (l2.toNatClampNeg))) < (0 : Int32) then (some ((0 : Int32), s))
 else (if k0 = (0 : Int32) then (k_X13_isPairGood_201 l1 l2 k0 (s.2.1 958 (l1.toNatClampNeg)) s)
 else (k_X13_isPairGood_201 l1 l2 k0 0 s))
else none
else none
set_option maxRecDepth 4000 in
set_option maxHeartbeats 1000000 in
theorem B_X13_isPairGood_168 {D : va_G} {cy : Nat → ClassId} {ad : Nat → Nat} {bs : Nat} {X : State → Heap → Prop} (l1 : Int32) (l2 : Int32) (k0 : Int32) (s : t_S) (Q : Int32 × t_S → Prop) (hk : t_hk (k_X13_isPairGood_168 l1 l2 k0 s) Q) : mj_G D cy ad bs X cX13_isPairGood 5 yX13_isPairGood.cls (some .boolean) yX13_isPairGood.name 4 0 0 1065 (t_P (fun v s' => ∃ x, v = some (.int x) ∧ Q ((x, s')))) 168 [(0, .ref 950), (1, .int l1), (2, .int l2)] [.int k0] (t_m s) 1065 0 0 := by
  refine mj_istore (lv2 := [(4, .int k0), (0, .ref 950), (1, .int l1), (2, .int l2)]) dX13_isPairGood_168 (by decide) rfl ?_
  refine mj_aload_n dX13_isPairGood_170 1 rfl ?_
  refine t_getR 957 dX13_isPairGood_171 F_X13_32 qr_950_19 ?_
  refine mj_iload_n dX13_isPairGood_174 2 rfl ?_
  refine t_chkK hk (fun c0 hk => ?_)
  refine t_lald dX13_isPairGood_175 qa_957 (t_ixv c0) ?_
  refine mj_aload_n dX13_isPairGood_176 1 rfl ?_
  refine t_getR 957 dX13_isPairGood_177 F_X13_32 qr_950_19 ?_
  refine mj_iload_n dX13_isPairGood_180 3 rfl ?_
  refine t_chkK hk (fun c1 hk => ?_)
  refine t_lald dX13_isPairGood_181 qa_957 (t_ixv c1) ?_
  refine mj_lcmp dX13_isPairGood_182 ?_
  refine mj_if_lt 211 dX13_isPairGood_183 (by decide) (fun z => t_posK hk z (fun hk => ?_)) (fun z => t_negK hk z (fun hk => ?_))
  · refine mj_iconst (v := 0) dX13_isPairGood_211 (by decide) ?_
    exact t_somK hk (fun hf => t_iret dX13_isPairGood_212 rfl (by decide) ⟨_, rfl, hf⟩ (Nat.le_of_ble_eq_true rfl) (Nat.le_of_ble_eq_true rfl))
  · refine mj_iload dX13_isPairGood_186 0 rfl ?_
    refine mj_if_eq 195 dX13_isPairGood_188 (by decide) (fun z => t_posK hk z (fun hk => ?_)) (fun z => t_negK hk z (fun hk => ?_))
    · refine mj_aload_n dX13_isPairGood_195 1 rfl ?_
      refine t_getR 958 dX13_isPairGood_196 F_X13_36 qr_950_20 ?_
      refine mj_iload_n dX13_isPairGood_199 2 rfl ?_
      refine t_lald dX13_isPairGood_200 qa_958 (t_ixv c0) ?_
      refine mj_sublv [(0, .ref 950), (1, .int l1), (2, .int l2), (4, .int k0)] [1, 2, 3, 0] rfl ?_
      exact B_X13_isPairGood_201 _ _ _ _ _ _ hk
    · refine mj_lconst (v := 0) dX13_isPairGood_191 (by decide) ?_
      refine mj_goto 201 dX13_isPairGood_192 (by decide) ?_
      refine mj_sublv [(0, .ref 950), (1, .int l1), (2, .int l2), (4, .int k0)] [1, 2, 3, 0] rfl ?_
      exact B_X13_isPairGood_201 _ _ _ _ _ _ hk
noncomputable def k_X13_isPairGood_134 (l2 : Int32) (l4 : Int32) (k0 : Int32) (s : t_S) : Option ((Int32 × Int32 × Int32 × t_S) ⊕ (Int32 × t_S)) :=
 if t_ix l4 13000 = true then
  some (.inl (l2, k0, (s.1 960 (l4.toNatClampNeg)), s))
else none
set_option maxRecDepth 4000 in
set_option maxHeartbeats 1000000 in
theorem B_X13_isPairGood_134 {D : va_G} {cy : Nat → ClassId} {ad : Nat → Nat} {bs : Nat} {X : State → Heap → Prop} (l2 : Int32) (l4 : Int32) (k0 : Int32) (s : t_S) (Q : (Int32 × Int32 × Int32 × t_S) ⊕ (Int32 × t_S) → Prop) (Hb105 : ∀ (y0 : Int32) (y1 : Int32) (y2 : Int32) (y3 : t_S), Q (.inl (y0, y1, y2, y3)) → mj_G D cy ad bs X cX13_isPairGood 5 yX13_isPairGood.cls (some .boolean) yX13_isPairGood.name 4 0 0 1065 (t_P (fun v s' => ∃ x, v = some (.int x) ∧ Q (.inr ((x, s'))))) 105 [(0, .ref 950), (2, .int (y0)), (3, .int (y1)), (4, .int (y2))] [] (t_m y3) 1065 0 0) (hk : t_hk (k_X13_isPairGood_134 l2 l4 k0 s) Q) : mj_G D cy ad bs X cX13_isPairGood 5 yX13_isPairGood.cls (some .boolean) yX13_isPairGood.name 4 0 0 1065 (t_P (fun v s' => ∃ x, v = some (.int x) ∧ Q (.inr ((x, s'))))) 134 [(0, .ref 950), (2, .int l2), (4, .int l4)] [.int k0] (t_m s) 1065 0 0 := by
  refine mj_istore_n 3 (lv2 := [(3, .int k0), (0, .ref 950), (2, .int l2), (4, .int l4)]) dX13_isPairGood_134 rfl (by decide) rfl ?_
  refine mj_aload_n dX13_isPairGood_135 1 rfl ?_
  refine t_getR 960 dX13_isPairGood_136 F_X13_42 qr_950_22 ?_
  refine mj_iload dX13_isPairGood_139 3 rfl ?_
  refine t_chkK hk (fun c0 hk => ?_)
  refine t_iald dX13_isPairGood_141 qa_960 (t_ixv c0) ?_
  refine mj_istore (lv2 := [(4, .int (s.1 960 (l4.toNatClampNeg))), (3, .int k0), (0, .ref 950), (2, .int l2)]) dX13_isPairGood_142 (by decide) rfl ?_
  refine mj_goto 105 dX13_isPairGood_144 (by decide) ?_
  refine mj_sublv [(0, .ref 950), (2, .int l2), (3, .int k0), (4, .int (s.1 960 (l4.toNatClampNeg)))] [2, 3, 1, 0] rfl ?_
  exact t_somK hk (fun hf => Hb105 l2 k0 (s.1 960 (l4.toNatClampNeg)) s hf)
noncomputable def k_X13_isPairGood_133 (l2 : Int32) (l4 : Int32) (s : t_S) : Option ((Int32 × Int32 × Int32 × t_S) ⊕ (Int32 × t_S)) :=
 k_X13_isPairGood_134 l2 l4 0 s
set_option maxRecDepth 4000 in
set_option maxHeartbeats 1000000 in
theorem B_X13_isPairGood_133 {D : va_G} {cy : Nat → ClassId} {ad : Nat → Nat} {bs : Nat} {X : State → Heap → Prop} (l2 : Int32) (l4 : Int32) (s : t_S) (Q : (Int32 × Int32 × Int32 × t_S) ⊕ (Int32 × t_S) → Prop) (Hb105 : ∀ (y0 : Int32) (y1 : Int32) (y2 : Int32) (y3 : t_S), Q (.inl (y0, y1, y2, y3)) → mj_G D cy ad bs X cX13_isPairGood 5 yX13_isPairGood.cls (some .boolean) yX13_isPairGood.name 4 0 0 1065 (t_P (fun v s' => ∃ x, v = some (.int x) ∧ Q (.inr ((x, s'))))) 105 [(0, .ref 950), (2, .int (y0)), (3, .int (y1)), (4, .int (y2))] [] (t_m y3) 1065 0 0) (hk : t_hk (k_X13_isPairGood_133 l2 l4 s) Q) : mj_G D cy ad bs X cX13_isPairGood 5 yX13_isPairGood.cls (some .boolean) yX13_isPairGood.name 4 0 0 1065 (t_P (fun v s' => ∃ x, v = some (.int x) ∧ Q (.inr ((x, s'))))) 133 [(0, .ref 950), (2, .int l2), (4, .int l4)] [] (t_m s) 1065 0 0 := by
  refine mj_iconst (v := 0) dX13_isPairGood_133 (by decide) ?_
  exact B_X13_isPairGood_134 _ _ _ _ _ (fun y0 y1 y2 y3 hx => Hb105 y0 y1 y2 y3 hx) hk
noncomputable def k_X13_isPairGood_105 (l2 : Int32) (l3 : Int32) (l4 : Int32) (s : t_S) : Option ((Int32 × Int32 × Int32 × t_S) ⊕ (Int32 × t_S)) :=
 if l4 < (0 : Int32) then ((if l3 = 0 ∨ l3 = 1 then
  some (l3, s)
else none).map Sum.inr)
 else (if l3 = (0 : Int32) then (k_X13_isPairGood_133 l2 l4 s)
 else (if t_ix l4 13000 = true then
  (f_X13_hasPart l2 (s.2.1 957 (l4.toNatClampNeg)) s).bind (fun r3 =>
 if r3 = (0 : Int32) then (k_X13_isPairGood_133 l2 l4 s)
 else (k_X13_isPairGood_134 l2 l4 1 s))
else none))
set_option maxRecDepth 4000 in
set_option maxHeartbeats 1000000 in
theorem B_X13_isPairGood_105 {D : va_G} {cy : Nat → ClassId} {ad : Nat → Nat} {bs : Nat} {X : State → Heap → Prop} (l2 : Int32) (l3 : Int32) (l4 : Int32) (s : t_S) (Q : (Int32 × Int32 × Int32 × t_S) ⊕ (Int32 × t_S) → Prop) (Hb105 : ∀ (y0 : Int32) (y1 : Int32) (y2 : Int32) (y3 : t_S), Q (.inl (y0, y1, y2, y3)) → mj_G D cy ad bs X cX13_isPairGood 5 yX13_isPairGood.cls (some .boolean) yX13_isPairGood.name 4 0 0 1065 (t_P (fun v s' => ∃ x, v = some (.int x) ∧ Q (.inr ((x, s'))))) 105 [(0, .ref 950), (2, .int (y0)), (3, .int (y1)), (4, .int (y2))] [] (t_m y3) 1065 0 0) (hk : t_hk (k_X13_isPairGood_105 l2 l3 l4 s) Q) : mj_G D cy ad bs X cX13_isPairGood 5 yX13_isPairGood.cls (some .boolean) yX13_isPairGood.name 4 0 0 1065 (t_P (fun v s' => ∃ x, v = some (.int x) ∧ Q (.inr ((x, s'))))) 105 [(0, .ref 950), (2, .int l2), (3, .int l3), (4, .int l4)] [] (t_m s) 1065 0 0 := by
  refine mj_iload dX13_isPairGood_105 3 rfl ?_
  refine mj_if_lt 147 dX13_isPairGood_107 (by decide) (fun z => t_posK hk z (fun hk => ?_)) (fun z => t_negK hk z (fun hk => ?_))
  · refine t_mapK hk (fun hk => ?_)
    refine mj_iload_n dX13_isPairGood_147 2 rfl ?_
    refine t_chkK hk (fun c0 hk => ?_)
    exact t_somK hk (fun hf => t_iret dX13_isPairGood_148 rfl (t_zfit c0) ⟨_, rfl, hf⟩ (Nat.le_of_ble_eq_true rfl) (Nat.le_of_ble_eq_true rfl))
  · refine mj_iload_n dX13_isPairGood_110 2 rfl ?_
    refine mj_if_eq 133 dX13_isPairGood_111 (by decide) (fun z => t_posK hk z (fun hk => ?_)) (fun z => t_negK hk z (fun hk => ?_))
    · refine mj_sublv [(0, .ref 950), (2, .int l2), (4, .int l4)] [0, 1, 3] rfl ?_
      exact B_X13_isPairGood_133 _ _ _ _ (fun y0 y1 y2 y3 hx => Hb105 y0 y1 y2 y3 hx) hk
    · refine mj_aload_n dX13_isPairGood_114 0 rfl ?_
      refine mj_iload_n dX13_isPairGood_115 1 rfl ?_
      refine mj_aload_n dX13_isPairGood_116 0 rfl ?_
      refine t_getR 957 dX13_isPairGood_117 F_X13_32 qr_950_19 ?_
      refine mj_iload dX13_isPairGood_120 3 rfl ?_
      refine t_chkK hk (fun c1 hk => ?_)
      refine t_lald dX13_isPairGood_122 qa_957 (t_ixv c1) ?_
      refine t_bndK hk (fun r3 er3 hk => ?_)
      refine t_callViP dX13_isPairGood_123 M_X13_hasPart (C_X13_hasPart _ _ _ _ er3) ML_X13_538 IM_X13_hasPart SE_X13_hasPart qc_950 rfl (As := [.int l2, .long (s.2.1 957 (l4.toNatClampNeg))]) rfl rfl (Nat.le_of_ble_eq_true rfl) (Nat.le_of_ble_eq_true rfl) (Nat.le_of_ble_eq_true rfl) (Nat.le_of_ble_eq_true rfl) ?_
      refine mj_if_eq 133 dX13_isPairGood_126 (by decide) (fun z => t_posK hk z (fun hk => ?_)) (fun z => t_negK hk z (fun hk => ?_))
      · refine mj_sublv [(0, .ref 950), (2, .int l2), (4, .int l4)] [0, 1, 3] rfl ?_
        exact B_X13_isPairGood_133 _ _ _ _ (fun y0 y1 y2 y3 hx => Hb105 y0 y1 y2 y3 hx) hk
      · refine mj_iconst (v := 1) dX13_isPairGood_129 (by decide) ?_
        refine mj_goto 134 dX13_isPairGood_130 (by decide) ?_
        refine mj_sublv [(0, .ref 950), (2, .int l2), (4, .int l4)] [0, 1, 3] rfl ?_
        exact B_X13_isPairGood_134 _ _ _ _ _ (fun y0 y1 y2 y3 hx => Hb105 y0 y1 y2 y3 hx) hk
noncomputable def b_X13_isPairGood_105 (x : Int32 × Int32 × Int32 × t_S) : Option ((Int32 × Int32 × Int32 × t_S) ⊕ (Int32 × t_S)) := k_X13_isPairGood_105 x.1 x.2.1 x.2.2.1 x.2.2.2
set_option maxRecDepth 4000 in
set_option maxHeartbeats 1000000 in
theorem LH_X13_isPairGood_105 {D : va_G} {cy : Nat → ClassId} {ad : Nat → Nat} {bs : Nat} {X : State → Heap → Prop} : ∀ (n : Nat) (y0 : Int32) (y1 : Int32) (y2 : Int32) (y3 : t_S) (Q : Int32 × t_S → Prop) (hk : t_hk (t_loop (b_X13_isPairGood_105) n (y0, y1, y2, y3)) Q), mj_G D cy ad bs X cX13_isPairGood 5 yX13_isPairGood.cls (some .boolean) yX13_isPairGood.name 4 0 0 1065 (t_P (fun v s' => ∃ x, v = some (.int x) ∧ Q ((x, s')))) 105 [(0, .ref 950), (2, .int (y0)), (3, .int (y1)), (4, .int (y2))] [] (t_m y3) 1065 0 0 := by
  intro n
  induction n with
  | zero => intro y0 y1 y2 y3 Q hk; obtain ⟨r, hr, _⟩ := hk; cases hr
  | succ n ih =>
    intro y0 y1 y2 y3 Q hk
    exact B_X13_isPairGood_105 y0 y1 y2 y3 (fun y => t_lq (b_X13_isPairGood_105) n Q y) (fun y0' y1' y2' y3' hy => ih y0' y1' y2' y3' Q hy) (t_lp (b := b_X13_isPairGood_105) (n := n) (x := (y0, y1, y2, y3)) hk)
noncomputable def f_X13_isPairGood (x1 : Int32) (x2 : Int32) (s : t_S) : Option (Int32 × t_S) :=
 if t_ix x1 13000 = true then
  if (s.1 955 (x1.toNatClampNeg)).toInt < 1 ∨ 7 < (s.1 955 (x1.toNatClampNeg)).toInt then ((f_X13_areFieldsGood x1 x2 s).bind (fun r2 =>
 if r2.1 = 0 ∨ r2.1 = 1 then
  some (r2.1, r2.2)
else none))
 else if (s.1 955 (x1.toNatClampNeg)).toInt = 1 then ((f_X13_coversRanges x1 x2 s).bind (fun r4 =>
 if r4 = 0 ∨ r4 = 1 then
  some (r4, s)
else none))
 else if (s.1 955 (x1.toNatClampNeg)).toInt = 2 then (some ((1 : Int32), s))
 else if (s.1 955 (x1.toNatClampNeg)).toInt = 3 then (if t_ix x2 13000 = true then
  if (lg_cmp (s.2.1 957 (x1.toNatClampNeg)) (s.2.1 957 (x2.toNatClampNeg))) < (0 : Int32) then (some ((0 : Int32), s))
 else (if (0 : Int32) < (lg_cmp (s.2.1 958 (x1.toNatClampNeg)) (s.2.1 958 (x2.toNatClampNeg))) then (some ((0 : Int32), s))
 else (some ((1 : Int32), s)))
else none)
 else if (s.1 955 (x1.toNatClampNeg)).toInt = 4 then (t_loop (b_X13_isPairGood_105) t_N (x2, 1, (s.1 959 (x1.toNatClampNeg)), s))
 else if (s.1 955 (x1.toNatClampNeg)).toInt = 5 then ((f_X13_areFieldsGood x1 x2 s).bind (fun r7 =>
 if r7.1 = 0 ∨ r7.1 = 1 then
  some (r7.1, r7.2)
else none))
 else if (s.1 955 (x1.toNatClampNeg)).toInt = 6 then ((f_X13_areFieldsGood x1 x2 s).bind (fun r9 =>
 if r9.1 = 0 ∨ r9.1 = 1 then
  some (r9.1, r9.2)
else none))
 else (if t_ix (s.1 959 (x1.toNatClampNeg)) 13000 = true then
  if (s.1 1012 ((s.1 959 (x1.toNatClampNeg)).toNatClampNeg)) = (0 : Int32) then (k_X13_isPairGood_168 x1 x2 1 s)
 else (k_X13_isPairGood_168 x1 x2 0 s)
else none)
else none
set_option maxRecDepth 4000 in
set_option maxHeartbeats 1000000 in
theorem C_X13_isPairGood (x1 : Int32) (x2 : Int32) (s : t_S) (r : Int32 × t_S) (hr : f_X13_isPairGood x1 x2 s = some r) : t_C yX13_isPairGood cX13_isPairGood 5 (some .boolean) 4 [.ref 950, .int x1, .int x2] s (fun v s' => v = some (.int r.1) ∧ s' = r.2) := by
  refine t_C.imp (P := fun v s' => ∃ x, v = some (.int x) ∧ (fun q => q = r) ((x, s'))) (t_C.of (by decide +kernel) (Nat.le_of_ble_eq_true rfl) ?_) (fun v s' hp => by obtain ⟨x, rfl, rfl⟩ := hp; exact ⟨rfl, rfl⟩)
  intro D cy ad bs X
  have hk : t_hk (f_X13_isPairGood x1 x2 s) (fun q => q = r) := ⟨r, hr, rfl⟩
  show mj_G D cy ad bs X cX13_isPairGood 5 yX13_isPairGood.cls (some .boolean) yX13_isPairGood.name 4 0 0 1065 (t_P (fun v s' => ∃ x, v = some (.int x) ∧ (fun q => q = r) ((x, s')))) 0 [(0, .ref 950), (1, .int x1), (2, .int x2)] [] (t_m s) 1065 0 0
  refine mj_aload_n dX13_isPairGood_0 0 rfl ?_
  refine t_getR 955 dX13_isPairGood_1 F_X13_26 qr_950_17 ?_
  refine mj_iload_n dX13_isPairGood_4 1 rfl ?_
  refine t_chkK hk (fun c0 hk => ?_)
  refine t_iald dX13_isPairGood_5 qa_955 (t_ixv c0) ?_
  by_cases hout : (s.1 955 (x1.toNatClampNeg)).toInt < 1 ∨ 7 < (s.1 955 (x1.toNatClampNeg)).toInt
  · replace hk := t_pos hk hout
    refine mj_tableOut 247 dX13_isPairGood_6 hout (by decide) ?_
    refine mj_aload_n dX13_isPairGood_247 0 rfl ?_
    refine mj_iload_n dX13_isPairGood_248 1 rfl ?_
    refine mj_iload_n dX13_isPairGood_249 2 rfl ?_
    refine t_bndK hk (fun r2 er2 hk => ?_)
    refine t_callViE dX13_isPairGood_250 M_X13_areFieldsGood (C_X13_areFieldsGood _ _ _ _ er2) ML_X13_1095 IM_X13_areFieldsGood SE_X13_areFieldsGood qc_950 rfl (As := [.int x1, .int x2]) rfl rfl (Nat.le_of_ble_eq_true rfl) (Nat.le_of_ble_eq_true rfl) (Nat.le_of_ble_eq_true rfl) (Nat.le_of_ble_eq_true rfl) ?_
    refine t_chkK hk (fun c2 hk => ?_)
    exact t_somK hk (fun hf => t_iret dX13_isPairGood_253 rfl (t_zfit c2) ⟨_, rfl, hf⟩ (Nat.le_of_ble_eq_true rfl) (Nat.le_of_ble_eq_true rfl))
  · replace hk := t_neg hk hout
    have hh1 : ¬ (s.1 955 (x1.toNatClampNeg)).toInt < 1 := fun z => hout (Or.inl z)
    have hh2 : ¬ (7 : Int) < (s.1 955 (x1.toNatClampNeg)).toInt := fun z => hout (Or.inr z)
    by_cases h0 : (s.1 955 (x1.toNatClampNeg)).toInt = 1
    · replace hk := t_pos hk h0
      refine mj_tableIn 48 dX13_isPairGood_6 hh1 hh2 (by rw [h0]; rfl) (by decide) ?_
      refine mj_aload_n dX13_isPairGood_48 0 rfl ?_
      refine mj_iload_n dX13_isPairGood_49 1 rfl ?_
      refine mj_iload_n dX13_isPairGood_50 2 rfl ?_
      refine t_bndK hk (fun r4 er4 hk => ?_)
      refine t_callViP dX13_isPairGood_51 M_X13_coversRanges (C_X13_coversRanges _ _ _ _ er4) ML_X13_1092 IM_X13_coversRanges SE_X13_coversRanges qc_950 rfl (As := [.int x1, .int x2]) rfl rfl (Nat.le_of_ble_eq_true rfl) (Nat.le_of_ble_eq_true rfl) (Nat.le_of_ble_eq_true rfl) (Nat.le_of_ble_eq_true rfl) ?_
      refine t_chkK hk (fun c4 hk => ?_)
      exact t_somK hk (fun hf => t_iret dX13_isPairGood_54 rfl (t_zfit c4) ⟨_, rfl, hf⟩ (Nat.le_of_ble_eq_true rfl) (Nat.le_of_ble_eq_true rfl))
    replace hk := t_neg hk h0
    by_cases h1 : (s.1 955 (x1.toNatClampNeg)).toInt = 2
    · replace hk := t_pos hk h1
      refine mj_tableIn 55 dX13_isPairGood_6 hh1 hh2 (by rw [h1]; rfl) (by decide) ?_
      refine mj_iconst (v := 1) dX13_isPairGood_55 (by decide) ?_
      exact t_somK hk (fun hf => t_iret dX13_isPairGood_56 rfl (by decide) ⟨_, rfl, hf⟩ (Nat.le_of_ble_eq_true rfl) (Nat.le_of_ble_eq_true rfl))
    replace hk := t_neg hk h1
    by_cases h2 : (s.1 955 (x1.toNatClampNeg)).toInt = 3
    · replace hk := t_pos hk h2
      refine mj_tableIn 57 dX13_isPairGood_6 hh1 hh2 (by rw [h2]; rfl) (by decide) ?_
      refine mj_aload_n dX13_isPairGood_57 0 rfl ?_
      refine t_getR 957 dX13_isPairGood_58 F_X13_32 qr_950_19 ?_
      refine mj_iload_n dX13_isPairGood_61 1 rfl ?_
      refine t_lald dX13_isPairGood_62 qa_957 (t_ixv c0) ?_
      refine mj_aload_n dX13_isPairGood_63 0 rfl ?_
      refine t_getR 957 dX13_isPairGood_64 F_X13_32 qr_950_19 ?_
      refine mj_iload_n dX13_isPairGood_67 2 rfl ?_
      refine t_chkK hk (fun c5 hk => ?_)
      refine t_lald dX13_isPairGood_68 qa_957 (t_ixv c5) ?_
      refine mj_lcmp dX13_isPairGood_69 ?_
      refine mj_if_lt 93 dX13_isPairGood_70 (by decide) (fun z => t_posK hk z (fun hk => ?_)) (fun z => t_negK hk z (fun hk => ?_))
      · refine mj_iconst (v := 0) dX13_isPairGood_93 (by decide) ?_
        exact t_somK hk (fun hf => t_iret dX13_isPairGood_94 rfl (by decide) ⟨_, rfl, hf⟩ (Nat.le_of_ble_eq_true rfl) (Nat.le_of_ble_eq_true rfl))
      · refine mj_aload_n dX13_isPairGood_73 0 rfl ?_
        refine t_getR 958 dX13_isPairGood_74 F_X13_36 qr_950_20 ?_
        refine mj_iload_n dX13_isPairGood_77 1 rfl ?_
        refine t_lald dX13_isPairGood_78 qa_958 (t_ixv c0) ?_
        refine mj_aload_n dX13_isPairGood_79 0 rfl ?_
        refine t_getR 958 dX13_isPairGood_80 F_X13_36 qr_950_20 ?_
        refine mj_iload_n dX13_isPairGood_83 2 rfl ?_
        refine t_lald dX13_isPairGood_84 qa_958 (t_ixv c5) ?_
        refine mj_lcmp dX13_isPairGood_85 ?_
        refine mj_if_gt 93 dX13_isPairGood_86 (by decide) (fun z => t_posK hk z (fun hk => ?_)) (fun z => t_negK hk z (fun hk => ?_))
        · refine mj_iconst (v := 0) dX13_isPairGood_93 (by decide) ?_
          exact t_somK hk (fun hf => t_iret dX13_isPairGood_94 rfl (by decide) ⟨_, rfl, hf⟩ (Nat.le_of_ble_eq_true rfl) (Nat.le_of_ble_eq_true rfl))
        · refine mj_iconst (v := 1) dX13_isPairGood_89 (by decide) ?_
          refine mj_goto 94 dX13_isPairGood_90 (by decide) ?_
          exact t_somK hk (fun hf => t_iret dX13_isPairGood_94 rfl (by decide) ⟨_, rfl, hf⟩ (Nat.le_of_ble_eq_true rfl) (Nat.le_of_ble_eq_true rfl))
    replace hk := t_neg hk h2
    by_cases h3 : (s.1 955 (x1.toNatClampNeg)).toInt = 4
    · replace hk := t_pos hk h3
      refine mj_tableIn 95 dX13_isPairGood_6 hh1 hh2 (by rw [h3]; rfl) (by decide) ?_
      refine mj_iconst (v := 1) dX13_isPairGood_95 (by decide) ?_
      refine mj_istore_n 3 (lv2 := [(3, .int 1), (0, .ref 950), (1, .int x1), (2, .int x2)]) dX13_isPairGood_96 rfl (by decide) rfl ?_
      refine mj_aload_n dX13_isPairGood_97 1 rfl ?_
      refine t_getR 959 dX13_isPairGood_98 F_X13_39 qr_950_21 ?_
      refine mj_iload_n dX13_isPairGood_101 2 rfl ?_
      refine t_iald dX13_isPairGood_102 qa_959 (t_ixv c0) ?_
      refine mj_istore (lv2 := [(4, .int (s.1 959 (x1.toNatClampNeg))), (3, .int 1), (0, .ref 950), (1, .int x1), (2, .int x2)]) dX13_isPairGood_103 (by decide) rfl ?_
      refine mj_sublv [(0, .ref 950), (2, .int x2), (3, .int 1), (4, .int (s.1 959 (x1.toNatClampNeg)))] [2, 4, 1, 0] rfl ?_
      exact LH_X13_isPairGood_105 _ x2 1 (s.1 959 (x1.toNatClampNeg)) s _ hk
    replace hk := t_neg hk h3
    by_cases h4 : (s.1 955 (x1.toNatClampNeg)).toInt = 5
    · replace hk := t_pos hk h4
      refine mj_tableIn 247 dX13_isPairGood_6 hh1 hh2 (by rw [h4]; rfl) (by decide) ?_
      refine mj_aload_n dX13_isPairGood_247 0 rfl ?_
      refine mj_iload_n dX13_isPairGood_248 1 rfl ?_
      refine mj_iload_n dX13_isPairGood_249 2 rfl ?_
      refine t_bndK hk (fun r7 er7 hk => ?_)
      refine t_callViE dX13_isPairGood_250 M_X13_areFieldsGood (C_X13_areFieldsGood _ _ _ _ er7) ML_X13_1095 IM_X13_areFieldsGood SE_X13_areFieldsGood qc_950 rfl (As := [.int x1, .int x2]) rfl rfl (Nat.le_of_ble_eq_true rfl) (Nat.le_of_ble_eq_true rfl) (Nat.le_of_ble_eq_true rfl) (Nat.le_of_ble_eq_true rfl) ?_
      refine t_chkK hk (fun c7 hk => ?_)
      exact t_somK hk (fun hf => t_iret dX13_isPairGood_253 rfl (t_zfit c7) ⟨_, rfl, hf⟩ (Nat.le_of_ble_eq_true rfl) (Nat.le_of_ble_eq_true rfl))
    replace hk := t_neg hk h4
    by_cases h5 : (s.1 955 (x1.toNatClampNeg)).toInt = 6
    · replace hk := t_pos hk h5
      refine mj_tableIn 247 dX13_isPairGood_6 hh1 hh2 (by rw [h5]; rfl) (by decide) ?_
      refine mj_aload_n dX13_isPairGood_247 0 rfl ?_
      refine mj_iload_n dX13_isPairGood_248 1 rfl ?_
      refine mj_iload_n dX13_isPairGood_249 2 rfl ?_
      refine t_bndK hk (fun r9 er9 hk => ?_)
      refine t_callViE dX13_isPairGood_250 M_X13_areFieldsGood (C_X13_areFieldsGood _ _ _ _ er9) ML_X13_1095 IM_X13_areFieldsGood SE_X13_areFieldsGood qc_950 rfl (As := [.int x1, .int x2]) rfl rfl (Nat.le_of_ble_eq_true rfl) (Nat.le_of_ble_eq_true rfl) (Nat.le_of_ble_eq_true rfl) (Nat.le_of_ble_eq_true rfl) ?_
      refine t_chkK hk (fun c9 hk => ?_)
      exact t_somK hk (fun hf => t_iret dX13_isPairGood_253 rfl (t_zfit c9) ⟨_, rfl, hf⟩ (Nat.le_of_ble_eq_true rfl) (Nat.le_of_ble_eq_true rfl))
    replace hk := t_neg hk h5
    have h6 : (s.1 955 (x1.toNatClampNeg)).toInt = 7 := by omega
    refine mj_tableIn 149 dX13_isPairGood_6 hh1 hh2 (by rw [h6]; rfl) (by decide) ?_
    refine mj_aload_n dX13_isPairGood_149 0 rfl ?_
    refine t_getR 1012 dX13_isPairGood_150 F_X13_200 qr_950_109 ?_
    refine mj_aload_n dX13_isPairGood_153 0 rfl ?_
    refine t_getR 959 dX13_isPairGood_154 F_X13_39 qr_950_21 ?_
    refine mj_iload_n dX13_isPairGood_157 1 rfl ?_
    refine t_iald dX13_isPairGood_158 qa_959 (t_ixv c0) ?_
    refine t_chkK hk (fun c10 hk => ?_)
    refine t_zald dX13_isPairGood_159 qa_1012 (t_ixv c10) ?_
    refine mj_if_ne 167 dX13_isPairGood_160 (by decide) (fun z => t_negK hk z (fun hk => ?_)) (fun z => t_posK hk z (fun hk => ?_))
    · refine mj_iconst (v := 0) dX13_isPairGood_167 (by decide) ?_
      exact B_X13_isPairGood_168 _ _ _ _ _ hk
    · refine mj_iconst (v := 1) dX13_isPairGood_163 (by decide) ?_
      refine mj_goto 168 dX13_isPairGood_164 (by decide) ?_
      exact B_X13_isPairGood_168 _ _ _ _ _ hk

