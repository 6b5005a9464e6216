/-! Methods as functions, 80: X13_depth, X13_findDepths, X13_isRing, X13_checkAll -/
theorem qa_966 : t_oka 966 1 60 = true := by decide +kernel
theorem qa_969 : t_oka 969 1 60 = true := by decide +kernel
theorem qa_977 : t_oka 977 1 64 = true := by decide +kernel
theorem qa_983 : t_oka 983 1 40 = true := by decide +kernel
theorem qr_950_39 : t_okr 950 13 39 966 = true := by decide +kernel
theorem qr_950_43 : t_okr 950 13 43 969 = true := by decide +kernel
theorem qr_950_52 : t_okr 950 13 52 977 = true := by decide +kernel
theorem qr_950_59 : t_okr 950 13 59 983 = true := by decide +kernel
theorem dX13_depth_0 : decode cX13_depth 0 = .ok (.aload_n 0, 1) := by decide +kernel
theorem dX13_depth_1 : decode cX13_depth 1 = .ok (.getfield 26, 3) := by decide +kernel
theorem dX13_depth_10 : decode cX13_depth 10 = .ok (.if_icmp .eq 9, 3) := by decide +kernel
theorem dX13_depth_100 : decode cX13_depth 100 = .ok (.iload 4, 2) := by decide +kernel
theorem dX13_depth_102 : decode cX13_depth 102 = .ok (.invokestatic 821, 3) := by decide +kernel
theorem dX13_depth_105 : decode cX13_depth 105 = .ok (.istore 5, 2) := by decide +kernel
theorem dX13_depth_107 : decode cX13_depth 107 = .ok (.iload 5, 2) := by decide +kernel
theorem dX13_depth_109 : decode cX13_depth 109 = .ok (.iload_n 3, 1) := by decide +kernel
theorem dX13_depth_110 : decode cX13_depth 110 = .ok (.if_icmp .le 8, 3) := by decide +kernel
theorem dX13_depth_113 : decode cX13_depth 113 = .ok (.iload 5, 2) := by decide +kernel
theorem dX13_depth_115 : decode cX13_depth 115 = .ok (.goto 4, 3) := by decide +kernel
theorem dX13_depth_118 : decode cX13_depth 118 = .ok (.iload_n 3, 1) := by decide +kernel
theorem dX13_depth_119 : decode cX13_depth 119 = .ok (.istore_n 3, 1) := by decide +kernel
theorem dX13_depth_120 : decode cX13_depth 120 = .ok (.aload_n 0, 1) := by decide +kernel
theorem dX13_depth_121 : decode cX13_depth 121 = .ok (.getfield 42, 3) := by decide +kernel
theorem dX13_depth_124 : decode cX13_depth 124 = .ok (.iload 4, 2) := by decide +kernel
theorem dX13_depth_126 : decode cX13_depth 126 = .ok (.iaload, 1) := by decide +kernel
theorem dX13_depth_127 : decode cX13_depth 127 = .ok (.istore 4, 2) := by decide +kernel
theorem dX13_depth_129 : decode cX13_depth 129 = .ok (.goto (-35), 3) := by decide +kernel
theorem dX13_depth_13 : decode cX13_depth 13 = .ok (.iload_n 2, 1) := by decide +kernel
theorem dX13_depth_132 : decode cX13_depth 132 = .ok (.iconst 1, 1) := by decide +kernel
theorem dX13_depth_133 : decode cX13_depth 133 = .ok (.iload_n 3, 1) := by decide +kernel
theorem dX13_depth_134 : decode cX13_depth 134 = .ok (.iadd, 1) := by decide +kernel
theorem dX13_depth_135 : decode cX13_depth 135 = .ok (.ireturn, 1) := by decide +kernel
theorem dX13_depth_14 : decode cX13_depth 14 = .ok (.bipush 40, 2) := by decide +kernel
theorem dX13_depth_16 : decode cX13_depth 16 = .ok (.if_icmp .ne 14, 3) := by decide +kernel
theorem dX13_depth_19 : decode cX13_depth 19 = .ok (.aload_n 0, 1) := by decide +kernel
theorem dX13_depth_20 : decode cX13_depth 20 = .ok (.aload_n 0, 1) := by decide +kernel
theorem dX13_depth_21 : decode cX13_depth 21 = .ok (.getfield 39, 3) := by decide +kernel
theorem dX13_depth_24 : decode cX13_depth 24 = .ok (.iload_n 1, 1) := by decide +kernel
theorem dX13_depth_25 : decode cX13_depth 25 = .ok (.iaload, 1) := by decide +kernel
theorem dX13_depth_26 : decode cX13_depth 26 = .ok (.invokestatic 821, 3) := by decide +kernel
theorem dX13_depth_29 : decode cX13_depth 29 = .ok (.ireturn, 1) := by decide +kernel
theorem dX13_depth_30 : decode cX13_depth 30 = .ok (.iload_n 2, 1) := by decide +kernel
theorem dX13_depth_31 : decode cX13_depth 31 = .ok (.bipush 28, 2) := by decide +kernel
theorem dX13_depth_33 : decode cX13_depth 33 = .ok (.if_icmp .ne 41, 3) := by decide +kernel
theorem dX13_depth_36 : decode cX13_depth 36 = .ok (.aload_n 0, 1) := by decide +kernel
theorem dX13_depth_37 : decode cX13_depth 37 = .ok (.aload_n 0, 1) := by decide +kernel
theorem dX13_depth_38 : decode cX13_depth 38 = .ok (.getfield 63, 3) := by decide +kernel
theorem dX13_depth_4 : decode cX13_depth 4 = .ok (.iload_n 1, 1) := by decide +kernel
theorem dX13_depth_41 : decode cX13_depth 41 = .ok (.iconst 0, 1) := by decide +kernel
theorem dX13_depth_42 : decode cX13_depth 42 = .ok (.aload_n 0, 1) := by decide +kernel
theorem dX13_depth_43 : decode cX13_depth 43 = .ok (.getfield 627, 3) := by decide +kernel
theorem dX13_depth_46 : decode cX13_depth 46 = .ok (.aload_n 0, 1) := by decide +kernel
theorem dX13_depth_47 : decode cX13_depth 47 = .ok (.getfield 32, 3) := by decide +kernel
theorem dX13_depth_5 : decode cX13_depth 5 = .ok (.iaload, 1) := by decide +kernel
theorem dX13_depth_50 : decode cX13_depth 50 = .ok (.iload_n 1, 1) := by decide +kernel
theorem dX13_depth_51 : decode cX13_depth 51 = .ok (.laload, 1) := by decide +kernel
theorem dX13_depth_52 : decode cX13_depth 52 = .ok (.l2i, 1) := by decide +kernel
theorem dX13_depth_53 : decode cX13_depth 53 = .ok (.invokevirtual 788, 3) := by decide +kernel
theorem dX13_depth_56 : decode cX13_depth 56 = .ok (.istore_n 3, 1) := by decide +kernel
theorem dX13_depth_57 : decode cX13_depth 57 = .ok (.iload_n 3, 1) := by decide +kernel
theorem dX13_depth_58 : decode cX13_depth 58 = .ok (.ifCond .ge 7, 3) := by decide +kernel
theorem dX13_depth_6 : decode cX13_depth 6 = .ok (.istore_n 2, 1) := by decide +kernel
theorem dX13_depth_61 : decode cX13_depth 61 = .ok (.iconst 1, 1) := by decide +kernel
theorem dX13_depth_62 : decode cX13_depth 62 = .ok (.goto 11, 3) := by decide +kernel
theorem dX13_depth_65 : decode cX13_depth 65 = .ok (.iconst 1, 1) := by decide +kernel
theorem dX13_depth_66 : decode cX13_depth 66 = .ok (.aload_n 0, 1) := by decide +kernel
theorem dX13_depth_67 : decode cX13_depth 67 = .ok (.getfield 178, 3) := by decide +kernel
theorem dX13_depth_7 : decode cX13_depth 7 = .ok (.iload_n 2, 1) := by decide +kernel
theorem dX13_depth_70 : decode cX13_depth 70 = .ok (.iload_n 3, 1) := by decide +kernel
theorem dX13_depth_71 : decode cX13_depth 71 = .ok (.iaload, 1) := by decide +kernel
theorem dX13_depth_72 : decode cX13_depth 72 = .ok (.iadd, 1) := by decide +kernel
theorem dX13_depth_73 : decode cX13_depth 73 = .ok (.ireturn, 1) := by decide +kernel
theorem dX13_depth_74 : decode cX13_depth 74 = .ok (.iconst 0, 1) := by decide +kernel
theorem dX13_depth_75 : decode cX13_depth 75 = .ok (.istore_n 3, 1) := by decide +kernel
theorem dX13_depth_76 : decode cX13_depth 76 = .ok (.iload_n 2, 1) := by decide +kernel
theorem dX13_depth_77 : decode cX13_depth 77 = .ok (.bipush 38, 2) := by decide +kernel
theorem dX13_depth_79 : decode cX13_depth 79 = .ok (.if_icmp .ne 7, 3) := by decide +kernel
theorem dX13_depth_8 : decode cX13_depth 8 = .ok (.bipush 41, 2) := by decide +kernel
theorem dX13_depth_82 : decode cX13_depth 82 = .ok (.iconst (-1), 1) := by decide +kernel
theorem dX13_depth_83 : decode cX13_depth 83 = .ok (.goto 9, 3) := by decide +kernel
theorem dX13_depth_86 : decode cX13_depth 86 = .ok (.aload_n 0, 1) := by decide +kernel
theorem dX13_depth_87 : decode cX13_depth 87 = .ok (.getfield 39, 3) := by decide +kernel
theorem dX13_depth_90 : decode cX13_depth 90 = .ok (.iload_n 1, 1) := by decide +kernel
theorem dX13_depth_91 : decode cX13_depth 91 = .ok (.iaload, 1) := by decide +kernel
theorem dX13_depth_92 : decode cX13_depth 92 = .ok (.istore 4, 2) := by decide +kernel
theorem dX13_depth_94 : decode cX13_depth 94 = .ok (.iload 4, 2) := by decide +kernel
theorem dX13_depth_96 : decode cX13_depth 96 = .ok (.ifCond .lt 36, 3) := by decide +kernel
theorem dX13_depth_99 : decode cX13_depth 99 = .ok (.aload_n 0, 1) := by decide +kernel
abbrev RT_X13_depth : Type := (Int32 → t_S → Option (Int32))
def RH_X13_depth (rc : RT_X13_depth) (k : Nat) : Prop := (∀ (x2 : Int32) (s : t_S) (r : Int32), rc x2 s = some r → t_C yX13_depth cX13_depth 6 (some .int) (1 + k) [.ref 950, .int x2] s (fun v s' => v = some (.int r) ∧ s' = s))
noncomputable def k_X13_depth_19 (rc : RT_X13_depth) (l1 : Int32) (s : t_S) : Option (Int32) :=
 if t_ix l1 13000 = true then
  (rc (s.1 959 (l1.toNatClampNeg)) s).bind (fun r2 =>
 some (r2))
else none
set_option maxRecDepth 4000 in
set_option maxHeartbeats 1000000 in
theorem B_X13_depth_19 {D : va_G} {cy : Nat → ClassId} {ad : Nat → Nat} {bs : Nat} {X : State → Heap → Prop} (rc : RT_X13_depth) {k : Nat} (H : RH_X13_depth rc k) (l1 : Int32) (s : t_S) (Q : Int32 → Prop) (hk : t_hk (k_X13_depth_19 rc l1 s) Q) : mj_G D cy ad bs X cX13_depth 6 yX13_depth.cls (some .int) yX13_depth.name (1 + (k + 1)) 0 0 1065 (t_P (fun v s' => s' = s ∧ ∃ x, v = some (.int x) ∧ Q (x))) 19 [(0, .ref 950), (1, .int l1)] [] (t_m s) 1065 0 0 := by
  refine mj_aload_n dX13_depth_19 0 rfl ?_
  refine mj_aload_n dX13_depth_20 0 rfl ?_
  refine t_getR 959 dX13_depth_21 F_X13_39 qr_950_21 ?_
  refine mj_iload_n dX13_depth_24 1 rfl ?_
  refine t_chkK hk (fun c0 hk => ?_)
  refine t_iald dX13_depth_25 qa_959 (t_ixv c0) ?_
  refine t_bndK hk (fun r2 er2 hk => ?_)
  refine t_callSiP dX13_depth_26 M_X13_depth (H _ _ _ er2) ML_X13_821 SM_X13_depth (As := [.ref 950, .int (s.1 959 (l1.toNatClampNeg))]) rfl rfl (by omega) (Nat.le_of_ble_eq_true rfl) (Nat.le_of_ble_eq_true rfl) (Nat.le_of_ble_eq_true rfl) ?_
  exact t_somK hk (fun hf => t_iret dX13_depth_29 rfl rfl ⟨rfl, _, rfl, hf⟩ (Nat.le_of_ble_eq_true rfl) (Nat.le_of_ble_eq_true rfl))
noncomputable def k_X13_depth_119 (rc : RT_X13_depth) (l4 : Int32) (k0 : Int32) (s : t_S) : Option ((Int32 × Int32) ⊕ (Int32)) :=
 if t_ix l4 13000 = true then
  some (.inl (k0, (s.1 960 (l4.toNatClampNeg))))
else none
set_option maxRecDepth 4000 in
set_option maxHeartbeats 1000000 in
theorem B_X13_depth_119 {D : va_G} {cy : Nat → ClassId} {ad : Nat → Nat} {bs : Nat} {X : State → Heap → Prop} (rc : RT_X13_depth) {k : Nat} (H : RH_X13_depth rc k) (l4 : Int32) (k0 : Int32) (s : t_S) (Q : (Int32 × Int32) ⊕ (Int32) → Prop) (Hb94 : ∀ (y0 : Int32) (y1 : Int32), Q (.inl (y0, y1)) → mj_G D cy ad bs X cX13_depth 6 yX13_depth.cls (some .int) yX13_depth.name (1 + (k + 1)) 0 0 1065 (t_P (fun v s' => s' = s ∧ ∃ x, v = some (.int x) ∧ Q (.inr (x)))) 94 [(0, .ref 950), (3, .int (y0)), (4, .int (y1))] [] (t_m s) 1065 0 0) (hk : t_hk (k_X13_depth_119 rc l4 k0 s) Q) : mj_G D cy ad bs X cX13_depth 6 yX13_depth.cls (some .int) yX13_depth.name (1 + (k + 1)) 0 0 1065 (t_P (fun v s' => s' = s ∧ ∃ x, v = some (.int x) ∧ Q (.inr (x)))) 119 [(0, .ref 950), (4, .int l4)] [.int k0] (t_m s) 1065 0 0 := by
  refine mj_istore_n 3 (lv2 := [(3, .int k0), (0, .ref 950), (4, .int l4)]) dX13_depth_119 rfl (by decide) rfl ?_
  refine mj_aload_n dX13_depth_120 1 rfl ?_
  refine t_getR 960 dX13_depth_121 F_X13_42 qr_950_22 ?_
  refine mj_iload dX13_depth_124 2 rfl ?_
  refine t_chkK hk (fun c0 hk => ?_)
  refine t_iald dX13_depth_126 qa_960 (t_ixv c0) ?_
  refine mj_istore (lv2 := [(4, .int (s.1 960 (l4.toNatClampNeg))), (3, .int k0), (0, .ref 950)]) dX13_depth_127 (by decide) rfl ?_
  refine mj_goto 94 dX13_depth_129 (by decide) ?_
  refine mj_sublv [(0, .ref 950), (3, .int k0), (4, .int (s.1 960 (l4.toNatClampNeg)))] [2, 1, 0] rfl ?_
  exact t_somK hk (fun hf => Hb94 k0 (s.1 960 (l4.toNatClampNeg)) hf)
noncomputable def k_X13_depth_94 (rc : RT_X13_depth) (l3 : Int32) (l4 : Int32) (s : t_S) : Option ((Int32 × Int32) ⊕ (Int32)) :=
 if l4 < (0 : Int32) then ((some ((1 : Int32) + l3)).map Sum.inr)
 else ((rc l4 s).bind (fun r1 =>
 if r1 ≤ l3 then (k_X13_depth_119 rc l4 l3 s)
 else (k_X13_depth_119 rc l4 r1 s)))
set_option maxRecDepth 4000 in
set_option maxHeartbeats 1000000 in
theorem B_X13_depth_94 {D : va_G} {cy : Nat → ClassId} {ad : Nat → Nat} {bs : Nat} {X : State → Heap → Prop} (rc : RT_X13_depth) {k : Nat} (H : RH_X13_depth rc k) (l3 : Int32) (l4 : Int32) (s : t_S) (Q : (Int32 × Int32) ⊕ (Int32) → Prop) (Hb94 : ∀ (y0 : Int32) (y1 : Int32), Q (.inl (y0, y1)) → mj_G D cy ad bs X cX13_depth 6 yX13_depth.cls (some .int) yX13_depth.name (1 + (k + 1)) 0 0 1065 (t_P (fun v s' => s' = s ∧ ∃ x, v = some (.int x) ∧ Q (.inr (x)))) 94 [(0, .ref 950), (3, .int (y0)), (4, .int (y1))] [] (t_m s) 1065 0 0) (hk : t_hk (k_X13_depth_94 rc l3 l4 s) Q) : mj_G D cy ad bs X cX13_depth 6 yX13_depth.cls (some .int) yX13_depth.name (1 + (k + 1)) 0 0 1065 (t_P (fun v s' => s' = s ∧ ∃ x, v = some (.int x) ∧ Q (.inr (x)))) 94 [(0, .ref 950), (3, .int l3), (4, .int l4)] [] (t_m s) 1065 0 0 := by
  refine mj_iload dX13_depth_94 2 rfl ?_
  refine mj_if_lt 132 dX13_depth_96 (by decide) (fun z => t_posK hk z (fun hk => ?_)) (fun z => t_negK hk z (fun hk => ?_))
  · refine t_mapK hk (fun hk => ?_)
    refine mj_iconst (v := 1) dX13_depth_132 (by decide) ?_
    refine mj_iload_n dX13_depth_133 1 rfl ?_
    refine mj_iadd dX13_depth_134 ?_
    exact t_somK hk (fun hf => t_iret dX13_depth_135 rfl rfl ⟨rfl, _, rfl, hf⟩ (Nat.le_of_ble_eq_true rfl) (Nat.le_of_ble_eq_true rfl))
  · refine mj_aload_n dX13_depth_99 0 rfl ?_
    refine mj_iload dX13_depth_100 2 rfl ?_
    refine t_bndK hk (fun r1 er1 hk => ?_)
    refine t_callSiP dX13_depth_102 M_X13_depth (H _ _ _ er1) ML_X13_821 SM_X13_depth (As := [.ref 950, .int l4]) rfl rfl (by omega) (Nat.le_of_ble_eq_true rfl) (Nat.le_of_ble_eq_true rfl) (Nat.le_of_ble_eq_true rfl) ?_
    refine mj_istore (lv2 := [(5, .int r1), (0, .ref 950), (3, .int l3), (4, .int l4)]) dX13_depth_105 (by decide) rfl ?_
    refine mj_iload dX13_depth_107 0 rfl ?_
    refine mj_iload_n dX13_depth_109 2 rfl ?_
    refine mj_icmp_le 118 dX13_depth_110 (by decide) (fun z => t_posK hk z (fun hk => ?_)) (fun z => t_negK hk z (fun hk => ?_))
    · refine mj_iload_n dX13_depth_118 2 rfl ?_
      refine mj_sublv [(0, .ref 950), (4, .int l4)] [1, 3] rfl ?_
      exact B_X13_depth_119 rc H _ _ _ _ (fun y0 y1 hx => Hb94 y0 y1 hx) hk
    · refine mj_iload dX13_depth_113 0 rfl ?_
      refine mj_goto 119 dX13_depth_115 (by decide) ?_
      refine mj_sublv [(0, .ref 950), (4, .int l4)] [1, 3] rfl ?_
      exact B_X13_depth_119 rc H _ _ _ _ (fun y0 y1 hx => Hb94 y0 y1 hx) hk
noncomputable def b_X13_depth_94 (rc : RT_X13_depth) (s : t_S) (x : Int32 × Int32) : Option ((Int32 × Int32) ⊕ (Int32)) := k_X13_depth_94 rc x.1 x.2 s
set_option maxRecDepth 4000 in
set_option maxHeartbeats 1000000 in
theorem LH_X13_depth_94 {D : va_G} {cy : Nat → ClassId} {ad : Nat → Nat} {bs : Nat} {X : State → Heap → Prop} (rc : RT_X13_depth) {k : Nat} (H : RH_X13_depth rc k) (s : t_S) : ∀ (n : Nat) (y0 : Int32) (y1 : Int32) (Q : Int32 → Prop) (hk : t_hk (t_loop (b_X13_depth_94 rc s) n (y0, y1)) Q), mj_G D cy ad bs X cX13_depth 6 yX13_depth.cls (some .int) yX13_depth.name (1 + (k + 1)) 0 0 1065 (t_P (fun v s' => s' = s ∧ ∃ x, v = some (.int x) ∧ Q (x))) 94 [(0, .ref 950), (3, .int (y0)), (4, .int (y1))] [] (t_m s) 1065 0 0 := by
  intro n
  induction n with
  | zero => intro y0 y1 Q hk; obtain ⟨r, hr, _⟩ := hk; cases hr
  | succ n ih =>
    intro y0 y1 Q hk
    exact B_X13_depth_94 rc H y0 y1 s (fun y => t_lq (b_X13_depth_94 rc s) n Q y) (fun y0' y1' hy => ih y0' y1' Q hy) (t_lp (b := b_X13_depth_94 rc s) (n := n) (x := (y0, y1)) hk)
noncomputable def k_X13_depth_92 (rc : RT_X13_depth) (l3 : Int32) (k0 : Int32) (s : t_S) : Option (Int32) :=
 t_loop (b_X13_depth_94 rc s) t_N (l3, k0)
set_option maxRecDepth 4000 in
set_option maxHeartbeats 1000000 in
theorem B_X13_depth_92 {D : va_G} {cy : Nat → ClassId} {ad : Nat → Nat} {bs : Nat} {X : State → Heap → Prop} (rc : RT_X13_depth) {k : Nat} (H : RH_X13_depth rc k) (l3 : Int32) (k0 : Int32) (s : t_S) (Q : Int32 → Prop) (hk : t_hk (k_X13_depth_92 rc l3 k0 s) Q) : mj_G D cy ad bs X cX13_depth 6 yX13_depth.cls (some .int) yX13_depth.name (1 + (k + 1)) 0 0 1065 (t_P (fun v s' => s' = s ∧ ∃ x, v = some (.int x) ∧ Q (x))) 92 [(0, .ref 950), (3, .int l3)] [.int k0] (t_m s) 1065 0 0 := by
  refine mj_istore (lv2 := [(4, .int k0), (0, .ref 950), (3, .int l3)]) dX13_depth_92 (by decide) rfl ?_
  refine mj_sublv [(0, .ref 950), (3, .int l3), (4, .int k0)] [1, 2, 0] rfl ?_
  exact LH_X13_depth_94 rc H _ _ l3 k0 _ hk
noncomputable def m_X13_depth (rc : RT_X13_depth) (x2 : Int32) (s : t_S) : Option (Int32) :=
 if t_ix x2 13000 = true then
  if (s.1 955 (x2.toNatClampNeg)) = (41 : Int32) then (k_X13_depth_19 rc x2 s)
 else (if (s.1 955 (x2.toNatClampNeg)) = (40 : Int32) then (k_X13_depth_19 rc x2 s)
 else (if (s.1 955 (x2.toNatClampNeg)) = (28 : Int32) then ((f_X13_find 967 (0 : Int32) (s.1 950 44) ((s.2.1 957 (x2.toNatClampNeg)).toInt32) s).bind (fun r2 =>
 if (0 : Int32) ≤ r2 then (if t_ix r2 60 = true then
  some ((1 : Int32) + (s.1 1005 (r2.toNatClampNeg)))
else none)
 else (some (1 : Int32))))
 else (if (s.1 955 (x2.toNatClampNeg)) = (38 : Int32) then (k_X13_depth_92 rc 0 (-1) s)
 else (k_X13_depth_92 rc 0 (s.1 959 (x2.toNatClampNeg)) s))))
else none
set_option maxRecDepth 4000 in
set_option maxHeartbeats 1000000 in
theorem E_X13_depth (rc : RT_X13_depth) {k : Nat} (H : RH_X13_depth rc k) (x2 : Int32) (s : t_S) (r : Int32) (hr : m_X13_depth rc x2 s = some r) : t_C yX13_depth cX13_depth 6 (some .int) (1 + (k + 1)) [.ref 950, .int x2] s (fun v s' => v = some (.int r) ∧ s' = s) := by
  refine t_C.imp (P := fun v s' => s' = s ∧ ∃ x, v = some (.int x) ∧ (fun q => q = r) (x)) (t_C.of (by decide +kernel) (Nat.le_of_ble_eq_true rfl) ?_) (fun v s' hp => by obtain ⟨rfl, x, rfl, rfl⟩ := hp; exact ⟨rfl, rfl⟩)
  intro D cy ad bs X
  have hk : t_hk (m_X13_depth rc x2 s) (fun q => q = r) := ⟨r, hr, rfl⟩
  show mj_G D cy ad bs X cX13_depth 6 yX13_depth.cls (some .int) yX13_depth.name (1 + (k + 1)) 0 0 1065 (t_P (fun v s' => s' = s ∧ ∃ x, v = some (.int x) ∧ (fun q => q = r) (x))) 0 [(0, .ref 950), (1, .int x2)] [] (t_m s) 1065 0 0
  refine mj_aload_n dX13_depth_0 0 rfl ?_
  refine t_getR 955 dX13_depth_1 F_X13_26 qr_950_17 ?_
  refine mj_iload_n dX13_depth_4 1 rfl ?_
  refine t_chkK hk (fun c0 hk => ?_)
  refine t_iald dX13_depth_5 qa_955 (t_ixv c0) ?_
  refine mj_istore_n 2 (lv2 := [(2, .int (s.1 955 (x2.toNatClampNeg))), (0, .ref 950), (1, .int x2)]) dX13_depth_6 rfl (by decide) rfl ?_
  refine mj_iload_n dX13_depth_7 0 rfl ?_
  refine mj_bipush (v := 41) dX13_depth_8 (by decide) ?_
  refine mj_icmp_eq 19 dX13_depth_10 (by decide) (fun z => t_posK hk z (fun hk => ?_)) (fun z => t_negK hk z (fun hk => ?_))
  · refine mj_sublv [(0, .ref 950), (1, .int x2)] [1, 2] rfl ?_
    exact B_X13_depth_19 rc H _ _ _ hk
  · refine mj_iload_n dX13_depth_13 0 rfl ?_
    refine mj_bipush (v := 40) dX13_depth_14 (by decide) ?_
    refine mj_icmp_ne 30 dX13_depth_16 (by decide) (fun z => t_negK hk z (fun hk => ?_)) (fun z => t_posK hk z (fun hk => ?_))
    · refine mj_iload_n dX13_depth_30 0 rfl ?_
      refine mj_bipush (v := 28) dX13_depth_31 (by decide) ?_
      refine mj_icmp_ne 74 dX13_depth_33 (by decide) (fun z => t_negK hk z (fun hk => ?_)) (fun z => t_posK hk z (fun hk => ?_))
      · refine mj_iconst (v := 0) dX13_depth_74 (by decide) ?_
        refine mj_istore_n 3 (lv2 := [(3, .int 0), (2, .int (s.1 955 (x2.toNatClampNeg))), (0, .ref 950), (1, .int x2)]) dX13_depth_75 rfl (by decide) rfl ?_
        refine mj_iload_n dX13_depth_76 1 rfl ?_
        refine mj_bipush (v := 38) dX13_depth_77 (by decide) ?_
        refine mj_icmp_ne 86 dX13_depth_79 (by decide) (fun z => t_negK hk z (fun hk => ?_)) (fun z => t_posK hk z (fun hk => ?_))
        · refine mj_aload_n dX13_depth_86 2 rfl ?_
          refine t_getR 959 dX13_depth_87 F_X13_39 qr_950_21 ?_
          refine mj_iload_n dX13_depth_90 3 rfl ?_
          refine t_iald dX13_depth_91 qa_959 (t_ixv c0) ?_
          refine mj_sublv [(0, .ref 950), (3, .int 0)] [2, 0] rfl ?_
          exact B_X13_depth_92 rc H _ _ _ _ hk
        · refine mj_iconst (v := (-1)) dX13_depth_82 (by decide) ?_
          refine mj_goto 92 dX13_depth_83 (by decide) ?_
          refine mj_sublv [(0, .ref 950), (3, .int 0)] [2, 0] rfl ?_
          exact B_X13_depth_92 rc H _ _ _ _ hk
      · refine mj_aload_n dX13_depth_36 1 rfl ?_
        refine mj_aload_n dX13_depth_37 1 rfl ?_
        refine t_getR 967 dX13_depth_38 F_X13_63 qr_950_41 ?_
        refine mj_iconst (v := 0) dX13_depth_41 (by decide) ?_
        refine mj_aload_n dX13_depth_42 1 rfl ?_
        refine t_getI dX13_depth_43 F_X13_627 qf_950_44 ?_
        refine mj_aload_n dX13_depth_46 1 rfl ?_
        refine t_getR 957 dX13_depth_47 F_X13_32 qr_950_19 ?_
        refine mj_iload_n dX13_depth_50 2 rfl ?_
        refine t_lald dX13_depth_51 qa_957 (t_ixv c0) ?_
        refine mj_l2i (v := (s.2.1 957 (x2.toNatClampNeg)).toInt32) dX13_depth_52 rfl ?_
        refine t_bndK hk (fun r2 er2 hk => ?_)
        refine t_callViP dX13_depth_53 M_X13_find (C_X13_find _ _ _ _ _ _ er2) ML_X13_788 IM_X13_find SE_X13_find qc_950 rfl (As := [.ref 967, .int 0, .int (s.1 950 44), .int ((s.2.1 957 (x2.toNatClampNeg)).toInt32)]) rfl rfl (by omega) (Nat.le_of_ble_eq_true rfl) (Nat.le_of_ble_eq_true rfl) (Nat.le_of_ble_eq_true rfl) ?_
        refine mj_istore_n 3 (lv2 := [(3, .int r2), (2, .int (s.1 955 (x2.toNatClampNeg))), (0, .ref 950), (1, .int x2)]) dX13_depth_56 rfl (by decide) rfl ?_
        refine mj_iload_n dX13_depth_57 0 rfl ?_
        refine mj_if_ge 65 dX13_depth_58 (by decide) (fun z => t_posK hk z (fun hk => ?_)) (fun z => t_negK hk z (fun hk => ?_))
        · refine mj_iconst (v := 1) dX13_depth_65 (by decide) ?_
          refine mj_aload_n dX13_depth_66 2 rfl ?_
          refine t_getR 1005 dX13_depth_67 F_X13_178 qr_950_92 ?_
          refine mj_iload_n dX13_depth_70 0 rfl ?_
          refine t_chkK hk (fun c2 hk => ?_)
          refine t_iald dX13_depth_71 qa_1005 (t_ixv c2) ?_
          refine mj_iadd dX13_depth_72 ?_
          exact t_somK hk (fun hf => t_iret dX13_depth_73 rfl rfl ⟨rfl, _, rfl, hf⟩ (Nat.le_of_ble_eq_true rfl) (Nat.le_of_ble_eq_true rfl))
        · refine mj_iconst (v := 1) dX13_depth_61 (by decide) ?_
          refine mj_goto 73 dX13_depth_62 (by decide) ?_
          exact t_somK hk (fun hf => t_iret dX13_depth_73 rfl rfl ⟨rfl, _, rfl, hf⟩ (Nat.le_of_ble_eq_true rfl) (Nat.le_of_ble_eq_true rfl))
    · refine mj_sublv [(0, .ref 950), (1, .int x2)] [1, 2] rfl ?_
      exact B_X13_depth_19 rc H _ _ _ hk
/-- so many calls deep -/
noncomputable def R_X13_depth : Nat → RT_X13_depth
  | 0 => fun _ _ => none
  | k + 1 => fun x2 s => m_X13_depth (R_X13_depth k) x2 s
theorem RR_X13_depth : ∀ k : Nat, RH_X13_depth (R_X13_depth k) k := by
  intro k
  induction k with
  | zero => exact fun _ _ _ h => (by cases h)
  | succ k ih => exact fun x2 s r h => E_X13_depth (R_X13_depth k) ih x2 s r h
noncomputable def f_X13_depth (x2 : Int32) (s : t_S) : Option (Int32) := (R_X13_depth 150) x2 s
theorem C_X13_depth (x2 : Int32) (s : t_S) (r : Int32) (hr : f_X13_depth x2 s = some r) : t_C yX13_depth cX13_depth 6 (some .int) 151 [.ref 950, .int x2] s (fun v s' => v = some (.int r) ∧ s' = s) := (RR_X13_depth 150) x2 s r hr

theorem dX13_findDepths_0 : decode cX13_findDepths 0 = .ok (.iconst 0, 1) := by decide +kernel
theorem dX13_findDepths_1 : decode cX13_findDepths 1 = .ok (.istore_n 1, 1) := by decide +kernel
theorem dX13_findDepths_10 : decode cX13_findDepths 10 = .ok (.aload_n 0, 1) := by decide +kernel
theorem dX13_findDepths_11 : decode cX13_findDepths 11 = .ok (.getfield 178, 3) := by decide +kernel
theorem dX13_findDepths_14 : decode cX13_findDepths 14 = .ok (.iload_n 1, 1) := by decide +kernel
theorem dX13_findDepths_15 : decode cX13_findDepths 15 = .ok (.iconst 0, 1) := by decide +kernel
theorem dX13_findDepths_16 : decode cX13_findDepths 16 = .ok (.iastore, 1) := by decide +kernel
theorem dX13_findDepths_17 : decode cX13_findDepths 17 = .ok (.iinc 1 1, 3) := by decide +kernel
theorem dX13_findDepths_2 : decode cX13_findDepths 2 = .ok (.iload_n 1, 1) := by decide +kernel
theorem dX13_findDepths_20 : decode cX13_findDepths 20 = .ok (.goto (-18), 3) := by decide +kernel
theorem dX13_findDepths_23 : decode cX13_findDepths 23 = .ok (.iconst 0, 1) := by decide +kernel
theorem dX13_findDepths_24 : decode cX13_findDepths 24 = .ok (.istore_n 1, 1) := by decide +kernel
theorem dX13_findDepths_25 : decode cX13_findDepths 25 = .ok (.iload_n 1, 1) := by decide +kernel
theorem dX13_findDepths_26 : decode cX13_findDepths 26 = .ok (.bipush 64, 2) := by decide +kernel
theorem dX13_findDepths_28 : decode cX13_findDepths 28 = .ok (.if_icmp .ge 56, 3) := by decide +kernel
theorem dX13_findDepths_3 : decode cX13_findDepths 3 = .ok (.aload_n 0, 1) := by decide +kernel
theorem dX13_findDepths_31 : decode cX13_findDepths 31 = .ok (.iconst 0, 1) := by decide +kernel
theorem dX13_findDepths_32 : decode cX13_findDepths 32 = .ok (.istore_n 2, 1) := by decide +kernel
theorem dX13_findDepths_33 : decode cX13_findDepths 33 = .ok (.iload_n 2, 1) := by decide +kernel
theorem dX13_findDepths_34 : decode cX13_findDepths 34 = .ok (.aload_n 0, 1) := by decide +kernel
theorem dX13_findDepths_35 : decode cX13_findDepths 35 = .ok (.getfield 627, 3) := by decide +kernel
theorem dX13_findDepths_38 : decode cX13_findDepths 38 = .ok (.if_icmp .ge 40, 3) := by decide +kernel
theorem dX13_findDepths_4 : decode cX13_findDepths 4 = .ok (.getfield 627, 3) := by decide +kernel
theorem dX13_findDepths_41 : decode cX13_findDepths 41 = .ok (.aload_n 0, 1) := by decide +kernel
theorem dX13_findDepths_42 : decode cX13_findDepths 42 = .ok (.aload_n 0, 1) := by decide +kernel
theorem dX13_findDepths_43 : decode cX13_findDepths 43 = .ok (.getfield 66, 3) := by decide +kernel
theorem dX13_findDepths_46 : decode cX13_findDepths 46 = .ok (.iload_n 2, 1) := by decide +kernel
theorem dX13_findDepths_47 : decode cX13_findDepths 47 = .ok (.iaload, 1) := by decide +kernel
theorem dX13_findDepths_48 : decode cX13_findDepths 48 = .ok (.invokestatic 821, 3) := by decide +kernel
theorem dX13_findDepths_51 : decode cX13_findDepths 51 = .ok (.istore_n 3, 1) := by decide +kernel
theorem dX13_findDepths_52 : decode cX13_findDepths 52 = .ok (.aload_n 0, 1) := by decide +kernel
theorem dX13_findDepths_53 : decode cX13_findDepths 53 = .ok (.getfield 178, 3) := by decide +kernel
theorem dX13_findDepths_56 : decode cX13_findDepths 56 = .ok (.iload_n 2, 1) := by decide +kernel
theorem dX13_findDepths_57 : decode cX13_findDepths 57 = .ok (.iload_n 3, 1) := by decide +kernel
theorem dX13_findDepths_58 : decode cX13_findDepths 58 = .ok (.sipush 1000, 3) := by decide +kernel
theorem dX13_findDepths_61 : decode cX13_findDepths 61 = .ok (.if_icmp .le 9, 3) := by decide +kernel
theorem dX13_findDepths_64 : decode cX13_findDepths 64 = .ok (.sipush 1000, 3) := by decide +kernel
theorem dX13_findDepths_67 : decode cX13_findDepths 67 = .ok (.goto 4, 3) := by decide +kernel
theorem dX13_findDepths_7 : decode cX13_findDepths 7 = .ok (.if_icmp .ge 16, 3) := by decide +kernel
theorem dX13_findDepths_70 : decode cX13_findDepths 70 = .ok (.iload_n 3, 1) := by decide +kernel
theorem dX13_findDepths_71 : decode cX13_findDepths 71 = .ok (.iastore, 1) := by decide +kernel
theorem dX13_findDepths_72 : decode cX13_findDepths 72 = .ok (.iinc 2 1, 3) := by decide +kernel
theorem dX13_findDepths_75 : decode cX13_findDepths 75 = .ok (.goto (-42), 3) := by decide +kernel
theorem dX13_findDepths_78 : decode cX13_findDepths 78 = .ok (.iinc 1 1, 3) := by decide +kernel
theorem dX13_findDepths_81 : decode cX13_findDepths 81 = .ok (.goto (-56), 3) := by decide +kernel
theorem dX13_findDepths_84 : decode cX13_findDepths 84 = .ok (.return_, 1) := by decide +kernel
noncomputable def k_X13_findDepths_71 (l1 : Int32) (l2 : Int32) (k0 : Int32) (k1 : Int32) (s : t_S) : Option ((Int32 × Int32 × t_S) ⊕ ((Int32 × t_S) ⊕ (t_S))) :=
 if t_ix k1 60 = true then
  t_let (t_setI s 1005 (k1.toNatClampNeg) k0) (fun s1 =>
 some (.inl (l1, (l2 + 1), s1)))
else none
set_option maxRecDepth 4000 in
set_option maxHeartbeats 1000000 in
theorem B_X13_findDepths_71 {D : va_G} {cy : Nat → ClassId} {ad : Nat → Nat} {bs : Nat} {X : State → Heap → Prop} (l1 : Int32) (l2 : Int32) (k0 : Int32) (k1 : Int32) (s : t_S) (Q : (Int32 × Int32 × t_S) ⊕ ((Int32 × t_S) ⊕ (t_S)) → Prop) (Hb25 : ∀ (y0 : Int32) (y1 : t_S), Q (.inr (.inl (y0, y1))) → mj_G D cy ad bs X cX13_findDepths 4 yX13_findDepths.cls none yX13_findDepths.name 152 0 0 1065 (t_P (fun v s' => v = none ∧ Q (.inr (.inr (s'))))) 25 [(0, .ref 950), (1, .int (y0))] [] (t_m y1) 1065 0 0) (Hb33 : ∀ (y0 : Int32) (y1 : Int32) (y2 : t_S), Q (.inl (y0, y1, y2)) → mj_G D cy ad bs X cX13_findDepths 4 yX13_findDepths.cls none yX13_findDepths.name 152 0 0 1065 (t_P (fun v s' => v = none ∧ Q (.inr (.inr (s'))))) 33 [(0, .ref 950), (1, .int (y0)), (2, .int (y1))] [] (t_m y2) 1065 0 0) (hk : t_hk (k_X13_findDepths_71 l1 l2 k0 k1 s) Q) : mj_G D cy ad bs X cX13_findDepths 4 yX13_findDepths.cls none yX13_findDepths.name 152 0 0 1065 (t_P (fun v s' => v = none ∧ Q (.inr (.inr (s'))))) 71 [(0, .ref 950), (1, .int l1), (2, .int l2)] [.int k0, .int k1, .ref 1005] (t_m s) 1065 0 0 := by
  refine t_chkK hk (fun c0 hk => ?_)
  refine t_iastK dX13_findDepths_71 qa_1005 (t_ixv c0) (fun s1 ws1 => t_letE hk ws1 (fun hk => ?_))
  refine mj_iinc (k := 2) (v := (l2 + 1)) (lv2 := [(2, .int (l2 + 1)), (0, .ref 950), (1, .int l1)]) dX13_findDepths_72 rfl rfl (by decide) rfl ?_
  refine mj_goto 33 dX13_findDepths_75 (by decide) ?_
  refine mj_sublv [(0, .ref 950), (1, .int l1), (2, .int (l2 + 1))] [1, 2, 0] rfl ?_
  exact t_somK hk (fun hf => Hb33 l1 (l2 + 1) s1 hf)
noncomputable def k_X13_findDepths_33 (l1 : Int32) (l2 : Int32) (s : t_S) : Option ((Int32 × Int32 × t_S) ⊕ ((Int32 × t_S) ⊕ (t_S))) :=
 if (s.1 950 44) ≤ l2 then ((some (.inl ((l1 + 1), s))).map Sum.inr)
 else (if t_ix l2 60 = true then
  (f_X13_depth (s.1 968 (l2.toNatClampNeg)) s).bind (fun r2 =>
 if r2 ≤ (1000 : Int32) then (k_X13_findDepths_71 l1 l2 r2 l2 s)
 else (k_X13_findDepths_71 l1 l2 1000 l2 s))
else none)
set_option maxRecDepth 4000 in
set_option maxHeartbeats 1000000 in
theorem B_X13_findDepths_33 {D : va_G} {cy : Nat → ClassId} {ad : Nat → Nat} {bs : Nat} {X : State → Heap → Prop} (l1 : Int32) (l2 : Int32) (s : t_S) (Q : (Int32 × Int32 × t_S) ⊕ ((Int32 × t_S) ⊕ (t_S)) → Prop) (Hb25 : ∀ (y0 : Int32) (y1 : t_S), Q (.inr (.inl (y0, y1))) → mj_G D cy ad bs X cX13_findDepths 4 yX13_findDepths.cls none yX13_findDepths.name 152 0 0 1065 (t_P (fun v s' => v = none ∧ Q (.inr (.inr (s'))))) 25 [(0, .ref 950), (1, .int (y0))] [] (t_m y1) 1065 0 0) (Hb33 : ∀ (y0 : Int32) (y1 : Int32) (y2 : t_S), Q (.inl (y0, y1, y2)) → mj_G D cy ad bs X cX13_findDepths 4 yX13_findDepths.cls none yX13_findDepths.name 152 0 0 1065 (t_P (fun v s' => v = none ∧ Q (.inr (.inr (s'))))) 33 [(0, .ref 950), (1, .int (y0)), (2, .int (y1))] [] (t_m y2) 1065 0 0) (hk : t_hk (k_X13_findDepths_33 l1 l2 s) Q) : mj_G D cy ad bs X cX13_findDepths 4 yX13_findDepths.cls none yX13_findDepths.name 152 0 0 1065 (t_P (fun v s' => v = none ∧ Q (.inr (.inr (s'))))) 33 [(0, .ref 950), (1, .int l1), (2, .int l2)] [] (t_m s) 1065 0 0 := by
  refine mj_iload_n dX13_findDepths_33 2 rfl ?_
  refine mj_aload_n dX13_findDepths_34 0 rfl ?_
  refine t_getI dX13_findDepths_35 F_X13_627 qf_950_44 ?_
  refine mj_icmp_ge 78 dX13_findDepths_38 (by decide) (fun z => t_posK hk z (fun hk => ?_)) (fun z => t_negK hk z (fun hk => ?_))
  · refine t_mapK hk (fun hk => ?_)
    refine mj_iinc (k := 1) (v := (l1 + 1)) (lv2 := [(1, .int (l1 + 1)), (0, .ref 950), (2, .int l2)]) dX13_findDepths_78 rfl rfl (by decide) rfl ?_
    refine mj_goto 25 dX13_findDepths_81 (by decide) ?_
    refine mj_sublv [(0, .ref 950), (1, .int (l1 + 1))] [1, 0] rfl ?_
    exact t_somK hk (fun hf => Hb25 (l1 + 1) s hf)
  · refine mj_aload_n dX13_findDepths_41 0 rfl ?_
    refine mj_aload_n dX13_findDepths_42 0 rfl ?_
    refine t_getR 968 dX13_findDepths_43 F_X13_66 qr_950_42 ?_
    refine mj_iload_n dX13_findDepths_46 2 rfl ?_
    refine t_chkK hk (fun c0 hk => ?_)
    refine t_iald dX13_findDepths_47 qa_968 (t_ixv c0) ?_
    refine t_bndK hk (fun r2 er2 hk => ?_)
    refine t_callSiP dX13_findDepths_48 M_X13_depth (C_X13_depth _ _ _ er2) ML_X13_821 SM_X13_depth (As := [.ref 950, .int (s.1 968 (l2.toNatClampNeg))]) rfl rfl (Nat.le_of_ble_eq_true rfl) (Nat.le_of_ble_eq_true rfl) (Nat.le_of_ble_eq_true rfl) (Nat.le_of_ble_eq_true rfl) ?_
    refine mj_istore_n 3 (lv2 := [(3, .int r2), (0, .ref 950), (1, .int l1), (2, .int l2)]) dX13_findDepths_51 rfl (by decide) rfl ?_
    refine mj_aload_n dX13_findDepths_52 1 rfl ?_
    refine t_getR 1005 dX13_findDepths_53 F_X13_178 qr_950_92 ?_
    refine mj_iload_n dX13_findDepths_56 3 rfl ?_
    refine mj_iload_n dX13_findDepths_57 0 rfl ?_
    refine mj_sipush (v := 1000) dX13_findDepths_58 (by decide) ?_
    refine mj_icmp_le 70 dX13_findDepths_61 (by decide) (fun z => t_posK hk z (fun hk => ?_)) (fun z => t_negK hk z (fun hk => ?_))
    · refine mj_iload_n dX13_findDepths_70 0 rfl ?_
      refine mj_sublv [(0, .ref 950), (1, .int l1), (2, .int l2)] [1, 2, 3] rfl ?_
      exact B_X13_findDepths_71 _ _ _ _ _ _ (fun y0 y1 hx => Hb25 y0 y1 hx) (fun y0 y1 y2 hx => Hb33 y0 y1 y2 hx) hk
    · refine mj_sipush (v := 1000) dX13_findDepths_64 (by decide) ?_
      refine mj_goto 71 dX13_findDepths_67 (by decide) ?_
      refine mj_sublv [(0, .ref 950), (1, .int l1), (2, .int l2)] [1, 2, 3] rfl ?_
      exact B_X13_findDepths_71 _ _ _ _ _ _ (fun y0 y1 hx => Hb25 y0 y1 hx) (fun y0 y1 y2 hx => Hb33 y0 y1 y2 hx) hk
noncomputable def b_X13_findDepths_33 (x : Int32 × Int32 × t_S) : Option ((Int32 × Int32 × t_S) ⊕ ((Int32 × t_S) ⊕ (t_S))) := k_X13_findDepths_33 x.1 x.2.1 x.2.2
set_option maxRecDepth 4000 in
set_option maxHeartbeats 1000000 in
theorem LH_X13_findDepths_33 {D : va_G} {cy : Nat → ClassId} {ad : Nat → Nat} {bs : Nat} {X : State → Heap → Prop} : ∀ (n : Nat) (y0 : Int32) (y1 : Int32) (y2 : t_S) (Q : (Int32 × t_S) ⊕ (t_S) → Prop) (Hb25 : ∀ (y0 : Int32) (y1 : t_S), Q (.inl (y0, y1)) → mj_G D cy ad bs X cX13_findDepths 4 yX13_findDepths.cls none yX13_findDepths.name 152 0 0 1065 (t_P (fun v s' => v = none ∧ Q (.inr (s')))) 25 [(0, .ref 950), (1, .int (y0))] [] (t_m y1) 1065 0 0) (hk : t_hk (t_loop (b_X13_findDepths_33) n (y0, y1, y2)) Q), mj_G D cy ad bs X cX13_findDepths 4 yX13_findDepths.cls none yX13_findDepths.name 152 0 0 1065 (t_P (fun v s' => v = none ∧ Q (.inr (s')))) 33 [(0, .ref 950), (1, .int (y0)), (2, .int (y1))] [] (t_m y2) 1065 0 0 := by
  intro n
  induction n with
  | zero => intro y0 y1 y2 Q Hb25 hk; obtain ⟨r, hr, _⟩ := hk; cases hr
  | succ n ih =>
    intro y0 y1 y2 Q Hb25 hk
    exact B_X13_findDepths_33 y0 y1 y2 (fun y => t_lq (b_X13_findDepths_33) n Q y) (fun y0' y1' hy => Hb25 y0' y1' hy) (fun y0' y1' y2' hy => ih y0' y1' y2' Q Hb25 hy) (t_lp (b := b_X13_findDepths_33) (n := n) (x := (y0, y1, y2)) hk)
noncomputable def k_X13_findDepths_25 (l1 : Int32) (s : t_S) : Option ((Int32 × t_S) ⊕ (t_S)) :=
 if (64 : Int32) ≤ l1 then ((some (s)).map Sum.inr)
 else (t_loop (b_X13_findDepths_33) t_N (l1, 0, s))
set_option maxRecDepth 4000 in
set_option maxHeartbeats 1000000 in
theorem B_X13_findDepths_25 {D : va_G} {cy : Nat → ClassId} {ad : Nat → Nat} {bs : Nat} {X : State → Heap → Prop} (l1 : Int32) (s : t_S) (Q : (Int32 × t_S) ⊕ (t_S) → Prop) (Hb25 : ∀ (y0 : Int32) (y1 : t_S), Q (.inl (y0, y1)) → mj_G D cy ad bs X cX13_findDepths 4 yX13_findDepths.cls none yX13_findDepths.name 152 0 0 1065 (t_P (fun v s' => v = none ∧ Q (.inr (s')))) 25 [(0, .ref 950), (1, .int (y0))] [] (t_m y1) 1065 0 0) (hk : t_hk (k_X13_findDepths_25 l1 s) Q) : mj_G D cy ad bs X cX13_findDepths 4 yX13_findDepths.cls none yX13_findDepths.name 152 0 0 1065 (t_P (fun v s' => v = none ∧ Q (.inr (s')))) 25 [(0, .ref 950), (1, .int l1)] [] (t_m s) 1065 0 0 := by
  refine mj_iload_n dX13_findDepths_25 1 rfl ?_
  refine mj_bipush (v := 64) dX13_findDepths_26 (by decide) ?_
  refine mj_icmp_ge 84 dX13_findDepths_28 (by decide) (fun z => t_posK hk z (fun hk => ?_)) (fun z => t_negK hk z (fun hk => ?_))
  · refine t_mapK hk (fun hk => ?_)
    exact t_somK hk (fun hf => t_vret dX13_findDepths_84 rfl ⟨rfl, hf⟩ (Nat.le_of_ble_eq_true rfl) (Nat.le_of_ble_eq_true rfl))
  · refine mj_iconst (v := 0) dX13_findDepths_31 (by decide) ?_
    refine mj_istore_n 2 (lv2 := [(2, .int 0), (0, .ref 950), (1, .int l1)]) dX13_findDepths_32 rfl (by decide) rfl ?_
    refine mj_sublv [(0, .ref 950), (1, .int l1), (2, .int 0)] [1, 2, 0] rfl ?_
    exact LH_X13_findDepths_33 _ l1 0 s _ (fun y0 y1 hx => Hb25 y0 y1 hx) hk
noncomputable def b_X13_findDepths_25 (x : Int32 × t_S) : Option ((Int32 × t_S) ⊕ (t_S)) := k_X13_findDepths_25 x.1 x.2
set_option maxRecDepth 4000 in
set_option maxHeartbeats 1000000 in
theorem LH_X13_findDepths_25 {D : va_G} {cy : Nat → ClassId} {ad : Nat → Nat} {bs : Nat} {X : State → Heap → Prop} : ∀ (n : Nat) (y0 : Int32) (y1 : t_S) (Q : t_S → Prop) (hk : t_hk (t_loop (b_X13_findDepths_25) n (y0, y1)) Q), mj_G D cy ad bs X cX13_findDepths 4 yX13_findDepths.cls none yX13_findDepths.name 152 0 0 1065 (t_P (fun v s' => v = none ∧ Q (s'))) 25 [(0, .ref 950), (1, .int (y0))] [] (t_m y1) 1065 0 0 := by
  intro n
  induction n with
  | zero => intro y0 y1 Q hk; obtain ⟨r, hr, _⟩ := hk; cases hr
  | succ n ih =>
    intro y0 y1 Q hk
    exact B_X13_findDepths_25 y0 y1 (fun y => t_lq (b_X13_findDepths_25) n Q y) (fun y0' y1' hy => ih y0' y1' Q hy) (t_lp (b := b_X13_findDepths_25) (n := n) (x := (y0, y1)) hk)
noncomputable def k_X13_findDepths_2 (l1 : Int32) (s : t_S) : Option ((Int32 × t_S) ⊕ (t_S)) :=
 if (s.1 950 44) ≤ l1 then ((t_loop (b_X13_findDepths_25) t_N (0, s)).map Sum.inr)
 else (if t_ix l1 60 = true then
  t_let (t_setI s 1005 (l1.toNatClampNeg) (0 : Int32)) (fun s1 =>
 some (.inl ((l1 + 1), s1)))
else none)
set_option maxRecDepth 4000 in
set_option maxHeartbeats 1000000 in
theorem B_X13_findDepths_2 {D : va_G} {cy : Nat → ClassId} {ad : Nat → Nat} {bs : Nat} {X : State → Heap → Prop} (l1 : Int32) (s : t_S) (Q : (Int32 × t_S) ⊕ (t_S) → Prop) (Hb2 : ∀ (y0 : Int32) (y1 : t_S), Q (.inl (y0, y1)) → mj_G D cy ad bs X cX13_findDepths 4 yX13_findDepths.cls none yX13_findDepths.name 152 0 0 1065 (t_P (fun v s' => v = none ∧ Q (.inr (s')))) 2 [(0, .ref 950), (1, .int (y0))] [] (t_m y1) 1065 0 0) (hk : t_hk (k_X13_findDepths_2 l1 s) Q) : mj_G D cy ad bs X cX13_findDepths 4 yX13_findDepths.cls none yX13_findDepths.name 152 0 0 1065 (t_P (fun v s' => v = none ∧ Q (.inr (s')))) 2 [(0, .ref 950), (1, .int l1)] [] (t_m s) 1065 0 0 := by
  refine mj_iload_n dX13_findDepths_2 1 rfl ?_
  refine mj_aload_n dX13_findDepths_3 0 rfl ?_
  refine t_getI dX13_findDepths_4 F_X13_627 qf_950_44 ?_
  refine mj_icmp_ge 23 dX13_findDepths_7 (by decide) (fun z => t_posK hk z (fun hk => ?_)) (fun z => t_negK hk z (fun hk => ?_))
  · refine t_mapK hk (fun hk => ?_)
    refine mj_iconst (v := 0) dX13_findDepths_23 (by decide) ?_
    refine mj_istore_n 1 (lv2 := [(1, .int 0), (0, .ref 950)]) dX13_findDepths_24 rfl (by decide) rfl ?_
    refine mj_sublv [(0, .ref 950), (1, .int 0)] [1, 0] rfl ?_
    exact LH_X13_findDepths_25 _ 0 s _ hk
  · refine mj_aload_n dX13_findDepths_10 0 rfl ?_
    refine t_getR 1005 dX13_findDepths_11 F_X13_178 qr_950_92 ?_
    refine mj_iload_n dX13_findDepths_14 1 rfl ?_
    refine mj_iconst (v := 0) dX13_findDepths_15 (by decide) ?_
    refine t_chkK hk (fun c0 hk => ?_)
    refine t_iastK dX13_findDepths_16 qa_1005 (t_ixv c0) (fun s1 ws1 => t_letE hk ws1 (fun hk => ?_))
    refine mj_iinc (k := 1) (v := (l1 + 1)) (lv2 := [(1, .int (l1 + 1)), (0, .ref 950)]) dX13_findDepths_17 rfl rfl (by decide) rfl ?_
    refine mj_goto 2 dX13_findDepths_20 (by decide) ?_
    refine mj_sublv [(0, .ref 950), (1, .int (l1 + 1))] [1, 0] rfl ?_
    exact t_somK hk (fun hf => Hb2 (l1 + 1) s1 hf)
noncomputable def b_X13_findDepths_2 (x : Int32 × t_S) : Option ((Int32 × t_S) ⊕ (t_S)) := k_X13_findDepths_2 x.1 x.2
set_option maxRecDepth 4000 in
set_option maxHeartbeats 1000000 in
theorem LH_X13_findDepths_2 {D : va_G} {cy : Nat → ClassId} {ad : Nat → Nat} {bs : Nat} {X : State → Heap → Prop} : ∀ (n : Nat) (y0 : Int32) (y1 : t_S) (Q : t_S → Prop) (hk : t_hk (t_loop (b_X13_findDepths_2) n (y0, y1)) Q), mj_G D cy ad bs X cX13_findDepths 4 yX13_findDepths.cls none yX13_findDepths.name 152 0 0 1065 (t_P (fun v s' => v = none ∧ Q (s'))) 2 [(0, .ref 950), (1, .int (y0))] [] (t_m y1) 1065 0 0 := by
  intro n
  induction n with
  | zero => intro y0 y1 Q hk; obtain ⟨r, hr, _⟩ := hk; cases hr
  | succ n ih =>
    intro y0 y1 Q hk
    exact B_X13_findDepths_2 y0 y1 (fun y => t_lq (b_X13_findDepths_2) n Q y) (fun y0' y1' hy => ih y0' y1' Q hy) (t_lp (b := b_X13_findDepths_2) (n := n) (x := (y0, y1)) hk)
noncomputable def f_X13_findDepths (s : t_S) : Option (t_S) :=
 t_loop (b_X13_findDepths_2) t_N (0, s)
set_option maxRecDepth 4000 in
set_option maxHeartbeats 1000000 in
theorem C_X13_findDepths (s : t_S) (r : t_S) (hr : f_X13_findDepths s = some r) : t_C yX13_findDepths cX13_findDepths 4 none 152 [.ref 950] s (fun v s' => v = none ∧ s' = r) := by
  refine t_C.imp (P := fun v s' => v = none ∧ (fun q => q = r) (s')) (t_C.of (by decide +kernel) (Nat.le_of_ble_eq_true rfl) ?_) (fun v s' hp => hp)
  intro D cy ad bs X
  have hk : t_hk (f_X13_findDepths s) (fun q => q = r) := ⟨r, hr, rfl⟩
  show mj_G D cy ad bs X cX13_findDepths 4 yX13_findDepths.cls none yX13_findDepths.name 152 0 0 1065 (t_P (fun v s' => v = none ∧ (fun q => q = r) (s'))) 0 [(0, .ref 950)] [] (t_m s) 1065 0 0
  refine mj_iconst (v := 0) dX13_findDepths_0 (by decide) ?_
  refine mj_istore_n 1 (lv2 := [(1, .int 0), (0, .ref 950)]) dX13_findDepths_1 rfl (by decide) rfl ?_
  refine mj_sublv [(0, .ref 950), (1, .int 0)] [1, 0] rfl ?_
  exact LH_X13_findDepths_2 _ 0 s _ hk

theorem dX13_isRing_0 : decode cX13_isRing 0 = .ok (.iload_n 1, 1) := by decide +kernel
theorem dX13_isRing_1 : decode cX13_isRing 1 = .ok (.istore_n 2, 1) := by decide +kernel
theorem dX13_isRing_12 : decode cX13_isRing 12 = .ok (.iload_n 2, 1) := by decide +kernel
theorem dX13_isRing_13 : decode cX13_isRing 13 = .ok (.ifCond .lt 19, 3) := by decide +kernel
theorem dX13_isRing_16 : decode cX13_isRing 16 = .ok (.aload_n 0, 1) := by decide +kernel
theorem dX13_isRing_17 : decode cX13_isRing 17 = .ok (.getfield 26, 3) := by decide +kernel
theorem dX13_isRing_2 : decode cX13_isRing 2 = .ok (.iconst 0, 1) := by decide +kernel
theorem dX13_isRing_20 : decode cX13_isRing 20 = .ok (.aload_n 0, 1) := by decide +kernel
theorem dX13_isRing_21 : decode cX13_isRing 21 = .ok (.getfield 57, 3) := by decide +kernel
theorem dX13_isRing_24 : decode cX13_isRing 24 = .ok (.iload_n 2, 1) := by decide +kernel
theorem dX13_isRing_25 : decode cX13_isRing 25 = .ok (.iaload, 1) := by decide +kernel
theorem dX13_isRing_26 : decode cX13_isRing 26 = .ok (.iaload, 1) := by decide +kernel
theorem dX13_isRing_27 : decode cX13_isRing 27 = .ok (.bipush 8, 2) := by decide +kernel
theorem dX13_isRing_29 : decode cX13_isRing 29 = .ok (.if_icmp .eq 5, 3) := by decide +kernel
theorem dX13_isRing_3 : decode cX13_isRing 3 = .ok (.istore_n 3, 1) := by decide +kernel
theorem dX13_isRing_32 : decode cX13_isRing 32 = .ok (.iconst 0, 1) := by decide +kernel
theorem dX13_isRing_33 : decode cX13_isRing 33 = .ok (.ireturn, 1) := by decide +kernel
theorem dX13_isRing_34 : decode cX13_isRing 34 = .ok (.aload_n 0, 1) := by decide +kernel
theorem dX13_isRing_35 : decode cX13_isRing 35 = .ok (.aload_n 0, 1) := by decide +kernel
theorem dX13_isRing_36 : decode cX13_isRing 36 = .ok (.getfield 54, 3) := by decide +kernel
theorem dX13_isRing_39 : decode cX13_isRing 39 = .ok (.iconst 0, 1) := by decide +kernel
theorem dX13_isRing_4 : decode cX13_isRing 4 = .ok (.iload_n 3, 1) := by decide +kernel
theorem dX13_isRing_40 : decode cX13_isRing 40 = .ok (.aload_n 0, 1) := by decide +kernel
theorem dX13_isRing_41 : decode cX13_isRing 41 = .ok (.getfield 624, 3) := by decide +kernel
theorem dX13_isRing_44 : decode cX13_isRing 44 = .ok (.aload_n 0, 1) := by decide +kernel
theorem dX13_isRing_45 : decode cX13_isRing 45 = .ok (.getfield 32, 3) := by decide +kernel
theorem dX13_isRing_48 : decode cX13_isRing 48 = .ok (.aload_n 0, 1) := by decide +kernel
theorem dX13_isRing_49 : decode cX13_isRing 49 = .ok (.getfield 57, 3) := by decide +kernel
theorem dX13_isRing_5 : decode cX13_isRing 5 = .ok (.aload_n 0, 1) := by decide +kernel
theorem dX13_isRing_52 : decode cX13_isRing 52 = .ok (.iload_n 2, 1) := by decide +kernel
theorem dX13_isRing_53 : decode cX13_isRing 53 = .ok (.iaload, 1) := by decide +kernel
theorem dX13_isRing_54 : decode cX13_isRing 54 = .ok (.laload, 1) := by decide +kernel
theorem dX13_isRing_55 : decode cX13_isRing 55 = .ok (.l2i, 1) := by decide +kernel
theorem dX13_isRing_56 : decode cX13_isRing 56 = .ok (.invokevirtual 788, 3) := by decide +kernel
theorem dX13_isRing_59 : decode cX13_isRing 59 = .ok (.istore_n 2, 1) := by decide +kernel
theorem dX13_isRing_6 : decode cX13_isRing 6 = .ok (.getfield 624, 3) := by decide +kernel
theorem dX13_isRing_60 : decode cX13_isRing 60 = .ok (.iload_n 2, 1) := by decide +kernel
theorem dX13_isRing_61 : decode cX13_isRing 61 = .ok (.iload_n 1, 1) := by decide +kernel
theorem dX13_isRing_62 : decode cX13_isRing 62 = .ok (.if_icmp .ne 5, 3) := by decide +kernel
theorem dX13_isRing_65 : decode cX13_isRing 65 = .ok (.iconst 1, 1) := by decide +kernel
theorem dX13_isRing_66 : decode cX13_isRing 66 = .ok (.ireturn, 1) := by decide +kernel
theorem dX13_isRing_67 : decode cX13_isRing 67 = .ok (.iinc 3 1, 3) := by decide +kernel
theorem dX13_isRing_70 : decode cX13_isRing 70 = .ok (.goto (-66), 3) := by decide +kernel
theorem dX13_isRing_73 : decode cX13_isRing 73 = .ok (.iconst 0, 1) := by decide +kernel
theorem dX13_isRing_74 : decode cX13_isRing 74 = .ok (.ireturn, 1) := by decide +kernel
theorem dX13_isRing_9 : decode cX13_isRing 9 = .ok (.if_icmp .gt 64, 3) := by decide +kernel
noncomputable def k_X13_isRing_4 (l1 : Int32) (l2 : Int32) (l3 : Int32) (s : t_S) : Option ((Int32 × Int32 × Int32) ⊕ (Int32)) :=
 if (s.1 950 40) < l3 then ((some (0 : Int32)).map Sum.inr)
 else (if l2 < (0 : Int32) then ((some (0 : Int32)).map Sum.inr)
 else (if t_ix l2 60 = true then
  if t_ix (s.1 965 (l2.toNatClampNeg)) 13000 = true then
  if (s.1 955 ((s.1 965 (l2.toNatClampNeg)).toNatClampNeg)) = (8 : Int32) then ((f_X13_find 964 (0 : Int32) (s.1 950 40) ((s.2.1 957 ((s.1 965 (l2.toNatClampNeg)).toNatClampNeg)).toInt32) s).bind (fun r3 =>
 if r3 = l1 then ((some (1 : Int32)).map Sum.inr)
 else (some (.inl (l1, r3, (l3 + 1))))))
 else ((some (0 : Int32)).map Sum.inr)
else none
else none))
set_option maxRecDepth 4000 in
set_option maxHeartbeats 1000000 in
theorem B_X13_isRing_4 {D : va_G} {cy : Nat → ClassId} {ad : Nat → Nat} {bs : Nat} {X : State → Heap → Prop} (l1 : Int32) (l2 : Int32) (l3 : Int32) (s : t_S) (Q : (Int32 × Int32 × Int32) ⊕ (Int32) → Prop) (Hb4 : ∀ (y0 : Int32) (y1 : Int32) (y2 : Int32), Q (.inl (y0, y1, y2)) → mj_G D cy ad bs X cX13_isRing 4 yX13_isRing.cls (some .boolean) yX13_isRing.name 1 0 0 1065 (t_P (fun v s' => s' = s ∧ ∃ x, v = some (.int x) ∧ Q (.inr (x)))) 4 [(0, .ref 950), (1, .int (y0)), (2, .int (y1)), (3, .int (y2))] [] (t_m s) 1065 0 0) (hk : t_hk (k_X13_isRing_4 l1 l2 l3 s) Q) : mj_G D cy ad bs X cX13_isRing 4 yX13_isRing.cls (some .boolean) yX13_isRing.name 1 0 0 1065 (t_P (fun v s' => s' = s ∧ ∃ x, v = some (.int x) ∧ Q (.inr (x)))) 4 [(0, .ref 950), (1, .int l1), (2, .int l2), (3, .int l3)] [] (t_m s) 1065 0 0 := by
  refine mj_iload_n dX13_isRing_4 3 rfl ?_
  refine mj_aload_n dX13_isRing_5 0 rfl ?_
  refine t_getI dX13_isRing_6 F_X13_624 qf_950_40 ?_
  refine mj_icmp_gt 73 dX13_isRing_9 (by decide) (fun z => t_posK hk z (fun hk => ?_)) (fun z => t_negK hk z (fun hk => ?_))
  · refine t_mapK hk (fun hk => ?_)
    refine mj_iconst (v := 0) dX13_isRing_73 (by decide) ?_
    exact t_somK hk (fun hf => t_iret dX13_isRing_74 rfl (by decide) ⟨rfl, _, rfl, hf⟩ (Nat.le_of_ble_eq_true rfl) (Nat.le_of_ble_eq_true rfl))
  · refine mj_iload_n dX13_isRing_12 2 rfl ?_
    refine mj_if_lt 32 dX13_isRing_13 (by decide) (fun z => t_posK hk z (fun hk => ?_)) (fun z => t_negK hk z (fun hk => ?_))
    · refine t_mapK hk (fun hk => ?_)
      refine mj_iconst (v := 0) dX13_isRing_32 (by decide) ?_
      exact t_somK hk (fun hf => t_iret dX13_isRing_33 rfl (by decide) ⟨rfl, _, rfl, hf⟩ (Nat.le_of_ble_eq_true rfl) (Nat.le_of_ble_eq_true rfl))
    · refine mj_aload_n dX13_isRing_16 0 rfl ?_
      refine t_getR 955 dX13_isRing_17 F_X13_26 qr_950_17 ?_
      refine mj_aload_n dX13_isRing_20 0 rfl ?_
      refine t_getR 965 dX13_isRing_21 F_X13_57 qr_950_38 ?_
      refine mj_iload_n dX13_isRing_24 2 rfl ?_
      refine t_chkK hk (fun c0 hk => ?_)
      refine t_iald dX13_isRing_25 qa_965 (t_ixv c0) ?_
      refine t_chkK hk (fun c1 hk => ?_)
      refine t_iald dX13_isRing_26 qa_955 (t_ixv c1) ?_
      refine mj_bipush (v := 8) dX13_isRing_27 (by decide) ?_
      refine mj_icmp_eq 34 dX13_isRing_29 (by decide) (fun z => t_posK hk z (fun hk => ?_)) (fun z => t_negK hk z (fun hk => ?_))
      · refine mj_aload_n dX13_isRing_34 0 rfl ?_
        refine mj_aload_n dX13_isRing_35 0 rfl ?_
        refine t_getR 964 dX13_isRing_36 F_X13_54 qr_950_37 ?_
        refine mj_iconst (v := 0) dX13_isRing_39 (by decide) ?_
        refine mj_aload_n dX13_isRing_40 0 rfl ?_
        refine t_getI dX13_isRing_41 F_X13_624 qf_950_40 ?_
        refine mj_aload_n dX13_isRing_44 0 rfl ?_
        refine t_getR 957 dX13_isRing_45 F_X13_32 qr_950_19 ?_
        refine mj_aload_n dX13_isRing_48 0 rfl ?_
        refine t_getR 965 dX13_isRing_49 F_X13_57 qr_950_38 ?_
        refine mj_iload_n dX13_isRing_52 2 rfl ?_
        refine t_iald dX13_isRing_53 qa_965 (t_ixv c0) ?_
        refine t_lald dX13_isRing_54 qa_957 (t_ixv c1) ?_
        refine mj_l2i (v := (s.2.1 957 ((s.1 965 (l2.toNatClampNeg)).toNatClampNeg)).toInt32) dX13_isRing_55 rfl ?_
        refine t_bndK hk (fun r3 er3 hk => ?_)
        refine t_callViP dX13_isRing_56 M_X13_find (C_X13_find _ _ _ _ _ _ er3) ML_X13_788 IM_X13_find SE_X13_find qc_950 rfl (As := [.ref 964, .int 0, .int (s.1 950 40), .int ((s.2.1 957 ((s.1 965 (l2.toNatClampNeg)).toNatClampNeg)).toInt32)]) rfl rfl (Nat.le_of_ble_eq_true rfl) (Nat.le_of_ble_eq_true rfl) (Nat.le_of_ble_eq_true rfl) (Nat.le_of_ble_eq_true rfl) ?_
        refine mj_istore_n 2 (lv2 := [(2, .int r3), (0, .ref 950), (1, .int l1), (3, .int l3)]) dX13_isRing_59 rfl (by decide) rfl ?_
        refine mj_iload_n dX13_isRing_60 0 rfl ?_
        refine mj_iload_n dX13_isRing_61 2 rfl ?_
        refine mj_icmp_ne 67 dX13_isRing_62 (by decide) (fun z => t_negK hk z (fun hk => ?_)) (fun z => t_posK hk z (fun hk => ?_))
        · refine mj_iinc (k := 3) (v := (l3 + 1)) (lv2 := [(3, .int (l3 + 1)), (2, .int r3), (0, .ref 950), (1, .int l1)]) dX13_isRing_67 rfl rfl (by decide) rfl ?_
          refine mj_goto 4 dX13_isRing_70 (by decide) ?_
          refine mj_sublv [(0, .ref 950), (1, .int l1), (2, .int r3), (3, .int (l3 + 1))] [2, 3, 1, 0] rfl ?_
          exact t_somK hk (fun hf => Hb4 l1 r3 (l3 + 1) hf)
        · refine t_mapK hk (fun hk => ?_)
          refine mj_iconst (v := 1) dX13_isRing_65 (by decide) ?_
          exact t_somK hk (fun hf => t_iret dX13_isRing_66 rfl (by decide) ⟨rfl, _, rfl, hf⟩ (Nat.le_of_ble_eq_true rfl) (Nat.le_of_ble_eq_true rfl))
      · refine t_mapK hk (fun hk => ?_)
        refine mj_iconst (v := 0) dX13_isRing_32 (by decide) ?_
        exact t_somK hk (fun hf => t_iret dX13_isRing_33 rfl (by decide) ⟨rfl, _, rfl, hf⟩ (Nat.le_of_ble_eq_true rfl) (Nat.le_of_ble_eq_true rfl))
noncomputable def b_X13_isRing_4 (s : t_S) (x : Int32 × Int32 × Int32) : Option ((Int32 × Int32 × Int32) ⊕ (Int32)) := k_X13_isRing_4 x.1 x.2.1 x.2.2 s
set_option maxRecDepth 4000 in
set_option maxHeartbeats 1000000 in
theorem LH_X13_isRing_4 {D : va_G} {cy : Nat → ClassId} {ad : Nat → Nat} {bs : Nat} {X : State → Heap → Prop} (s : t_S) : ∀ (n : Nat) (y0 : Int32) (y1 : Int32) (y2 : Int32) (Q : Int32 → Prop) (hk : t_hk (t_loop (b_X13_isRing_4 s) n (y0, y1, y2)) Q), mj_G D cy ad bs X cX13_isRing 4 yX13_isRing.cls (some .boolean) yX13_isRing.name 1 0 0 1065 (t_P (fun v s' => s' = s ∧ ∃ x, v = some (.int x) ∧ Q (x))) 4 [(0, .ref 950), (1, .int (y0)), (2, .int (y1)), (3, .int (y2))] [] (t_m s) 1065 0 0 := by
  intro n
  induction n with
  | zero => intro y0 y1 y2 Q hk; obtain ⟨r, hr, _⟩ := hk; cases hr
  | succ n ih =>
    intro y0 y1 y2 Q hk
    exact B_X13_isRing_4 y0 y1 y2 s (fun y => t_lq (b_X13_isRing_4 s) n Q y) (fun y0' y1' y2' hy => ih y0' y1' y2' Q hy) (t_lp (b := b_X13_isRing_4 s) (n := n) (x := (y0, y1, y2)) hk)
noncomputable def f_X13_isRing (x1 : Int32) (s : t_S) : Option (Int32) :=
 t_loop (b_X13_isRing_4 s) t_N (x1, x1, 0)
set_option maxRecDepth 4000 in
set_option maxHeartbeats 1000000 in
theorem C_X13_isRing (x1 : Int32) (s : t_S) (r : Int32) (hr : f_X13_isRing x1 s = some r) : t_C yX13_isRing cX13_isRing 4 (some .boolean) 1 [.ref 950, .int x1] s (fun v s' => v = some (.int r) ∧ s' = s) := by
  refine t_C.imp (P := fun v s' => s' = s ∧ ∃ x, v = some (.int x) ∧ (fun q => q = r) (x)) (t_C.of (by decide +kernel) (Nat.le_of_ble_eq_true rfl) ?_) (fun v s' hp => by obtain ⟨rfl, x, rfl, rfl⟩ := hp; exact ⟨rfl, rfl⟩)
  intro D cy ad bs X
  have hk : t_hk (f_X13_isRing x1 s) (fun q => q = r) := ⟨r, hr, rfl⟩
  show mj_G D cy ad bs X cX13_isRing 4 yX13_isRing.cls (some .boolean) yX13_isRing.name 1 0 0 1065 (t_P (fun v s' => s' = s ∧ ∃ x, v = some (.int x) ∧ (fun q => q = r) (x))) 0 [(0, .ref 950), (1, .int x1)] [] (t_m s) 1065 0 0
  refine mj_iload_n dX13_isRing_0 1 rfl ?_
  refine mj_istore_n 2 (lv2 := [(2, .int x1), (0, .ref 950), (1, .int x1)]) dX13_isRing_1 rfl (by decide) rfl ?_
  refine mj_iconst (v := 0) dX13_isRing_2 (by decide) ?_
  refine mj_istore_n 3 (lv2 := [(3, .int 0), (2, .int x1), (0, .ref 950), (1, .int x1)]) dX13_isRing_3 rfl (by decide) rfl ?_
  refine mj_sublv [(0, .ref 950), (1, .int x1), (2, .int x1), (3, .int 0)] [2, 3, 1, 0] rfl ?_
  exact LH_X13_isRing_4 _ _ x1 x1 0 _ hk

theorem dX13_checkAll_0 : decode cX13_checkAll 0 = .ok (.aload_n 0, 1) := by decide +kernel
theorem dX13_checkAll_1 : decode cX13_checkAll 1 = .ok (.iconst 0, 1) := by decide +kernel
theorem dX13_checkAll_10 : decode cX13_checkAll 10 = .ok (.putfield 785, 3) := by decide +kernel
theorem dX13_checkAll_102 : decode cX13_checkAll 102 = .ok (.if_icmp .ge 77, 3) := by decide +kernel
theorem dX13_checkAll_105 : decode cX13_checkAll 105 = .ok (.bipush 8, 2) := by decide +kernel
theorem dX13_checkAll_107 : decode cX13_checkAll 107 = .ok (.iload_n 1, 1) := by decide +kernel
theorem dX13_checkAll_108 : decode cX13_checkAll 108 = .ok (.imul, 1) := by decide +kernel
theorem dX13_checkAll_109 : decode cX13_checkAll 109 = .ok (.istore_n 2, 1) := by decide +kernel
theorem dX13_checkAll_110 : decode cX13_checkAll 110 = .ok (.iload_n 2, 1) := by decide +kernel
theorem dX13_checkAll_111 : decode cX13_checkAll 111 = .ok (.bipush 8, 2) := by decide +kernel
theorem dX13_checkAll_113 : decode cX13_checkAll 113 = .ok (.iload_n 1, 1) := by decide +kernel
theorem dX13_checkAll_114 : decode cX13_checkAll 114 = .ok (.imul, 1) := by decide +kernel
theorem dX13_checkAll_115 : decode cX13_checkAll 115 = .ok (.aload_n 0, 1) := by decide +kernel
theorem dX13_checkAll_116 : decode cX13_checkAll 116 = .ok (.getfield 99, 3) := by decide +kernel
theorem dX13_checkAll_119 : decode cX13_checkAll 119 = .ok (.iload_n 1, 1) := by decide +kernel
theorem dX13_checkAll_120 : decode cX13_checkAll 120 = .ok (.iaload, 1) := by decide +kernel
theorem dX13_checkAll_121 : decode cX13_checkAll 121 = .ok (.iadd, 1) := by decide +kernel
theorem dX13_checkAll_122 : decode cX13_checkAll 122 = .ok (.if_icmp .ge 51, 3) := by decide +kernel
theorem dX13_checkAll_125 : decode cX13_checkAll 125 = .ok (.aload_n 0, 1) := by decide +kernel
theorem dX13_checkAll_126 : decode cX13_checkAll 126 = .ok (.getfield 90, 3) := by decide +kernel
theorem dX13_checkAll_129 : decode cX13_checkAll 129 = .ok (.iload_n 2, 1) := by decide +kernel
theorem dX13_checkAll_13 : decode cX13_checkAll 13 = .ok (.iconst 0, 1) := by decide +kernel
theorem dX13_checkAll_130 : decode cX13_checkAll 130 = .ok (.iaload, 1) := by decide +kernel
theorem dX13_checkAll_131 : decode cX13_checkAll 131 = .ok (.ifCond .lt 36, 3) := by decide +kernel
theorem dX13_checkAll_134 : decode cX13_checkAll 134 = .ok (.aload_n 0, 1) := by decide +kernel
theorem dX13_checkAll_135 : decode cX13_checkAll 135 = .ok (.aload_n 0, 1) := by decide +kernel
theorem dX13_checkAll_136 : decode cX13_checkAll 136 = .ok (.getfield 54, 3) := by decide +kernel
theorem dX13_checkAll_139 : decode cX13_checkAll 139 = .ok (.iconst 0, 1) := by decide +kernel
theorem dX13_checkAll_14 : decode cX13_checkAll 14 = .ok (.istore_n 1, 1) := by decide +kernel
theorem dX13_checkAll_140 : decode cX13_checkAll 140 = .ok (.aload_n 0, 1) := by decide +kernel
theorem dX13_checkAll_141 : decode cX13_checkAll 141 = .ok (.getfield 624, 3) := by decide +kernel
theorem dX13_checkAll_144 : decode cX13_checkAll 144 = .ok (.aload_n 0, 1) := by decide +kernel
theorem dX13_checkAll_145 : decode cX13_checkAll 145 = .ok (.getfield 90, 3) := by decide +kernel
theorem dX13_checkAll_148 : decode cX13_checkAll 148 = .ok (.iload_n 2, 1) := by decide +kernel
theorem dX13_checkAll_149 : decode cX13_checkAll 149 = .ok (.iaload, 1) := by decide +kernel
theorem dX13_checkAll_15 : decode cX13_checkAll 15 = .ok (.iload_n 1, 1) := by decide +kernel
theorem dX13_checkAll_150 : decode cX13_checkAll 150 = .ok (.invokevirtual 788, 3) := by decide +kernel
theorem dX13_checkAll_153 : decode cX13_checkAll 153 = .ok (.ifCond .ge 14, 3) := by decide +kernel
theorem dX13_checkAll_156 : decode cX13_checkAll 156 = .ok (.aload_n 0, 1) := by decide +kernel
theorem dX13_checkAll_157 : decode cX13_checkAll 157 = .ok (.iconst 4, 1) := by decide +kernel
theorem dX13_checkAll_158 : decode cX13_checkAll 158 = .ok (.aload_n 0, 1) := by decide +kernel
theorem dX13_checkAll_159 : decode cX13_checkAll 159 = .ok (.getfield 93, 3) := by decide +kernel
theorem dX13_checkAll_16 : decode cX13_checkAll 16 = .ok (.aload_n 0, 1) := by decide +kernel
theorem dX13_checkAll_162 : decode cX13_checkAll 162 = .ok (.iload_n 2, 1) := by decide +kernel
theorem dX13_checkAll_163 : decode cX13_checkAll 163 = .ok (.iaload, 1) := by decide +kernel
theorem dX13_checkAll_164 : decode cX13_checkAll 164 = .ok (.invokevirtual 795, 3) := by decide +kernel
theorem dX13_checkAll_167 : decode cX13_checkAll 167 = .ok (.iinc 2 1, 3) := by decide +kernel
theorem dX13_checkAll_17 : decode cX13_checkAll 17 = .ok (.getfield 474, 3) := by decide +kernel
theorem dX13_checkAll_170 : decode cX13_checkAll 170 = .ok (.goto (-60), 3) := by decide +kernel
theorem dX13_checkAll_173 : decode cX13_checkAll 173 = .ok (.iinc 1 1, 3) := by decide +kernel
theorem dX13_checkAll_176 : decode cX13_checkAll 176 = .ok (.goto (-79), 3) := by decide +kernel
theorem dX13_checkAll_179 : decode cX13_checkAll 179 = .ok (.iconst 0, 1) := by decide +kernel
theorem dX13_checkAll_180 : decode cX13_checkAll 180 = .ok (.istore_n 1, 1) := by decide +kernel
theorem dX13_checkAll_181 : decode cX13_checkAll 181 = .ok (.iload_n 1, 1) := by decide +kernel
theorem dX13_checkAll_182 : decode cX13_checkAll 182 = .ok (.aload_n 0, 1) := by decide +kernel
theorem dX13_checkAll_183 : decode cX13_checkAll 183 = .ok (.getfield 633, 3) := by decide +kernel
theorem dX13_checkAll_186 : decode cX13_checkAll 186 = .ok (.if_icmp .ge 42, 3) := by decide +kernel
theorem dX13_checkAll_189 : decode cX13_checkAll 189 = .ok (.aload_n 0, 1) := by decide +kernel
theorem dX13_checkAll_190 : decode cX13_checkAll 190 = .ok (.aload_n 0, 1) := by decide +kernel
theorem dX13_checkAll_191 : decode cX13_checkAll 191 = .ok (.getfield 72, 3) := by decide +kernel
theorem dX13_checkAll_194 : decode cX13_checkAll 194 = .ok (.iconst 0, 1) := by decide +kernel
theorem dX13_checkAll_195 : decode cX13_checkAll 195 = .ok (.aload_n 0, 1) := by decide +kernel
theorem dX13_checkAll_196 : decode cX13_checkAll 196 = .ok (.getfield 630, 3) := by decide +kernel
theorem dX13_checkAll_199 : decode cX13_checkAll 199 = .ok (.aload_n 0, 1) := by decide +kernel
theorem dX13_checkAll_2 : decode cX13_checkAll 2 = .ok (.putfield 779, 3) := by decide +kernel
theorem dX13_checkAll_20 : decode cX13_checkAll 20 = .ok (.if_icmp .ge 16, 3) := by decide +kernel
theorem dX13_checkAll_200 : decode cX13_checkAll 200 = .ok (.getfield 108, 3) := by decide +kernel
theorem dX13_checkAll_203 : decode cX13_checkAll 203 = .ok (.iload_n 1, 1) := by decide +kernel
theorem dX13_checkAll_204 : decode cX13_checkAll 204 = .ok (.iaload, 1) := by decide +kernel
theorem dX13_checkAll_205 : decode cX13_checkAll 205 = .ok (.invokevirtual 788, 3) := by decide +kernel
theorem dX13_checkAll_208 : decode cX13_checkAll 208 = .ok (.ifCond .ge 14, 3) := by decide +kernel
theorem dX13_checkAll_211 : decode cX13_checkAll 211 = .ok (.aload_n 0, 1) := by decide +kernel
theorem dX13_checkAll_212 : decode cX13_checkAll 212 = .ok (.iconst 4, 1) := by decide +kernel
theorem dX13_checkAll_213 : decode cX13_checkAll 213 = .ok (.aload_n 0, 1) := by decide +kernel
theorem dX13_checkAll_214 : decode cX13_checkAll 214 = .ok (.getfield 111, 3) := by decide +kernel
theorem dX13_checkAll_217 : decode cX13_checkAll 217 = .ok (.iload_n 1, 1) := by decide +kernel
theorem dX13_checkAll_218 : decode cX13_checkAll 218 = .ok (.iaload, 1) := by decide +kernel
theorem dX13_checkAll_219 : decode cX13_checkAll 219 = .ok (.invokevirtual 795, 3) := by decide +kernel
theorem dX13_checkAll_222 : decode cX13_checkAll 222 = .ok (.iinc 1 1, 3) := by decide +kernel
theorem dX13_checkAll_225 : decode cX13_checkAll 225 = .ok (.goto (-44), 3) := by decide +kernel
theorem dX13_checkAll_228 : decode cX13_checkAll 228 = .ok (.iconst 0, 1) := by decide +kernel
theorem dX13_checkAll_229 : decode cX13_checkAll 229 = .ok (.istore_n 1, 1) := by decide +kernel
theorem dX13_checkAll_23 : decode cX13_checkAll 23 = .ok (.aload_n 0, 1) := by decide +kernel
theorem dX13_checkAll_230 : decode cX13_checkAll 230 = .ok (.iload_n 1, 1) := by decide +kernel
theorem dX13_checkAll_231 : decode cX13_checkAll 231 = .ok (.aload_n 0, 1) := by decide +kernel
theorem dX13_checkAll_232 : decode cX13_checkAll 232 = .ok (.getfield 639, 3) := by decide +kernel
theorem dX13_checkAll_235 : decode cX13_checkAll 235 = .ok (.if_icmp .ge 14, 3) := by decide +kernel
theorem dX13_checkAll_238 : decode cX13_checkAll 238 = .ok (.aload_n 0, 1) := by decide +kernel
theorem dX13_checkAll_239 : decode cX13_checkAll 239 = .ok (.iload_n 1, 1) := by decide +kernel
theorem dX13_checkAll_24 : decode cX13_checkAll 24 = .ok (.getfield 174, 3) := by decide +kernel
theorem dX13_checkAll_240 : decode cX13_checkAll 240 = .ok (.invokevirtual 812, 3) := by decide +kernel
theorem dX13_checkAll_243 : decode cX13_checkAll 243 = .ok (.iinc 1 1, 3) := by decide +kernel
theorem dX13_checkAll_246 : decode cX13_checkAll 246 = .ok (.goto (-16), 3) := by decide +kernel
theorem dX13_checkAll_249 : decode cX13_checkAll 249 = .ok (.iconst 0, 1) := by decide +kernel
theorem dX13_checkAll_250 : decode cX13_checkAll 250 = .ok (.istore_n 1, 1) := by decide +kernel
theorem dX13_checkAll_251 : decode cX13_checkAll 251 = .ok (.iload_n 1, 1) := by decide +kernel
theorem dX13_checkAll_252 : decode cX13_checkAll 252 = .ok (.aload_n 0, 1) := by decide +kernel
theorem dX13_checkAll_253 : decode cX13_checkAll 253 = .ok (.getfield 624, 3) := by decide +kernel
theorem dX13_checkAll_256 : decode cX13_checkAll 256 = .ok (.if_icmp .ge 29, 3) := by decide +kernel
theorem dX13_checkAll_259 : decode cX13_checkAll 259 = .ok (.aload_n 0, 1) := by decide +kernel
theorem dX13_checkAll_260 : decode cX13_checkAll 260 = .ok (.iload_n 1, 1) := by decide +kernel
theorem dX13_checkAll_261 : decode cX13_checkAll 261 = .ok (.invokevirtual 815, 3) := by decide +kernel
theorem dX13_checkAll_264 : decode cX13_checkAll 264 = .ok (.ifCond .eq 15, 3) := by decide +kernel
theorem dX13_checkAll_267 : decode cX13_checkAll 267 = .ok (.aload_n 0, 1) := by decide +kernel
theorem dX13_checkAll_268 : decode cX13_checkAll 268 = .ok (.bipush 7, 2) := by decide +kernel
theorem dX13_checkAll_27 : decode cX13_checkAll 27 = .ok (.iload_n 1, 1) := by decide +kernel
theorem dX13_checkAll_270 : decode cX13_checkAll 270 = .ok (.aload_n 0, 1) := by decide +kernel
theorem dX13_checkAll_271 : decode cX13_checkAll 271 = .ok (.getfield 60, 3) := by decide +kernel
theorem dX13_checkAll_274 : decode cX13_checkAll 274 = .ok (.iload_n 1, 1) := by decide +kernel
theorem dX13_checkAll_275 : decode cX13_checkAll 275 = .ok (.iaload, 1) := by decide +kernel
theorem dX13_checkAll_276 : decode cX13_checkAll 276 = .ok (.invokevirtual 795, 3) := by decide +kernel
theorem dX13_checkAll_279 : decode cX13_checkAll 279 = .ok (.iinc 1 1, 3) := by decide +kernel
theorem dX13_checkAll_28 : decode cX13_checkAll 28 = .ok (.iconst 0, 1) := by decide +kernel
theorem dX13_checkAll_282 : decode cX13_checkAll 282 = .ok (.goto (-31), 3) := by decide +kernel
theorem dX13_checkAll_285 : decode cX13_checkAll 285 = .ok (.aload_n 0, 1) := by decide +kernel
theorem dX13_checkAll_286 : decode cX13_checkAll 286 = .ok (.invokevirtual 818, 3) := by decide +kernel
theorem dX13_checkAll_289 : decode cX13_checkAll 289 = .ok (.iconst 0, 1) := by decide +kernel
theorem dX13_checkAll_29 : decode cX13_checkAll 29 = .ok (.bastore, 1) := by decide +kernel
theorem dX13_checkAll_290 : decode cX13_checkAll 290 = .ok (.istore_n 1, 1) := by decide +kernel
theorem dX13_checkAll_291 : decode cX13_checkAll 291 = .ok (.iload_n 1, 1) := by decide +kernel
theorem dX13_checkAll_292 : decode cX13_checkAll 292 = .ok (.aload_n 0, 1) := by decide +kernel
theorem dX13_checkAll_293 : decode cX13_checkAll 293 = .ok (.getfield 627, 3) := by decide +kernel
theorem dX13_checkAll_296 : decode cX13_checkAll 296 = .ok (.if_icmp .ge 32, 3) := by decide +kernel
theorem dX13_checkAll_299 : decode cX13_checkAll 299 = .ok (.aload_n 0, 1) := by decide +kernel
theorem dX13_checkAll_30 : decode cX13_checkAll 30 = .ok (.iinc 1 1, 3) := by decide +kernel
theorem dX13_checkAll_300 : decode cX13_checkAll 300 = .ok (.getfield 178, 3) := by decide +kernel
theorem dX13_checkAll_303 : decode cX13_checkAll 303 = .ok (.iload_n 1, 1) := by decide +kernel
theorem dX13_checkAll_304 : decode cX13_checkAll 304 = .ok (.iaload, 1) := by decide +kernel
theorem dX13_checkAll_305 : decode cX13_checkAll 305 = .ok (.bipush 60, 2) := by decide +kernel
theorem dX13_checkAll_307 : decode cX13_checkAll 307 = .ok (.if_icmp .le 15, 3) := by decide +kernel
theorem dX13_checkAll_310 : decode cX13_checkAll 310 = .ok (.aload_n 0, 1) := by decide +kernel
theorem dX13_checkAll_311 : decode cX13_checkAll 311 = .ok (.bipush 7, 2) := by decide +kernel
theorem dX13_checkAll_313 : decode cX13_checkAll 313 = .ok (.aload_n 0, 1) := by decide +kernel
theorem dX13_checkAll_314 : decode cX13_checkAll 314 = .ok (.getfield 69, 3) := by decide +kernel
theorem dX13_checkAll_317 : decode cX13_checkAll 317 = .ok (.iload_n 1, 1) := by decide +kernel
theorem dX13_checkAll_318 : decode cX13_checkAll 318 = .ok (.iaload, 1) := by decide +kernel
theorem dX13_checkAll_319 : decode cX13_checkAll 319 = .ok (.invokevirtual 795, 3) := by decide +kernel
theorem dX13_checkAll_322 : decode cX13_checkAll 322 = .ok (.iinc 1 1, 3) := by decide +kernel
theorem dX13_checkAll_325 : decode cX13_checkAll 325 = .ok (.goto (-34), 3) := by decide +kernel
theorem dX13_checkAll_328 : decode cX13_checkAll 328 = .ok (.aload_n 0, 1) := by decide +kernel
theorem dX13_checkAll_329 : decode cX13_checkAll 329 = .ok (.getfield 779, 3) := by decide +kernel
theorem dX13_checkAll_33 : decode cX13_checkAll 33 = .ok (.goto (-18), 3) := by decide +kernel
theorem dX13_checkAll_332 : decode cX13_checkAll 332 = .ok (.ifCond .eq 15, 3) := by decide +kernel
theorem dX13_checkAll_335 : decode cX13_checkAll 335 = .ok (.aload_n 0, 1) := by decide +kernel
theorem dX13_checkAll_336 : decode cX13_checkAll 336 = .ok (.aload_n 0, 1) := by decide +kernel
theorem dX13_checkAll_337 : decode cX13_checkAll 337 = .ok (.getfield 779, 3) := by decide +kernel
theorem dX13_checkAll_340 : decode cX13_checkAll 340 = .ok (.aload_n 0, 1) := by decide +kernel
theorem dX13_checkAll_341 : decode cX13_checkAll 341 = .ok (.getfield 782, 3) := by decide +kernel
theorem dX13_checkAll_344 : decode cX13_checkAll 344 = .ok (.invokevirtual 411, 3) := by decide +kernel
theorem dX13_checkAll_347 : decode cX13_checkAll 347 = .ok (.return_, 1) := by decide +kernel
theorem dX13_checkAll_36 : decode cX13_checkAll 36 = .ok (.iconst 0, 1) := by decide +kernel
theorem dX13_checkAll_37 : decode cX13_checkAll 37 = .ok (.istore_n 1, 1) := by decide +kernel
theorem dX13_checkAll_38 : decode cX13_checkAll 38 = .ok (.iload_n 1, 1) := by decide +kernel
theorem dX13_checkAll_39 : decode cX13_checkAll 39 = .ok (.aload_n 0, 1) := by decide +kernel
theorem dX13_checkAll_40 : decode cX13_checkAll 40 = .ok (.getfield 639, 3) := by decide +kernel
theorem dX13_checkAll_43 : decode cX13_checkAll 43 = .ok (.if_icmp .ge 31, 3) := by decide +kernel
theorem dX13_checkAll_46 : decode cX13_checkAll 46 = .ok (.aload_n 0, 1) := by decide +kernel
theorem dX13_checkAll_47 : decode cX13_checkAll 47 = .ok (.getfield 126, 3) := by decide +kernel
theorem dX13_checkAll_5 : decode cX13_checkAll 5 = .ok (.aload_n 0, 1) := by decide +kernel
theorem dX13_checkAll_50 : decode cX13_checkAll 50 = .ok (.iload_n 1, 1) := by decide +kernel
theorem dX13_checkAll_51 : decode cX13_checkAll 51 = .ok (.iaload, 1) := by decide +kernel
theorem dX13_checkAll_52 : decode cX13_checkAll 52 = .ok (.iconst 2, 1) := by decide +kernel
theorem dX13_checkAll_53 : decode cX13_checkAll 53 = .ok (.if_icmp .ne 15, 3) := by decide +kernel
theorem dX13_checkAll_56 : decode cX13_checkAll 56 = .ok (.aload_n 0, 1) := by decide +kernel
theorem dX13_checkAll_57 : decode cX13_checkAll 57 = .ok (.getfield 174, 3) := by decide +kernel
theorem dX13_checkAll_6 : decode cX13_checkAll 6 = .ok (.aload_n 0, 1) := by decide +kernel
theorem dX13_checkAll_60 : decode cX13_checkAll 60 = .ok (.aload_n 0, 1) := by decide +kernel
theorem dX13_checkAll_61 : decode cX13_checkAll 61 = .ok (.getfield 150, 3) := by decide +kernel
theorem dX13_checkAll_64 : decode cX13_checkAll 64 = .ok (.iload_n 1, 1) := by decide +kernel
theorem dX13_checkAll_65 : decode cX13_checkAll 65 = .ok (.iaload, 1) := by decide +kernel
theorem dX13_checkAll_66 : decode cX13_checkAll 66 = .ok (.iconst 1, 1) := by decide +kernel
theorem dX13_checkAll_67 : decode cX13_checkAll 67 = .ok (.bastore, 1) := by decide +kernel
theorem dX13_checkAll_68 : decode cX13_checkAll 68 = .ok (.iinc 1 1, 3) := by decide +kernel
theorem dX13_checkAll_7 : decode cX13_checkAll 7 = .ok (.getfield 474, 3) := by decide +kernel
theorem dX13_checkAll_71 : decode cX13_checkAll 71 = .ok (.goto (-33), 3) := by decide +kernel
theorem dX13_checkAll_74 : decode cX13_checkAll 74 = .ok (.iconst 0, 1) := by decide +kernel
theorem dX13_checkAll_75 : decode cX13_checkAll 75 = .ok (.istore_n 1, 1) := by decide +kernel
theorem dX13_checkAll_76 : decode cX13_checkAll 76 = .ok (.iload_n 1, 1) := by decide +kernel
theorem dX13_checkAll_77 : decode cX13_checkAll 77 = .ok (.aload_n 0, 1) := by decide +kernel
theorem dX13_checkAll_78 : decode cX13_checkAll 78 = .ok (.getfield 474, 3) := by decide +kernel
theorem dX13_checkAll_81 : decode cX13_checkAll 81 = .ok (.if_icmp .ge 14, 3) := by decide +kernel
theorem dX13_checkAll_84 : decode cX13_checkAll 84 = .ok (.aload_n 0, 1) := by decide +kernel
theorem dX13_checkAll_85 : decode cX13_checkAll 85 = .ok (.iload_n 1, 1) := by decide +kernel
theorem dX13_checkAll_86 : decode cX13_checkAll 86 = .ok (.invokevirtual 809, 3) := by decide +kernel
theorem dX13_checkAll_89 : decode cX13_checkAll 89 = .ok (.iinc 1 1, 3) := by decide +kernel
theorem dX13_checkAll_92 : decode cX13_checkAll 92 = .ok (.goto (-16), 3) := by decide +kernel
theorem dX13_checkAll_95 : decode cX13_checkAll 95 = .ok (.iconst 0, 1) := by decide +kernel
theorem dX13_checkAll_96 : decode cX13_checkAll 96 = .ok (.istore_n 1, 1) := by decide +kernel
theorem dX13_checkAll_97 : decode cX13_checkAll 97 = .ok (.iload_n 1, 1) := by decide +kernel
theorem dX13_checkAll_98 : decode cX13_checkAll 98 = .ok (.aload_n 0, 1) := by decide +kernel
theorem dX13_checkAll_99 : decode cX13_checkAll 99 = .ok (.getfield 630, 3) := by decide +kernel
noncomputable def k_X13_checkAll_222 (l1 : Int32) (s : t_S) : Option ((Int32 × t_S) ⊕ (t_S)) :=
 some (.inl ((l1 + 1), s))
set_option maxRecDepth 4000 in
set_option maxHeartbeats 1000000 in
theorem B_X13_checkAll_222 {D : va_G} {cy : Nat → ClassId} {ad : Nat → Nat} {bs : Nat} {X : State → Heap → Prop} (l1 : Int32) (s : t_S) (Q : (Int32 × t_S) ⊕ (t_S) → Prop) (Hb181 : ∀ (y0 : Int32) (y1 : t_S), Q (.inl (y0, y1)) → mj_G D cy ad bs X cX13_checkAll 3 yX13_checkAll.cls none yX13_checkAll.name 153 0 0 1065 (t_P (fun v s' => v = none ∧ Q (.inr (s')))) 181 [(0, .ref 950), (1, .int (y0))] [] (t_m y1) 1065 0 0) (hk : t_hk (k_X13_checkAll_222 l1 s) Q) : mj_G D cy ad bs X cX13_checkAll 3 yX13_checkAll.cls none yX13_checkAll.name 153 0 0 1065 (t_P (fun v s' => v = none ∧ Q (.inr (s')))) 222 [(0, .ref 950), (1, .int l1)] [] (t_m s) 1065 0 0 := by
  refine mj_iinc (k := 1) (v := (l1 + 1)) (lv2 := [(1, .int (l1 + 1)), (0, .ref 950)]) dX13_checkAll_222 rfl rfl (by decide) rfl ?_
  refine mj_goto 181 dX13_checkAll_225 (by decide) ?_
  refine mj_sublv [(0, .ref 950), (1, .int (l1 + 1))] [1, 0] rfl ?_
  exact t_somK hk (fun hf => Hb181 (l1 + 1) s hf)
noncomputable def k_X13_checkAll_322 (l1 : Int32) (s : t_S) : Option ((Int32 × t_S) ⊕ (t_S)) :=
 some (.inl ((l1 + 1), s))
set_option maxRecDepth 4000 in
set_option maxHeartbeats 1000000 in
theorem B_X13_checkAll_322 {D : va_G} {cy : Nat → ClassId} {ad : Nat → Nat} {bs : Nat} {X : State → Heap → Prop} (l1 : Int32) (s : t_S) (Q : (Int32 × t_S) ⊕ (t_S) → Prop) (Hb291 : ∀ (y0 : Int32) (y1 : t_S), Q (.inl (y0, y1)) → mj_G D cy ad bs X cX13_checkAll 3 yX13_checkAll.cls none yX13_checkAll.name 153 0 0 1065 (t_P (fun v s' => v = none ∧ Q (.inr (s')))) 291 [(0, .ref 950), (1, .int (y0))] [] (t_m y1) 1065 0 0) (hk : t_hk (k_X13_checkAll_322 l1 s) Q) : mj_G D cy ad bs X cX13_checkAll 3 yX13_checkAll.cls none yX13_checkAll.name 153 0 0 1065 (t_P (fun v s' => v = none ∧ Q (.inr (s')))) 322 [(0, .ref 950), (1, .int l1)] [] (t_m s) 1065 0 0 := by
  refine mj_iinc (k := 1) (v := (l1 + 1)) (lv2 := [(1, .int (l1 + 1)), (0, .ref 950)]) dX13_checkAll_322 rfl rfl (by decide) rfl ?_
  refine mj_goto 291 dX13_checkAll_325 (by decide) ?_
  refine mj_sublv [(0, .ref 950), (1, .int (l1 + 1))] [1, 0] rfl ?_
  exact t_somK hk (fun hf => Hb291 (l1 + 1) s hf)
noncomputable def k_X13_checkAll_291 (l1 : Int32) (s : t_S) : Option ((Int32 × t_S) ⊕ (t_S)) :=
 if (s.1 950 44) ≤ l1 then ((if (s.1 950 88) = (0 : Int32) then (some (s))
 else ((f_X13_fail (s.1 950 88) (s.1 950 89) s).bind (fun r1 =>
 some (r1)))).map Sum.inr)
 else (if t_ix l1 60 = true then
  if (s.1 1005 (l1.toNatClampNeg)) ≤ (60 : Int32) then (k_X13_checkAll_322 l1 s)
 else ((f_X13_wrong (7 : Int32) (s.1 969 (l1.toNatClampNeg)) s).bind (fun r3 =>
 k_X13_checkAll_322 l1 r3))
else none)
set_option maxRecDepth 4000 in
set_option maxHeartbeats 1000000 in
theorem B_X13_checkAll_291 {D : va_G} {cy : Nat → ClassId} {ad : Nat → Nat} {bs : Nat} {X : State → Heap → Prop} (l1 : Int32) (s : t_S) (Q : (Int32 × t_S) ⊕ (t_S) → Prop) (Hb291 : ∀ (y0 : Int32) (y1 : t_S), Q (.inl (y0, y1)) → mj_G D cy ad bs X cX13_checkAll 3 yX13_checkAll.cls none yX13_checkAll.name 153 0 0 1065 (t_P (fun v s' => v = none ∧ Q (.inr (s')))) 291 [(0, .ref 950), (1, .int (y0))] [] (t_m y1) 1065 0 0) (hk : t_hk (k_X13_checkAll_291 l1 s) Q) : mj_G D cy ad bs X cX13_checkAll 3 yX13_checkAll.cls none yX13_checkAll.name 153 0 0 1065 (t_P (fun v s' => v = none ∧ Q (.inr (s')))) 291 [(0, .ref 950), (1, .int l1)] [] (t_m s) 1065 0 0 := by
  refine mj_iload_n dX13_checkAll_291 1 rfl ?_
  refine mj_aload_n dX13_checkAll_292 0 rfl ?_
  refine t_getI dX13_checkAll_293 F_X13_627 qf_950_44 ?_
  refine mj_icmp_ge 328 dX13_checkAll_296 (by decide) (fun z => t_posK hk z (fun hk => ?_)) (fun z => t_negK hk z (fun hk => ?_))
  · refine t_mapK hk (fun hk => ?_)
    refine mj_aload_n dX13_checkAll_328 0 rfl ?_
    refine t_getI dX13_checkAll_329 F_X13_779 qf_950_88 ?_
    refine mj_if_eq 347 dX13_checkAll_332 (by decide) (fun z => t_posK hk z (fun hk => ?_)) (fun z => t_negK hk z (fun hk => ?_))
    · exact t_somK hk (fun hf => t_vret dX13_checkAll_347 rfl ⟨rfl, hf⟩ (Nat.le_of_ble_eq_true rfl) (Nat.le_of_ble_eq_true rfl))
    · refine mj_aload_n dX13_checkAll_335 0 rfl ?_
      refine mj_aload_n dX13_checkAll_336 0 rfl ?_
      refine t_getI dX13_checkAll_337 F_X13_779 qf_950_88 ?_
      refine mj_aload_n dX13_checkAll_340 0 rfl ?_
      refine t_getI dX13_checkAll_341 F_X13_782 qf_950_89 ?_
      refine t_bndK hk (fun r1 er1 hk => ?_)
      refine t_callVvE dX13_checkAll_344 M_X13_fail (C_X13_fail _ _ _ _ er1) ML_X13_411 IM_X13_fail SE_X13_fail qc_950 rfl (As := [.int (s.1 950 88), .int (s.1 950 89)]) rfl rfl (Nat.le_of_ble_eq_true rfl) (Nat.le_of_ble_eq_true rfl) (Nat.le_of_ble_eq_true rfl) (Nat.le_of_ble_eq_true rfl) ?_
      exact t_somK hk (fun hf => t_vret dX13_checkAll_347 rfl ⟨rfl, hf⟩ (Nat.le_of_ble_eq_true rfl) (Nat.le_of_ble_eq_true rfl))
  · refine mj_aload_n dX13_checkAll_299 0 rfl ?_
    refine t_getR 1005 dX13_checkAll_300 F_X13_178 qr_950_92 ?_
    refine mj_iload_n dX13_checkAll_303 1 rfl ?_
    refine t_chkK hk (fun c1 hk => ?_)
    refine t_iald dX13_checkAll_304 qa_1005 (t_ixv c1) ?_
    refine mj_bipush (v := 60) dX13_checkAll_305 (by decide) ?_
    refine mj_icmp_le 322 dX13_checkAll_307 (by decide) (fun z => t_posK hk z (fun hk => ?_)) (fun z => t_negK hk z (fun hk => ?_))
    · exact B_X13_checkAll_322 _ _ _ (fun y0 y1 hx => Hb291 y0 y1 hx) hk
    · refine mj_aload_n dX13_checkAll_310 0 rfl ?_
      refine mj_bipush (v := 7) dX13_checkAll_311 (by decide) ?_
      refine mj_aload_n dX13_checkAll_313 0 rfl ?_
      refine t_getR 969 dX13_checkAll_314 F_X13_69 qr_950_43 ?_
      refine mj_iload_n dX13_checkAll_317 1 rfl ?_
      refine t_iald dX13_checkAll_318 qa_969 (t_ixv c1) ?_
      refine t_bndK hk (fun r3 er3 hk => ?_)
      refine t_callVvE dX13_checkAll_319 M_X13_wrong (C_X13_wrong _ _ _ _ er3) ML_X13_795 IM_X13_wrong SE_X13_wrong qc_950 rfl (As := [.int 7, .int (s.1 969 (l1.toNatClampNeg))]) rfl rfl (Nat.le_of_ble_eq_true rfl) (Nat.le_of_ble_eq_true rfl) (Nat.le_of_ble_eq_true rfl) (Nat.le_of_ble_eq_true rfl) ?_
      exact B_X13_checkAll_322 _ _ _ (fun y0 y1 hx => Hb291 y0 y1 hx) hk
noncomputable def b_X13_checkAll_291 (x : Int32 × t_S) : Option ((Int32 × t_S) ⊕ (t_S)) := k_X13_checkAll_291 x.1 x.2
set_option maxRecDepth 4000 in
set_option maxHeartbeats 1000000 in
theorem LH_X13_checkAll_291 {D : va_G} {cy : Nat → ClassId} {ad : Nat → Nat} {bs : Nat} {X : State → Heap → Prop} : ∀ (n : Nat) (y0 : Int32) (y1 : t_S) (Q : t_S → Prop) (hk : t_hk (t_loop (b_X13_checkAll_291) n (y0, y1)) Q), mj_G D cy ad bs X cX13_checkAll 3 yX13_checkAll.cls none yX13_checkAll.name 153 0 0 1065 (t_P (fun v s' => v = none ∧ Q (s'))) 291 [(0, .ref 950), (1, .int (y0))] [] (t_m y1) 1065 0 0 := by
  intro n
  induction n with
  | zero => intro y0 y1 Q hk; obtain ⟨r, hr, _⟩ := hk; cases hr
  | succ n ih =>
    intro y0 y1 Q hk
    exact B_X13_checkAll_291 y0 y1 (fun y => t_lq (b_X13_checkAll_291) n Q y) (fun y0' y1' hy => ih y0' y1' Q hy) (t_lp (b := b_X13_checkAll_291) (n := n) (x := (y0, y1)) hk)
noncomputable def k_X13_checkAll_279 (l1 : Int32) (s : t_S) : Option ((Int32 × t_S) ⊕ (t_S)) :=
 some (.inl ((l1 + 1), s))
set_option maxRecDepth 4000 in
set_option maxHeartbeats 1000000 in
theorem B_X13_checkAll_279 {D : va_G} {cy : Nat → ClassId} {ad : Nat → Nat} {bs : Nat} {X : State → Heap → Prop} (l1 : Int32) (s : t_S) (Q : (Int32 × t_S) ⊕ (t_S) → Prop) (Hb251 : ∀ (y0 : Int32) (y1 : t_S), Q (.inl (y0, y1)) → mj_G D cy ad bs X cX13_checkAll 3 yX13_checkAll.cls none yX13_checkAll.name 153 0 0 1065 (t_P (fun v s' => v = none ∧ Q (.inr (s')))) 251 [(0, .ref 950), (1, .int (y0))] [] (t_m y1) 1065 0 0) (hk : t_hk (k_X13_checkAll_279 l1 s) Q) : mj_G D cy ad bs X cX13_checkAll 3 yX13_checkAll.cls none yX13_checkAll.name 153 0 0 1065 (t_P (fun v s' => v = none ∧ Q (.inr (s')))) 279 [(0, .ref 950), (1, .int l1)] [] (t_m s) 1065 0 0 := by
  refine mj_iinc (k := 1) (v := (l1 + 1)) (lv2 := [(1, .int (l1 + 1)), (0, .ref 950)]) dX13_checkAll_279 rfl rfl (by decide) rfl ?_
  refine mj_goto 251 dX13_checkAll_282 (by decide) ?_
  refine mj_sublv [(0, .ref 950), (1, .int (l1 + 1))] [1, 0] rfl ?_
  exact t_somK hk (fun hf => Hb251 (l1 + 1) s hf)
noncomputable def k_X13_checkAll_251 (l1 : Int32) (s : t_S) : Option ((Int32 × t_S) ⊕ (t_S)) :=
 if (s.1 950 40) ≤ l1 then (((f_X13_findDepths s).bind (fun r1 =>
 t_loop (b_X13_checkAll_291) t_N (0, r1))).map Sum.inr)
 else ((f_X13_isRing l1 s).bind (fun r2 =>
 if r2 = (0 : Int32) then (k_X13_checkAll_279 l1 s)
 else (if t_ix l1 60 = true then
  (f_X13_wrong (7 : Int32) (s.1 966 (l1.toNatClampNeg)) s).bind (fun r4 =>
 k_X13_checkAll_279 l1 r4)
else none)))
set_option maxRecDepth 4000 in
set_option maxHeartbeats 1000000 in
theorem B_X13_checkAll_251 {D : va_G} {cy : Nat → ClassId} {ad : Nat → Nat} {bs : Nat} {X : State → Heap → Prop} (l1 : Int32) (s : t_S) (Q : (Int32 × t_S) ⊕ (t_S) → Prop) (Hb251 : ∀ (y0 : Int32) (y1 : t_S), Q (.inl (y0, y1)) → mj_G D cy ad bs X cX13_checkAll 3 yX13_checkAll.cls none yX13_checkAll.name 153 0 0 1065 (t_P (fun v s' => v = none ∧ Q (.inr (s')))) 251 [(0, .ref 950), (1, .int (y0))] [] (t_m y1) 1065 0 0) (hk : t_hk (k_X13_checkAll_251 l1 s) Q) : mj_G D cy ad bs X cX13_checkAll 3 yX13_checkAll.cls none yX13_checkAll.name 153 0 0 1065 (t_P (fun v s' => v = none ∧ Q (.inr (s')))) 251 [(0, .ref 950), (1, .int l1)] [] (t_m s) 1065 0 0 := by
  refine mj_iload_n dX13_checkAll_251 1 rfl ?_
  refine mj_aload_n dX13_checkAll_252 0 rfl ?_
  refine t_getI dX13_checkAll_253 F_X13_624 qf_950_40 ?_
  refine mj_icmp_ge 285 dX13_checkAll_256 (by decide) (fun z => t_posK hk z (fun hk => ?_)) (fun z => t_negK hk z (fun hk => ?_))
  · refine t_mapK hk (fun hk => ?_)
    refine mj_aload_n dX13_checkAll_285 0 rfl ?_
    refine t_bndK hk (fun r1 er1 hk => ?_)
    refine t_callVvE dX13_checkAll_286 M_X13_findDepths (C_X13_findDepths _ _ er1) ML_X13_818 IM_X13_findDepths SE_X13_findDepths qc_950 rfl (As := []) rfl rfl (Nat.le_of_ble_eq_true rfl) (Nat.le_of_ble_eq_true rfl) (Nat.le_of_ble_eq_true rfl) (Nat.le_of_ble_eq_true rfl) ?_
    refine mj_iconst (v := 0) dX13_checkAll_289 (by decide) ?_
    refine mj_istore_n 1 (lv2 := [(1, .int 0), (0, .ref 950)]) dX13_checkAll_290 rfl (by decide) rfl ?_
    refine mj_sublv [(0, .ref 950), (1, .int 0)] [1, 0] rfl ?_
    exact LH_X13_checkAll_291 _ 0 r1 _ hk
  · refine mj_aload_n dX13_checkAll_259 0 rfl ?_
    refine mj_iload_n dX13_checkAll_260 1 rfl ?_
    refine t_bndK hk (fun r2 er2 hk => ?_)
    refine t_callViP dX13_checkAll_261 M_X13_isRing (C_X13_isRing _ _ _ er2) ML_X13_815 IM_X13_isRing SE_X13_isRing qc_950 rfl (As := [.int l1]) rfl rfl (Nat.le_of_ble_eq_true rfl) (Nat.le_of_ble_eq_true rfl) (Nat.le_of_ble_eq_true rfl) (Nat.le_of_ble_eq_true rfl) ?_
    refine mj_if_eq 279 dX13_checkAll_264 (by decide) (fun z => t_posK hk z (fun hk => ?_)) (fun z => t_negK hk z (fun hk => ?_))
    · exact B_X13_checkAll_279 _ _ _ (fun y0 y1 hx => Hb251 y0 y1 hx) hk
    · refine mj_aload_n dX13_checkAll_267 0 rfl ?_
      refine mj_bipush (v := 7) dX13_checkAll_268 (by decide) ?_
      refine mj_aload_n dX13_checkAll_270 0 rfl ?_
      refine t_getR 966 dX13_checkAll_271 F_X13_60 qr_950_39 ?_
      refine mj_iload_n dX13_checkAll_274 1 rfl ?_
      refine t_chkK hk (fun c2 hk => ?_)
      refine t_iald dX13_checkAll_275 qa_966 (t_ixv c2) ?_
      refine t_bndK hk (fun r4 er4 hk => ?_)
      refine t_callVvE dX13_checkAll_276 M_X13_wrong (C_X13_wrong _ _ _ _ er4) ML_X13_795 IM_X13_wrong SE_X13_wrong qc_950 rfl (As := [.int 7, .int (s.1 966 (l1.toNatClampNeg))]) rfl rfl (Nat.le_of_ble_eq_true rfl) (Nat.le_of_ble_eq_true rfl) (Nat.le_of_ble_eq_true rfl) (Nat.le_of_ble_eq_true rfl) ?_
      exact B_X13_checkAll_279 _ _ _ (fun y0 y1 hx => Hb251 y0 y1 hx) hk
noncomputable def b_X13_checkAll_251 (x : Int32 × t_S) : Option ((Int32 × t_S) ⊕ (t_S)) := k_X13_checkAll_251 x.1 x.2
set_option maxRecDepth 4000 in
set_option maxHeartbeats 1000000 in
theorem LH_X13_checkAll_251 {D : va_G} {cy : Nat → ClassId} {ad : Nat → Nat} {bs : Nat} {X : State → Heap → Prop} : ∀ (n : Nat) (y0 : Int32) (y1 : t_S) (Q : t_S → Prop) (hk : t_hk (t_loop (b_X13_checkAll_251) n (y0, y1)) Q), mj_G D cy ad bs X cX13_checkAll 3 yX13_checkAll.cls none yX13_checkAll.name 153 0 0 1065 (t_P (fun v s' => v = none ∧ Q (s'))) 251 [(0, .ref 950), (1, .int (y0))] [] (t_m y1) 1065 0 0 := by
  intro n
  induction n with
  | zero => intro y0 y1 Q hk; obtain ⟨r, hr, _⟩ := hk; cases hr
  | succ n ih =>
    intro y0 y1 Q hk
    exact B_X13_checkAll_251 y0 y1 (fun y => t_lq (b_X13_checkAll_251) n Q y) (fun y0' y1' hy => ih y0' y1' Q hy) (t_lp (b := b_X13_checkAll_251) (n := n) (x := (y0, y1)) hk)
noncomputable def k_X13_checkAll_230 (l1 : Int32) (s : t_S) : Option ((Int32 × t_S) ⊕ (t_S)) :=
 if (s.1 950 81) ≤ l1 then ((t_loop (b_X13_checkAll_251) t_N (0, s)).map Sum.inr)
 else ((f_X13_checkLine l1 s).bind (fun r1 =>
 some (.inl ((l1 + 1), r1))))
set_option maxRecDepth 4000 in
set_option maxHeartbeats 1000000 in
theorem B_X13_checkAll_230 {D : va_G} {cy : Nat → ClassId} {ad : Nat → Nat} {bs : Nat} {X : State → Heap → Prop} (l1 : Int32) (s : t_S) (Q : (Int32 × t_S) ⊕ (t_S) → Prop) (Hb230 : ∀ (y0 : Int32) (y1 : t_S), Q (.inl (y0, y1)) → mj_G D cy ad bs X cX13_checkAll 3 yX13_checkAll.cls none yX13_checkAll.name 153 0 0 1065 (t_P (fun v s' => v = none ∧ Q (.inr (s')))) 230 [(0, .ref 950), (1, .int (y0))] [] (t_m y1) 1065 0 0) (hk : t_hk (k_X13_checkAll_230 l1 s) Q) : mj_G D cy ad bs X cX13_checkAll 3 yX13_checkAll.cls none yX13_checkAll.name 153 0 0 1065 (t_P (fun v s' => v = none ∧ Q (.inr (s')))) 230 [(0, .ref 950), (1, .int l1)] [] (t_m s) 1065 0 0 := by
  refine mj_iload_n dX13_checkAll_230 1 rfl ?_
  refine mj_aload_n dX13_checkAll_231 0 rfl ?_
  refine t_getI dX13_checkAll_232 F_X13_639 qf_950_81 ?_
  refine mj_icmp_ge 249 dX13_checkAll_235 (by decide) (fun z => t_posK hk z (fun hk => ?_)) (fun z => t_negK hk z (fun hk => ?_))
  · refine t_mapK hk (fun hk => ?_)
    refine mj_iconst (v := 0) dX13_checkAll_249 (by decide) ?_
    refine mj_istore_n 1 (lv2 := [(1, .int 0), (0, .ref 950)]) dX13_checkAll_250 rfl (by decide) rfl ?_
    refine mj_sublv [(0, .ref 950), (1, .int 0)] [1, 0] rfl ?_
    exact LH_X13_checkAll_251 _ 0 s _ hk
  · refine mj_aload_n dX13_checkAll_238 0 rfl ?_
    refine mj_iload_n dX13_checkAll_239 1 rfl ?_
    refine t_bndK hk (fun r1 er1 hk => ?_)
    refine t_callVvE dX13_checkAll_240 M_X13_checkLine (C_X13_checkLine _ _ _ er1) ML_X13_812 IM_X13_checkLine SE_X13_checkLine qc_950 rfl (As := [.int l1]) rfl rfl (Nat.le_of_ble_eq_true rfl) (Nat.le_of_ble_eq_true rfl) (Nat.le_of_ble_eq_true rfl) (Nat.le_of_ble_eq_true rfl) ?_
    refine mj_iinc (k := 1) (v := (l1 + 1)) (lv2 := [(1, .int (l1 + 1)), (0, .ref 950)]) dX13_checkAll_243 rfl rfl (by decide) rfl ?_
    refine mj_goto 230 dX13_checkAll_246 (by decide) ?_
    refine mj_sublv [(0, .ref 950), (1, .int (l1 + 1))] [1, 0] rfl ?_
    exact t_somK hk (fun hf => Hb230 (l1 + 1) r1 hf)
noncomputable def b_X13_checkAll_230 (x : Int32 × t_S) : Option ((Int32 × t_S) ⊕ (t_S)) := k_X13_checkAll_230 x.1 x.2
set_option maxRecDepth 4000 in
set_option maxHeartbeats 1000000 in
theorem LH_X13_checkAll_230 {D : va_G} {cy : Nat → ClassId} {ad : Nat → Nat} {bs : Nat} {X : State → Heap → Prop} : ∀ (n : Nat) (y0 : Int32) (y1 : t_S) (Q : t_S → Prop) (hk : t_hk (t_loop (b_X13_checkAll_230) n (y0, y1)) Q), mj_G D cy ad bs X cX13_checkAll 3 yX13_checkAll.cls none yX13_checkAll.name 153 0 0 1065 (t_P (fun v s' => v = none ∧ Q (s'))) 230 [(0, .ref 950), (1, .int (y0))] [] (t_m y1) 1065 0 0 := by
  intro n
  induction n with
  | zero => intro y0 y1 Q hk; obtain ⟨r, hr, _⟩ := hk; cases hr
  | succ n ih =>
    intro y0 y1 Q hk
    exact B_X13_checkAll_230 y0 y1 (fun y => t_lq (b_X13_checkAll_230) n Q y) (fun y0' y1' hy => ih y0' y1' Q hy) (t_lp (b := b_X13_checkAll_230) (n := n) (x := (y0, y1)) hk)
noncomputable def k_X13_checkAll_181 (l1 : Int32) (s : t_S) : Option ((Int32 × t_S) ⊕ (t_S)) :=
 if (s.1 950 64) ≤ l1 then ((t_loop (b_X13_checkAll_230) t_N (0, s)).map Sum.inr)
 else (if t_ix l1 40 = true then
  (f_X13_find 970 (0 : Int32) (s.1 950 55) (s.1 982 (l1.toNatClampNeg)) s).bind (fun r2 =>
 if (0 : Int32) ≤ r2 then (k_X13_checkAll_222 l1 s)
 else ((f_X13_wrong (4 : Int32) (s.1 983 (l1.toNatClampNeg)) s).bind (fun r3 =>
 k_X13_checkAll_222 l1 r3)))
else none)
set_option maxRecDepth 4000 in
set_option maxHeartbeats 1000000 in
theorem B_X13_checkAll_181 {D : va_G} {cy : Nat → ClassId} {ad : Nat → Nat} {bs : Nat} {X : State → Heap → Prop} (l1 : Int32) (s : t_S) (Q : (Int32 × t_S) ⊕ (t_S) → Prop) (Hb181 : ∀ (y0 : Int32) (y1 : t_S), Q (.inl (y0, y1)) → mj_G D cy ad bs X cX13_checkAll 3 yX13_checkAll.cls none yX13_checkAll.name 153 0 0 1065 (t_P (fun v s' => v = none ∧ Q (.inr (s')))) 181 [(0, .ref 950), (1, .int (y0))] [] (t_m y1) 1065 0 0) (hk : t_hk (k_X13_checkAll_181 l1 s) Q) : mj_G D cy ad bs X cX13_checkAll 3 yX13_checkAll.cls none yX13_checkAll.name 153 0 0 1065 (t_P (fun v s' => v = none ∧ Q (.inr (s')))) 181 [(0, .ref 950), (1, .int l1)] [] (t_m s) 1065 0 0 := by
  refine mj_iload_n dX13_checkAll_181 1 rfl ?_
  refine mj_aload_n dX13_checkAll_182 0 rfl ?_
  refine t_getI dX13_checkAll_183 F_X13_633 qf_950_64 ?_
  refine mj_icmp_ge 228 dX13_checkAll_186 (by decide) (fun z => t_posK hk z (fun hk => ?_)) (fun z => t_negK hk z (fun hk => ?_))
  · refine t_mapK hk (fun hk => ?_)
    refine mj_iconst (v := 0) dX13_checkAll_228 (by decide) ?_
    refine mj_istore_n 1 (lv2 := [(1, .int 0), (0, .ref 950)]) dX13_checkAll_229 rfl (by decide) rfl ?_
    refine mj_sublv [(0, .ref 950), (1, .int 0)] [1, 0] rfl ?_
    exact LH_X13_checkAll_230 _ 0 s _ hk
  · refine mj_aload_n dX13_checkAll_189 0 rfl ?_
    refine mj_aload_n dX13_checkAll_190 0 rfl ?_
    refine t_getR 970 dX13_checkAll_191 F_X13_72 qr_950_45 ?_
    refine mj_iconst (v := 0) dX13_checkAll_194 (by decide) ?_
    refine mj_aload_n dX13_checkAll_195 0 rfl ?_
    refine t_getI dX13_checkAll_196 F_X13_630 qf_950_55 ?_
    refine mj_aload_n dX13_checkAll_199 0 rfl ?_
    refine t_getR 982 dX13_checkAll_200 F_X13_108 qr_950_58 ?_
    refine mj_iload_n dX13_checkAll_203 1 rfl ?_
    refine t_chkK hk (fun c0 hk => ?_)
    refine t_iald dX13_checkAll_204 qa_982 (t_ixv c0) ?_
    refine t_bndK hk (fun r2 er2 hk => ?_)
    refine t_callViP dX13_checkAll_205 M_X13_find (C_X13_find _ _ _ _ _ _ er2) ML_X13_788 IM_X13_find SE_X13_find qc_950 rfl (As := [.ref 970, .int 0, .int (s.1 950 55), .int (s.1 982 (l1.toNatClampNeg))]) rfl rfl (Nat.le_of_ble_eq_true rfl) (Nat.le_of_ble_eq_true rfl) (Nat.le_of_ble_eq_true rfl) (Nat.le_of_ble_eq_true rfl) ?_
    refine mj_if_ge 222 dX13_checkAll_208 (by decide) (fun z => t_posK hk z (fun hk => ?_)) (fun z => t_negK hk z (fun hk => ?_))
    · exact B_X13_checkAll_222 _ _ _ (fun y0 y1 hx => Hb181 y0 y1 hx) hk
    · refine mj_aload_n dX13_checkAll_211 0 rfl ?_
      refine mj_iconst (v := 4) dX13_checkAll_212 (by decide) ?_
      refine mj_aload_n dX13_checkAll_213 0 rfl ?_
      refine t_getR 983 dX13_checkAll_214 F_X13_111 qr_950_59 ?_
      refine mj_iload_n dX13_checkAll_217 1 rfl ?_
      refine t_iald dX13_checkAll_218 qa_983 (t_ixv c0) ?_
      refine t_bndK hk (fun r3 er3 hk => ?_)
      refine t_callVvE dX13_checkAll_219 M_X13_wrong (C_X13_wrong _ _ _ _ er3) ML_X13_795 IM_X13_wrong SE_X13_wrong qc_950 rfl (As := [.int 4, .int (s.1 983 (l1.toNatClampNeg))]) rfl rfl (Nat.le_of_ble_eq_true rfl) (Nat.le_of_ble_eq_true rfl) (Nat.le_of_ble_eq_true rfl) (Nat.le_of_ble_eq_true rfl) ?_
      exact B_X13_checkAll_222 _ _ _ (fun y0 y1 hx => Hb181 y0 y1 hx) hk
noncomputable def b_X13_checkAll_181 (x : Int32 × t_S) : Option ((Int32 × t_S) ⊕ (t_S)) := k_X13_checkAll_181 x.1 x.2
set_option maxRecDepth 4000 in
set_option maxHeartbeats 1000000 in
theorem LH_X13_checkAll_181 {D : va_G} {cy : Nat → ClassId} {ad : Nat → Nat} {bs : Nat} {X : State → Heap → Prop} : ∀ (n : Nat) (y0 : Int32) (y1 : t_S) (Q : t_S → Prop) (hk : t_hk (t_loop (b_X13_checkAll_181) n (y0, y1)) Q), mj_G D cy ad bs X cX13_checkAll 3 yX13_checkAll.cls none yX13_checkAll.name 153 0 0 1065 (t_P (fun v s' => v = none ∧ Q (s'))) 181 [(0, .ref 950), (1, .int (y0))] [] (t_m y1) 1065 0 0 := by
  intro n
  induction n with
  | zero => intro y0 y1 Q hk; obtain ⟨r, hr, _⟩ := hk; cases hr
  | succ n ih =>
    intro y0 y1 Q hk
    exact B_X13_checkAll_181 y0 y1 (fun y => t_lq (b_X13_checkAll_181) n Q y) (fun y0' y1' hy => ih y0' y1' Q hy) (t_lp (b := b_X13_checkAll_181) (n := n) (x := (y0, y1)) hk)
noncomputable def k_X13_checkAll_167 (l1 : Int32) (l2 : Int32) (s : t_S) : Option ((Int32 × Int32 × t_S) ⊕ ((Int32 × t_S) ⊕ (t_S))) :=
 some (.inl (l1, (l2 + 1), s))
set_option maxRecDepth 4000 in
set_option maxHeartbeats 1000000 in
theorem B_X13_checkAll_167 {D : va_G} {cy : Nat → ClassId} {ad : Nat → Nat} {bs : Nat} {X : State → Heap → Prop} (l1 : Int32) (l2 : Int32) (s : t_S) (Q : (Int32 × Int32 × t_S) ⊕ ((Int32 × t_S) ⊕ (t_S)) → Prop) (Hb97 : ∀ (y0 : Int32) (y1 : t_S), Q (.inr (.inl (y0, y1))) → mj_G D cy ad bs X cX13_checkAll 3 yX13_checkAll.cls none yX13_checkAll.name 153 0 0 1065 (t_P (fun v s' => v = none ∧ Q (.inr (.inr (s'))))) 97 [(0, .ref 950), (1, .int (y0))] [] (t_m y1) 1065 0 0) (Hb110 : ∀ (y0 : Int32) (y1 : Int32) (y2 : t_S), Q (.inl (y0, y1, y2)) → mj_G D cy ad bs X cX13_checkAll 3 yX13_checkAll.cls none yX13_checkAll.name 153 0 0 1065 (t_P (fun v s' => v = none ∧ Q (.inr (.inr (s'))))) 110 [(0, .ref 950), (1, .int (y0)), (2, .int (y1))] [] (t_m y2) 1065 0 0) (hk : t_hk (k_X13_checkAll_167 l1 l2 s) Q) : mj_G D cy ad bs X cX13_checkAll 3 yX13_checkAll.cls none yX13_checkAll.name 153 0 0 1065 (t_P (fun v s' => v = none ∧ Q (.inr (.inr (s'))))) 167 [(0, .ref 950), (1, .int l1), (2, .int l2)] [] (t_m s) 1065 0 0 := by
  refine mj_iinc (k := 2) (v := (l2 + 1)) (lv2 := [(2, .int (l2 + 1)), (0, .ref 950), (1, .int l1)]) dX13_checkAll_167 rfl rfl (by decide) rfl ?_
  refine mj_goto 110 dX13_checkAll_170 (by decide) ?_
  refine mj_sublv [(0, .ref 950), (1, .int l1), (2, .int (l2 + 1))] [1, 2, 0] rfl ?_
  exact t_somK hk (fun hf => Hb110 l1 (l2 + 1) s hf)
noncomputable def k_X13_checkAll_110 (l1 : Int32) (l2 : Int32) (s : t_S) : Option ((Int32 × Int32 × t_S) ⊕ ((Int32 × t_S) ⊕ (t_S))) :=
 if t_ix l1 8 = true then
  if (((8 : Int32) * l1) + (s.1 979 (l1.toNatClampNeg))) ≤ l2 then ((some (.inl ((l1 + 1), s))).map Sum.inr)
 else (if t_ix l2 64 = true then
  if (s.1 976 (l2.toNatClampNeg)) < (0 : Int32) then (k_X13_checkAll_167 l1 l2 s)
 else ((f_X13_find 964 (0 : Int32) (s.1 950 40) (s.1 976 (l2.toNatClampNeg)) s).bind (fun r3 =>
 if (0 : Int32) ≤ r3 then (k_X13_checkAll_167 l1 l2 s)
 else ((f_X13_wrong (4 : Int32) (s.1 977 (l2.toNatClampNeg)) s).bind (fun r4 =>
 k_X13_checkAll_167 l1 l2 r4))))
else none)
else none
set_option maxRecDepth 4000 in
set_option maxHeartbeats 1000000 in
theorem B_X13_checkAll_110 {D : va_G} {cy : Nat → ClassId} {ad : Nat → Nat} {bs : Nat} {X : State → Heap → Prop} (l1 : Int32) (l2 : Int32) (s : t_S) (Q : (Int32 × Int32 × t_S) ⊕ ((Int32 × t_S) ⊕ (t_S)) → Prop) (Hb97 : ∀ (y0 : Int32) (y1 : t_S), Q (.inr (.inl (y0, y1))) → mj_G D cy ad bs X cX13_checkAll 3 yX13_checkAll.cls none yX13_checkAll.name 153 0 0 1065 (t_P (fun v s' => v = none ∧ Q (.inr (.inr (s'))))) 97 [(0, .ref 950), (1, .int (y0))] [] (t_m y1) 1065 0 0) (Hb110 : ∀ (y0 : Int32) (y1 : Int32) (y2 : t_S), Q (.inl (y0, y1, y2)) → mj_G D cy ad bs X cX13_checkAll 3 yX13_checkAll.cls none yX13_checkAll.name 153 0 0 1065 (t_P (fun v s' => v = none ∧ Q (.inr (.inr (s'))))) 110 [(0, .ref 950), (1, .int (y0)), (2, .int (y1))] [] (t_m y2) 1065 0 0) (hk : t_hk (k_X13_checkAll_110 l1 l2 s) Q) : mj_G D cy ad bs X cX13_checkAll 3 yX13_checkAll.cls none yX13_checkAll.name 153 0 0 1065 (t_P (fun v s' => v = none ∧ Q (.inr (.inr (s'))))) 110 [(0, .ref 950), (1, .int l1), (2, .int l2)] [] (t_m s) 1065 0 0 := by
  refine mj_iload_n dX13_checkAll_110 2 rfl ?_
  refine mj_bipush (v := 8) dX13_checkAll_111 (by decide) ?_
  refine mj_iload_n dX13_checkAll_113 1 rfl ?_
  refine mj_imul dX13_checkAll_114 ?_
  refine mj_aload_n dX13_checkAll_115 0 rfl ?_
  refine t_getR 979 dX13_checkAll_116 F_X13_99 qr_950_54 ?_
  refine mj_iload_n dX13_checkAll_119 1 rfl ?_
  refine t_chkK hk (fun c0 hk => ?_)
  refine t_iald dX13_checkAll_120 qa_979 (t_ixv c0) ?_
  refine mj_iadd dX13_checkAll_121 ?_
  refine mj_icmp_ge 173 dX13_checkAll_122 (by decide) (fun z => t_posK hk z (fun hk => ?_)) (fun z => t_negK hk z (fun hk => ?_))
  · refine t_mapK hk (fun hk => ?_)
    refine mj_iinc (k := 1) (v := (l1 + 1)) (lv2 := [(1, .int (l1 + 1)), (0, .ref 950), (2, .int l2)]) dX13_checkAll_173 rfl rfl (by decide) rfl ?_
    refine mj_goto 97 dX13_checkAll_176 (by decide) ?_
    refine mj_sublv [(0, .ref 950), (1, .int (l1 + 1))] [1, 0] rfl ?_
    exact t_somK hk (fun hf => Hb97 (l1 + 1) s hf)
  · refine mj_aload_n dX13_checkAll_125 0 rfl ?_
    refine t_getR 976 dX13_checkAll_126 F_X13_90 qr_950_51 ?_
    refine mj_iload_n dX13_checkAll_129 2 rfl ?_
    refine t_chkK hk (fun c1 hk => ?_)
    refine t_iald dX13_checkAll_130 qa_976 (t_ixv c1) ?_
    refine mj_if_lt 167 dX13_checkAll_131 (by decide) (fun z => t_posK hk z (fun hk => ?_)) (fun z => t_negK hk z (fun hk => ?_))
    · exact B_X13_checkAll_167 _ _ _ _ (fun y0 y1 hx => Hb97 y0 y1 hx) (fun y0 y1 y2 hx => Hb110 y0 y1 y2 hx) hk
    · refine mj_aload_n dX13_checkAll_134 0 rfl ?_
      refine mj_aload_n dX13_checkAll_135 0 rfl ?_
      refine t_getR 964 dX13_checkAll_136 F_X13_54 qr_950_37 ?_
      refine mj_iconst (v := 0) dX13_checkAll_139 (by decide) ?_
      refine mj_aload_n dX13_checkAll_140 0 rfl ?_
      refine t_getI dX13_checkAll_141 F_X13_624 qf_950_40 ?_
      refine mj_aload_n dX13_checkAll_144 0 rfl ?_
      refine t_getR 976 dX13_checkAll_145 F_X13_90 qr_950_51 ?_
      refine mj_iload_n dX13_checkAll_148 2 rfl ?_
      refine t_iald dX13_checkAll_149 qa_976 (t_ixv c1) ?_
      refine t_bndK hk (fun r3 er3 hk => ?_)
      refine t_callViP dX13_checkAll_150 M_X13_find (C_X13_find _ _ _ _ _ _ er3) ML_X13_788 IM_X13_find SE_X13_find qc_950 rfl (As := [.ref 964, .int 0, .int (s.1 950 40), .int (s.1 976 (l2.toNatClampNeg))]) rfl rfl (Nat.le_of_ble_eq_true rfl) (Nat.le_of_ble_eq_true rfl) (Nat.le_of_ble_eq_true rfl) (Nat.le_of_ble_eq_true rfl) ?_
      refine mj_if_ge 167 dX13_checkAll_153 (by decide) (fun z => t_posK hk z (fun hk => ?_)) (fun z => t_negK hk z (fun hk => ?_))
      · exact B_X13_checkAll_167 _ _ _ _ (fun y0 y1 hx => Hb97 y0 y1 hx) (fun y0 y1 y2 hx => Hb110 y0 y1 y2 hx) hk
      · refine mj_aload_n dX13_checkAll_156 0 rfl ?_
        refine mj_iconst (v := 4) dX13_checkAll_157 (by decide) ?_
        refine mj_aload_n dX13_checkAll_158 0 rfl ?_
        refine t_getR 977 dX13_checkAll_159 F_X13_93 qr_950_52 ?_
        refine mj_iload_n dX13_checkAll_162 2 rfl ?_
        refine t_iald dX13_checkAll_163 qa_977 (t_ixv c1) ?_
        refine t_bndK hk (fun r4 er4 hk => ?_)
        refine t_callVvE dX13_checkAll_164 M_X13_wrong (C_X13_wrong _ _ _ _ er4) ML_X13_795 IM_X13_wrong SE_X13_wrong qc_950 rfl (As := [.int 4, .int (s.1 977 (l2.toNatClampNeg))]) rfl rfl (Nat.le_of_ble_eq_true rfl) (Nat.le_of_ble_eq_true rfl) (Nat.le_of_ble_eq_true rfl) (Nat.le_of_ble_eq_true rfl) ?_
        exact B_X13_checkAll_167 _ _ _ _ (fun y0 y1 hx => Hb97 y0 y1 hx) (fun y0 y1 y2 hx => Hb110 y0 y1 y2 hx) hk
noncomputable def b_X13_checkAll_110 (x : Int32 × Int32 × t_S) : Option ((Int32 × Int32 × t_S) ⊕ ((Int32 × t_S) ⊕ (t_S))) := k_X13_checkAll_110 x.1 x.2.1 x.2.2
set_option maxRecDepth 4000 in
set_option maxHeartbeats 1000000 in
theorem LH_X13_checkAll_110 {D : va_G} {cy : Nat → ClassId} {ad : Nat → Nat} {bs : Nat} {X : State → Heap → Prop} : ∀ (n : Nat) (y0 : Int32) (y1 : Int32) (y2 : t_S) (Q : (Int32 × t_S) ⊕ (t_S) → Prop) (Hb97 : ∀ (y0 : Int32) (y1 : t_S), Q (.inl (y0, y1)) → mj_G D cy ad bs X cX13_checkAll 3 yX13_checkAll.cls none yX13_checkAll.name 153 0 0 1065 (t_P (fun v s' => v = none ∧ Q (.inr (s')))) 97 [(0, .ref 950), (1, .int (y0))] [] (t_m y1) 1065 0 0) (hk : t_hk (t_loop (b_X13_checkAll_110) n (y0, y1, y2)) Q), mj_G D cy ad bs X cX13_checkAll 3 yX13_checkAll.cls none yX13_checkAll.name 153 0 0 1065 (t_P (fun v s' => v = none ∧ Q (.inr (s')))) 110 [(0, .ref 950), (1, .int (y0)), (2, .int (y1))] [] (t_m y2) 1065 0 0 := by
  intro n
  induction n with
  | zero => intro y0 y1 y2 Q Hb97 hk; obtain ⟨r, hr, _⟩ := hk; cases hr
  | succ n ih =>
    intro y0 y1 y2 Q Hb97 hk
    exact B_X13_checkAll_110 y0 y1 y2 (fun y => t_lq (b_X13_checkAll_110) n Q y) (fun y0' y1' hy => Hb97 y0' y1' hy) (fun y0' y1' y2' hy => ih y0' y1' y2' Q Hb97 hy) (t_lp (b := b_X13_checkAll_110) (n := n) (x := (y0, y1, y2)) hk)
noncomputable def k_X13_checkAll_97 (l1 : Int32) (s : t_S) : Option ((Int32 × t_S) ⊕ (t_S)) :=
 if (s.1 950 55) ≤ l1 then ((t_loop (b_X13_checkAll_181) t_N (0, s)).map Sum.inr)
 else (t_loop (b_X13_checkAll_110) t_N (l1, ((8 : Int32) * l1), s))
set_option maxRecDepth 4000 in
set_option maxHeartbeats 1000000 in
theorem B_X13_checkAll_97 {D : va_G} {cy : Nat → ClassId} {ad : Nat → Nat} {bs : Nat} {X : State → Heap → Prop} (l1 : Int32) (s : t_S) (Q : (Int32 × t_S) ⊕ (t_S) → Prop) (Hb97 : ∀ (y0 : Int32) (y1 : t_S), Q (.inl (y0, y1)) → mj_G D cy ad bs X cX13_checkAll 3 yX13_checkAll.cls none yX13_checkAll.name 153 0 0 1065 (t_P (fun v s' => v = none ∧ Q (.inr (s')))) 97 [(0, .ref 950), (1, .int (y0))] [] (t_m y1) 1065 0 0) (hk : t_hk (k_X13_checkAll_97 l1 s) Q) : mj_G D cy ad bs X cX13_checkAll 3 yX13_checkAll.cls none yX13_checkAll.name 153 0 0 1065 (t_P (fun v s' => v = none ∧ Q (.inr (s')))) 97 [(0, .ref 950), (1, .int l1)] [] (t_m s) 1065 0 0 := by
  refine mj_iload_n dX13_checkAll_97 1 rfl ?_
  refine mj_aload_n dX13_checkAll_98 0 rfl ?_
  refine t_getI dX13_checkAll_99 F_X13_630 qf_950_55 ?_
  refine mj_icmp_ge 179 dX13_checkAll_102 (by decide) (fun z => t_posK hk z (fun hk => ?_)) (fun z => t_negK hk z (fun hk => ?_))
  · refine t_mapK hk (fun hk => ?_)
    refine mj_iconst (v := 0) dX13_checkAll_179 (by decide) ?_
    refine mj_istore_n 1 (lv2 := [(1, .int 0), (0, .ref 950)]) dX13_checkAll_180 rfl (by decide) rfl ?_
    refine mj_sublv [(0, .ref 950), (1, .int 0)] [1, 0] rfl ?_
    exact LH_X13_checkAll_181 _ 0 s _ hk
  · refine mj_bipush (v := 8) dX13_checkAll_105 (by decide) ?_
    refine mj_iload_n dX13_checkAll_107 1 rfl ?_
    refine mj_imul dX13_checkAll_108 ?_
    refine mj_istore_n 2 (lv2 := [(2, .int ((8 : Int32) * l1)), (0, .ref 950), (1, .int l1)]) dX13_checkAll_109 rfl (by decide) rfl ?_
    refine mj_sublv [(0, .ref 950), (1, .int l1), (2, .int ((8 : Int32) * l1))] [1, 2, 0] rfl ?_
    exact LH_X13_checkAll_110 _ l1 ((8 : Int32) * l1) s _ (fun y0 y1 hx => Hb97 y0 y1 hx) hk
noncomputable def b_X13_checkAll_97 (x : Int32 × t_S) : Option ((Int32 × t_S) ⊕ (t_S)) := k_X13_checkAll_97 x.1 x.2
set_option maxRecDepth 4000 in
set_option maxHeartbeats 1000000 in
theorem LH_X13_checkAll_97 {D : va_G} {cy : Nat → ClassId} {ad : Nat → Nat} {bs : Nat} {X : State → Heap → Prop} : ∀ (n : Nat) (y0 : Int32) (y1 : t_S) (Q : t_S → Prop) (hk : t_hk (t_loop (b_X13_checkAll_97) n (y0, y1)) Q), mj_G D cy ad bs X cX13_checkAll 3 yX13_checkAll.cls none yX13_checkAll.name 153 0 0 1065 (t_P (fun v s' => v = none ∧ Q (s'))) 97 [(0, .ref 950), (1, .int (y0))] [] (t_m y1) 1065 0 0 := by
  intro n
  induction n with
  | zero => intro y0 y1 Q hk; obtain ⟨r, hr, _⟩ := hk; cases hr
  | succ n ih =>
    intro y0 y1 Q hk
    exact B_X13_checkAll_97 y0 y1 (fun y => t_lq (b_X13_checkAll_97) n Q y) (fun y0' y1' hy => ih y0' y1' Q hy) (t_lp (b := b_X13_checkAll_97) (n := n) (x := (y0, y1)) hk)
noncomputable def k_X13_checkAll_76 (l1 : Int32) (s : t_S) : Option ((Int32 × t_S) ⊕ (t_S)) :=
 if (s.1 950 24) ≤ l1 then ((t_loop (b_X13_checkAll_97) t_N (0, s)).map Sum.inr)
 else ((f_X13_checkNode l1 s).bind (fun r1 =>
 some (.inl ((l1 + 1), r1))))
set_option maxRecDepth 4000 in
set_option maxHeartbeats 1000000 in
theorem B_X13_checkAll_76 {D : va_G} {cy : Nat → ClassId} {ad : Nat → Nat} {bs : Nat} {X : State → Heap → Prop} (l1 : Int32) (s : t_S) (Q : (Int32 × t_S) ⊕ (t_S) → Prop) (Hb76 : ∀ (y0 : Int32) (y1 : t_S), Q (.inl (y0, y1)) → mj_G D cy ad bs X cX13_checkAll 3 yX13_checkAll.cls none yX13_checkAll.name 153 0 0 1065 (t_P (fun v s' => v = none ∧ Q (.inr (s')))) 76 [(0, .ref 950), (1, .int (y0))] [] (t_m y1) 1065 0 0) (hk : t_hk (k_X13_checkAll_76 l1 s) Q) : mj_G D cy ad bs X cX13_checkAll 3 yX13_checkAll.cls none yX13_checkAll.name 153 0 0 1065 (t_P (fun v s' => v = none ∧ Q (.inr (s')))) 76 [(0, .ref 950), (1, .int l1)] [] (t_m s) 1065 0 0 := by
  refine mj_iload_n dX13_checkAll_76 1 rfl ?_
  refine mj_aload_n dX13_checkAll_77 0 rfl ?_
  refine t_getI dX13_checkAll_78 F_X13_474 qf_950_24 ?_
  refine mj_icmp_ge 95 dX13_checkAll_81 (by decide) (fun z => t_posK hk z (fun hk => ?_)) (fun z => t_negK hk z (fun hk => ?_))
  · refine t_mapK hk (fun hk => ?_)
    refine mj_iconst (v := 0) dX13_checkAll_95 (by decide) ?_
    refine mj_istore_n 1 (lv2 := [(1, .int 0), (0, .ref 950)]) dX13_checkAll_96 rfl (by decide) rfl ?_
    refine mj_sublv [(0, .ref 950), (1, .int 0)] [1, 0] rfl ?_
    exact LH_X13_checkAll_97 _ 0 s _ hk
  · refine mj_aload_n dX13_checkAll_84 0 rfl ?_
    refine mj_iload_n dX13_checkAll_85 1 rfl ?_
    refine t_bndK hk (fun r1 er1 hk => ?_)
    refine t_callVvE dX13_checkAll_86 M_X13_checkNode (C_X13_checkNode _ _ _ er1) ML_X13_809 IM_X13_checkNode SE_X13_checkNode qc_950 rfl (As := [.int l1]) rfl rfl (Nat.le_of_ble_eq_true rfl) (Nat.le_of_ble_eq_true rfl) (Nat.le_of_ble_eq_true rfl) (Nat.le_of_ble_eq_true rfl) ?_
    refine mj_iinc (k := 1) (v := (l1 + 1)) (lv2 := [(1, .int (l1 + 1)), (0, .ref 950)]) dX13_checkAll_89 rfl rfl (by decide) rfl ?_
    refine mj_goto 76 dX13_checkAll_92 (by decide) ?_
    refine mj_sublv [(0, .ref 950), (1, .int (l1 + 1))] [1, 0] rfl ?_
    exact t_somK hk (fun hf => Hb76 (l1 + 1) r1 hf)
noncomputable def b_X13_checkAll_76 (x : Int32 × t_S) : Option ((Int32 × t_S) ⊕ (t_S)) := k_X13_checkAll_76 x.1 x.2
set_option maxRecDepth 4000 in
set_option maxHeartbeats 1000000 in
theorem LH_X13_checkAll_76 {D : va_G} {cy : Nat → ClassId} {ad : Nat → Nat} {bs : Nat} {X : State → Heap → Prop} : ∀ (n : Nat) (y0 : Int32) (y1 : t_S) (Q : t_S → Prop) (hk : t_hk (t_loop (b_X13_checkAll_76) n (y0, y1)) Q), mj_G D cy ad bs X cX13_checkAll 3 yX13_checkAll.cls none yX13_checkAll.name 153 0 0 1065 (t_P (fun v s' => v = none ∧ Q (s'))) 76 [(0, .ref 950), (1, .int (y0))] [] (t_m y1) 1065 0 0 := by
  intro n
  induction n with
  | zero => intro y0 y1 Q hk; obtain ⟨r, hr, _⟩ := hk; cases hr
  | succ n ih =>
    intro y0 y1 Q hk
    exact B_X13_checkAll_76 y0 y1 (fun y => t_lq (b_X13_checkAll_76) n Q y) (fun y0' y1' hy => ih y0' y1' Q hy) (t_lp (b := b_X13_checkAll_76) (n := n) (x := (y0, y1)) hk)
noncomputable def k_X13_checkAll_68 (l1 : Int32) (s : t_S) : Option ((Int32 × t_S) ⊕ (t_S)) :=
 some (.inl ((l1 + 1), s))
set_option maxRecDepth 4000 in
set_option maxHeartbeats 1000000 in
theorem B_X13_checkAll_68 {D : va_G} {cy : Nat → ClassId} {ad : Nat → Nat} {bs : Nat} {X : State → Heap → Prop} (l1 : Int32) (s : t_S) (Q : (Int32 × t_S) ⊕ (t_S) → Prop) (Hb38 : ∀ (y0 : Int32) (y1 : t_S), Q (.inl (y0, y1)) → mj_G D cy ad bs X cX13_checkAll 3 yX13_checkAll.cls none yX13_checkAll.name 153 0 0 1065 (t_P (fun v s' => v = none ∧ Q (.inr (s')))) 38 [(0, .ref 950), (1, .int (y0))] [] (t_m y1) 1065 0 0) (hk : t_hk (k_X13_checkAll_68 l1 s) Q) : mj_G D cy ad bs X cX13_checkAll 3 yX13_checkAll.cls none yX13_checkAll.name 153 0 0 1065 (t_P (fun v s' => v = none ∧ Q (.inr (s')))) 68 [(0, .ref 950), (1, .int l1)] [] (t_m s) 1065 0 0 := by
  refine mj_iinc (k := 1) (v := (l1 + 1)) (lv2 := [(1, .int (l1 + 1)), (0, .ref 950)]) dX13_checkAll_68 rfl rfl (by decide) rfl ?_
  refine mj_goto 38 dX13_checkAll_71 (by decide) ?_
  refine mj_sublv [(0, .ref 950), (1, .int (l1 + 1))] [1, 0] rfl ?_
  exact t_somK hk (fun hf => Hb38 (l1 + 1) s hf)
noncomputable def k_X13_checkAll_38 (l1 : Int32) (s : t_S) : Option ((Int32 × t_S) ⊕ (t_S)) :=
 if (s.1 950 81) ≤ l1 then ((t_loop (b_X13_checkAll_76) t_N (0, s)).map Sum.inr)
 else (if t_ix l1 401 = true then
  if (s.1 988 (l1.toNatClampNeg)) = (2 : Int32) then (if t_ix (s.1 996 (l1.toNatClampNeg)) 13000 = true then
  t_let (t_setI s 1004 ((s.1 996 (l1.toNatClampNeg)).toNatClampNeg) (1 : Int32)) (fun s1 =>
 k_X13_checkAll_68 l1 s1)
else none)
 else (k_X13_checkAll_68 l1 s)
else none)
set_option maxRecDepth 4000 in
set_option maxHeartbeats 1000000 in
theorem B_X13_checkAll_38 {D : va_G} {cy : Nat → ClassId} {ad : Nat → Nat} {bs : Nat} {X : State → Heap → Prop} (l1 : Int32) (s : t_S) (Q : (Int32 × t_S) ⊕ (t_S) → Prop) (Hb38 : ∀ (y0 : Int32) (y1 : t_S), Q (.inl (y0, y1)) → mj_G D cy ad bs X cX13_checkAll 3 yX13_checkAll.cls none yX13_checkAll.name 153 0 0 1065 (t_P (fun v s' => v = none ∧ Q (.inr (s')))) 38 [(0, .ref 950), (1, .int (y0))] [] (t_m y1) 1065 0 0) (hk : t_hk (k_X13_checkAll_38 l1 s) Q) : mj_G D cy ad bs X cX13_checkAll 3 yX13_checkAll.cls none yX13_checkAll.name 153 0 0 1065 (t_P (fun v s' => v = none ∧ Q (.inr (s')))) 38 [(0, .ref 950), (1, .int l1)] [] (t_m s) 1065 0 0 := by
  refine mj_iload_n dX13_checkAll_38 1 rfl ?_
  refine mj_aload_n dX13_checkAll_39 0 rfl ?_
  refine t_getI dX13_checkAll_40 F_X13_639 qf_950_81 ?_
  refine mj_icmp_ge 74 dX13_checkAll_43 (by decide) (fun z => t_posK hk z (fun hk => ?_)) (fun z => t_negK hk z (fun hk => ?_))
  · refine t_mapK hk (fun hk => ?_)
    refine mj_iconst (v := 0) dX13_checkAll_74 (by decide) ?_
    refine mj_istore_n 1 (lv2 := [(1, .int 0), (0, .ref 950)]) dX13_checkAll_75 rfl (by decide) rfl ?_
    refine mj_sublv [(0, .ref 950), (1, .int 0)] [1, 0] rfl ?_
    exact LH_X13_checkAll_76 _ 0 s _ hk
  · refine mj_aload_n dX13_checkAll_46 0 rfl ?_
    refine t_getR 988 dX13_checkAll_47 F_X13_126 qr_950_66 ?_
    refine mj_iload_n dX13_checkAll_50 1 rfl ?_
    refine t_chkK hk (fun c0 hk => ?_)
    refine t_iald dX13_checkAll_51 qa_988 (t_ixv c0) ?_
    refine mj_iconst (v := 2) dX13_checkAll_52 (by decide) ?_
    refine mj_icmp_ne 68 dX13_checkAll_53 (by decide) (fun z => t_negK hk z (fun hk => ?_)) (fun z => t_posK hk z (fun hk => ?_))
    · exact B_X13_checkAll_68 _ _ _ (fun y0 y1 hx => Hb38 y0 y1 hx) hk
    · refine mj_aload_n dX13_checkAll_56 0 rfl ?_
      refine t_getR 1004 dX13_checkAll_57 F_X13_174 qr_950_91 ?_
      refine mj_aload_n dX13_checkAll_60 0 rfl ?_
      refine t_getR 996 dX13_checkAll_61 F_X13_150 qr_950_74 ?_
      refine mj_iload_n dX13_checkAll_64 1 rfl ?_
      refine t_iald dX13_checkAll_65 qa_996 (t_ixv c0) ?_
      refine mj_iconst (v := 1) dX13_checkAll_66 (by decide) ?_
      refine t_chkK hk (fun c1 hk => ?_)
      refine t_zastK dX13_checkAll_67 qa_1004 (t_ixv c1) (by decide) (fun s1 ws1 => t_letE hk ws1 (fun hk => ?_))
      exact B_X13_checkAll_68 _ _ _ (fun y0 y1 hx => Hb38 y0 y1 hx) hk
noncomputable def b_X13_checkAll_38 (x : Int32 × t_S) : Option ((Int32 × t_S) ⊕ (t_S)) := k_X13_checkAll_38 x.1 x.2
set_option maxRecDepth 4000 in
set_option maxHeartbeats 1000000 in
theorem LH_X13_checkAll_38 {D : va_G} {cy : Nat → ClassId} {ad : Nat → Nat} {bs : Nat} {X : State → Heap → Prop} : ∀ (n : Nat) (y0 : Int32) (y1 : t_S) (Q : t_S → Prop) (hk : t_hk (t_loop (b_X13_checkAll_38) n (y0, y1)) Q), mj_G D cy ad bs X cX13_checkAll 3 yX13_checkAll.cls none yX13_checkAll.name 153 0 0 1065 (t_P (fun v s' => v = none ∧ Q (s'))) 38 [(0, .ref 950), (1, .int (y0))] [] (t_m y1) 1065 0 0 := by
  intro n
  induction n with
  | zero => intro y0 y1 Q hk; obtain ⟨r, hr, _⟩ := hk; cases hr
  | succ n ih =>
    intro y0 y1 Q hk
    exact B_X13_checkAll_38 y0 y1 (fun y => t_lq (b_X13_checkAll_38) n Q y) (fun y0' y1' hy => ih y0' y1' Q hy) (t_lp (b := b_X13_checkAll_38) (n := n) (x := (y0, y1)) hk)
noncomputable def k_X13_checkAll_15 (l1 : Int32) (s : t_S) : Option ((Int32 × t_S) ⊕ (t_S)) :=
 if (s.1 950 24) ≤ l1 then ((t_loop (b_X13_checkAll_38) t_N (0, s)).map Sum.inr)
 else (if t_ix l1 13000 = true then
  t_let (t_setI s 1004 (l1.toNatClampNeg) (0 : Int32)) (fun s1 =>
 some (.inl ((l1 + 1), s1)))
else none)
set_option maxRecDepth 4000 in
set_option maxHeartbeats 1000000 in
theorem B_X13_checkAll_15 {D : va_G} {cy : Nat → ClassId} {ad : Nat → Nat} {bs : Nat} {X : State → Heap → Prop} (l1 : Int32) (s : t_S) (Q : (Int32 × t_S) ⊕ (t_S) → Prop) (Hb15 : ∀ (y0 : Int32) (y1 : t_S), Q (.inl (y0, y1)) → mj_G D cy ad bs X cX13_checkAll 3 yX13_checkAll.cls none yX13_checkAll.name 153 0 0 1065 (t_P (fun v s' => v = none ∧ Q (.inr (s')))) 15 [(0, .ref 950), (1, .int (y0))] [] (t_m y1) 1065 0 0) (hk : t_hk (k_X13_checkAll_15 l1 s) Q) : mj_G D cy ad bs X cX13_checkAll 3 yX13_checkAll.cls none yX13_checkAll.name 153 0 0 1065 (t_P (fun v s' => v = none ∧ Q (.inr (s')))) 15 [(0, .ref 950), (1, .int l1)] [] (t_m s) 1065 0 0 := by
  refine mj_iload_n dX13_checkAll_15 1 rfl ?_
  refine mj_aload_n dX13_checkAll_16 0 rfl ?_
  refine t_getI dX13_checkAll_17 F_X13_474 qf_950_24 ?_
  refine mj_icmp_ge 36 dX13_checkAll_20 (by decide) (fun z => t_posK hk z (fun hk => ?_)) (fun z => t_negK hk z (fun hk => ?_))
  · refine t_mapK hk (fun hk => ?_)
    refine mj_iconst (v := 0) dX13_checkAll_36 (by decide) ?_
    refine mj_istore_n 1 (lv2 := [(1, .int 0), (0, .ref 950)]) dX13_checkAll_37 rfl (by decide) rfl ?_
    refine mj_sublv [(0, .ref 950), (1, .int 0)] [1, 0] rfl ?_
    exact LH_X13_checkAll_38 _ 0 s _ hk
  · refine mj_aload_n dX13_checkAll_23 0 rfl ?_
    refine t_getR 1004 dX13_checkAll_24 F_X13_174 qr_950_91 ?_
    refine mj_iload_n dX13_checkAll_27 1 rfl ?_
    refine mj_iconst (v := 0) dX13_checkAll_28 (by decide) ?_
    refine t_chkK hk (fun c0 hk => ?_)
    refine t_zastK dX13_checkAll_29 qa_1004 (t_ixv c0) (by decide) (fun s1 ws1 => t_letE hk ws1 (fun hk => ?_))
    refine mj_iinc (k := 1) (v := (l1 + 1)) (lv2 := [(1, .int (l1 + 1)), (0, .ref 950)]) dX13_checkAll_30 rfl rfl (by decide) rfl ?_
    refine mj_goto 15 dX13_checkAll_33 (by decide) ?_
    refine mj_sublv [(0, .ref 950), (1, .int (l1 + 1))] [1, 0] rfl ?_
    exact t_somK hk (fun hf => Hb15 (l1 + 1) s1 hf)
noncomputable def b_X13_checkAll_15 (x : Int32 × t_S) : Option ((Int32 × t_S) ⊕ (t_S)) := k_X13_checkAll_15 x.1 x.2
set_option maxRecDepth 4000 in
set_option maxHeartbeats 1000000 in
theorem LH_X13_checkAll_15 {D : va_G} {cy : Nat → ClassId} {ad : Nat → Nat} {bs : Nat} {X : State → Heap → Prop} : ∀ (n : Nat) (y0 : Int32) (y1 : t_S) (Q : t_S → Prop) (hk : t_hk (t_loop (b_X13_checkAll_15) n (y0, y1)) Q), mj_G D cy ad bs X cX13_checkAll 3 yX13_checkAll.cls none yX13_checkAll.name 153 0 0 1065 (t_P (fun v s' => v = none ∧ Q (s'))) 15 [(0, .ref 950), (1, .int (y0))] [] (t_m y1) 1065 0 0 := by
  intro n
  induction n with
  | zero => intro y0 y1 Q hk; obtain ⟨r, hr, _⟩ := hk; cases hr
  | succ n ih =>
    intro y0 y1 Q hk
    exact B_X13_checkAll_15 y0 y1 (fun y => t_lq (b_X13_checkAll_15) n Q y) (fun y0' y1' hy => ih y0' y1' Q hy) (t_lp (b := b_X13_checkAll_15) (n := n) (x := (y0, y1)) hk)
noncomputable def f_X13_checkAll (s : t_S) : Option (t_S) :=
 t_let (t_setI s 950 88 (0 : Int32)) (fun s1 =>
 t_let (t_setI s1 950 90 (s1.1 950 24)) (fun s2 =>
 t_loop (b_X13_checkAll_15) t_N (0, s2)))
set_option maxRecDepth 4000 in
set_option maxHeartbeats 1000000 in
theorem C_X13_checkAll (s : t_S) (r : t_S) (hr : f_X13_checkAll s = some r) : t_C yX13_checkAll cX13_checkAll 3 none 153 [.ref 950] s (fun v s' => v = none ∧ s' = r) := by
  refine t_C.imp (P := fun v s' => v = none ∧ (fun q => q = r) (s')) (t_C.of (by decide +kernel) (Nat.le_of_ble_eq_true rfl) ?_) (fun v s' hp => hp)
  intro D cy ad bs X
  have hk : t_hk (f_X13_checkAll s) (fun q => q = r) := ⟨r, hr, rfl⟩
  show mj_G D cy ad bs X cX13_checkAll 3 yX13_checkAll.cls none yX13_checkAll.name 153 0 0 1065 (t_P (fun v s' => v = none ∧ (fun q => q = r) (s'))) 0 [(0, .ref 950)] [] (t_m s) 1065 0 0
  refine mj_aload_n dX13_checkAll_0 0 rfl ?_
  refine mj_iconst (v := 0) dX13_checkAll_1 (by decide) ?_
  refine t_putIK dX13_checkAll_2 F_X13_779 qf_950_88 rfl (fun s1 ws1 => t_letE hk ws1 (fun hk => ?_))
  refine mj_aload_n dX13_checkAll_5 0 rfl ?_
  refine mj_aload_n dX13_checkAll_6 0 rfl ?_
  refine t_getI dX13_checkAll_7 F_X13_474 qf_950_24 ?_
  refine t_putIK dX13_checkAll_10 F_X13_785 qf_950_90 rfl (fun s2 ws2 => t_letE hk ws2 (fun hk => ?_))
  refine mj_iconst (v := 0) dX13_checkAll_13 (by decide) ?_
  refine mj_istore_n 1 (lv2 := [(1, .int 0), (0, .ref 950)]) dX13_checkAll_14 rfl (by decide) rfl ?_
  refine mj_sublv [(0, .ref 950), (1, .int 0)] [1, 0] rfl ?_
  exact LH_X13_checkAll_15 _ 0 s2 _ hk

