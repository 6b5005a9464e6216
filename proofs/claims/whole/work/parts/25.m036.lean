/-! Methods as functions, 36: X6_readParameters, X6_readUnitItem, X2_isDigit, X2_isLetter, X2_isSign, X2_pairOf -/
theorem qf_1_2 : t_okf 1 2 2 0 = true := by decide +kernel
theorem dX6_readParameters_0 : decode cX6_readParameters 0 = .ok (.iconst 0, 1) := by decide +kernel
theorem dX6_readParameters_1 : decode cX6_readParameters 1 = .ok (.istore_n 1, 1) := by decide +kernel
theorem dX6_readParameters_10 : decode cX6_readParameters 10 = .ok (.invokevirtual 279, 3) := by decide +kernel
theorem dX6_readParameters_13 : decode cX6_readParameters 13 = .ok (.ifCond .ge 4, 3) := by decide +kernel
theorem dX6_readParameters_16 : decode cX6_readParameters 16 = .ok (.return_, 1) := by decide +kernel
theorem dX6_readParameters_17 : decode cX6_readParameters 17 = .ok (.aload_n 0, 1) := by decide +kernel
theorem dX6_readParameters_18 : decode cX6_readParameters 18 = .ok (.getfield 48, 3) := by decide +kernel
theorem dX6_readParameters_2 : decode cX6_readParameters 2 = .ok (.iload_n 1, 1) := by decide +kernel
theorem dX6_readParameters_21 : decode cX6_readParameters 21 = .ok (.getfield 282, 3) := by decide +kernel
theorem dX6_readParameters_24 : decode cX6_readParameters 24 = .ok (.aload_n 0, 1) := by decide +kernel
theorem dX6_readParameters_25 : decode cX6_readParameters 25 = .ok (.getfield 134, 3) := by decide +kernel
theorem dX6_readParameters_28 : decode cX6_readParameters 28 = .ok (.dup2, 1) := by decide +kernel
theorem dX6_readParameters_29 : decode cX6_readParameters 29 = .ok (.iaload, 1) := by decide +kernel
theorem dX6_readParameters_3 : decode cX6_readParameters 3 = .ok (.sipush 12002, 3) := by decide +kernel
theorem dX6_readParameters_30 : decode cX6_readParameters 30 = .ok (.iconst 1, 1) := by decide +kernel
theorem dX6_readParameters_31 : decode cX6_readParameters 31 = .ok (.iadd, 1) := by decide +kernel
theorem dX6_readParameters_32 : decode cX6_readParameters 32 = .ok (.iastore, 1) := by decide +kernel
theorem dX6_readParameters_33 : decode cX6_readParameters 33 = .ok (.aload_n 0, 1) := by decide +kernel
theorem dX6_readParameters_34 : decode cX6_readParameters 34 = .ok (.getfield 48, 3) := by decide +kernel
theorem dX6_readParameters_37 : decode cX6_readParameters 37 = .ok (.getfield 285, 3) := by decide +kernel
theorem dX6_readParameters_40 : decode cX6_readParameters 40 = .ok (.aload_n 0, 1) := by decide +kernel
theorem dX6_readParameters_41 : decode cX6_readParameters 41 = .ok (.getfield 134, 3) := by decide +kernel
theorem dX6_readParameters_44 : decode cX6_readParameters 44 = .ok (.dup2, 1) := by decide +kernel
theorem dX6_readParameters_45 : decode cX6_readParameters 45 = .ok (.iaload, 1) := by decide +kernel
theorem dX6_readParameters_46 : decode cX6_readParameters 46 = .ok (.iconst 1, 1) := by decide +kernel
theorem dX6_readParameters_47 : decode cX6_readParameters 47 = .ok (.iadd, 1) := by decide +kernel
theorem dX6_readParameters_48 : decode cX6_readParameters 48 = .ok (.iastore, 1) := by decide +kernel
theorem dX6_readParameters_49 : decode cX6_readParameters 49 = .ok (.aload_n 0, 1) := by decide +kernel
theorem dX6_readParameters_50 : decode cX6_readParameters 50 = .ok (.getfield 28, 3) := by decide +kernel
theorem dX6_readParameters_53 : decode cX6_readParameters 53 = .ok (.bipush 44, 2) := by decide +kernel
theorem dX6_readParameters_55 : decode cX6_readParameters 55 = .ok (.invokevirtual 246, 3) := by decide +kernel
theorem dX6_readParameters_58 : decode cX6_readParameters 58 = .ok (.ifCond .ne 4, 3) := by decide +kernel
theorem dX6_readParameters_6 : decode cX6_readParameters 6 = .ok (.if_icmp .ge 62, 3) := by decide +kernel
theorem dX6_readParameters_61 : decode cX6_readParameters 61 = .ok (.return_, 1) := by decide +kernel
theorem dX6_readParameters_62 : decode cX6_readParameters 62 = .ok (.iinc 1 1, 3) := by decide +kernel
theorem dX6_readParameters_65 : decode cX6_readParameters 65 = .ok (.goto (-63), 3) := by decide +kernel
theorem dX6_readParameters_68 : decode cX6_readParameters 68 = .ok (.return_, 1) := by decide +kernel
theorem dX6_readParameters_9 : decode cX6_readParameters 9 = .ok (.aload_n 0, 1) := by decide +kernel
noncomputable def k_X6_readParameters_2 (l1 : Int32) (s : t_S) : Option ((Int32 × t_S) ⊕ (t_S)) :=
 if (12002 : Int32) ≤ l1 then ((some (s)).map Sum.inr)
 else ((f_X6_takePlace s).bind (fun r1 =>
 if (0 : Int32) ≤ r1.1 then (if t_ix (r1.2.1 845 12) 40 = true then
  t_let (t_setI r1.2 439 ((r1.2.1 845 12).toNatClampNeg) ((r1.2.1 439 ((r1.2.1 845 12).toNatClampNeg)) + (1 : Int32))) (fun s1 =>
 if t_ix (s1.1 845 12) 40 = true then
  t_let (t_setI s1 440 ((s1.1 845 12).toNatClampNeg) ((s1.1 440 ((s1.1 845 12).toNatClampNeg)) + (1 : Int32))) (fun s2 =>
 (f_X2_take (44 : Int32) s2).bind (fun r4 =>
 if r4.1 = (0 : Int32) then ((some (r4.2)).map Sum.inr)
 else (some (.inl ((l1 + 1), r4.2)))))
else none)
else none)
 else ((some (r1.2)).map Sum.inr)))
set_option maxRecDepth 4000 in
set_option maxHeartbeats 1000000 in
theorem B_X6_readParameters_2 {D : va_G} {cy : Nat → ClassId} {ad : Nat → Nat} {bs : Nat} {X : State → Heap → Prop} (l1 : Int32) (s : t_S) (Q : (Int32 × t_S) ⊕ (t_S) → Prop) (Hb2 : ∀ (y0 : Int32) (y1 : t_S), Q (.inl (y0, y1)) → mj_G D cy ad bs X cX6_readParameters 2 yX6_readParameters.cls none yX6_readParameters.name 3 0 0 1065 (t_P (fun v s' => v = none ∧ Q (.inr (s')))) 2 [(0, .ref 845), (1, .int (y0))] [] (t_m y1) 1065 0 0) (hk : t_hk (k_X6_readParameters_2 l1 s) Q) : mj_G D cy ad bs X cX6_readParameters 2 yX6_readParameters.cls none yX6_readParameters.name 3 0 0 1065 (t_P (fun v s' => v = none ∧ Q (.inr (s')))) 2 [(0, .ref 845), (1, .int l1)] [] (t_m s) 1065 0 0 := by
  refine mj_iload_n dX6_readParameters_2 1 rfl ?_
  refine mj_sipush (v := 12002) dX6_readParameters_3 (by decide) ?_
  refine mj_icmp_ge 68 dX6_readParameters_6 (by decide) (fun z => t_posK hk z (fun hk => ?_)) (fun z => t_negK hk z (fun hk => ?_))
  · refine t_mapK hk (fun hk => ?_)
    exact t_somK hk (fun hf => t_vret dX6_readParameters_68 rfl ⟨rfl, hf⟩ (Nat.le_of_ble_eq_true rfl) (Nat.le_of_ble_eq_true rfl))
  · refine mj_aload_n dX6_readParameters_9 0 rfl ?_
    refine t_bndK hk (fun r1 er1 hk => ?_)
    refine t_callViE dX6_readParameters_10 M_X6_takePlace (C_X6_takePlace _ _ er1) ML_X6_279 IM_X6_takePlace SE_X6_takePlace qc_845 rfl (As := []) rfl rfl (Nat.le_of_ble_eq_true rfl) (Nat.le_of_ble_eq_true rfl) (Nat.le_of_ble_eq_true rfl) (Nat.le_of_ble_eq_true rfl) ?_
    refine mj_if_ge 17 dX6_readParameters_13 (by decide) (fun z => t_posK hk z (fun hk => ?_)) (fun z => t_negK hk z (fun hk => ?_))
    · refine mj_aload_n dX6_readParameters_17 0 rfl ?_
      refine t_getR 428 dX6_readParameters_18 F_X6_48 qr_845_4 ?_
      refine t_getR 439 dX6_readParameters_21 F_X6_282 qr_428_12 ?_
      refine mj_aload_n dX6_readParameters_24 0 rfl ?_
      refine t_getI dX6_readParameters_25 F_X6_134 qf_845_12 ?_
      refine mj_dup2 dX6_readParameters_28 rfl rfl ?_
      refine t_chkK hk (fun c1 hk => ?_)
      refine t_iald dX6_readParameters_29 qa_439 (t_ixv c1) ?_
      refine mj_iconst (v := 1) dX6_readParameters_30 (by decide) ?_
      refine mj_iadd dX6_readParameters_31 ?_
      refine t_iastK dX6_readParameters_32 qa_439 (t_ixv c1) (fun s1 ws1 => t_letE hk ws1 (fun hk => ?_))
      refine mj_aload_n dX6_readParameters_33 0 rfl ?_
      refine t_getR 428 dX6_readParameters_34 F_X6_48 qr_845_4 ?_
      refine t_getR 440 dX6_readParameters_37 F_X6_285 qr_428_13 ?_
      refine mj_aload_n dX6_readParameters_40 0 rfl ?_
      refine t_getI dX6_readParameters_41 F_X6_134 qf_845_12 ?_
      refine mj_dup2 dX6_readParameters_44 rfl rfl ?_
      refine t_chkK hk (fun c2 hk => ?_)
      refine t_iald dX6_readParameters_45 qa_440 (t_ixv c2) ?_
      refine mj_iconst (v := 1) dX6_readParameters_46 (by decide) ?_
      refine mj_iadd dX6_readParameters_47 ?_
      refine t_iastK dX6_readParameters_48 qa_440 (t_ixv c2) (fun s2 ws2 => t_letE hk ws2 (fun hk => ?_))
      refine mj_aload_n dX6_readParameters_49 0 rfl ?_
      refine t_getR 1 dX6_readParameters_50 F_X6_28 qr_845_0 ?_
      refine mj_bipush (v := 44) dX6_readParameters_53 (by decide) ?_
      refine t_bndK hk (fun r4 er4 hk => ?_)
      refine t_callViE dX6_readParameters_55 M_X2_take (C_X2_take _ _ _ er4) ML_X6_246 IM_X2_take SE_X2_take qc_1 rfl (As := [.int 44]) rfl rfl (Nat.le_of_ble_eq_true rfl) (Nat.le_of_ble_eq_true rfl) (Nat.le_of_ble_eq_true rfl) (Nat.le_of_ble_eq_true rfl) ?_
      refine mj_if_ne 62 dX6_readParameters_58 (by decide) (fun z => t_negK hk z (fun hk => ?_)) (fun z => t_posK hk z (fun hk => ?_))
      · refine mj_iinc (k := 1) (v := (l1 + 1)) (lv2 := [(1, .int (l1 + 1)), (0, .ref 845)]) dX6_readParameters_62 rfl rfl (by decide) rfl ?_
        refine mj_goto 2 dX6_readParameters_65 (by decide) ?_
        refine mj_sublv [(0, .ref 845), (1, .int (l1 + 1))] [1, 0] rfl ?_
        exact t_somK hk (fun hf => Hb2 (l1 + 1) r4.2 hf)
      · refine t_mapK hk (fun hk => ?_)
        exact t_somK hk (fun hf => t_vret dX6_readParameters_61 rfl ⟨rfl, hf⟩ (Nat.le_of_ble_eq_true rfl) (Nat.le_of_ble_eq_true rfl))
    · refine t_mapK hk (fun hk => ?_)
      exact t_somK hk (fun hf => t_vret dX6_readParameters_16 rfl ⟨rfl, hf⟩ (Nat.le_of_ble_eq_true rfl) (Nat.le_of_ble_eq_true rfl))
noncomputable def b_X6_readParameters_2 (x : Int32 × t_S) : Option ((Int32 × t_S) ⊕ (t_S)) := k_X6_readParameters_2 x.1 x.2
set_option maxRecDepth 4000 in
set_option maxHeartbeats 1000000 in
theorem LH_X6_readParameters_2 {D : va_G} {cy : Nat → ClassId} {ad : Nat → Nat} {bs : Nat} {X : State → Heap → Prop} : ∀ (n : Nat) (y0 : Int32) (y1 : t_S) (Q : t_S → Prop) (hk : t_hk (t_loop (b_X6_readParameters_2) n (y0, y1)) Q), mj_G D cy ad bs X cX6_readParameters 2 yX6_readParameters.cls none yX6_readParameters.name 3 0 0 1065 (t_P (fun v s' => v = none ∧ Q (s'))) 2 [(0, .ref 845), (1, .int (y0))] [] (t_m y1) 1065 0 0 := by
  intro n
  induction n with
  | zero => intro y0 y1 Q hk; obtain ⟨r, hr, _⟩ := hk; cases hr
  | succ n ih =>
    intro y0 y1 Q hk
    exact B_X6_readParameters_2 y0 y1 (fun y => t_lq (b_X6_readParameters_2) n Q y) (fun y0' y1' hy => ih y0' y1' Q hy) (t_lp hk)
noncomputable def f_X6_readParameters (s : t_S) : Option (t_S) :=
 t_loop (b_X6_readParameters_2) t_N (0, s)
set_option maxRecDepth 4000 in
set_option maxHeartbeats 1000000 in
theorem C_X6_readParameters (s : t_S) (r : t_S) (hr : f_X6_readParameters s = some r) : t_C yX6_readParameters cX6_readParameters 2 none 3 [.ref 845] s (fun v s' => v = none ∧ s' = r) := by
  refine t_C.imp (P := fun v s' => v = none ∧ (fun q => q = r) (s')) (t_C.of (by decide +kernel) (Nat.le_of_ble_eq_true rfl) ?_) (fun v s' hp => hp)
  intro D cy ad bs X
  have hk : t_hk (f_X6_readParameters s) (fun q => q = r) := ⟨r, hr, rfl⟩
  show mj_G D cy ad bs X cX6_readParameters 2 yX6_readParameters.cls none yX6_readParameters.name 3 0 0 1065 (t_P (fun v s' => v = none ∧ (fun q => q = r) (s'))) 0 [(0, .ref 845)] [] (t_m s) 1065 0 0
  refine mj_iconst (v := 0) dX6_readParameters_0 (by decide) ?_
  refine mj_istore_n 1 (lv2 := [(1, .int 0), (0, .ref 845)]) dX6_readParameters_1 rfl (by decide) rfl ?_
  refine mj_sublv [(0, .ref 845), (1, .int 0)] [1, 0] rfl ?_
  exact LH_X6_readParameters_2 _ 0 s _ hk

theorem dX6_readUnitItem_0 : decode cX6_readUnitItem 0 = .ok (.aload_n 0, 1) := by decide +kernel
theorem dX6_readUnitItem_1 : decode cX6_readUnitItem 1 = .ok (.getfield 28, 3) := by decide +kernel
theorem dX6_readUnitItem_10 : decode cX6_readUnitItem 10 = .ok (.getfield 48, 3) := by decide +kernel
theorem dX6_readUnitItem_100 : decode cX6_readUnitItem 100 = .ok (.sipush 200, 3) := by decide +kernel
theorem dX6_readUnitItem_103 : decode cX6_readUnitItem 103 = .ok (.if_icmp .lt 18, 3) := by decide +kernel
theorem dX6_readUnitItem_106 : decode cX6_readUnitItem 106 = .ok (.iload_n 2, 1) := by decide +kernel
theorem dX6_readUnitItem_107 : decode cX6_readUnitItem 107 = .ok (.sipush 300, 3) := by decide +kernel
theorem dX6_readUnitItem_110 : decode cX6_readUnitItem 110 = .ok (.if_icmp .ge 11, 3) := by decide +kernel
theorem dX6_readUnitItem_113 : decode cX6_readUnitItem 113 = .ok (.iload_n 2, 1) := by decide +kernel
theorem dX6_readUnitItem_114 : decode cX6_readUnitItem 114 = .ok (.sipush 200, 3) := by decide +kernel
theorem dX6_readUnitItem_117 : decode cX6_readUnitItem 117 = .ok (.isub, 1) := by decide +kernel
theorem dX6_readUnitItem_118 : decode cX6_readUnitItem 118 = .ok (.goto 4, 3) := by decide +kernel
theorem dX6_readUnitItem_121 : decode cX6_readUnitItem 121 = .ok (.iconst (-1), 1) := by decide +kernel
theorem dX6_readUnitItem_122 : decode cX6_readUnitItem 122 = .ok (.putfield 140, 3) := by decide +kernel
theorem dX6_readUnitItem_125 : decode cX6_readUnitItem 125 = .ok (.aload_n 0, 1) := by decide +kernel
theorem dX6_readUnitItem_126 : decode cX6_readUnitItem 126 = .ok (.iconst 3, 1) := by decide +kernel
theorem dX6_readUnitItem_127 : decode cX6_readUnitItem 127 = .ok (.aload_n 0, 1) := by decide +kernel
theorem dX6_readUnitItem_128 : decode cX6_readUnitItem 128 = .ok (.getfield 134, 3) := by decide +kernel
theorem dX6_readUnitItem_13 : decode cX6_readUnitItem 13 = .ok (.getfield 261, 3) := by decide +kernel
theorem dX6_readUnitItem_131 : decode cX6_readUnitItem 131 = .ok (.iconst 0, 1) := by decide +kernel
theorem dX6_readUnitItem_132 : decode cX6_readUnitItem 132 = .ok (.invokevirtual 250, 3) := by decide +kernel
theorem dX6_readUnitItem_135 : decode cX6_readUnitItem 135 = .ok (.aload_n 0, 1) := by decide +kernel
theorem dX6_readUnitItem_136 : decode cX6_readUnitItem 136 = .ok (.getfield 28, 3) := by decide +kernel
theorem dX6_readUnitItem_139 : decode cX6_readUnitItem 139 = .ok (.bipush 40, 2) := by decide +kernel
theorem dX6_readUnitItem_141 : decode cX6_readUnitItem 141 = .ok (.invokevirtual 184, 3) := by decide +kernel
theorem dX6_readUnitItem_144 : decode cX6_readUnitItem 144 = .ok (.iload_n 1, 1) := by decide +kernel
theorem dX6_readUnitItem_145 : decode cX6_readUnitItem 145 = .ok (.iconst 2, 1) := by decide +kernel
theorem dX6_readUnitItem_146 : decode cX6_readUnitItem 146 = .ok (.if_icmp .eq 19, 3) := by decide +kernel
theorem dX6_readUnitItem_149 : decode cX6_readUnitItem 149 = .ok (.aload_n 0, 1) := by decide +kernel
theorem dX6_readUnitItem_150 : decode cX6_readUnitItem 150 = .ok (.getfield 28, 3) := by decide +kernel
theorem dX6_readUnitItem_153 : decode cX6_readUnitItem 153 = .ok (.getfield 85, 3) := by decide +kernel
theorem dX6_readUnitItem_156 : decode cX6_readUnitItem 156 = .ok (.bipush 41, 2) := by decide +kernel
theorem dX6_readUnitItem_158 : decode cX6_readUnitItem 158 = .ok (.if_icmp .eq 7, 3) := by decide +kernel
theorem dX6_readUnitItem_16 : decode cX6_readUnitItem 16 = .ok (.bipush 40, 2) := by decide +kernel
theorem dX6_readUnitItem_161 : decode cX6_readUnitItem 161 = .ok (.aload_n 0, 1) := by decide +kernel
theorem dX6_readUnitItem_162 : decode cX6_readUnitItem 162 = .ok (.invokevirtual 267, 3) := by decide +kernel
theorem dX6_readUnitItem_165 : decode cX6_readUnitItem 165 = .ok (.aload_n 0, 1) := by decide +kernel
theorem dX6_readUnitItem_166 : decode cX6_readUnitItem 166 = .ok (.getfield 28, 3) := by decide +kernel
theorem dX6_readUnitItem_169 : decode cX6_readUnitItem 169 = .ok (.bipush 41, 2) := by decide +kernel
theorem dX6_readUnitItem_171 : decode cX6_readUnitItem 171 = .ok (.invokevirtual 184, 3) := by decide +kernel
theorem dX6_readUnitItem_174 : decode cX6_readUnitItem 174 = .ok (.aload_n 0, 1) := by decide +kernel
theorem dX6_readUnitItem_175 : decode cX6_readUnitItem 175 = .ok (.getfield 48, 3) := by decide +kernel
theorem dX6_readUnitItem_178 : decode cX6_readUnitItem 178 = .ok (.getfield 270, 3) := by decide +kernel
theorem dX6_readUnitItem_18 : decode cX6_readUnitItem 18 = .ok (.invokevirtual 176, 3) := by decide +kernel
theorem dX6_readUnitItem_181 : decode cX6_readUnitItem 181 = .ok (.aload_n 0, 1) := by decide +kernel
theorem dX6_readUnitItem_182 : decode cX6_readUnitItem 182 = .ok (.getfield 134, 3) := by decide +kernel
theorem dX6_readUnitItem_185 : decode cX6_readUnitItem 185 = .ok (.iload_n 1, 1) := by decide +kernel
theorem dX6_readUnitItem_186 : decode cX6_readUnitItem 186 = .ok (.iconst 1, 1) := by decide +kernel
theorem dX6_readUnitItem_187 : decode cX6_readUnitItem 187 = .ok (.if_icmp .ne 12, 3) := by decide +kernel
theorem dX6_readUnitItem_190 : decode cX6_readUnitItem 190 = .ok (.aload_n 0, 1) := by decide +kernel
theorem dX6_readUnitItem_191 : decode cX6_readUnitItem 191 = .ok (.iconst 0, 1) := by decide +kernel
theorem dX6_readUnitItem_192 : decode cX6_readUnitItem 192 = .ok (.iconst (-1), 1) := by decide +kernel
theorem dX6_readUnitItem_193 : decode cX6_readUnitItem 193 = .ok (.invokevirtual 273, 3) := by decide +kernel
theorem dX6_readUnitItem_196 : decode cX6_readUnitItem 196 = .ok (.goto 9, 3) := by decide +kernel
theorem dX6_readUnitItem_199 : decode cX6_readUnitItem 199 = .ok (.aload_n 0, 1) := by decide +kernel
theorem dX6_readUnitItem_200 : decode cX6_readUnitItem 200 = .ok (.iconst 0, 1) := by decide +kernel
theorem dX6_readUnitItem_201 : decode cX6_readUnitItem 201 = .ok (.iconst (-1), 1) := by decide +kernel
theorem dX6_readUnitItem_202 : decode cX6_readUnitItem 202 = .ok (.invokevirtual 276, 3) := by decide +kernel
theorem dX6_readUnitItem_205 : decode cX6_readUnitItem 205 = .ok (.iastore, 1) := by decide +kernel
theorem dX6_readUnitItem_206 : decode cX6_readUnitItem 206 = .ok (.aload_n 0, 1) := by decide +kernel
theorem dX6_readUnitItem_207 : decode cX6_readUnitItem 207 = .ok (.iconst (-1), 1) := by decide +kernel
theorem dX6_readUnitItem_208 : decode cX6_readUnitItem 208 = .ok (.putfield 134, 3) := by decide +kernel
theorem dX6_readUnitItem_21 : decode cX6_readUnitItem 21 = .ok (.ifCond .ne 4, 3) := by decide +kernel
theorem dX6_readUnitItem_211 : decode cX6_readUnitItem 211 = .ok (.aload_n 0, 1) := by decide +kernel
theorem dX6_readUnitItem_212 : decode cX6_readUnitItem 212 = .ok (.iconst (-1), 1) := by decide +kernel
theorem dX6_readUnitItem_213 : decode cX6_readUnitItem 213 = .ok (.putfield 140, 3) := by decide +kernel
theorem dX6_readUnitItem_216 : decode cX6_readUnitItem 216 = .ok (.return_, 1) := by decide +kernel
theorem dX6_readUnitItem_24 : decode cX6_readUnitItem 24 = .ok (.return_, 1) := by decide +kernel
theorem dX6_readUnitItem_25 : decode cX6_readUnitItem 25 = .ok (.aload_n 0, 1) := by decide +kernel
theorem dX6_readUnitItem_26 : decode cX6_readUnitItem 26 = .ok (.aload_n 0, 1) := by decide +kernel
theorem dX6_readUnitItem_27 : decode cX6_readUnitItem 27 = .ok (.getfield 48, 3) := by decide +kernel
theorem dX6_readUnitItem_30 : decode cX6_readUnitItem 30 = .ok (.getfield 261, 3) := by decide +kernel
theorem dX6_readUnitItem_33 : decode cX6_readUnitItem 33 = .ok (.putfield 134, 3) := by decide +kernel
theorem dX6_readUnitItem_36 : decode cX6_readUnitItem 36 = .ok (.aload_n 0, 1) := by decide +kernel
theorem dX6_readUnitItem_37 : decode cX6_readUnitItem 37 = .ok (.getfield 48, 3) := by decide +kernel
theorem dX6_readUnitItem_4 : decode cX6_readUnitItem 4 = .ok (.invokevirtual 170, 3) := by decide +kernel
theorem dX6_readUnitItem_40 : decode cX6_readUnitItem 40 = .ok (.aload_n 0, 1) := by decide +kernel
theorem dX6_readUnitItem_41 : decode cX6_readUnitItem 41 = .ok (.getfield 134, 3) := by decide +kernel
theorem dX6_readUnitItem_44 : decode cX6_readUnitItem 44 = .ok (.iload_n 1, 1) := by decide +kernel
theorem dX6_readUnitItem_45 : decode cX6_readUnitItem 45 = .ok (.invokevirtual 264, 3) := by decide +kernel
theorem dX6_readUnitItem_48 : decode cX6_readUnitItem 48 = .ok (.aload_n 0, 1) := by decide +kernel
theorem dX6_readUnitItem_49 : decode cX6_readUnitItem 49 = .ok (.getfield 28, 3) := by decide +kernel
theorem dX6_readUnitItem_52 : decode cX6_readUnitItem 52 = .ok (.invokevirtual 170, 3) := by decide +kernel
theorem dX6_readUnitItem_55 : decode cX6_readUnitItem 55 = .ok (.aload_n 0, 1) := by decide +kernel
theorem dX6_readUnitItem_56 : decode cX6_readUnitItem 56 = .ok (.getfield 28, 3) := by decide +kernel
theorem dX6_readUnitItem_59 : decode cX6_readUnitItem 59 = .ok (.sipush 206, 3) := by decide +kernel
theorem dX6_readUnitItem_62 : decode cX6_readUnitItem 62 = .ok (.invokevirtual 184, 3) := by decide +kernel
theorem dX6_readUnitItem_65 : decode cX6_readUnitItem 65 = .ok (.aload_n 0, 1) := by decide +kernel
theorem dX6_readUnitItem_66 : decode cX6_readUnitItem 66 = .ok (.getfield 28, 3) := by decide +kernel
theorem dX6_readUnitItem_69 : decode cX6_readUnitItem 69 = .ok (.getfield 85, 3) := by decide +kernel
theorem dX6_readUnitItem_7 : decode cX6_readUnitItem 7 = .ok (.aload_n 0, 1) := by decide +kernel
theorem dX6_readUnitItem_72 : decode cX6_readUnitItem 72 = .ok (.iconst 1, 1) := by decide +kernel
theorem dX6_readUnitItem_73 : decode cX6_readUnitItem 73 = .ok (.if_icmp .ne 23, 3) := by decide +kernel
theorem dX6_readUnitItem_76 : decode cX6_readUnitItem 76 = .ok (.aload_n 0, 1) := by decide +kernel
theorem dX6_readUnitItem_77 : decode cX6_readUnitItem 77 = .ok (.getfield 28, 3) := by decide +kernel
theorem dX6_readUnitItem_8 : decode cX6_readUnitItem 8 = .ok (.iconst 3, 1) := by decide +kernel
theorem dX6_readUnitItem_80 : decode cX6_readUnitItem 80 = .ok (.getfield 163, 3) := by decide +kernel
theorem dX6_readUnitItem_83 : decode cX6_readUnitItem 83 = .ok (.aload_n 0, 1) := by decide +kernel
theorem dX6_readUnitItem_84 : decode cX6_readUnitItem 84 = .ok (.getfield 28, 3) := by decide +kernel
theorem dX6_readUnitItem_87 : decode cX6_readUnitItem 87 = .ok (.invokevirtual 166, 3) := by decide +kernel
theorem dX6_readUnitItem_9 : decode cX6_readUnitItem 9 = .ok (.aload_n 0, 1) := by decide +kernel
theorem dX6_readUnitItem_90 : decode cX6_readUnitItem 90 = .ok (.iaload, 1) := by decide +kernel
theorem dX6_readUnitItem_91 : decode cX6_readUnitItem 91 = .ok (.iconst 1, 1) := by decide +kernel
theorem dX6_readUnitItem_92 : decode cX6_readUnitItem 92 = .ok (.isub, 1) := by decide +kernel
theorem dX6_readUnitItem_93 : decode cX6_readUnitItem 93 = .ok (.goto 4, 3) := by decide +kernel
theorem dX6_readUnitItem_96 : decode cX6_readUnitItem 96 = .ok (.iconst (-1), 1) := by decide +kernel
theorem dX6_readUnitItem_97 : decode cX6_readUnitItem 97 = .ok (.istore_n 2, 1) := by decide +kernel
theorem dX6_readUnitItem_98 : decode cX6_readUnitItem 98 = .ok (.aload_n 0, 1) := by decide +kernel
theorem dX6_readUnitItem_99 : decode cX6_readUnitItem 99 = .ok (.iload_n 2, 1) := by decide +kernel
noncomputable def k_X6_readUnitItem_205 (k0 : Int32) (k1 : Int32) (s : t_S) : Option (t_S) :=
 if t_ix k1 40 = true then
  t_let (t_setI s 441 (k1.toNatClampNeg) k0) (fun s1 =>
 t_let (t_setI s1 845 12 (-1 : Int32)) (fun s2 =>
 t_let (t_setI s2 845 14 (-1 : Int32)) (fun s3 =>
 some (s3))))
else none
set_option maxRecDepth 4000 in
set_option maxHeartbeats 1000000 in
theorem B_X6_readUnitItem_205 {D : va_G} {cy : Nat → ClassId} {ad : Nat → Nat} {bs : Nat} {X : State → Heap → Prop} (k0 : Int32) (k1 : Int32) (s : t_S) (Q : t_S → Prop) (hk : t_hk (k_X6_readUnitItem_205 k0 k1 s) Q) : mj_G D cy ad bs X cX6_readUnitItem 3 yX6_readUnitItem.cls none yX6_readUnitItem.name 357 0 0 1065 (t_P (fun v s' => v = none ∧ Q (s'))) 205 [(0, .ref 845)] [.int k0, .int k1, .ref 441] (t_m s) 1065 0 0 := by
  refine t_chkK hk (fun c0 hk => ?_)
  refine t_iastK dX6_readUnitItem_205 qa_441 (t_ixv c0) (fun s1 ws1 => t_letE hk ws1 (fun hk => ?_))
  refine mj_aload_n dX6_readUnitItem_206 0 rfl ?_
  refine mj_iconst (v := (-1)) dX6_readUnitItem_207 (by decide) ?_
  refine t_putIK dX6_readUnitItem_208 F_X6_134 qf_845_12 rfl (fun s2 ws2 => t_letE hk ws2 (fun hk => ?_))
  refine mj_aload_n dX6_readUnitItem_211 0 rfl ?_
  refine mj_iconst (v := (-1)) dX6_readUnitItem_212 (by decide) ?_
  refine t_putIK dX6_readUnitItem_213 F_X6_140 qf_845_14 rfl (fun s3 ws3 => t_letE hk ws3 (fun hk => ?_))
  exact t_somK hk (fun hf => t_vret dX6_readUnitItem_216 rfl ⟨rfl, hf⟩ (Nat.le_of_ble_eq_true rfl) (Nat.le_of_ble_eq_true rfl))
noncomputable def k_X6_readUnitItem_165 (l1 : Int32) (s : t_S) : Option (t_S) :=
 (f_X2_need (41 : Int32) s).bind (fun r1 =>
 if l1 = (1 : Int32) then ((f_X6_readAlts (0 : Int32) (-1 : Int32) r1).bind (fun r3 =>
 k_X6_readUnitItem_205 r3.1 (r1.1 845 12) r3.2))
 else ((f_X6_readBlock (0 : Int32) (-1 : Int32) r1).bind (fun r2 =>
 k_X6_readUnitItem_205 r2.1 (r1.1 845 12) r2.2)))
set_option maxRecDepth 4000 in
set_option maxHeartbeats 1000000 in
theorem B_X6_readUnitItem_165 {D : va_G} {cy : Nat → ClassId} {ad : Nat → Nat} {bs : Nat} {X : State → Heap → Prop} (l1 : Int32) (s : t_S) (Q : t_S → Prop) (hk : t_hk (k_X6_readUnitItem_165 l1 s) Q) : mj_G D cy ad bs X cX6_readUnitItem 3 yX6_readUnitItem.cls none yX6_readUnitItem.name 357 0 0 1065 (t_P (fun v s' => v = none ∧ Q (s'))) 165 [(0, .ref 845), (1, .int l1)] [] (t_m s) 1065 0 0 := by
  refine mj_aload_n dX6_readUnitItem_165 0 rfl ?_
  refine t_getR 1 dX6_readUnitItem_166 F_X6_28 qr_845_0 ?_
  refine mj_bipush (v := 41) dX6_readUnitItem_169 (by decide) ?_
  refine t_bndK hk (fun r1 er1 hk => ?_)
  refine t_callVvE dX6_readUnitItem_171 M_X2_need (C_X2_need _ _ _ er1) ML_X6_184 IM_X2_need SE_X2_need qc_1 rfl (As := [.int 41]) rfl rfl (Nat.le_of_ble_eq_true rfl) (Nat.le_of_ble_eq_true rfl) (Nat.le_of_ble_eq_true rfl) (Nat.le_of_ble_eq_true rfl) ?_
  refine mj_aload_n dX6_readUnitItem_174 0 rfl ?_
  refine t_getR 428 dX6_readUnitItem_175 F_X6_48 qr_845_4 ?_
  refine t_getR 441 dX6_readUnitItem_178 F_X6_270 qr_428_14 ?_
  refine mj_aload_n dX6_readUnitItem_181 0 rfl ?_
  refine t_getI dX6_readUnitItem_182 F_X6_134 qf_845_12 ?_
  refine mj_iload_n dX6_readUnitItem_185 1 rfl ?_
  refine mj_iconst (v := 1) dX6_readUnitItem_186 (by decide) ?_
  refine mj_icmp_ne 199 dX6_readUnitItem_187 (by decide) (fun z => t_negK hk z (fun hk => ?_)) (fun z => t_posK hk z (fun hk => ?_))
  · refine mj_aload_n dX6_readUnitItem_199 0 rfl ?_
    refine mj_iconst (v := 0) dX6_readUnitItem_200 (by decide) ?_
    refine mj_iconst (v := (-1)) dX6_readUnitItem_201 (by decide) ?_
    refine t_bndK hk (fun r2 er2 hk => ?_)
    refine t_callViE dX6_readUnitItem_202 M_X6_readBlock (C_X6_readBlock _ _ _ _ er2) ML_X6_276 IM_X6_readBlock SE_X6_readBlock qc_845 rfl (As := [.int 0, .int (-1)]) rfl rfl (Nat.le_of_ble_eq_true rfl) (Nat.le_of_ble_eq_true rfl) (Nat.le_of_ble_eq_true rfl) (Nat.le_of_ble_eq_true rfl) ?_
    refine mj_sublv [(0, .ref 845)] [0] rfl ?_
    exact B_X6_readUnitItem_205 _ _ _ _ hk
  · refine mj_aload_n dX6_readUnitItem_190 0 rfl ?_
    refine mj_iconst (v := 0) dX6_readUnitItem_191 (by decide) ?_
    refine mj_iconst (v := (-1)) dX6_readUnitItem_192 (by decide) ?_
    refine t_bndK hk (fun r3 er3 hk => ?_)
    refine t_callViE dX6_readUnitItem_193 M_X6_readAlts (C_X6_readAlts _ _ _ _ er3) ML_X6_273 IM_X6_readAlts SE_X6_readAlts qc_845 rfl (As := [.int 0, .int (-1)]) rfl rfl (Nat.le_of_ble_eq_true rfl) (Nat.le_of_ble_eq_true rfl) (Nat.le_of_ble_eq_true rfl) (Nat.le_of_ble_eq_true rfl) ?_
    refine mj_goto 205 dX6_readUnitItem_196 (by decide) ?_
    refine mj_sublv [(0, .ref 845)] [0] rfl ?_
    exact B_X6_readUnitItem_205 _ _ _ _ hk
noncomputable def k_X6_readUnitItem_122 (l1 : Int32) (k0 : Int32) (s : t_S) : Option (t_S) :=
 t_let (t_setI s 845 14 k0) (fun s1 =>
 (f_X6_link (3 : Int32) (s1.1 845 12) (0 : Int32) s1).bind (fun r1 =>
 (f_X2_need (40 : Int32) r1).bind (fun r2 =>
 if l1 = (2 : Int32) then (k_X6_readUnitItem_165 l1 r2)
 else (if (r2.1 1 8) = (41 : Int32) then (k_X6_readUnitItem_165 l1 r2)
 else ((f_X6_readParameters r2).bind (fun r3 =>
 k_X6_readUnitItem_165 l1 r3))))))
set_option maxRecDepth 4000 in
set_option maxHeartbeats 1000000 in
theorem B_X6_readUnitItem_122 {D : va_G} {cy : Nat → ClassId} {ad : Nat → Nat} {bs : Nat} {X : State → Heap → Prop} (l1 : Int32) (k0 : Int32) (s : t_S) (Q : t_S → Prop) (hk : t_hk (k_X6_readUnitItem_122 l1 k0 s) Q) : mj_G D cy ad bs X cX6_readUnitItem 3 yX6_readUnitItem.cls none yX6_readUnitItem.name 357 0 0 1065 (t_P (fun v s' => v = none ∧ Q (s'))) 122 [(0, .ref 845), (1, .int l1)] [.int k0, .ref 845] (t_m s) 1065 0 0 := by
  refine t_putIK dX6_readUnitItem_122 F_X6_140 qf_845_14 rfl (fun s1 ws1 => t_letE hk ws1 (fun hk => ?_))
  refine mj_aload_n dX6_readUnitItem_125 0 rfl ?_
  refine mj_iconst (v := 3) dX6_readUnitItem_126 (by decide) ?_
  refine mj_aload_n dX6_readUnitItem_127 0 rfl ?_
  refine t_getI dX6_readUnitItem_128 F_X6_134 qf_845_12 ?_
  refine mj_iconst (v := 0) dX6_readUnitItem_131 (by decide) ?_
  refine t_bndK hk (fun r1 er1 hk => ?_)
  refine t_callVvE dX6_readUnitItem_132 M_X6_link (C_X6_link _ _ _ _ _ er1) ML_X6_250 IM_X6_link SE_X6_link qc_845 rfl (As := [.int 3, .int (s1.1 845 12), .int 0]) rfl rfl (Nat.le_of_ble_eq_true rfl) (Nat.le_of_ble_eq_true rfl) (Nat.le_of_ble_eq_true rfl) (Nat.le_of_ble_eq_true rfl) ?_
  refine mj_aload_n dX6_readUnitItem_135 0 rfl ?_
  refine t_getR 1 dX6_readUnitItem_136 F_X6_28 qr_845_0 ?_
  refine mj_bipush (v := 40) dX6_readUnitItem_139 (by decide) ?_
  refine t_bndK hk (fun r2 er2 hk => ?_)
  refine t_callVvE dX6_readUnitItem_141 M_X2_need (C_X2_need _ _ _ er2) ML_X6_184 IM_X2_need SE_X2_need qc_1 rfl (As := [.int 40]) rfl rfl (Nat.le_of_ble_eq_true rfl) (Nat.le_of_ble_eq_true rfl) (Nat.le_of_ble_eq_true rfl) (Nat.le_of_ble_eq_true rfl) ?_
  refine mj_iload_n dX6_readUnitItem_144 1 rfl ?_
  refine mj_iconst (v := 2) dX6_readUnitItem_145 (by decide) ?_
  refine mj_icmp_eq 165 dX6_readUnitItem_146 (by decide) (fun z => t_posK hk z (fun hk => ?_)) (fun z => t_negK hk z (fun hk => ?_))
  · exact B_X6_readUnitItem_165 _ _ _ hk
  · refine mj_aload_n dX6_readUnitItem_149 0 rfl ?_
    refine t_getR 1 dX6_readUnitItem_150 F_X6_28 qr_845_0 ?_
    refine t_getI dX6_readUnitItem_153 F_X6_85 qf_1_8 ?_
    refine mj_bipush (v := 41) dX6_readUnitItem_156 (by decide) ?_
    refine mj_icmp_eq 165 dX6_readUnitItem_158 (by decide) (fun z => t_posK hk z (fun hk => ?_)) (fun z => t_negK hk z (fun hk => ?_))
    · exact B_X6_readUnitItem_165 _ _ _ hk
    · refine mj_aload_n dX6_readUnitItem_161 0 rfl ?_
      refine t_bndK hk (fun r3 er3 hk => ?_)
      refine t_callVvE dX6_readUnitItem_162 M_X6_readParameters (C_X6_readParameters _ _ er3) ML_X6_267 IM_X6_readParameters SE_X6_readParameters qc_845 rfl (As := []) rfl rfl (Nat.le_of_ble_eq_true rfl) (Nat.le_of_ble_eq_true rfl) (Nat.le_of_ble_eq_true rfl) (Nat.le_of_ble_eq_true rfl) ?_
      exact B_X6_readUnitItem_165 _ _ _ hk
noncomputable def k_X6_readUnitItem_121 (l1 : Int32) (s : t_S) : Option (t_S) :=
 k_X6_readUnitItem_122 l1 (-1) s
set_option maxRecDepth 4000 in
set_option maxHeartbeats 1000000 in
theorem B_X6_readUnitItem_121 {D : va_G} {cy : Nat → ClassId} {ad : Nat → Nat} {bs : Nat} {X : State → Heap → Prop} (l1 : Int32) (s : t_S) (Q : t_S → Prop) (hk : t_hk (k_X6_readUnitItem_121 l1 s) Q) : mj_G D cy ad bs X cX6_readUnitItem 3 yX6_readUnitItem.cls none yX6_readUnitItem.name 357 0 0 1065 (t_P (fun v s' => v = none ∧ Q (s'))) 121 [(0, .ref 845), (1, .int l1)] [.ref 845] (t_m s) 1065 0 0 := by
  refine mj_iconst (v := (-1)) dX6_readUnitItem_121 (by decide) ?_
  exact B_X6_readUnitItem_122 _ _ _ _ hk
noncomputable def k_X6_readUnitItem_97 (l1 : Int32) (k0 : Int32) (s : t_S) : Option (t_S) :=
 if k0 < (200 : Int32) then (k_X6_readUnitItem_121 l1 s)
 else (if (300 : Int32) ≤ k0 then (k_X6_readUnitItem_121 l1 s)
 else (k_X6_readUnitItem_122 l1 (k0 - (200 : Int32)) s))
set_option maxRecDepth 4000 in
set_option maxHeartbeats 1000000 in
theorem B_X6_readUnitItem_97 {D : va_G} {cy : Nat → ClassId} {ad : Nat → Nat} {bs : Nat} {X : State → Heap → Prop} (l1 : Int32) (k0 : Int32) (s : t_S) (Q : t_S → Prop) (hk : t_hk (k_X6_readUnitItem_97 l1 k0 s) Q) : mj_G D cy ad bs X cX6_readUnitItem 3 yX6_readUnitItem.cls none yX6_readUnitItem.name 357 0 0 1065 (t_P (fun v s' => v = none ∧ Q (s'))) 97 [(0, .ref 845), (1, .int l1)] [.int k0] (t_m s) 1065 0 0 := by
  refine mj_istore_n 2 (lv2 := [(2, .int k0), (0, .ref 845), (1, .int l1)]) dX6_readUnitItem_97 rfl (by decide) rfl ?_
  refine mj_aload_n dX6_readUnitItem_98 1 rfl ?_
  refine mj_iload_n dX6_readUnitItem_99 0 rfl ?_
  refine mj_sipush (v := 200) dX6_readUnitItem_100 (by decide) ?_
  refine mj_icmp_lt 121 dX6_readUnitItem_103 (by decide) (fun z => t_posK hk z (fun hk => ?_)) (fun z => t_negK hk z (fun hk => ?_))
  · refine mj_sublv [(0, .ref 845), (1, .int l1)] [1, 2] rfl ?_
    exact B_X6_readUnitItem_121 _ _ _ hk
  · refine mj_iload_n dX6_readUnitItem_106 0 rfl ?_
    refine mj_sipush (v := 300) dX6_readUnitItem_107 (by decide) ?_
    refine mj_icmp_ge 121 dX6_readUnitItem_110 (by decide) (fun z => t_posK hk z (fun hk => ?_)) (fun z => t_negK hk z (fun hk => ?_))
    · refine mj_sublv [(0, .ref 845), (1, .int l1)] [1, 2] rfl ?_
      exact B_X6_readUnitItem_121 _ _ _ hk
    · refine mj_iload_n dX6_readUnitItem_113 0 rfl ?_
      refine mj_sipush (v := 200) dX6_readUnitItem_114 (by decide) ?_
      refine mj_isub dX6_readUnitItem_117 ?_
      refine mj_goto 122 dX6_readUnitItem_118 (by decide) ?_
      refine mj_sublv [(0, .ref 845), (1, .int l1)] [1, 2] rfl ?_
      exact B_X6_readUnitItem_122 _ _ _ _ hk
noncomputable def f_X6_readUnitItem (x1 : Int32) (s : t_S) : Option (t_S) :=
 (f_X2_advance s).bind (fun r1 =>
 (f_X6_takeName (3 : Int32) (r1.1 428 9) (40 : Int32) r1).bind (fun r2 =>
 if r2.1 = (0 : Int32) then (some (r2.2))
 else (t_let (t_setI r2.2 845 12 (r2.2.1 428 9)) (fun s1 =>
 (f_X5_addUnit (s1.1 845 12) x1 s1).bind (fun r3 =>
 (f_X2_advance r3).bind (fun r4 =>
 (f_X2_need (206 : Int32) r4).bind (fun r5 =>
 if (r5.1 1 8) = (1 : Int32) then (if t_ix (f_X2_word r5) 8000 = true then
  k_X6_readUnitItem_97 x1 ((r5.1 6 ((f_X2_word r5).toNatClampNeg)) - (1 : Int32)) r5
else none)
 else (k_X6_readUnitItem_97 x1 (-1) r5))))))))
set_option maxRecDepth 4000 in
set_option maxHeartbeats 1000000 in
theorem C_X6_readUnitItem (x1 : Int32) (s : t_S) (r : t_S) (hr : f_X6_readUnitItem x1 s = some r) : t_C yX6_readUnitItem cX6_readUnitItem 3 none 357 [.ref 845, .int x1] s (fun v s' => v = none ∧ s' = r) := by
  refine t_C.imp (P := fun v s' => v = none ∧ (fun q => q = r) (s')) (t_C.of (by decide +kernel) (Nat.le_of_ble_eq_true rfl) ?_) (fun v s' hp => hp)
  intro D cy ad bs X
  have hk : t_hk (f_X6_readUnitItem x1 s) (fun q => q = r) := ⟨r, hr, rfl⟩
  show mj_G D cy ad bs X cX6_readUnitItem 3 yX6_readUnitItem.cls none yX6_readUnitItem.name 357 0 0 1065 (t_P (fun v s' => v = none ∧ (fun q => q = r) (s'))) 0 [(0, .ref 845), (1, .int x1)] [] (t_m s) 1065 0 0
  refine mj_aload_n dX6_readUnitItem_0 0 rfl ?_
  refine t_getR 1 dX6_readUnitItem_1 F_X6_28 qr_845_0 ?_
  refine t_bndK hk (fun r1 er1 hk => ?_)
  refine t_callVvE dX6_readUnitItem_4 M_X2_advance (C_X2_advance _ _ er1) ML_X6_170 IM_X2_advance SE_X2_advance qc_1 rfl (As := []) rfl rfl (Nat.le_of_ble_eq_true rfl) (Nat.le_of_ble_eq_true rfl) (Nat.le_of_ble_eq_true rfl) (Nat.le_of_ble_eq_true rfl) ?_
  refine mj_aload_n dX6_readUnitItem_7 0 rfl ?_
  refine mj_iconst (v := 3) dX6_readUnitItem_8 (by decide) ?_
  refine mj_aload_n dX6_readUnitItem_9 0 rfl ?_
  refine t_getR 428 dX6_readUnitItem_10 F_X6_48 qr_845_4 ?_
  refine t_getI dX6_readUnitItem_13 F_X6_261 qf_428_9 ?_
  refine mj_bipush (v := 40) dX6_readUnitItem_16 (by decide) ?_
  refine t_bndK hk (fun r2 er2 hk => ?_)
  refine t_callViE dX6_readUnitItem_18 M_X6_takeName (C_X6_takeName _ _ _ _ _ er2) ML_X6_176 IM_X6_takeName SE_X6_takeName qc_845 rfl (As := [.int 3, .int (r1.1 428 9), .int 40]) rfl rfl (Nat.le_of_ble_eq_true rfl) (Nat.le_of_ble_eq_true rfl) (Nat.le_of_ble_eq_true rfl) (Nat.le_of_ble_eq_true rfl) ?_
  refine mj_if_ne 25 dX6_readUnitItem_21 (by decide) (fun z => t_negK hk z (fun hk => ?_)) (fun z => t_posK hk z (fun hk => ?_))
  · refine mj_aload_n dX6_readUnitItem_25 0 rfl ?_
    refine mj_aload_n dX6_readUnitItem_26 0 rfl ?_
    refine t_getR 428 dX6_readUnitItem_27 F_X6_48 qr_845_4 ?_
    refine t_getI dX6_readUnitItem_30 F_X6_261 qf_428_9 ?_
    refine t_putIK dX6_readUnitItem_33 F_X6_134 qf_845_12 rfl (fun s1 ws1 => t_letE hk ws1 (fun hk => ?_))
    refine mj_aload_n dX6_readUnitItem_36 0 rfl ?_
    refine t_getR 428 dX6_readUnitItem_37 F_X6_48 qr_845_4 ?_
    refine mj_aload_n dX6_readUnitItem_40 0 rfl ?_
    refine t_getI dX6_readUnitItem_41 F_X6_134 qf_845_12 ?_
    refine mj_iload_n dX6_readUnitItem_44 1 rfl ?_
    refine t_bndK hk (fun r3 er3 hk => ?_)
    refine t_callVvE dX6_readUnitItem_45 M_X5_addUnit (C_X5_addUnit _ _ _ _ er3) ML_X6_264 IM_X5_addUnit SE_X5_addUnit qc_428 rfl (As := [.int (s1.1 845 12), .int x1]) rfl rfl (Nat.le_of_ble_eq_true rfl) (Nat.le_of_ble_eq_true rfl) (Nat.le_of_ble_eq_true rfl) (Nat.le_of_ble_eq_true rfl) ?_
    refine mj_aload_n dX6_readUnitItem_48 0 rfl ?_
    refine t_getR 1 dX6_readUnitItem_49 F_X6_28 qr_845_0 ?_
    refine t_bndK hk (fun r4 er4 hk => ?_)
    refine t_callVvE dX6_readUnitItem_52 M_X2_advance (C_X2_advance _ _ er4) ML_X6_170 IM_X2_advance SE_X2_advance qc_1 rfl (As := []) rfl rfl (Nat.le_of_ble_eq_true rfl) (Nat.le_of_ble_eq_true rfl) (Nat.le_of_ble_eq_true rfl) (Nat.le_of_ble_eq_true rfl) ?_
    refine mj_aload_n dX6_readUnitItem_55 0 rfl ?_
    refine t_getR 1 dX6_readUnitItem_56 F_X6_28 qr_845_0 ?_
    refine mj_sipush (v := 206) dX6_readUnitItem_59 (by decide) ?_
    refine t_bndK hk (fun r5 er5 hk => ?_)
    refine t_callVvE dX6_readUnitItem_62 M_X2_need (C_X2_need _ _ _ er5) ML_X6_184 IM_X2_need SE_X2_need qc_1 rfl (As := [.int 206]) rfl rfl (Nat.le_of_ble_eq_true rfl) (Nat.le_of_ble_eq_true rfl) (Nat.le_of_ble_eq_true rfl) (Nat.le_of_ble_eq_true rfl) ?_
    refine mj_aload_n dX6_readUnitItem_65 0 rfl ?_
    refine t_getR 1 dX6_readUnitItem_66 F_X6_28 qr_845_0 ?_
    refine t_getI dX6_readUnitItem_69 F_X6_85 qf_1_8 ?_
    refine mj_iconst (v := 1) dX6_readUnitItem_72 (by decide) ?_
    refine mj_icmp_ne 96 dX6_readUnitItem_73 (by decide) (fun z => t_negK hk z (fun hk => ?_)) (fun z => t_posK hk z (fun hk => ?_))
    · refine mj_iconst (v := (-1)) dX6_readUnitItem_96 (by decide) ?_
      exact B_X6_readUnitItem_97 _ _ _ _ hk
    · refine mj_aload_n dX6_readUnitItem_76 0 rfl ?_
      refine t_getR 1 dX6_readUnitItem_77 F_X6_28 qr_845_0 ?_
      refine t_getR 6 dX6_readUnitItem_80 F_X6_163 qr_1_14 ?_
      refine mj_aload_n dX6_readUnitItem_83 0 rfl ?_
      refine t_getR 1 dX6_readUnitItem_84 F_X6_28 qr_845_0 ?_
      refine t_callViP dX6_readUnitItem_87 M_X2_word (C_X2_word _) ML_X6_166 IM_X2_word SE_X2_word qc_1 rfl (As := []) rfl rfl (Nat.le_of_ble_eq_true rfl) (Nat.le_of_ble_eq_true rfl) (Nat.le_of_ble_eq_true rfl) (Nat.le_of_ble_eq_true rfl) ?_
      refine t_chkK hk (fun c6 hk => ?_)
      refine t_iald dX6_readUnitItem_90 qa_6 (t_ixv c6) ?_
      refine mj_iconst (v := 1) dX6_readUnitItem_91 (by decide) ?_
      refine mj_isub dX6_readUnitItem_92 ?_
      refine mj_goto 97 dX6_readUnitItem_93 (by decide) ?_
      exact B_X6_readUnitItem_97 _ _ _ _ hk
  · exact t_somK hk (fun hf => t_vret dX6_readUnitItem_24 rfl ⟨rfl, hf⟩ (Nat.le_of_ble_eq_true rfl) (Nat.le_of_ble_eq_true rfl))

theorem dX2_isDigit_0 : decode cX2_isDigit 0 = .ok (.iload_n 0, 1) := by decide +kernel
theorem dX2_isDigit_1 : decode cX2_isDigit 1 = .ok (.bipush 48, 2) := by decide +kernel
theorem dX2_isDigit_12 : decode cX2_isDigit 12 = .ok (.iconst 1, 1) := by decide +kernel
theorem dX2_isDigit_13 : decode cX2_isDigit 13 = .ok (.goto 4, 3) := by decide +kernel
theorem dX2_isDigit_16 : decode cX2_isDigit 16 = .ok (.iconst 0, 1) := by decide +kernel
theorem dX2_isDigit_17 : decode cX2_isDigit 17 = .ok (.ireturn, 1) := by decide +kernel
theorem dX2_isDigit_3 : decode cX2_isDigit 3 = .ok (.if_icmp .lt 13, 3) := by decide +kernel
theorem dX2_isDigit_6 : decode cX2_isDigit 6 = .ok (.iload_n 0, 1) := by decide +kernel
theorem dX2_isDigit_7 : decode cX2_isDigit 7 = .ok (.bipush 57, 2) := by decide +kernel
theorem dX2_isDigit_9 : decode cX2_isDigit 9 = .ok (.if_icmp .gt 7, 3) := by decide +kernel
noncomputable def f_X2_isDigit (x1 : Int32) (s : t_S) : Int32 :=
 if x1 < (48 : Int32) then ((0 : Int32))
 else (if (57 : Int32) < x1 then ((0 : Int32))
 else ((1 : Int32)))
set_option maxRecDepth 4000 in
set_option maxHeartbeats 1000000 in
theorem C_X2_isDigit (x1 : Int32) (s : t_S) : t_C yX2_isDigit cX2_isDigit 1 (some .boolean) 0 [.int x1] s (fun v s' => v = some (.int (f_X2_isDigit x1 s)) ∧ s' = s) := by
  refine t_C.imp (P := fun v s' => s' = s ∧ ∃ x, v = some (.int x) ∧ (fun r => r = f_X2_isDigit x1 s) (x)) (t_C.of (by decide +kernel) (Nat.le_of_ble_eq_true rfl) ?_) (fun v s' hp => by obtain ⟨rfl, x, rfl, rfl⟩ := hp; exact ⟨rfl, rfl⟩)
  intro D cy ad bs X
  have hk : t_ht (f_X2_isDigit x1 s) (fun r => r = f_X2_isDigit x1 s) := rfl
  show mj_G D cy ad bs X cX2_isDigit 1 yX2_isDigit.cls (some .boolean) yX2_isDigit.name 0 0 0 1065 (t_P (fun v s' => s' = s ∧ ∃ x, v = some (.int x) ∧ (fun r => r = f_X2_isDigit x1 s) (x))) 0 [(0, .int x1)] [] (t_m s) 1065 0 0
  refine mj_iload_n dX2_isDigit_0 0 rfl ?_
  refine mj_bipush (v := 48) dX2_isDigit_1 (by decide) ?_
  refine mj_icmp_lt 16 dX2_isDigit_3 (by decide) (fun z => t_posTK hk z (fun hk => ?_)) (fun z => t_negTK hk z (fun hk => ?_))
  · refine mj_iconst (v := 0) dX2_isDigit_16 (by decide) ?_
    exact t_iret dX2_isDigit_17 rfl (by decide) ⟨rfl, _, rfl, hk⟩ (Nat.le_of_ble_eq_true rfl) (Nat.le_of_ble_eq_true rfl)
  · refine mj_iload_n dX2_isDigit_6 0 rfl ?_
    refine mj_bipush (v := 57) dX2_isDigit_7 (by decide) ?_
    refine mj_icmp_gt 16 dX2_isDigit_9 (by decide) (fun z => t_posTK hk z (fun hk => ?_)) (fun z => t_negTK hk z (fun hk => ?_))
    · refine mj_iconst (v := 0) dX2_isDigit_16 (by decide) ?_
      exact t_iret dX2_isDigit_17 rfl (by decide) ⟨rfl, _, rfl, hk⟩ (Nat.le_of_ble_eq_true rfl) (Nat.le_of_ble_eq_true rfl)
    · refine mj_iconst (v := 1) dX2_isDigit_12 (by decide) ?_
      refine mj_goto 17 dX2_isDigit_13 (by decide) ?_
      exact t_iret dX2_isDigit_17 rfl (by decide) ⟨rfl, _, rfl, hk⟩ (Nat.le_of_ble_eq_true rfl) (Nat.le_of_ble_eq_true rfl)

theorem dX2_isLetter_0 : decode cX2_isLetter 0 = .ok (.iload_n 0, 1) := by decide +kernel
theorem dX2_isLetter_1 : decode cX2_isLetter 1 = .ok (.bipush 97, 2) := by decide +kernel
theorem dX2_isLetter_12 : decode cX2_isLetter 12 = .ok (.iload_n 0, 1) := by decide +kernel
theorem dX2_isLetter_13 : decode cX2_isLetter 13 = .ok (.bipush 65, 2) := by decide +kernel
theorem dX2_isLetter_15 : decode cX2_isLetter 15 = .ok (.if_icmp .lt 13, 3) := by decide +kernel
theorem dX2_isLetter_18 : decode cX2_isLetter 18 = .ok (.iload_n 0, 1) := by decide +kernel
theorem dX2_isLetter_19 : decode cX2_isLetter 19 = .ok (.bipush 90, 2) := by decide +kernel
theorem dX2_isLetter_21 : decode cX2_isLetter 21 = .ok (.if_icmp .gt 7, 3) := by decide +kernel
theorem dX2_isLetter_24 : decode cX2_isLetter 24 = .ok (.iconst 1, 1) := by decide +kernel
theorem dX2_isLetter_25 : decode cX2_isLetter 25 = .ok (.goto 4, 3) := by decide +kernel
theorem dX2_isLetter_28 : decode cX2_isLetter 28 = .ok (.iconst 0, 1) := by decide +kernel
theorem dX2_isLetter_29 : decode cX2_isLetter 29 = .ok (.ireturn, 1) := by decide +kernel
theorem dX2_isLetter_3 : decode cX2_isLetter 3 = .ok (.if_icmp .lt 9, 3) := by decide +kernel
theorem dX2_isLetter_6 : decode cX2_isLetter 6 = .ok (.iload_n 0, 1) := by decide +kernel
theorem dX2_isLetter_7 : decode cX2_isLetter 7 = .ok (.bipush 122, 2) := by decide +kernel
theorem dX2_isLetter_9 : decode cX2_isLetter 9 = .ok (.if_icmp .le 15, 3) := by decide +kernel
noncomputable def k_X2_isLetter_24 (s : t_S) : Int32 :=
 (1 : Int32)
set_option maxRecDepth 4000 in
set_option maxHeartbeats 1000000 in
theorem B_X2_isLetter_24 {D : va_G} {cy : Nat → ClassId} {ad : Nat → Nat} {bs : Nat} {X : State → Heap → Prop} (s : t_S) (Q : Int32 → Prop) (hk : t_ht (k_X2_isLetter_24 s) Q) : mj_G D cy ad bs X cX2_isLetter 1 yX2_isLetter.cls (some .boolean) yX2_isLetter.name 0 0 0 1065 (t_P (fun v s' => s' = s ∧ ∃ x, v = some (.int x) ∧ Q (x))) 24 [] [] (t_m s) 1065 0 0 := by
  refine mj_iconst (v := 1) dX2_isLetter_24 (by decide) ?_
  refine mj_goto 29 dX2_isLetter_25 (by decide) ?_
  exact t_iret dX2_isLetter_29 rfl (by decide) ⟨rfl, _, rfl, hk⟩ (Nat.le_of_ble_eq_true rfl) (Nat.le_of_ble_eq_true rfl)
noncomputable def k_X2_isLetter_12 (l0 : Int32) (s : t_S) : Int32 :=
 if l0 < (65 : Int32) then ((0 : Int32))
 else (if (90 : Int32) < l0 then ((0 : Int32))
 else (k_X2_isLetter_24 s))
set_option maxRecDepth 4000 in
set_option maxHeartbeats 1000000 in
theorem B_X2_isLetter_12 {D : va_G} {cy : Nat → ClassId} {ad : Nat → Nat} {bs : Nat} {X : State → Heap → Prop} (l0 : Int32) (s : t_S) (Q : Int32 → Prop) (hk : t_ht (k_X2_isLetter_12 l0 s) Q) : mj_G D cy ad bs X cX2_isLetter 1 yX2_isLetter.cls (some .boolean) yX2_isLetter.name 0 0 0 1065 (t_P (fun v s' => s' = s ∧ ∃ x, v = some (.int x) ∧ Q (x))) 12 [(0, .int l0)] [] (t_m s) 1065 0 0 := by
  refine mj_iload_n dX2_isLetter_12 0 rfl ?_
  refine mj_bipush (v := 65) dX2_isLetter_13 (by decide) ?_
  refine mj_icmp_lt 28 dX2_isLetter_15 (by decide) (fun z => t_posTK hk z (fun hk => ?_)) (fun z => t_negTK hk z (fun hk => ?_))
  · refine mj_iconst (v := 0) dX2_isLetter_28 (by decide) ?_
    exact t_iret dX2_isLetter_29 rfl (by decide) ⟨rfl, _, rfl, hk⟩ (Nat.le_of_ble_eq_true rfl) (Nat.le_of_ble_eq_true rfl)
  · refine mj_iload_n dX2_isLetter_18 0 rfl ?_
    refine mj_bipush (v := 90) dX2_isLetter_19 (by decide) ?_
    refine mj_icmp_gt 28 dX2_isLetter_21 (by decide) (fun z => t_posTK hk z (fun hk => ?_)) (fun z => t_negTK hk z (fun hk => ?_))
    · refine mj_iconst (v := 0) dX2_isLetter_28 (by decide) ?_
      exact t_iret dX2_isLetter_29 rfl (by decide) ⟨rfl, _, rfl, hk⟩ (Nat.le_of_ble_eq_true rfl) (Nat.le_of_ble_eq_true rfl)
    · refine mj_sublv [] [] rfl ?_
      exact B_X2_isLetter_24 _ _ hk
noncomputable def f_X2_isLetter (x1 : Int32) (s : t_S) : Int32 :=
 if x1 < (97 : Int32) then (k_X2_isLetter_12 x1 s)
 else (if x1 ≤ (122 : Int32) then (k_X2_isLetter_24 s)
 else (k_X2_isLetter_12 x1 s))
set_option maxRecDepth 4000 in
set_option maxHeartbeats 1000000 in
theorem C_X2_isLetter (x1 : Int32) (s : t_S) : t_C yX2_isLetter cX2_isLetter 1 (some .boolean) 0 [.int x1] s (fun v s' => v = some (.int (f_X2_isLetter x1 s)) ∧ s' = s) := by
  refine t_C.imp (P := fun v s' => s' = s ∧ ∃ x, v = some (.int x) ∧ (fun r => r = f_X2_isLetter x1 s) (x)) (t_C.of (by decide +kernel) (Nat.le_of_ble_eq_true rfl) ?_) (fun v s' hp => by obtain ⟨rfl, x, rfl, rfl⟩ := hp; exact ⟨rfl, rfl⟩)
  intro D cy ad bs X
  have hk : t_ht (f_X2_isLetter x1 s) (fun r => r = f_X2_isLetter x1 s) := rfl
  show mj_G D cy ad bs X cX2_isLetter 1 yX2_isLetter.cls (some .boolean) yX2_isLetter.name 0 0 0 1065 (t_P (fun v s' => s' = s ∧ ∃ x, v = some (.int x) ∧ (fun r => r = f_X2_isLetter x1 s) (x))) 0 [(0, .int x1)] [] (t_m s) 1065 0 0
  refine mj_iload_n dX2_isLetter_0 0 rfl ?_
  refine mj_bipush (v := 97) dX2_isLetter_1 (by decide) ?_
  refine mj_icmp_lt 12 dX2_isLetter_3 (by decide) (fun z => t_posTK hk z (fun hk => ?_)) (fun z => t_negTK hk z (fun hk => ?_))
  · exact B_X2_isLetter_12 _ _ _ hk
  · refine mj_iload_n dX2_isLetter_6 0 rfl ?_
    refine mj_bipush (v := 122) dX2_isLetter_7 (by decide) ?_
    refine mj_icmp_le 24 dX2_isLetter_9 (by decide) (fun z => t_posTK hk z (fun hk => ?_)) (fun z => t_negTK hk z (fun hk => ?_))
    · refine mj_sublv [] [] rfl ?_
      exact B_X2_isLetter_24 _ _ hk
    · exact B_X2_isLetter_12 _ _ _ hk

theorem dX2_isSign_0 : decode cX2_isSign 0 = .ok (.iload_n 0, 1) := by decide +kernel
theorem dX2_isSign_1 : decode cX2_isSign 1 = .ok (.tableswitch 389 33 125 #[387, 389, 389, 389, 387, 387, 389, 387, 387, 387, 387, 387, 387, 387, 387, 389, 389, 389, 389, 389, 389, 389, 389, 389, 389, 387, 387, 387, 387, 387, 387, 387, 389, 389, 389, 389, 389, 389, 389, 389, 389, 389, 389, 389, 389, 389, 389, 389, 389, 389, 389, 389, 389, 389, 389, 389, 389, 389, 387, 389, 387, 389, 389, 389, 389, 389, 389, 389, 389, 389, 389, 389, 389, 389, 389, 389, 389, 389, 389, 389, 389, 389, 389, 389, 389, 389, 389, 389, 389, 389, 387, 389, 387], 387) := by decide +kernel
theorem dX2_isSign_388 : decode cX2_isSign 388 = .ok (.iconst 1, 1) := by decide +kernel
theorem dX2_isSign_389 : decode cX2_isSign 389 = .ok (.ireturn, 1) := by decide +kernel
theorem dX2_isSign_390 : decode cX2_isSign 390 = .ok (.iconst 0, 1) := by decide +kernel
theorem dX2_isSign_391 : decode cX2_isSign 391 = .ok (.ireturn, 1) := by decide +kernel
noncomputable def f_X2_isSign (x1 : Int32) (s : t_S) : Int32 :=
 if x1.toInt < 33 ∨ 125 < x1.toInt then ((0 : Int32))
 else if x1.toInt = 33 then ((1 : Int32))
 else if x1.toInt = 34 then ((0 : Int32))
 else if x1.toInt = 35 then ((0 : Int32))
 else if x1.toInt = 36 then ((0 : Int32))
 else if x1.toInt = 37 then ((1 : Int32))
 else if x1.toInt = 38 then ((1 : Int32))
 else if x1.toInt = 39 then ((0 : Int32))
 else if x1.toInt = 40 then ((1 : Int32))
 else if x1.toInt = 41 then ((1 : Int32))
 else if x1.toInt = 42 then ((1 : Int32))
 else if x1.toInt = 43 then ((1 : Int32))
 else if x1.toInt = 44 then ((1 : Int32))
 else if x1.toInt = 45 then ((1 : Int32))
 else if x1.toInt = 46 then ((1 : Int32))
 else if x1.toInt = 47 then ((1 : Int32))
 else if x1.toInt = 48 then ((0 : Int32))
 else if x1.toInt = 49 then ((0 : Int32))
 else if x1.toInt = 50 then ((0 : Int32))
 else if x1.toInt = 51 then ((0 : Int32))
 else if x1.toInt = 52 then ((0 : Int32))
 else if x1.toInt = 53 then ((0 : Int32))
 else if x1.toInt = 54 then ((0 : Int32))
 else if x1.toInt = 55 then ((0 : Int32))
 else if x1.toInt = 56 then ((0 : Int32))
 else if x1.toInt = 57 then ((0 : Int32))
 else if x1.toInt = 58 then ((1 : Int32))
 else if x1.toInt = 59 then ((1 : Int32))
 else if x1.toInt = 60 then ((1 : Int32))
 else if x1.toInt = 61 then ((1 : Int32))
 else if x1.toInt = 62 then ((1 : Int32))
 else if x1.toInt = 63 then ((1 : Int32))
 else if x1.toInt = 64 then ((1 : Int32))
 else if x1.toInt = 65 then ((0 : Int32))
 else if x1.toInt = 66 then ((0 : Int32))
 else if x1.toInt = 67 then ((0 : Int32))
 else if x1.toInt = 68 then ((0 : Int32))
 else if x1.toInt = 69 then ((0 : Int32))
 else if x1.toInt = 70 then ((0 : Int32))
 else if x1.toInt = 71 then ((0 : Int32))
 else if x1.toInt = 72 then ((0 : Int32))
 else if x1.toInt = 73 then ((0 : Int32))
 else if x1.toInt = 74 then ((0 : Int32))
 else if x1.toInt = 75 then ((0 : Int32))
 else if x1.toInt = 76 then ((0 : Int32))
 else if x1.toInt = 77 then ((0 : Int32))
 else if x1.toInt = 78 then ((0 : Int32))
 else if x1.toInt = 79 then ((0 : Int32))
 else if x1.toInt = 80 then ((0 : Int32))
 else if x1.toInt = 81 then ((0 : Int32))
 else if x1.toInt = 82 then ((0 : Int32))
 else if x1.toInt = 83 then ((0 : Int32))
 else if x1.toInt = 84 then ((0 : Int32))
 else if x1.toInt = 85 then ((0 : Int32))
 else if x1.toInt = 86 then ((0 : Int32))
 else if x1.toInt = 87 then ((0 : Int32))
 else if x1.toInt = 88 then ((0 : Int32))
 else if x1.toInt = 89 then ((0 : Int32))
 else if x1.toInt = 90 then ((0 : Int32))
 else if x1.toInt = 91 then ((1 : Int32))
 else if x1.toInt = 92 then ((0 : Int32))
 else if x1.toInt = 93 then ((1 : Int32))
 else if x1.toInt = 94 then ((0 : Int32))
 else if x1.toInt = 95 then ((0 : Int32))
 else if x1.toInt = 96 then ((0 : Int32))
 else if x1.toInt = 97 then ((0 : Int32))
 else if x1.toInt = 98 then ((0 : Int32))
 else if x1.toInt = 99 then ((0 : Int32))
 else if x1.toInt = 100 then ((0 : Int32))
 else if x1.toInt = 101 then ((0 : Int32))
 else if x1.toInt = 102 then ((0 : Int32))
 else if x1.toInt = 103 then ((0 : Int32))
 else if x1.toInt = 104 then ((0 : Int32))
 else if x1.toInt = 105 then ((0 : Int32))
 else if x1.toInt = 106 then ((0 : Int32))
 else if x1.toInt = 107 then ((0 : Int32))
 else if x1.toInt = 108 then ((0 : Int32))
 else if x1.toInt = 109 then ((0 : Int32))
 else if x1.toInt = 110 then ((0 : Int32))
 else if x1.toInt = 111 then ((0 : Int32))
 else if x1.toInt = 112 then ((0 : Int32))
 else if x1.toInt = 113 then ((0 : Int32))
 else if x1.toInt = 114 then ((0 : Int32))
 else if x1.toInt = 115 then ((0 : Int32))
 else if x1.toInt = 116 then ((0 : Int32))
 else if x1.toInt = 117 then ((0 : Int32))
 else if x1.toInt = 118 then ((0 : Int32))
 else if x1.toInt = 119 then ((0 : Int32))
 else if x1.toInt = 120 then ((0 : Int32))
 else if x1.toInt = 121 then ((0 : Int32))
 else if x1.toInt = 122 then ((0 : Int32))
 else if x1.toInt = 123 then ((1 : Int32))
 else if x1.toInt = 124 then ((0 : Int32))
 else ((1 : Int32))
set_option maxRecDepth 4000 in
set_option maxHeartbeats 1000000 in
theorem C_X2_isSign (x1 : Int32) (s : t_S) : t_C yX2_isSign cX2_isSign 1 (some .boolean) 0 [.int x1] s (fun v s' => v = some (.int (f_X2_isSign x1 s)) ∧ s' = s) := by
  refine t_C.imp (P := fun v s' => s' = s ∧ ∃ x, v = some (.int x) ∧ (fun r => r = f_X2_isSign x1 s) (x)) (t_C.of (by decide +kernel) (Nat.le_of_ble_eq_true rfl) ?_) (fun v s' hp => by obtain ⟨rfl, x, rfl, rfl⟩ := hp; exact ⟨rfl, rfl⟩)
  intro D cy ad bs X
  have hk : t_ht (f_X2_isSign x1 s) (fun r => r = f_X2_isSign x1 s) := rfl
  show mj_G D cy ad bs X cX2_isSign 1 yX2_isSign.cls (some .boolean) yX2_isSign.name 0 0 0 1065 (t_P (fun v s' => s' = s ∧ ∃ x, v = some (.int x) ∧ (fun r => r = f_X2_isSign x1 s) (x))) 0 [(0, .int x1)] [] (t_m s) 1065 0 0
  refine mj_iload_n dX2_isSign_0 0 rfl ?_
  by_cases hout : x1.toInt < 33 ∨ 125 < x1.toInt
  · replace hk := t_posT hk hout
    refine mj_tableOut 390 dX2_isSign_1 hout (by decide) ?_
    refine mj_iconst (v := 0) dX2_isSign_390 (by decide) ?_
    exact t_iret dX2_isSign_391 rfl (by decide) ⟨rfl, _, rfl, hk⟩ (Nat.le_of_ble_eq_true rfl) (Nat.le_of_ble_eq_true rfl)
  · replace hk := t_negT hk hout
    have hh1 : ¬ x1.toInt < 33 := fun z => hout (Or.inl z)
    have hh2 : ¬ (125 : Int) < x1.toInt := fun z => hout (Or.inr z)
    by_cases h0 : x1.toInt = 33
    · replace hk := t_posT hk h0
      refine mj_tableIn 388 dX2_isSign_1 hh1 hh2 (by rw [h0]; rfl) (by decide) ?_
      refine mj_iconst (v := 1) dX2_isSign_388 (by decide) ?_
      exact t_iret dX2_isSign_389 rfl (by decide) ⟨rfl, _, rfl, hk⟩ (Nat.le_of_ble_eq_true rfl) (Nat.le_of_ble_eq_true rfl)
    replace hk := t_negT hk h0
    by_cases h1 : x1.toInt = 34
    · replace hk := t_posT hk h1
      refine mj_tableIn 390 dX2_isSign_1 hh1 hh2 (by rw [h1]; rfl) (by decide) ?_
      refine mj_iconst (v := 0) dX2_isSign_390 (by decide) ?_
      exact t_iret dX2_isSign_391 rfl (by decide) ⟨rfl, _, rfl, hk⟩ (Nat.le_of_ble_eq_true rfl) (Nat.le_of_ble_eq_true rfl)
    replace hk := t_negT hk h1
    by_cases h2 : x1.toInt = 35
    · replace hk := t_posT hk h2
      refine mj_tableIn 390 dX2_isSign_1 hh1 hh2 (by rw [h2]; rfl) (by decide) ?_
      refine mj_iconst (v := 0) dX2_isSign_390 (by decide) ?_
      exact t_iret dX2_isSign_391 rfl (by decide) ⟨rfl, _, rfl, hk⟩ (Nat.le_of_ble_eq_true rfl) (Nat.le_of_ble_eq_true rfl)
    replace hk := t_negT hk h2
    by_cases h3 : x1.toInt = 36
    · replace hk := t_posT hk h3
      refine mj_tableIn 390 dX2_isSign_1 hh1 hh2 (by rw [h3]; rfl) (by decide) ?_
      refine mj_iconst (v := 0) dX2_isSign_390 (by decide) ?_
      exact t_iret dX2_isSign_391 rfl (by decide) ⟨rfl, _, rfl, hk⟩ (Nat.le_of_ble_eq_true rfl) (Nat.le_of_ble_eq_true rfl)
    replace hk := t_negT hk h3
    by_cases h4 : x1.toInt = 37
    · replace hk := t_posT hk h4
      refine mj_tableIn 388 dX2_isSign_1 hh1 hh2 (by rw [h4]; rfl) (by decide) ?_
      refine mj_iconst (v := 1) dX2_isSign_388 (by decide) ?_
      exact t_iret dX2_isSign_389 rfl (by decide) ⟨rfl, _, rfl, hk⟩ (Nat.le_of_ble_eq_true rfl) (Nat.le_of_ble_eq_true rfl)
    replace hk := t_negT hk h4
    by_cases h5 : x1.toInt = 38
    · replace hk := t_posT hk h5
      refine mj_tableIn 388 dX2_isSign_1 hh1 hh2 (by rw [h5]; rfl) (by decide) ?_
      refine mj_iconst (v := 1) dX2_isSign_388 (by decide) ?_
      exact t_iret dX2_isSign_389 rfl (by decide) ⟨rfl, _, rfl, hk⟩ (Nat.le_of_ble_eq_true rfl) (Nat.le_of_ble_eq_true rfl)
    replace hk := t_negT hk h5
    by_cases h6 : x1.toInt = 39
    · replace hk := t_posT hk h6
      refine mj_tableIn 390 dX2_isSign_1 hh1 hh2 (by rw [h6]; rfl) (by decide) ?_
      refine mj_iconst (v := 0) dX2_isSign_390 (by decide) ?_
      exact t_iret dX2_isSign_391 rfl (by decide) ⟨rfl, _, rfl, hk⟩ (Nat.le_of_ble_eq_true rfl) (Nat.le_of_ble_eq_true rfl)
    replace hk := t_negT hk h6
    by_cases h7 : x1.toInt = 40
    · replace hk := t_posT hk h7
      refine mj_tableIn 388 dX2_isSign_1 hh1 hh2 (by rw [h7]; rfl) (by decide) ?_
      refine mj_iconst (v := 1) dX2_isSign_388 (by decide) ?_
      exact t_iret dX2_isSign_389 rfl (by decide) ⟨rfl, _, rfl, hk⟩ (Nat.le_of_ble_eq_true rfl) (Nat.le_of_ble_eq_true rfl)
    replace hk := t_negT hk h7
    by_cases h8 : x1.toInt = 41
    · replace hk := t_posT hk h8
      refine mj_tableIn 388 dX2_isSign_1 hh1 hh2 (by rw [h8]; rfl) (by decide) ?_
      refine mj_iconst (v := 1) dX2_isSign_388 (by decide) ?_
      exact t_iret dX2_isSign_389 rfl (by decide) ⟨rfl, _, rfl, hk⟩ (Nat.le_of_ble_eq_true rfl) (Nat.le_of_ble_eq_true rfl)
    replace hk := t_negT hk h8
    by_cases h9 : x1.toInt = 42
    · replace hk := t_posT hk h9
      refine mj_tableIn 388 dX2_isSign_1 hh1 hh2 (by rw [h9]; rfl) (by decide) ?_
      refine mj_iconst (v := 1) dX2_isSign_388 (by decide) ?_
      exact t_iret dX2_isSign_389 rfl (by decide) ⟨rfl, _, rfl, hk⟩ (Nat.le_of_ble_eq_true rfl) (Nat.le_of_ble_eq_true rfl)
    replace hk := t_negT hk h9
    by_cases h10 : x1.toInt = 43
    · replace hk := t_posT hk h10
      refine mj_tableIn 388 dX2_isSign_1 hh1 hh2 (by rw [h10]; rfl) (by decide) ?_
      refine mj_iconst (v := 1) dX2_isSign_388 (by decide) ?_
      exact t_iret dX2_isSign_389 rfl (by decide) ⟨rfl, _, rfl, hk⟩ (Nat.le_of_ble_eq_true rfl) (Nat.le_of_ble_eq_true rfl)
    replace hk := t_negT hk h10
    by_cases h11 : x1.toInt = 44
    · replace hk := t_posT hk h11
      refine mj_tableIn 388 dX2_isSign_1 hh1 hh2 (by rw [h11]; rfl) (by decide) ?_
      refine mj_iconst (v := 1) dX2_isSign_388 (by decide) ?_
      exact t_iret dX2_isSign_389 rfl (by decide) ⟨rfl, _, rfl, hk⟩ (Nat.le_of_ble_eq_true rfl) (Nat.le_of_ble_eq_true rfl)
    replace hk := t_negT hk h11
    by_cases h12 : x1.toInt = 45
    · replace hk := t_posT hk h12
      refine mj_tableIn 388 dX2_isSign_1 hh1 hh2 (by rw [h12]; rfl) (by decide) ?_
      refine mj_iconst (v := 1) dX2_isSign_388 (by decide) ?_
      exact t_iret dX2_isSign_389 rfl (by decide) ⟨rfl, _, rfl, hk⟩ (Nat.le_of_ble_eq_true rfl) (Nat.le_of_ble_eq_true rfl)
    replace hk := t_negT hk h12
    by_cases h13 : x1.toInt = 46
    · replace hk := t_posT hk h13
      refine mj_tableIn 388 dX2_isSign_1 hh1 hh2 (by rw [h13]; rfl) (by decide) ?_
      refine mj_iconst (v := 1) dX2_isSign_388 (by decide) ?_
      exact t_iret dX2_isSign_389 rfl (by decide) ⟨rfl, _, rfl, hk⟩ (Nat.le_of_ble_eq_true rfl) (Nat.le_of_ble_eq_true rfl)
    replace hk := t_negT hk h13
    by_cases h14 : x1.toInt = 47
    · replace hk := t_posT hk h14
      refine mj_tableIn 388 dX2_isSign_1 hh1 hh2 (by rw [h14]; rfl) (by decide) ?_
      refine mj_iconst (v := 1) dX2_isSign_388 (by decide) ?_
      exact t_iret dX2_isSign_389 rfl (by decide) ⟨rfl, _, rfl, hk⟩ (Nat.le_of_ble_eq_true rfl) (Nat.le_of_ble_eq_true rfl)
    replace hk := t_negT hk h14
    by_cases h15 : x1.toInt = 48
    · replace hk := t_posT hk h15
      refine mj_tableIn 390 dX2_isSign_1 hh1 hh2 (by rw [h15]; rfl) (by decide) ?_
      refine mj_iconst (v := 0) dX2_isSign_390 (by decide) ?_
      exact t_iret dX2_isSign_391 rfl (by decide) ⟨rfl, _, rfl, hk⟩ (Nat.le_of_ble_eq_true rfl) (Nat.le_of_ble_eq_true rfl)
    replace hk := t_negT hk h15
    by_cases h16 : x1.toInt = 49
    · replace hk := t_posT hk h16
      refine mj_tableIn 390 dX2_isSign_1 hh1 hh2 (by rw [h16]; rfl) (by decide) ?_
      refine mj_iconst (v := 0) dX2_isSign_390 (by decide) ?_
      exact t_iret dX2_isSign_391 rfl (by decide) ⟨rfl, _, rfl, hk⟩ (Nat.le_of_ble_eq_true rfl) (Nat.le_of_ble_eq_true rfl)
    replace hk := t_negT hk h16
    by_cases h17 : x1.toInt = 50
    · replace hk := t_posT hk h17
      refine mj_tableIn 390 dX2_isSign_1 hh1 hh2 (by rw [h17]; rfl) (by decide) ?_
      refine mj_iconst (v := 0) dX2_isSign_390 (by decide) ?_
      exact t_iret dX2_isSign_391 rfl (by decide) ⟨rfl, _, rfl, hk⟩ (Nat.le_of_ble_eq_true rfl) (Nat.le_of_ble_eq_true rfl)
    replace hk := t_negT hk h17
    by_cases h18 : x1.toInt = 51
    · replace hk := t_posT hk h18
      refine mj_tableIn 390 dX2_isSign_1 hh1 hh2 (by rw [h18]; rfl) (by decide) ?_
      refine mj_iconst (v := 0) dX2_isSign_390 (by decide) ?_
      exact t_iret dX2_isSign_391 rfl (by decide) ⟨rfl, _, rfl, hk⟩ (Nat.le_of_ble_eq_true rfl) (Nat.le_of_ble_eq_true rfl)
    replace hk := t_negT hk h18
    by_cases h19 : x1.toInt = 52
    · replace hk := t_posT hk h19
      refine mj_tableIn 390 dX2_isSign_1 hh1 hh2 (by rw [h19]; rfl) (by decide) ?_
      refine mj_iconst (v := 0) dX2_isSign_390 (by decide) ?_
      exact t_iret dX2_isSign_391 rfl (by decide) ⟨rfl, _, rfl, hk⟩ (Nat.le_of_ble_eq_true rfl) (Nat.le_of_ble_eq_true rfl)
    replace hk := t_negT hk h19
    by_cases h20 : x1.toInt = 53
    · replace hk := t_posT hk h20
      refine mj_tableIn 390 dX2_isSign_1 hh1 hh2 (by rw [h20]; rfl) (by decide) ?_
      refine mj_iconst (v := 0) dX2_isSign_390 (by decide) ?_
      exact t_iret dX2_isSign_391 rfl (by decide) ⟨rfl, _, rfl, hk⟩ (Nat.le_of_ble_eq_true rfl) (Nat.le_of_ble_eq_true rfl)
    replace hk := t_negT hk h20
    by_cases h21 : x1.toInt = 54
    · replace hk := t_posT hk h21
      refine mj_tableIn 390 dX2_isSign_1 hh1 hh2 (by rw [h21]; rfl) (by decide) ?_
      refine mj_iconst (v := 0) dX2_isSign_390 (by decide) ?_
      exact t_iret dX2_isSign_391 rfl (by decide) ⟨rfl, _, rfl, hk⟩ (Nat.le_of_ble_eq_true rfl) (Nat.le_of_ble_eq_true rfl)
    replace hk := t_negT hk h21
    by_cases h22 : x1.toInt = 55
    · replace hk := t_posT hk h22
      refine mj_tableIn 390 dX2_isSign_1 hh1 hh2 (by rw [h22]; rfl) (by decide) ?_
      refine mj_iconst (v := 0) dX2_isSign_390 (by decide) ?_
      exact t_iret dX2_isSign_391 rfl (by decide) ⟨rfl, _, rfl, hk⟩ (Nat.le_of_ble_eq_true rfl) (Nat.le_of_ble_eq_true rfl)
    replace hk := t_negT hk h22
    by_cases h23 : x1.toInt = 56
    · replace hk := t_posT hk h23
      refine mj_tableIn 390 dX2_isSign_1 hh1 hh2 (by rw [h23]; rfl) (by decide) ?_
      refine mj_iconst (v := 0) dX2_isSign_390 (by decide) ?_
      exact t_iret dX2_isSign_391 rfl (by decide) ⟨rfl, _, rfl, hk⟩ (Nat.le_of_ble_eq_true rfl) (Nat.le_of_ble_eq_true rfl)
    replace hk := t_negT hk h23
    by_cases h24 : x1.toInt = 57
    · replace hk := t_posT hk h24
      refine mj_tableIn 390 dX2_isSign_1 hh1 hh2 (by rw [h24]; rfl) (by decide) ?_
      refine mj_iconst (v := 0) dX2_isSign_390 (by decide) ?_
      exact t_iret dX2_isSign_391 rfl (by decide) ⟨rfl, _, rfl, hk⟩ (Nat.le_of_ble_eq_true rfl) (Nat.le_of_ble_eq_true rfl)
    replace hk := t_negT hk h24
    by_cases h25 : x1.toInt = 58
    · replace hk := t_posT hk h25
      refine mj_tableIn 388 dX2_isSign_1 hh1 hh2 (by rw [h25]; rfl) (by decide) ?_
      refine mj_iconst (v := 1) dX2_isSign_388 (by decide) ?_
      exact t_iret dX2_isSign_389 rfl (by decide) ⟨rfl, _, rfl, hk⟩ (Nat.le_of_ble_eq_true rfl) (Nat.le_of_ble_eq_true rfl)
    replace hk := t_negT hk h25
    by_cases h26 : x1.toInt = 59
    · replace hk := t_posT hk h26
      refine mj_tableIn 388 dX2_isSign_1 hh1 hh2 (by rw [h26]; rfl) (by decide) ?_
      refine mj_iconst (v := 1) dX2_isSign_388 (by decide) ?_
      exact t_iret dX2_isSign_389 rfl (by decide) ⟨rfl, _, rfl, hk⟩ (Nat.le_of_ble_eq_true rfl) (Nat.le_of_ble_eq_true rfl)
    replace hk := t_negT hk h26
    by_cases h27 : x1.toInt = 60
    · replace hk := t_posT hk h27
      refine mj_tableIn 388 dX2_isSign_1 hh1 hh2 (by rw [h27]; rfl) (by decide) ?_
      refine mj_iconst (v := 1) dX2_isSign_388 (by decide) ?_
      exact t_iret dX2_isSign_389 rfl (by decide) ⟨rfl, _, rfl, hk⟩ (Nat.le_of_ble_eq_true rfl) (Nat.le_of_ble_eq_true rfl)
    replace hk := t_negT hk h27
    by_cases h28 : x1.toInt = 61
    · replace hk := t_posT hk h28
      refine mj_tableIn 388 dX2_isSign_1 hh1 hh2 (by rw [h28]; rfl) (by decide) ?_
      refine mj_iconst (v := 1) dX2_isSign_388 (by decide) ?_
      exact t_iret dX2_isSign_389 rfl (by decide) ⟨rfl, _, rfl, hk⟩ (Nat.le_of_ble_eq_true rfl) (Nat.le_of_ble_eq_true rfl)
    replace hk := t_negT hk h28
    by_cases h29 : x1.toInt = 62
    · replace hk := t_posT hk h29
      refine mj_tableIn 388 dX2_isSign_1 hh1 hh2 (by rw [h29]; rfl) (by decide) ?_
      refine mj_iconst (v := 1) dX2_isSign_388 (by decide) ?_
      exact t_iret dX2_isSign_389 rfl (by decide) ⟨rfl, _, rfl, hk⟩ (Nat.le_of_ble_eq_true rfl) (Nat.le_of_ble_eq_true rfl)
    replace hk := t_negT hk h29
    by_cases h30 : x1.toInt = 63
    · replace hk := t_posT hk h30
      refine mj_tableIn 388 dX2_isSign_1 hh1 hh2 (by rw [h30]; rfl) (by decide) ?_
      refine mj_iconst (v := 1) dX2_isSign_388 (by decide) ?_
      exact t_iret dX2_isSign_389 rfl (by decide) ⟨rfl, _, rfl, hk⟩ (Nat.le_of_ble_eq_true rfl) (Nat.le_of_ble_eq_true rfl)
    replace hk := t_negT hk h30
    by_cases h31 : x1.toInt = 64
    · replace hk := t_posT hk h31
      refine mj_tableIn 388 dX2_isSign_1 hh1 hh2 (by rw [h31]; rfl) (by decide) ?_
      refine mj_iconst (v := 1) dX2_isSign_388 (by decide) ?_
      exact t_iret dX2_isSign_389 rfl (by decide) ⟨rfl, _, rfl, hk⟩ (Nat.le_of_ble_eq_true rfl) (Nat.le_of_ble_eq_true rfl)
    replace hk := t_negT hk h31
    by_cases h32 : x1.toInt = 65
    · replace hk := t_posT hk h32
      refine mj_tableIn 390 dX2_isSign_1 hh1 hh2 (by rw [h32]; rfl) (by decide) ?_
      refine mj_iconst (v := 0) dX2_isSign_390 (by decide) ?_
      exact t_iret dX2_isSign_391 rfl (by decide) ⟨rfl, _, rfl, hk⟩ (Nat.le_of_ble_eq_true rfl) (Nat.le_of_ble_eq_true rfl)
    replace hk := t_negT hk h32
    by_cases h33 : x1.toInt = 66
    · replace hk := t_posT hk h33
      refine mj_tableIn 390 dX2_isSign_1 hh1 hh2 (by rw [h33]; rfl) (by decide) ?_
      refine mj_iconst (v := 0) dX2_isSign_390 (by decide) ?_
      exact t_iret dX2_isSign_391 rfl (by decide) ⟨rfl, _, rfl, hk⟩ (Nat.le_of_ble_eq_true rfl) (Nat.le_of_ble_eq_true rfl)
    replace hk := t_negT hk h33
    by_cases h34 : x1.toInt = 67
    · replace hk := t_posT hk h34
      refine mj_tableIn 390 dX2_isSign_1 hh1 hh2 (by rw [h34]; rfl) (by decide) ?_
      refine mj_iconst (v := 0) dX2_isSign_390 (by decide) ?_
      exact t_iret dX2_isSign_391 rfl (by decide) ⟨rfl, _, rfl, hk⟩ (Nat.le_of_ble_eq_true rfl) (Nat.le_of_ble_eq_true rfl)
    replace hk := t_negT hk h34
    by_cases h35 : x1.toInt = 68
    · replace hk := t_posT hk h35
      refine mj_tableIn 390 dX2_isSign_1 hh1 hh2 (by rw [h35]; rfl) (by decide) ?_
      refine mj_iconst (v := 0) dX2_isSign_390 (by decide) ?_
      exact t_iret dX2_isSign_391 rfl (by decide) ⟨rfl, _, rfl, hk⟩ (Nat.le_of_ble_eq_true rfl) (Nat.le_of_ble_eq_true rfl)
    replace hk := t_negT hk h35
    by_cases h36 : x1.toInt = 69
    · replace hk := t_posT hk h36
      refine mj_tableIn 390 dX2_isSign_1 hh1 hh2 (by rw [h36]; rfl) (by decide) ?_
      refine mj_iconst (v := 0) dX2_isSign_390 (by decide) ?_
      exact t_iret dX2_isSign_391 rfl (by decide) ⟨rfl, _, rfl, hk⟩ (Nat.le_of_ble_eq_true rfl) (Nat.le_of_ble_eq_true rfl)
    replace hk := t_negT hk h36
    by_cases h37 : x1.toInt = 70
    · replace hk := t_posT hk h37
      refine mj_tableIn 390 dX2_isSign_1 hh1 hh2 (by rw [h37]; rfl) (by decide) ?_
      refine mj_iconst (v := 0) dX2_isSign_390 (by decide) ?_
      exact t_iret dX2_isSign_391 rfl (by decide) ⟨rfl, _, rfl, hk⟩ (Nat.le_of_ble_eq_true rfl) (Nat.le_of_ble_eq_true rfl)
    replace hk := t_negT hk h37
    by_cases h38 : x1.toInt = 71
    · replace hk := t_posT hk h38
      refine mj_tableIn 390 dX2_isSign_1 hh1 hh2 (by rw [h38]; rfl) (by decide) ?_
      refine mj_iconst (v := 0) dX2_isSign_390 (by decide) ?_
      exact t_iret dX2_isSign_391 rfl (by decide) ⟨rfl, _, rfl, hk⟩ (Nat.le_of_ble_eq_true rfl) (Nat.le_of_ble_eq_true rfl)
    replace hk := t_negT hk h38
    by_cases h39 : x1.toInt = 72
    · replace hk := t_posT hk h39
      refine mj_tableIn 390 dX2_isSign_1 hh1 hh2 (by rw [h39]; rfl) (by decide) ?_
      refine mj_iconst (v := 0) dX2_isSign_390 (by decide) ?_
      exact t_iret dX2_isSign_391 rfl (by decide) ⟨rfl, _, rfl, hk⟩ (Nat.le_of_ble_eq_true rfl) (Nat.le_of_ble_eq_true rfl)
    replace hk := t_negT hk h39
    by_cases h40 : x1.toInt = 73
    · replace hk := t_posT hk h40
      refine mj_tableIn 390 dX2_isSign_1 hh1 hh2 (by rw [h40]; rfl) (by decide) ?_
      refine mj_iconst (v := 0) dX2_isSign_390 (by decide) ?_
      exact t_iret dX2_isSign_391 rfl (by decide) ⟨rfl, _, rfl, hk⟩ (Nat.le_of_ble_eq_true rfl) (Nat.le_of_ble_eq_true rfl)
    replace hk := t_negT hk h40
    by_cases h41 : x1.toInt = 74
    · replace hk := t_posT hk h41
      refine mj_tableIn 390 dX2_isSign_1 hh1 hh2 (by rw [h41]; rfl) (by decide) ?_
      refine mj_iconst (v := 0) dX2_isSign_390 (by decide) ?_
      exact t_iret dX2_isSign_391 rfl (by decide) ⟨rfl, _, rfl, hk⟩ (Nat.le_of_ble_eq_true rfl) (Nat.le_of_ble_eq_true rfl)
    replace hk := t_negT hk h41
    by_cases h42 : x1.toInt = 75
    · replace hk := t_posT hk h42
      refine mj_tableIn 390 dX2_isSign_1 hh1 hh2 (by rw [h42]; rfl) (by decide) ?_
      refine mj_iconst (v := 0) dX2_isSign_390 (by decide) ?_
      exact t_iret dX2_isSign_391 rfl (by decide) ⟨rfl, _, rfl, hk⟩ (Nat.le_of_ble_eq_true rfl) (Nat.le_of_ble_eq_true rfl)
    replace hk := t_negT hk h42
    by_cases h43 : x1.toInt = 76
    · replace hk := t_posT hk h43
      refine mj_tableIn 390 dX2_isSign_1 hh1 hh2 (by rw [h43]; rfl) (by decide) ?_
      refine mj_iconst (v := 0) dX2_isSign_390 (by decide) ?_
      exact t_iret dX2_isSign_391 rfl (by decide) ⟨rfl, _, rfl, hk⟩ (Nat.le_of_ble_eq_true rfl) (Nat.le_of_ble_eq_true rfl)
    replace hk := t_negT hk h43
    by_cases h44 : x1.toInt = 77
    · replace hk := t_posT hk h44
      refine mj_tableIn 390 dX2_isSign_1 hh1 hh2 (by rw [h44]; rfl) (by decide) ?_
      refine mj_iconst (v := 0) dX2_isSign_390 (by decide) ?_
      exact t_iret dX2_isSign_391 rfl (by decide) ⟨rfl, _, rfl, hk⟩ (Nat.le_of_ble_eq_true rfl) (Nat.le_of_ble_eq_true rfl)
    replace hk := t_negT hk h44
    by_cases h45 : x1.toInt = 78
    · replace hk := t_posT hk h45
      refine mj_tableIn 390 dX2_isSign_1 hh1 hh2 (by rw [h45]; rfl) (by decide) ?_
      refine mj_iconst (v := 0) dX2_isSign_390 (by decide) ?_
      exact t_iret dX2_isSign_391 rfl (by decide) ⟨rfl, _, rfl, hk⟩ (Nat.le_of_ble_eq_true rfl) (Nat.le_of_ble_eq_true rfl)
    replace hk := t_negT hk h45
    by_cases h46 : x1.toInt = 79
    · replace hk := t_posT hk h46
      refine mj_tableIn 390 dX2_isSign_1 hh1 hh2 (by rw [h46]; rfl) (by decide) ?_
      refine mj_iconst (v := 0) dX2_isSign_390 (by decide) ?_
      exact t_iret dX2_isSign_391 rfl (by decide) ⟨rfl, _, rfl, hk⟩ (Nat.le_of_ble_eq_true rfl) (Nat.le_of_ble_eq_true rfl)
    replace hk := t_negT hk h46
    by_cases h47 : x1.toInt = 80
    · replace hk := t_posT hk h47
      refine mj_tableIn 390 dX2_isSign_1 hh1 hh2 (by rw [h47]; rfl) (by decide) ?_
      refine mj_iconst (v := 0) dX2_isSign_390 (by decide) ?_
      exact t_iret dX2_isSign_391 rfl (by decide) ⟨rfl, _, rfl, hk⟩ (Nat.le_of_ble_eq_true rfl) (Nat.le_of_ble_eq_true rfl)
    replace hk := t_negT hk h47
    by_cases h48 : x1.toInt = 81
    · replace hk := t_posT hk h48
      refine mj_tableIn 390 dX2_isSign_1 hh1 hh2 (by rw [h48]; rfl) (by decide) ?_
      refine mj_iconst (v := 0) dX2_isSign_390 (by decide) ?_
      exact t_iret dX2_isSign_391 rfl (by decide) ⟨rfl, _, rfl, hk⟩ (Nat.le_of_ble_eq_true rfl) (Nat.le_of_ble_eq_true rfl)
    replace hk := t_negT hk h48
    by_cases h49 : x1.toInt = 82
    · replace hk := t_posT hk h49
      refine mj_tableIn 390 dX2_isSign_1 hh1 hh2 (by rw [h49]; rfl) (by decide) ?_
      refine mj_iconst (v := 0) dX2_isSign_390 (by decide) ?_
      exact t_iret dX2_isSign_391 rfl (by decide) ⟨rfl, _, rfl, hk⟩ (Nat.le_of_ble_eq_true rfl) (Nat.le_of_ble_eq_true rfl)
    replace hk := t_negT hk h49
    by_cases h50 : x1.toInt = 83
    · replace hk := t_posT hk h50
      refine mj_tableIn 390 dX2_isSign_1 hh1 hh2 (by rw [h50]; rfl) (by decide) ?_
      refine mj_iconst (v := 0) dX2_isSign_390 (by decide) ?_
      exact t_iret dX2_isSign_391 rfl (by decide) ⟨rfl, _, rfl, hk⟩ (Nat.le_of_ble_eq_true rfl) (Nat.le_of_ble_eq_true rfl)
    replace hk := t_negT hk h50
    by_cases h51 : x1.toInt = 84
    · replace hk := t_posT hk h51
      refine mj_tableIn 390 dX2_isSign_1 hh1 hh2 (by rw [h51]; rfl) (by decide) ?_
      refine mj_iconst (v := 0) dX2_isSign_390 (by decide) ?_
      exact t_iret dX2_isSign_391 rfl (by decide) ⟨rfl, _, rfl, hk⟩ (Nat.le_of_ble_eq_true rfl) (Nat.le_of_ble_eq_true rfl)
    replace hk := t_negT hk h51
    by_cases h52 : x1.toInt = 85
    · replace hk := t_posT hk h52
      refine mj_tableIn 390 dX2_isSign_1 hh1 hh2 (by rw [h52]; rfl) (by decide) ?_
      refine mj_iconst (v := 0) dX2_isSign_390 (by decide) ?_
      exact t_iret dX2_isSign_391 rfl (by decide) ⟨rfl, _, rfl, hk⟩ (Nat.le_of_ble_eq_true rfl) (Nat.le_of_ble_eq_true rfl)
    replace hk := t_negT hk h52
    by_cases h53 : x1.toInt = 86
    · replace hk := t_posT hk h53
      refine mj_tableIn 390 dX2_isSign_1 hh1 hh2 (by rw [h53]; rfl) (by decide) ?_
      refine mj_iconst (v := 0) dX2_isSign_390 (by decide) ?_
      exact t_iret dX2_isSign_391 rfl (by decide) ⟨rfl, _, rfl, hk⟩ (Nat.le_of_ble_eq_true rfl) (Nat.le_of_ble_eq_true rfl)
    replace hk := t_negT hk h53
    by_cases h54 : x1.toInt = 87
    · replace hk := t_posT hk h54
      refine mj_tableIn 390 dX2_isSign_1 hh1 hh2 (by rw [h54]; rfl) (by decide) ?_
      refine mj_iconst (v := 0) dX2_isSign_390 (by decide) ?_
      exact t_iret dX2_isSign_391 rfl (by decide) ⟨rfl, _, rfl, hk⟩ (Nat.le_of_ble_eq_true rfl) (Nat.le_of_ble_eq_true rfl)
    replace hk := t_negT hk h54
    by_cases h55 : x1.toInt = 88
    · replace hk := t_posT hk h55
      refine mj_tableIn 390 dX2_isSign_1 hh1 hh2 (by rw [h55]; rfl) (by decide) ?_
      refine mj_iconst (v := 0) dX2_isSign_390 (by decide) ?_
      exact t_iret dX2_isSign_391 rfl (by decide) ⟨rfl, _, rfl, hk⟩ (Nat.le_of_ble_eq_true rfl) (Nat.le_of_ble_eq_true rfl)
    replace hk := t_negT hk h55
    by_cases h56 : x1.toInt = 89
    · replace hk := t_posT hk h56
      refine mj_tableIn 390 dX2_isSign_1 hh1 hh2 (by rw [h56]; rfl) (by decide) ?_
      refine mj_iconst (v := 0) dX2_isSign_390 (by decide) ?_
      exact t_iret dX2_isSign_391 rfl (by decide) ⟨rfl, _, rfl, hk⟩ (Nat.le_of_ble_eq_true rfl) (Nat.le_of_ble_eq_true rfl)
    replace hk := t_negT hk h56
    by_cases h57 : x1.toInt = 90
    · replace hk := t_posT hk h57
      refine mj_tableIn 390 dX2_isSign_1 hh1 hh2 (by rw [h57]; rfl) (by decide) ?_
      refine mj_iconst (v := 0) dX2_isSign_390 (by decide) ?_
      exact t_iret dX2_isSign_391 rfl (by decide) ⟨rfl, _, rfl, hk⟩ (Nat.le_of_ble_eq_true rfl) (Nat.le_of_ble_eq_true rfl)
    replace hk := t_negT hk h57
    by_cases h58 : x1.toInt = 91
    · replace hk := t_posT hk h58
      refine mj_tableIn 388 dX2_isSign_1 hh1 hh2 (by rw [h58]; rfl) (by decide) ?_
      refine mj_iconst (v := 1) dX2_isSign_388 (by decide) ?_
      exact t_iret dX2_isSign_389 rfl (by decide) ⟨rfl, _, rfl, hk⟩ (Nat.le_of_ble_eq_true rfl) (Nat.le_of_ble_eq_true rfl)
    replace hk := t_negT hk h58
    by_cases h59 : x1.toInt = 92
    · replace hk := t_posT hk h59
      refine mj_tableIn 390 dX2_isSign_1 hh1 hh2 (by rw [h59]; rfl) (by decide) ?_
      refine mj_iconst (v := 0) dX2_isSign_390 (by decide) ?_
      exact t_iret dX2_isSign_391 rfl (by decide) ⟨rfl, _, rfl, hk⟩ (Nat.le_of_ble_eq_true rfl) (Nat.le_of_ble_eq_true rfl)
    replace hk := t_negT hk h59
    by_cases h60 : x1.toInt = 93
    · replace hk := t_posT hk h60
      refine mj_tableIn 388 dX2_isSign_1 hh1 hh2 (by rw [h60]; rfl) (by decide) ?_
      refine mj_iconst (v := 1) dX2_isSign_388 (by decide) ?_
      exact t_iret dX2_isSign_389 rfl (by decide) ⟨rfl, _, rfl, hk⟩ (Nat.le_of_ble_eq_true rfl) (Nat.le_of_ble_eq_true rfl)
    replace hk := t_negT hk h60
    by_cases h61 : x1.toInt = 94
    · replace hk := t_posT hk h61
      refine mj_tableIn 390 dX2_isSign_1 hh1 hh2 (by rw [h61]; rfl) (by decide) ?_
      refine mj_iconst (v := 0) dX2_isSign_390 (by decide) ?_
      exact t_iret dX2_isSign_391 rfl (by decide) ⟨rfl, _, rfl, hk⟩ (Nat.le_of_ble_eq_true rfl) (Nat.le_of_ble_eq_true rfl)
    replace hk := t_negT hk h61
    by_cases h62 : x1.toInt = 95
    · replace hk := t_posT hk h62
      refine mj_tableIn 390 dX2_isSign_1 hh1 hh2 (by rw [h62]; rfl) (by decide) ?_
      refine mj_iconst (v := 0) dX2_isSign_390 (by decide) ?_
      exact t_iret dX2_isSign_391 rfl (by decide) ⟨rfl, _, rfl, hk⟩ (Nat.le_of_ble_eq_true rfl) (Nat.le_of_ble_eq_true rfl)
    replace hk := t_negT hk h62
    by_cases h63 : x1.toInt = 96
    · replace hk := t_posT hk h63
      refine mj_tableIn 390 dX2_isSign_1 hh1 hh2 (by rw [h63]; rfl) (by decide) ?_
      refine mj_iconst (v := 0) dX2_isSign_390 (by decide) ?_
      exact t_iret dX2_isSign_391 rfl (by decide) ⟨rfl, _, rfl, hk⟩ (Nat.le_of_ble_eq_true rfl) (Nat.le_of_ble_eq_true rfl)
    replace hk := t_negT hk h63
    by_cases h64 : x1.toInt = 97
    · replace hk := t_posT hk h64
      refine mj_tableIn 390 dX2_isSign_1 hh1 hh2 (by rw [h64]; rfl) (by decide) ?_
      refine mj_iconst (v := 0) dX2_isSign_390 (by decide) ?_
      exact t_iret dX2_isSign_391 rfl (by decide) ⟨rfl, _, rfl, hk⟩ (Nat.le_of_ble_eq_true rfl) (Nat.le_of_ble_eq_true rfl)
    replace hk := t_negT hk h64
    by_cases h65 : x1.toInt = 98
    · replace hk := t_posT hk h65
      refine mj_tableIn 390 dX2_isSign_1 hh1 hh2 (by rw [h65]; rfl) (by decide) ?_
      refine mj_iconst (v := 0) dX2_isSign_390 (by decide) ?_
      exact t_iret dX2_isSign_391 rfl (by decide) ⟨rfl, _, rfl, hk⟩ (Nat.le_of_ble_eq_true rfl) (Nat.le_of_ble_eq_true rfl)
    replace hk := t_negT hk h65
    by_cases h66 : x1.toInt = 99
    · replace hk := t_posT hk h66
      refine mj_tableIn 390 dX2_isSign_1 hh1 hh2 (by rw [h66]; rfl) (by decide) ?_
      refine mj_iconst (v := 0) dX2_isSign_390 (by decide) ?_
      exact t_iret dX2_isSign_391 rfl (by decide) ⟨rfl, _, rfl, hk⟩ (Nat.le_of_ble_eq_true rfl) (Nat.le_of_ble_eq_true rfl)
    replace hk := t_negT hk h66
    by_cases h67 : x1.toInt = 100
    · replace hk := t_posT hk h67
      refine mj_tableIn 390 dX2_isSign_1 hh1 hh2 (by rw [h67]; rfl) (by decide) ?_
      refine mj_iconst (v := 0) dX2_isSign_390 (by decide) ?_
      exact t_iret dX2_isSign_391 rfl (by decide) ⟨rfl, _, rfl, hk⟩ (Nat.le_of_ble_eq_true rfl) (Nat.le_of_ble_eq_true rfl)
    replace hk := t_negT hk h67
    by_cases h68 : x1.toInt = 101
    · replace hk := t_posT hk h68
      refine mj_tableIn 390 dX2_isSign_1 hh1 hh2 (by rw [h68]; rfl) (by decide) ?_
      refine mj_iconst (v := 0) dX2_isSign_390 (by decide) ?_
      exact t_iret dX2_isSign_391 rfl (by decide) ⟨rfl, _, rfl, hk⟩ (Nat.le_of_ble_eq_true rfl) (Nat.le_of_ble_eq_true rfl)
    replace hk := t_negT hk h68
    by_cases h69 : x1.toInt = 102
    · replace hk := t_posT hk h69
      refine mj_tableIn 390 dX2_isSign_1 hh1 hh2 (by rw [h69]; rfl) (by decide) ?_
      refine mj_iconst (v := 0) dX2_isSign_390 (by decide) ?_
      exact t_iret dX2_isSign_391 rfl (by decide) ⟨rfl, _, rfl, hk⟩ (Nat.le_of_ble_eq_true rfl) (Nat.le_of_ble_eq_true rfl)
    replace hk := t_negT hk h69
    by_cases h70 : x1.toInt = 103
    · replace hk := t_posT hk h70
      refine mj_tableIn 390 dX2_isSign_1 hh1 hh2 (by rw [h70]; rfl) (by decide) ?_
      refine mj_iconst (v := 0) dX2_isSign_390 (by decide) ?_
      exact t_iret dX2_isSign_391 rfl (by decide) ⟨rfl, _, rfl, hk⟩ (Nat.le_of_ble_eq_true rfl) (Nat.le_of_ble_eq_true rfl)
    replace hk := t_negT hk h70
    by_cases h71 : x1.toInt = 104
    · replace hk := t_posT hk h71
      refine mj_tableIn 390 dX2_isSign_1 hh1 hh2 (by rw [h71]; rfl) (by decide) ?_
      refine mj_iconst (v := 0) dX2_isSign_390 (by decide) ?_
      exact t_iret dX2_isSign_391 rfl (by decide) ⟨rfl, _, rfl, hk⟩ (Nat.le_of_ble_eq_true rfl) (Nat.le_of_ble_eq_true rfl)
    replace hk := t_negT hk h71
    by_cases h72 : x1.toInt = 105
    · replace hk := t_posT hk h72
      refine mj_tableIn 390 dX2_isSign_1 hh1 hh2 (by rw [h72]; rfl) (by decide) ?_
      refine mj_iconst (v := 0) dX2_isSign_390 (by decide) ?_
      exact t_iret dX2_isSign_391 rfl (by decide) ⟨rfl, _, rfl, hk⟩ (Nat.le_of_ble_eq_true rfl) (Nat.le_of_ble_eq_true rfl)
    replace hk := t_negT hk h72
    by_cases h73 : x1.toInt = 106
    · replace hk := t_posT hk h73
      refine mj_tableIn 390 dX2_isSign_1 hh1 hh2 (by rw [h73]; rfl) (by decide) ?_
      refine mj_iconst (v := 0) dX2_isSign_390 (by decide) ?_
      exact t_iret dX2_isSign_391 rfl (by decide) ⟨rfl, _, rfl, hk⟩ (Nat.le_of_ble_eq_true rfl) (Nat.le_of_ble_eq_true rfl)
    replace hk := t_negT hk h73
    by_cases h74 : x1.toInt = 107
    · replace hk := t_posT hk h74
      refine mj_tableIn 390 dX2_isSign_1 hh1 hh2 (by rw [h74]; rfl) (by decide) ?_
      refine mj_iconst (v := 0) dX2_isSign_390 (by decide) ?_
      exact t_iret dX2_isSign_391 rfl (by decide) ⟨rfl, _, rfl, hk⟩ (Nat.le_of_ble_eq_true rfl) (Nat.le_of_ble_eq_true rfl)
    replace hk := t_negT hk h74
    by_cases h75 : x1.toInt = 108
    · replace hk := t_posT hk h75
      refine mj_tableIn 390 dX2_isSign_1 hh1 hh2 (by rw [h75]; rfl) (by decide) ?_
      refine mj_iconst (v := 0) dX2_isSign_390 (by decide) ?_
      exact t_iret dX2_isSign_391 rfl (by decide) ⟨rfl, _, rfl, hk⟩ (Nat.le_of_ble_eq_true rfl) (Nat.le_of_ble_eq_true rfl)
    replace hk := t_negT hk h75
    by_cases h76 : x1.toInt = 109
    · replace hk := t_posT hk h76
      refine mj_tableIn 390 dX2_isSign_1 hh1 hh2 (by rw [h76]; rfl) (by decide) ?_
      refine mj_iconst (v := 0) dX2_isSign_390 (by decide) ?_
      exact t_iret dX2_isSign_391 rfl (by decide) ⟨rfl, _, rfl, hk⟩ (Nat.le_of_ble_eq_true rfl) (Nat.le_of_ble_eq_true rfl)
    replace hk := t_negT hk h76
    by_cases h77 : x1.toInt = 110
    · replace hk := t_posT hk h77
      refine mj_tableIn 390 dX2_isSign_1 hh1 hh2 (by rw [h77]; rfl) (by decide) ?_
      refine mj_iconst (v := 0) dX2_isSign_390 (by decide) ?_
      exact t_iret dX2_isSign_391 rfl (by decide) ⟨rfl, _, rfl, hk⟩ (Nat.le_of_ble_eq_true rfl) (Nat.le_of_ble_eq_true rfl)
    replace hk := t_negT hk h77
    by_cases h78 : x1.toInt = 111
    · replace hk := t_posT hk h78
      refine mj_tableIn 390 dX2_isSign_1 hh1 hh2 (by rw [h78]; rfl) (by decide) ?_
      refine mj_iconst (v := 0) dX2_isSign_390 (by decide) ?_
      exact t_iret dX2_isSign_391 rfl (by decide) ⟨rfl, _, rfl, hk⟩ (Nat.le_of_ble_eq_true rfl) (Nat.le_of_ble_eq_true rfl)
    replace hk := t_negT hk h78
    by_cases h79 : x1.toInt = 112
    · replace hk := t_posT hk h79
      refine mj_tableIn 390 dX2_isSign_1 hh1 hh2 (by rw [h79]; rfl) (by decide) ?_
      refine mj_iconst (v := 0) dX2_isSign_390 (by decide) ?_
      exact t_iret dX2_isSign_391 rfl (by decide) ⟨rfl, _, rfl, hk⟩ (Nat.le_of_ble_eq_true rfl) (Nat.le_of_ble_eq_true rfl)
    replace hk := t_negT hk h79
    by_cases h80 : x1.toInt = 113
    · replace hk := t_posT hk h80
      refine mj_tableIn 390 dX2_isSign_1 hh1 hh2 (by rw [h80]; rfl) (by decide) ?_
      refine mj_iconst (v := 0) dX2_isSign_390 (by decide) ?_
      exact t_iret dX2_isSign_391 rfl (by decide) ⟨rfl, _, rfl, hk⟩ (Nat.le_of_ble_eq_true rfl) (Nat.le_of_ble_eq_true rfl)
    replace hk := t_negT hk h80
    by_cases h81 : x1.toInt = 114
    · replace hk := t_posT hk h81
      refine mj_tableIn 390 dX2_isSign_1 hh1 hh2 (by rw [h81]; rfl) (by decide) ?_
      refine mj_iconst (v := 0) dX2_isSign_390 (by decide) ?_
      exact t_iret dX2_isSign_391 rfl (by decide) ⟨rfl, _, rfl, hk⟩ (Nat.le_of_ble_eq_true rfl) (Nat.le_of_ble_eq_true rfl)
    replace hk := t_negT hk h81
    by_cases h82 : x1.toInt = 115
    · replace hk := t_posT hk h82
      refine mj_tableIn 390 dX2_isSign_1 hh1 hh2 (by rw [h82]; rfl) (by decide) ?_
      refine mj_iconst (v := 0) dX2_isSign_390 (by decide) ?_
      exact t_iret dX2_isSign_391 rfl (by decide) ⟨rfl, _, rfl, hk⟩ (Nat.le_of_ble_eq_true rfl) (Nat.le_of_ble_eq_true rfl)
    replace hk := t_negT hk h82
    by_cases h83 : x1.toInt = 116
    · replace hk := t_posT hk h83
      refine mj_tableIn 390 dX2_isSign_1 hh1 hh2 (by rw [h83]; rfl) (by decide) ?_
      refine mj_iconst (v := 0) dX2_isSign_390 (by decide) ?_
      exact t_iret dX2_isSign_391 rfl (by decide) ⟨rfl, _, rfl, hk⟩ (Nat.le_of_ble_eq_true rfl) (Nat.le_of_ble_eq_true rfl)
    replace hk := t_negT hk h83
    by_cases h84 : x1.toInt = 117
    · replace hk := t_posT hk h84
      refine mj_tableIn 390 dX2_isSign_1 hh1 hh2 (by rw [h84]; rfl) (by decide) ?_
      refine mj_iconst (v := 0) dX2_isSign_390 (by decide) ?_
      exact t_iret dX2_isSign_391 rfl (by decide) ⟨rfl, _, rfl, hk⟩ (Nat.le_of_ble_eq_true rfl) (Nat.le_of_ble_eq_true rfl)
    replace hk := t_negT hk h84
    by_cases h85 : x1.toInt = 118
    · replace hk := t_posT hk h85
      refine mj_tableIn 390 dX2_isSign_1 hh1 hh2 (by rw [h85]; rfl) (by decide) ?_
      refine mj_iconst (v := 0) dX2_isSign_390 (by decide) ?_
      exact t_iret dX2_isSign_391 rfl (by decide) ⟨rfl, _, rfl, hk⟩ (Nat.le_of_ble_eq_true rfl) (Nat.le_of_ble_eq_true rfl)
    replace hk := t_negT hk h85
    by_cases h86 : x1.toInt = 119
    · replace hk := t_posT hk h86
      refine mj_tableIn 390 dX2_isSign_1 hh1 hh2 (by rw [h86]; rfl) (by decide) ?_
      refine mj_iconst (v := 0) dX2_isSign_390 (by decide) ?_
      exact t_iret dX2_isSign_391 rfl (by decide) ⟨rfl, _, rfl, hk⟩ (Nat.le_of_ble_eq_true rfl) (Nat.le_of_ble_eq_true rfl)
    replace hk := t_negT hk h86
    by_cases h87 : x1.toInt = 120
    · replace hk := t_posT hk h87
      refine mj_tableIn 390 dX2_isSign_1 hh1 hh2 (by rw [h87]; rfl) (by decide) ?_
      refine mj_iconst (v := 0) dX2_isSign_390 (by decide) ?_
      exact t_iret dX2_isSign_391 rfl (by decide) ⟨rfl, _, rfl, hk⟩ (Nat.le_of_ble_eq_true rfl) (Nat.le_of_ble_eq_true rfl)
    replace hk := t_negT hk h87
    by_cases h88 : x1.toInt = 121
    · replace hk := t_posT hk h88
      refine mj_tableIn 390 dX2_isSign_1 hh1 hh2 (by rw [h88]; rfl) (by decide) ?_
      refine mj_iconst (v := 0) dX2_isSign_390 (by decide) ?_
      exact t_iret dX2_isSign_391 rfl (by decide) ⟨rfl, _, rfl, hk⟩ (Nat.le_of_ble_eq_true rfl) (Nat.le_of_ble_eq_true rfl)
    replace hk := t_negT hk h88
    by_cases h89 : x1.toInt = 122
    · replace hk := t_posT hk h89
      refine mj_tableIn 390 dX2_isSign_1 hh1 hh2 (by rw [h89]; rfl) (by decide) ?_
      refine mj_iconst (v := 0) dX2_isSign_390 (by decide) ?_
      exact t_iret dX2_isSign_391 rfl (by decide) ⟨rfl, _, rfl, hk⟩ (Nat.le_of_ble_eq_true rfl) (Nat.le_of_ble_eq_true rfl)
    replace hk := t_negT hk h89
    by_cases h90 : x1.toInt = 123
    · replace hk := t_posT hk h90
      refine mj_tableIn 388 dX2_isSign_1 hh1 hh2 (by rw [h90]; rfl) (by decide) ?_
      refine mj_iconst (v := 1) dX2_isSign_388 (by decide) ?_
      exact t_iret dX2_isSign_389 rfl (by decide) ⟨rfl, _, rfl, hk⟩ (Nat.le_of_ble_eq_true rfl) (Nat.le_of_ble_eq_true rfl)
    replace hk := t_negT hk h90
    by_cases h91 : x1.toInt = 124
    · replace hk := t_posT hk h91
      refine mj_tableIn 390 dX2_isSign_1 hh1 hh2 (by rw [h91]; rfl) (by decide) ?_
      refine mj_iconst (v := 0) dX2_isSign_390 (by decide) ?_
      exact t_iret dX2_isSign_391 rfl (by decide) ⟨rfl, _, rfl, hk⟩ (Nat.le_of_ble_eq_true rfl) (Nat.le_of_ble_eq_true rfl)
    replace hk := t_negT hk h91
    have h92 : x1.toInt = 125 := by omega
    refine mj_tableIn 388 dX2_isSign_1 hh1 hh2 (by rw [h92]; rfl) (by decide) ?_
    refine mj_iconst (v := 1) dX2_isSign_388 (by decide) ?_
    exact t_iret dX2_isSign_389 rfl (by decide) ⟨rfl, _, rfl, hk⟩ (Nat.le_of_ble_eq_true rfl) (Nat.le_of_ble_eq_true rfl)

theorem dX2_pairOf_0 : decode cX2_pairOf 0 = .ok (.iload_n 0, 1) := by decide +kernel
theorem dX2_pairOf_1 : decode cX2_pairOf 1 = .ok (.bipush 46, 2) := by decide +kernel
theorem dX2_pairOf_104 : decode cX2_pairOf 104 = .ok (.bipush 11, 2) := by decide +kernel
theorem dX2_pairOf_106 : decode cX2_pairOf 106 = .ok (.ireturn, 1) := by decide +kernel
theorem dX2_pairOf_107 : decode cX2_pairOf 107 = .ok (.bipush 12, 2) := by decide +kernel
theorem dX2_pairOf_109 : decode cX2_pairOf 109 = .ok (.ireturn, 1) := by decide +kernel
theorem dX2_pairOf_110 : decode cX2_pairOf 110 = .ok (.bipush 13, 2) := by decide +kernel
theorem dX2_pairOf_112 : decode cX2_pairOf 112 = .ok (.ireturn, 1) := by decide +kernel
theorem dX2_pairOf_113 : decode cX2_pairOf 113 = .ok (.bipush 14, 2) := by decide +kernel
theorem dX2_pairOf_115 : decode cX2_pairOf 115 = .ok (.ireturn, 1) := by decide +kernel
theorem dX2_pairOf_116 : decode cX2_pairOf 116 = .ok (.bipush 15, 2) := by decide +kernel
theorem dX2_pairOf_118 : decode cX2_pairOf 118 = .ok (.ireturn, 1) := by decide +kernel
theorem dX2_pairOf_119 : decode cX2_pairOf 119 = .ok (.iconst 0, 1) := by decide +kernel
theorem dX2_pairOf_12 : decode cX2_pairOf 12 = .ok (.bipush 10, 2) := by decide +kernel
theorem dX2_pairOf_120 : decode cX2_pairOf 120 = .ok (.ireturn, 1) := by decide +kernel
theorem dX2_pairOf_14 : decode cX2_pairOf 14 = .ok (.ireturn, 1) := by decide +kernel
theorem dX2_pairOf_15 : decode cX2_pairOf 15 = .ok (.iload_n 0, 1) := by decide +kernel
theorem dX2_pairOf_16 : decode cX2_pairOf 16 = .ok (.bipush 38, 2) := by decide +kernel
theorem dX2_pairOf_18 : decode cX2_pairOf 18 = .ok (.if_icmp .ne 12, 3) := by decide +kernel
theorem dX2_pairOf_21 : decode cX2_pairOf 21 = .ok (.iload_n 1, 1) := by decide +kernel
theorem dX2_pairOf_22 : decode cX2_pairOf 22 = .ok (.bipush 38, 2) := by decide +kernel
theorem dX2_pairOf_24 : decode cX2_pairOf 24 = .ok (.if_icmp .ne 6, 3) := by decide +kernel
theorem dX2_pairOf_27 : decode cX2_pairOf 27 = .ok (.bipush 16, 2) := by decide +kernel
theorem dX2_pairOf_29 : decode cX2_pairOf 29 = .ok (.ireturn, 1) := by decide +kernel
theorem dX2_pairOf_3 : decode cX2_pairOf 3 = .ok (.if_icmp .ne 12, 3) := by decide +kernel
theorem dX2_pairOf_30 : decode cX2_pairOf 30 = .ok (.iload_n 0, 1) := by decide +kernel
theorem dX2_pairOf_31 : decode cX2_pairOf 31 = .ok (.bipush 124, 2) := by decide +kernel
theorem dX2_pairOf_33 : decode cX2_pairOf 33 = .ok (.if_icmp .ne 12, 3) := by decide +kernel
theorem dX2_pairOf_36 : decode cX2_pairOf 36 = .ok (.iload_n 1, 1) := by decide +kernel
theorem dX2_pairOf_37 : decode cX2_pairOf 37 = .ok (.bipush 124, 2) := by decide +kernel
theorem dX2_pairOf_39 : decode cX2_pairOf 39 = .ok (.if_icmp .ne 6, 3) := by decide +kernel
theorem dX2_pairOf_42 : decode cX2_pairOf 42 = .ok (.bipush 17, 2) := by decide +kernel
theorem dX2_pairOf_44 : decode cX2_pairOf 44 = .ok (.ireturn, 1) := by decide +kernel
theorem dX2_pairOf_45 : decode cX2_pairOf 45 = .ok (.iload_n 1, 1) := by decide +kernel
theorem dX2_pairOf_46 : decode cX2_pairOf 46 = .ok (.bipush 61, 2) := by decide +kernel
theorem dX2_pairOf_48 : decode cX2_pairOf 48 = .ok (.if_icmp .eq 5, 3) := by decide +kernel
theorem dX2_pairOf_51 : decode cX2_pairOf 51 = .ok (.iconst 0, 1) := by decide +kernel
theorem dX2_pairOf_52 : decode cX2_pairOf 52 = .ok (.ireturn, 1) := by decide +kernel
theorem dX2_pairOf_53 : decode cX2_pairOf 53 = .ok (.iload_n 0, 1) := by decide +kernel
theorem dX2_pairOf_54 : decode cX2_pairOf 54 = .ok (.lookupswitch 65 #[(33, 56), (58, 50), (60, 59), (61, 53), (62, 62)], 50) := by decide +kernel
theorem dX2_pairOf_6 : decode cX2_pairOf 6 = .ok (.iload_n 1, 1) := by decide +kernel
theorem dX2_pairOf_7 : decode cX2_pairOf 7 = .ok (.bipush 46, 2) := by decide +kernel
theorem dX2_pairOf_9 : decode cX2_pairOf 9 = .ok (.if_icmp .ne 6, 3) := by decide +kernel
noncomputable def k_X2_pairOf_45 (l0 : Int32) (l1 : Int32) (s : t_S) : Int32 :=
 if l1 = (61 : Int32) then (if l0.toInt = 33 then ((13 : Int32))
 else if l0.toInt = 58 then ((11 : Int32))
 else if l0.toInt = 60 then ((14 : Int32))
 else if l0.toInt = 61 then ((12 : Int32))
 else if l0.toInt = 62 then ((15 : Int32))
 else ((0 : Int32)))
 else ((0 : Int32))
set_option maxRecDepth 4000 in
set_option maxHeartbeats 1000000 in
theorem B_X2_pairOf_45 {D : va_G} {cy : Nat → ClassId} {ad : Nat → Nat} {bs : Nat} {X : State → Heap → Prop} (l0 : Int32) (l1 : Int32) (s : t_S) (Q : Int32 → Prop) (hk : t_ht (k_X2_pairOf_45 l0 l1 s) Q) : mj_G D cy ad bs X cX2_pairOf 2 yX2_pairOf.cls (some .int) yX2_pairOf.name 0 0 0 1065 (t_P (fun v s' => s' = s ∧ ∃ x, v = some (.int x) ∧ Q (x))) 45 [(0, .int l0), (1, .int l1)] [] (t_m s) 1065 0 0 := by
  refine mj_iload_n dX2_pairOf_45 1 rfl ?_
  refine mj_bipush (v := 61) dX2_pairOf_46 (by decide) ?_
  refine mj_icmp_eq 53 dX2_pairOf_48 (by decide) (fun z => t_posTK hk z (fun hk => ?_)) (fun z => t_negTK hk z (fun hk => ?_))
  · refine mj_iload_n dX2_pairOf_53 0 rfl ?_
    by_cases h0 : l0.toInt = 33
    · replace hk := t_posT hk h0
      refine mj_lookup 110 dX2_pairOf_54 (by decide) (by rw [h0] <;> rfl) (by decide) ?_
      refine mj_bipush (v := 13) dX2_pairOf_110 (by decide) ?_
      exact t_iret dX2_pairOf_112 rfl rfl ⟨rfl, _, rfl, hk⟩ (Nat.le_of_ble_eq_true rfl) (Nat.le_of_ble_eq_true rfl)
    replace hk := t_negT hk h0
    by_cases h1 : l0.toInt = 58
    · replace hk := t_posT hk h1
      refine mj_lookup 104 dX2_pairOf_54 (by decide) (by rw [h1] <;> rfl) (by decide) ?_
      refine mj_bipush (v := 11) dX2_pairOf_104 (by decide) ?_
      exact t_iret dX2_pairOf_106 rfl rfl ⟨rfl, _, rfl, hk⟩ (Nat.le_of_ble_eq_true rfl) (Nat.le_of_ble_eq_true rfl)
    replace hk := t_negT hk h1
    by_cases h2 : l0.toInt = 60
    · replace hk := t_posT hk h2
      refine mj_lookup 113 dX2_pairOf_54 (by decide) (by rw [h2] <;> rfl) (by decide) ?_
      refine mj_bipush (v := 14) dX2_pairOf_113 (by decide) ?_
      exact t_iret dX2_pairOf_115 rfl rfl ⟨rfl, _, rfl, hk⟩ (Nat.le_of_ble_eq_true rfl) (Nat.le_of_ble_eq_true rfl)
    replace hk := t_negT hk h2
    by_cases h3 : l0.toInt = 61
    · replace hk := t_posT hk h3
      refine mj_lookup 107 dX2_pairOf_54 (by decide) (by rw [h3] <;> rfl) (by decide) ?_
      refine mj_bipush (v := 12) dX2_pairOf_107 (by decide) ?_
      exact t_iret dX2_pairOf_109 rfl rfl ⟨rfl, _, rfl, hk⟩ (Nat.le_of_ble_eq_true rfl) (Nat.le_of_ble_eq_true rfl)
    replace hk := t_negT hk h3
    by_cases h4 : l0.toInt = 62
    · replace hk := t_posT hk h4
      refine mj_lookup 116 dX2_pairOf_54 (by decide) (by rw [h4] <;> rfl) (by decide) ?_
      refine mj_bipush (v := 15) dX2_pairOf_116 (by decide) ?_
      exact t_iret dX2_pairOf_118 rfl rfl ⟨rfl, _, rfl, hk⟩ (Nat.le_of_ble_eq_true rfl) (Nat.le_of_ble_eq_true rfl)
    replace hk := t_negT hk h4
    refine mj_lookup 119 dX2_pairOf_54 (by decide) (t_lk0 _ (And.intro h0 (And.intro h1 (And.intro h2 (And.intro h3 (And.intro h4 trivial)))))) (by decide) ?_
    refine mj_iconst (v := 0) dX2_pairOf_119 (by decide) ?_
    exact t_iret dX2_pairOf_120 rfl rfl ⟨rfl, _, rfl, hk⟩ (Nat.le_of_ble_eq_true rfl) (Nat.le_of_ble_eq_true rfl)
  · refine mj_iconst (v := 0) dX2_pairOf_51 (by decide) ?_
    exact t_iret dX2_pairOf_52 rfl rfl ⟨rfl, _, rfl, hk⟩ (Nat.le_of_ble_eq_true rfl) (Nat.le_of_ble_eq_true rfl)
noncomputable def k_X2_pairOf_30 (l0 : Int32) (l1 : Int32) (s : t_S) : Int32 :=
 if l0 = (124 : Int32) then (if l1 = (124 : Int32) then ((17 : Int32))
 else (k_X2_pairOf_45 l0 l1 s))
 else (k_X2_pairOf_45 l0 l1 s)
set_option maxRecDepth 4000 in
set_option maxHeartbeats 1000000 in
theorem B_X2_pairOf_30 {D : va_G} {cy : Nat → ClassId} {ad : Nat → Nat} {bs : Nat} {X : State → Heap → Prop} (l0 : Int32) (l1 : Int32) (s : t_S) (Q : Int32 → Prop) (hk : t_ht (k_X2_pairOf_30 l0 l1 s) Q) : mj_G D cy ad bs X cX2_pairOf 2 yX2_pairOf.cls (some .int) yX2_pairOf.name 0 0 0 1065 (t_P (fun v s' => s' = s ∧ ∃ x, v = some (.int x) ∧ Q (x))) 30 [(0, .int l0), (1, .int l1)] [] (t_m s) 1065 0 0 := by
  refine mj_iload_n dX2_pairOf_30 0 rfl ?_
  refine mj_bipush (v := 124) dX2_pairOf_31 (by decide) ?_
  refine mj_icmp_ne 45 dX2_pairOf_33 (by decide) (fun z => t_negTK hk z (fun hk => ?_)) (fun z => t_posTK hk z (fun hk => ?_))
  · exact B_X2_pairOf_45 _ _ _ _ hk
  · refine mj_iload_n dX2_pairOf_36 1 rfl ?_
    refine mj_bipush (v := 124) dX2_pairOf_37 (by decide) ?_
    refine mj_icmp_ne 45 dX2_pairOf_39 (by decide) (fun z => t_negTK hk z (fun hk => ?_)) (fun z => t_posTK hk z (fun hk => ?_))
    · exact B_X2_pairOf_45 _ _ _ _ hk
    · refine mj_bipush (v := 17) dX2_pairOf_42 (by decide) ?_
      exact t_iret dX2_pairOf_44 rfl rfl ⟨rfl, _, rfl, hk⟩ (Nat.le_of_ble_eq_true rfl) (Nat.le_of_ble_eq_true rfl)
noncomputable def k_X2_pairOf_15 (l0 : Int32) (l1 : Int32) (s : t_S) : Int32 :=
 if l0 = (38 : Int32) then (if l1 = (38 : Int32) then ((16 : Int32))
 else (k_X2_pairOf_30 l0 l1 s))
 else (k_X2_pairOf_30 l0 l1 s)
set_option maxRecDepth 4000 in
set_option maxHeartbeats 1000000 in
theorem B_X2_pairOf_15 {D : va_G} {cy : Nat → ClassId} {ad : Nat → Nat} {bs : Nat} {X : State → Heap → Prop} (l0 : Int32) (l1 : Int32) (s : t_S) (Q : Int32 → Prop) (hk : t_ht (k_X2_pairOf_15 l0 l1 s) Q) : mj_G D cy ad bs X cX2_pairOf 2 yX2_pairOf.cls (some .int) yX2_pairOf.name 0 0 0 1065 (t_P (fun v s' => s' = s ∧ ∃ x, v = some (.int x) ∧ Q (x))) 15 [(0, .int l0), (1, .int l1)] [] (t_m s) 1065 0 0 := by
  refine mj_iload_n dX2_pairOf_15 0 rfl ?_
  refine mj_bipush (v := 38) dX2_pairOf_16 (by decide) ?_
  refine mj_icmp_ne 30 dX2_pairOf_18 (by decide) (fun z => t_negTK hk z (fun hk => ?_)) (fun z => t_posTK hk z (fun hk => ?_))
  · exact B_X2_pairOf_30 _ _ _ _ hk
  · refine mj_iload_n dX2_pairOf_21 1 rfl ?_
    refine mj_bipush (v := 38) dX2_pairOf_22 (by decide) ?_
    refine mj_icmp_ne 30 dX2_pairOf_24 (by decide) (fun z => t_negTK hk z (fun hk => ?_)) (fun z => t_posTK hk z (fun hk => ?_))
    · exact B_X2_pairOf_30 _ _ _ _ hk
    · refine mj_bipush (v := 16) dX2_pairOf_27 (by decide) ?_
      exact t_iret dX2_pairOf_29 rfl rfl ⟨rfl, _, rfl, hk⟩ (Nat.le_of_ble_eq_true rfl) (Nat.le_of_ble_eq_true rfl)
noncomputable def f_X2_pairOf (x1 : Int32) (x2 : Int32) (s : t_S) : Int32 :=
 if x1 = (46 : Int32) then (if x2 = (46 : Int32) then ((10 : Int32))
 else (k_X2_pairOf_15 x1 x2 s))
 else (k_X2_pairOf_15 x1 x2 s)
set_option maxRecDepth 4000 in
set_option maxHeartbeats 1000000 in
theorem C_X2_pairOf (x1 : Int32) (x2 : Int32) (s : t_S) : t_C yX2_pairOf cX2_pairOf 2 (some .int) 0 [.int x1, .int x2] s (fun v s' => v = some (.int (f_X2_pairOf x1 x2 s)) ∧ s' = s) := by
  refine t_C.imp (P := fun v s' => s' = s ∧ ∃ x, v = some (.int x) ∧ (fun r => r = f_X2_pairOf x1 x2 s) (x)) (t_C.of (by decide +kernel) (Nat.le_of_ble_eq_true rfl) ?_) (fun v s' hp => by obtain ⟨rfl, x, rfl, rfl⟩ := hp; exact ⟨rfl, rfl⟩)
  intro D cy ad bs X
  have hk : t_ht (f_X2_pairOf x1 x2 s) (fun r => r = f_X2_pairOf x1 x2 s) := rfl
  show mj_G D cy ad bs X cX2_pairOf 2 yX2_pairOf.cls (some .int) yX2_pairOf.name 0 0 0 1065 (t_P (fun v s' => s' = s ∧ ∃ x, v = some (.int x) ∧ (fun r => r = f_X2_pairOf x1 x2 s) (x))) 0 [(0, .int x1), (1, .int x2)] [] (t_m s) 1065 0 0
  refine mj_iload_n dX2_pairOf_0 0 rfl ?_
  refine mj_bipush (v := 46) dX2_pairOf_1 (by decide) ?_
  refine mj_icmp_ne 15 dX2_pairOf_3 (by decide) (fun z => t_negTK hk z (fun hk => ?_)) (fun z => t_posTK hk z (fun hk => ?_))
  · exact B_X2_pairOf_15 _ _ _ _ hk
  · refine mj_iload_n dX2_pairOf_6 1 rfl ?_
    refine mj_bipush (v := 46) dX2_pairOf_7 (by decide) ?_
    refine mj_icmp_ne 15 dX2_pairOf_9 (by decide) (fun z => t_negTK hk z (fun hk => ?_)) (fun z => t_posTK hk z (fun hk => ?_))
    · exact B_X2_pairOf_15 _ _ _ _ hk
    · refine mj_bipush (v := 10) dX2_pairOf_12 (by decide) ?_
      exact t_iret dX2_pairOf_14 rfl rfl ⟨rfl, _, rfl, hk⟩ (Nat.le_of_ble_eq_true rfl) (Nat.le_of_ble_eq_true rfl)

