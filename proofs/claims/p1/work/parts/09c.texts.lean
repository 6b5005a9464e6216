theorem FJ_38 : Cond.fieldLink RJ0 38 "java/lang/String" "COMPACT_STRINGS" "Z" ∈ mj_TG := mj_in1 49 (by decide +kernel) rfl
theorem FJ_1053 : Cond.fieldLink RJ0 1053 "jdk/internal/util/Preconditions" "SIOOBE_FORMATTER" "Ljava/util/function/BiFunction;" ∈ mj_TG := mj_in1 65 (by decide +kernel) rfl
theorem FJ_9 : Cond.fieldLink RJ0 9 "java/lang/String" "value" "[B" ∈ mj_TG := mj_in19 78 (by decide +kernel) rfl
theorem FJ_15 : Cond.fieldLink RJ0 15 "java/lang/String" "coder" "B" ∈ mj_TG := mj_in19 79 (by decide +kernel) rfl
theorem mj_X0 {ad : Nat → Nat} {bs : Nat} {X : State → Heap → Prop} {s : State} {H : Heap} {locs : List Loc} (E : mj_Ev ad bs X) (hb : bs ≤ s.heap.size) (hS : va_S (fun q => bs ≤ q) s.heap H locs) (hX : X s H) : mj_Sx ad bs s s.heap :=
  E.2.2.2 s s.heap (E.2.2.1 s H s.heap (fun q hq => (hS.2.1 q (by omega) (by show ¬ bs ≤ q; omega)).symm) hX)
section MJ6
variable {D : va_G} {cy : Nat → ClassId} {ad : Nat → Nat} {bs : Nat} {X : State → Heap → Prop} {cc : ByteArray} {nL : Nat} {own : String} {rt : Option FieldType} {nm : String} {d mc ms nE : Nat} {post : Option Value → mj_H → Prop} {pc : Nat} {lv : List (Nat × Value)} {st : List Value} {h : mj_H} {n cells slots : Nat}
theorem mj_ldcS {idx k : Nat} {tx : String} (hd : decode cc pc = .ok (.ldc idx, 2)) (hm : (own, idx, tx, k) ∈ mj_lit) (kk : mj_G D cy ad bs X cc nL own rt nm d mc ms nE post (pc + 2) (lv) (.ref (1000000 + k) :: st) (h) (n) (cells) (slots)) : mj_G D cy ad bs X cc nL own rt nm d mc ms nE post (pc) (lv) (st) (h) (n) (cells) (slots) := by
  intro p l e R s m args below meth c H locs ls Q E C hW hS hl hX hret
  have hx := mj_X0 E C.2.2.2.2.2.2.2.2.2.2 hS hX
  exact va_ldcS C.1 C.2.1 C.2.2.2.2.2.1 (hx.2.1 _ hm) hd (kk p l e R s m args below meth c H locs ls Q E C hW hS hl hX hret)
theorem mj_gets1 {idx : Nat} (hd : decode cc pc = .ok (.getstatic idx, 3)) (hl0 : Cond.fieldLink own idx "java/lang/String" "COMPACT_STRINGS" "Z" ∈ mj_TG) (kk : mj_G D cy ad bs X cc nL own rt nm d mc ms nE post (pc + 3) (lv) (.int 1 :: st) (h) (n) (cells) (slots)) : mj_G D cy ad bs X cc nL own rt nm d mc ms nE post (pc) (lv) (st) (h) (n) (cells) (slots) := by
  intro p l e R s m args below meth c H locs ls Q E C hW hS hl hX hret
  have hx := mj_X0 E C.2.2.2.2.2.2.2.2.2.2 hS hX
  exact va_gets C.1 C.2.1 hx.2.2.1 hS C.2.2.2.2.2.1 (C.2.2.2.2.1 _ hl0) (fun _ z => z) hd (kk p l e R s m args below meth c H locs ls Q E C hW hS hl hX hret)
theorem mj_getsF {idx : Nat} (hd : decode cc pc = .ok (.getstatic idx, 3)) (hl0 : Cond.fieldLink own idx "jdk/internal/util/Preconditions" "SIOOBE_FORMATTER" "Ljava/util/function/BiFunction;" ∈ mj_TG) (kk : ∀ v : Value, (v = .null ∨ v = .ref 1000200) → mj_G D cy ad bs X cc nL own rt nm d mc ms nE post (pc + 3) (lv) (v :: st) (h) (n) (cells) (slots)) : mj_G D cy ad bs X cc nL own rt nm d mc ms nE post (pc) (lv) (st) (h) (n) (cells) (slots) := by
  intro p l e R s m args below meth c H locs ls Q E C hW hS hl hX hret
  have hx := mj_X0 E C.2.2.2.2.2.2.2.2.2.2 hS hX
  rcases hx.2.2.2.1 with hz | hz
  · exact va_gets C.1 C.2.1 hz hS C.2.2.2.2.2.1 (C.2.2.2.2.1 _ hl0) (fun _ z => z) hd (kk .null (Or.inl rfl) p l e R s m args below meth c H locs ls Q E C hW hS hl hX hret)
  · exact va_gets C.1 C.2.1 hz hS C.2.2.2.2.2.1 (C.2.2.2.2.1 _ hl0) (fun _ z => z) hd (kk (.ref 1000200) (Or.inr rfl) p l e R s m args below meth c H locs ls Q E C hW hS hl hX hret)
theorem mj_xval {idx k : Nat} (hk : k < 7) (hd : decode cc pc = .ok (.getfield idx, 3)) (hl0 : Cond.fieldLink own idx "java/lang/String" "value" "[B" ∈ mj_TG) (kk : mj_G D cy ad bs X cc nL own rt nm d mc ms nE post (pc + 3) (lv) (.ref (1000100 + k) :: st) (h) (n) (cells) (slots)) : mj_G D cy ad bs X cc nL own rt nm d mc ms nE post (pc) (lv) (.ref (1000000 + k) :: st) (h) (n) (cells) (slots) := by
  intro p l e R s m args below meth c H locs ls Q E C hW hS hl hX hret
  have hx := mj_X0 E C.2.2.2.2.2.2.2.2.2.2 hS hX
  exact vk_getf C.1 C.2.1 (hx.1.1 k hk).2.2.1 hS C.2.2.2.2.2.1 (C.2.2.2.2.1 _ hl0) (fun _ z => z) hd (kk p l e R s m args below meth c H locs ls Q E C hW hS hl hX hret)
theorem mj_xcod {idx k : Nat} (hk : k < 7) (hd : decode cc pc = .ok (.getfield idx, 3)) (hl0 : Cond.fieldLink own idx "java/lang/String" "coder" "B" ∈ mj_TG) (kk : mj_G D cy ad bs X cc nL own rt nm d mc ms nE post (pc + 3) (lv) (.int 0 :: st) (h) (n) (cells) (slots)) : mj_G D cy ad bs X cc nL own rt nm d mc ms nE post (pc) (lv) (.ref (1000000 + k) :: st) (h) (n) (cells) (slots) := by
  intro p l e R s m args below meth c H locs ls Q E C hW hS hl hX hret
  have hx := mj_X0 E C.2.2.2.2.2.2.2.2.2.2 hS hX
  exact vk_getf C.1 C.2.1 (hx.1.1 k hk).2.1 hS C.2.2.2.2.2.1 (C.2.2.2.2.1 _ hl0) (fun _ z => z) hd (kk p l e R s m args below meth c H locs ls Q E C hW hS hl hX hret)
theorem mj_xlen {k : Nat} (hk : k < 7) (hd : decode cc pc = .ok (.arraylength, 1)) (kk : mj_G D cy ad bs X cc nL own rt nm d mc ms nE post (pc + 1) (lv) (.int (Int32.ofNat (mj_len.getD k 0)) :: st) (h) (n) (cells) (slots)) : mj_G D cy ad bs X cc nL own rt nm d mc ms nE post (pc) (lv) (.ref (1000100 + k) :: st) (h) (n) (cells) (slots) := by
  intro p l e R s m args below meth c H locs ls Q E C hW hS hl hX hret
  have hx := mj_X0 E C.2.2.2.2.2.2.2.2.2.2 hS hX
  exact va_tlen C.1 C.2.1 (hx.1.1 k hk).2.2.2 hS rfl hd (kk p l e R s m args below meth c H locs ls Q E C hW hS hl hX hret)
theorem mj_xbald {k : Nat} {i : Int32} (hk : k < 7) (hd : decode cc pc = .ok (.baload, 1)) (hi : vp_in i (mj_len.getD k 0)) (kk : mj_G D cy ad bs X cc nL own rt nm d mc ms nE post (pc + 1) (lv) (.int ((mj_byt.getD k []).getD i.toNatClampNeg 0) :: st) (h) (n) (cells) (slots)) : mj_G D cy ad bs X cc nL own rt nm d mc ms nE post (pc) (lv) (.int i :: .ref (1000100 + k) :: st) (h) (n) (cells) (slots) := by
  intro p l e R s m args below meth c H locs ls Q E C hW hS hl hX hret
  have hx := mj_X0 E C.2.2.2.2.2.2.2.2.2.2 hS hX
  exact va_tb C.1 C.2.1 (hx.1.1 k hk).2.2.2 hS hi rfl hd (kk p l e R s m args below meth c H locs ls Q E C hW hS hl hX hret)
variable {d' mc' ms' na idx maxL' : Nat} {y : MethodName} {cc' : ByteArray} {rt' : Option FieldType} {As sk : List Value} {post' : Option Value → mj_H → Prop}
theorem mj_callT {k : Nat} (hd : decode cc pc = .ok (.invokevirtual idx, 3)) (f : mj_mf y cc' maxL' rt' na) (hC : mj_C y cc' maxL' rt' d' mc' ms' (.ref (1000000 + k) :: As) h n post') (hlk : Cond.methodLink own idx y ∈ mj_TG) (hi : Cond.instanceMethod y ∈ mj_TG) (hse : Cond.selects y.cls y y ∈ mj_TG) (hk : k < 7) (hci : y.cls = "java/lang/String") (hna : As.length = na) (hsk : sk = As.reverse ++ .ref (1000000 + k) :: st) (hdd : d' + 1 ≤ d) (hst : (st.map fun v => v.category).sum ≤ 8) (hcs : cells + mc' ≤ mc) (hss : slots + ms' ≤ ms) (kk : ∀ (v : Option Value) (h' : mj_H), post' v h' → mj_G D cy ad bs X cc nL own rt nm d mc ms nE post (pc + 3) (lv) (v.toList ++ st) h' (n + mc') (cells + mc') (slots + ms')) : mj_G D cy ad bs X cc nL own rt nm d mc ms nE post (pc) (lv) (sk) h n cells slots := by
  intro p l e R s m args below meth c H locs ls Q E C hW hS hl hX hret
  subst hsk
  have hRf := C.2.2.2.2.2.2.2.2.1
  have hx := mj_X0 E C.2.2.2.2.2.2.2.2.2.2 hS hX
  have hrun := va_runV (p := p) (l := l) (e := e) (R := R) (below := below) (meth := meth) (locs := locs) (cells := cells) (slots := slots) (g := F0 m pc ls ((As.reverse ++ .ref (1000000 + k) :: st).map (mj_tv ad))) (b := ad (1000000 + k)) (As := As.map (mj_tv ad)) (rest := st.map (mj_tv ad)) (C := y.cls) ⟨C.1, C.2.1, C.2.2.1, C.2.2.2.2.2.1, C.2.2.2.2.1⟩ (hC D cy ad bs X l E) ⟨mj_CB (d := d') (mc := mc') (ms := ms') C.2.2.2.2.1 f hlk ⟨by omega, by omega⟩, C.2.2.2.2.1 _ hi, C.2.2.2.2.1 _ hse⟩
    ⟨mj_pcOk E, by
      obtain ⟨cell, g1, g2, g3⟩ := vk_recv hx.1 hk hS
      exact ⟨cell, g1, g2, by rw [hci]; exact g3⟩, fun U hU hWm => ⟨rfl, by rw [hU]; exact hW, va_K.moved hWm.alike C.2.2.2.2.2.2.2.2.2.1, by rw [hU]; exact E.2.1 s U H hWm hX⟩⟩
    rfl (by rw [List.length_map]; exact hna) hl.1 (by show List.map _ (As.reverse ++ .ref (1000000 + k) :: st) = _; rw [List.map_append, List.map_reverse]; rfl) (lv_room (by rw [mj_cats]; exact hst)) hd ⟨by omega, by omega⟩
  refine mj_aft E hW.1 C.2.2.2.2.2.2.2.2.2.2 hrun hS hX (fun v h' H1 locs1 hp hW1 hS1 hX1 => ?_)
  have := kk v h' hp p l e R s m args below meth c H1 locs1 ls Q E C hW1 hS1 hl hX1 hret
  rw [List.map_append] at this
  have e0 : (v.map (mj_tv ad)).toList = v.toList.map (mj_tv ad) := by cases v <;> rfl
  rw [e0]
  exact this
end MJ6
theorem dJ0_checkIndex_df160_0 : decode cJ0_checkIndex_df160 0 = .ok (.iload_n 0, 1) := by decide +kernel
theorem dJ0_checkIndex_df160_1 : decode cJ0_checkIndex_df160 1 = .ok (.iload_n 1, 1) := by decide +kernel
theorem dJ0_checkIndex_df160_2 : decode cJ0_checkIndex_df160 2 = .ok (.getstatic 1053, 3) := by decide +kernel
theorem dJ0_checkIndex_df160_5 : decode cJ0_checkIndex_df160 5 = .ok (.invokestatic 1059, 3) := by decide +kernel
theorem dJ0_checkIndex_df160_8 : decode cJ0_checkIndex_df160 8 = .ok (.pop, 1) := by decide +kernel
theorem dJ0_checkIndex_df160_9 : decode cJ0_checkIndex_df160 9 = .ok (.return_, 1) := by decide +kernel
theorem dJ3_checkIndex_8e157_0 : decode cJ3_checkIndex_8e157 0 = .ok (.iload_n 0, 1) := by decide +kernel
theorem dJ3_checkIndex_8e157_1 : decode cJ3_checkIndex_8e157 1 = .ok (.ifCond .lt 8, 3) := by decide +kernel
theorem dJ3_checkIndex_8e157_4 : decode cJ3_checkIndex_8e157 4 = .ok (.iload_n 0, 1) := by decide +kernel
theorem dJ3_checkIndex_8e157_5 : decode cJ3_checkIndex_8e157 5 = .ok (.iload_n 1, 1) := by decide +kernel
theorem dJ3_checkIndex_8e157_6 : decode cJ3_checkIndex_8e157 6 = .ok (.if_icmp .lt 10, 3) := by decide +kernel
theorem dJ3_checkIndex_8e157_9 : decode cJ3_checkIndex_8e157 9 = .ok (.aload_n 2, 1) := by decide +kernel
theorem dJ3_checkIndex_8e157_10 : decode cJ3_checkIndex_8e157 10 = .ok (.iload_n 0, 1) := by decide +kernel
theorem dJ3_checkIndex_8e157_11 : decode cJ3_checkIndex_8e157 11 = .ok (.iload_n 1, 1) := by decide +kernel
theorem dJ3_checkIndex_8e157_12 : decode cJ3_checkIndex_8e157 12 = .ok (.invokestatic 95, 3) := by decide +kernel
theorem dJ3_checkIndex_8e157_15 : decode cJ3_checkIndex_8e157 15 = .ok (.athrow, 1) := by decide +kernel
theorem dJ3_checkIndex_8e157_16 : decode cJ3_checkIndex_8e157 16 = .ok (.iload_n 0, 1) := by decide +kernel
theorem dJ3_checkIndex_8e157_17 : decode cJ3_checkIndex_8e157 17 = .ok (.ireturn, 1) := by decide +kernel
theorem dJ0_charAt_5068e_0 : decode cJ0_charAt_5068e 0 = .ok (.aload_n 0, 1) := by decide +kernel
theorem dJ0_charAt_5068e_1 : decode cJ0_charAt_5068e 1 = .ok (.invokevirtual 492, 3) := by decide +kernel
theorem dJ0_charAt_5068e_4 : decode cJ0_charAt_5068e 4 = .ok (.ifCond .eq 12, 3) := by decide +kernel
theorem dJ0_charAt_5068e_7 : decode cJ0_charAt_5068e 7 = .ok (.aload_n 0, 1) := by decide +kernel
theorem dJ0_charAt_5068e_8 : decode cJ0_charAt_5068e 8 = .ok (.getfield 9, 3) := by decide +kernel
theorem dJ0_charAt_5068e_11 : decode cJ0_charAt_5068e 11 = .ok (.iload_n 1, 1) := by decide +kernel
theorem dJ0_charAt_5068e_12 : decode cJ0_charAt_5068e 12 = .ok (.invokestatic 495, 3) := by decide +kernel
theorem dJ0_charAt_5068e_15 : decode cJ0_charAt_5068e 15 = .ok (.ireturn, 1) := by decide +kernel
theorem dJ0_charAt_5068e_16 : decode cJ0_charAt_5068e 16 = .ok (.aload_n 0, 1) := by decide +kernel
theorem dJ0_charAt_5068e_17 : decode cJ0_charAt_5068e 17 = .ok (.getfield 9, 3) := by decide +kernel
theorem dJ0_charAt_5068e_20 : decode cJ0_charAt_5068e 20 = .ok (.iload_n 1, 1) := by decide +kernel
theorem dJ0_charAt_5068e_21 : decode cJ0_charAt_5068e 21 = .ok (.invokestatic 498, 3) := by decide +kernel
theorem dJ0_charAt_5068e_24 : decode cJ0_charAt_5068e 24 = .ok (.ireturn, 1) := by decide +kernel
theorem dJ0_coder_7d493_0 : decode cJ0_coder_7d493 0 = .ok (.getstatic 38, 3) := by decide +kernel
theorem dJ0_coder_7d493_3 : decode cJ0_coder_7d493 3 = .ok (.ifCond .eq 10, 3) := by decide +kernel
theorem dJ0_coder_7d493_6 : decode cJ0_coder_7d493 6 = .ok (.aload_n 0, 1) := by decide +kernel
theorem dJ0_coder_7d493_7 : decode cJ0_coder_7d493 7 = .ok (.getfield 15, 3) := by decide +kernel
theorem dJ0_coder_7d493_10 : decode cJ0_coder_7d493 10 = .ok (.goto 4, 3) := by decide +kernel
theorem dJ0_coder_7d493_13 : decode cJ0_coder_7d493 13 = .ok (.iconst 1, 1) := by decide +kernel
theorem dJ0_coder_7d493_14 : decode cJ0_coder_7d493 14 = .ok (.ireturn, 1) := by decide +kernel
theorem dJ0_length_8abf5_0 : decode cJ0_length_8abf5 0 = .ok (.aload_n 0, 1) := by decide +kernel
theorem dJ0_length_8abf5_1 : decode cJ0_length_8abf5 1 = .ok (.getfield 9, 3) := by decide +kernel
theorem dJ0_length_8abf5_4 : decode cJ0_length_8abf5 4 = .ok (.arraylength, 1) := by decide +kernel
theorem dJ0_length_8abf5_5 : decode cJ0_length_8abf5 5 = .ok (.aload_n 0, 1) := by decide +kernel
theorem dJ0_length_8abf5_6 : decode cJ0_length_8abf5 6 = .ok (.invokevirtual 335, 3) := by decide +kernel
theorem dJ0_length_8abf5_9 : decode cJ0_length_8abf5 9 = .ok (.ishr, 1) := by decide +kernel
theorem dJ0_length_8abf5_10 : decode cJ0_length_8abf5 10 = .ok (.ireturn, 1) := by decide +kernel
theorem dJ0_isLatin1_aae02_0 : decode cJ0_isLatin1_aae02 0 = .ok (.getstatic 38, 3) := by decide +kernel
theorem dJ0_isLatin1_aae02_3 : decode cJ0_isLatin1_aae02 3 = .ok (.ifCond .eq 14, 3) := by decide +kernel
theorem dJ0_isLatin1_aae02_6 : decode cJ0_isLatin1_aae02 6 = .ok (.aload_n 0, 1) := by decide +kernel
theorem dJ0_isLatin1_aae02_7 : decode cJ0_isLatin1_aae02 7 = .ok (.getfield 15, 3) := by decide +kernel
theorem dJ0_isLatin1_aae02_10 : decode cJ0_isLatin1_aae02 10 = .ok (.ifCond .ne 7, 3) := by decide +kernel
theorem dJ0_isLatin1_aae02_13 : decode cJ0_isLatin1_aae02 13 = .ok (.iconst 1, 1) := by decide +kernel
theorem dJ0_isLatin1_aae02_14 : decode cJ0_isLatin1_aae02 14 = .ok (.goto 4, 3) := by decide +kernel
theorem dJ0_isLatin1_aae02_17 : decode cJ0_isLatin1_aae02 17 = .ok (.iconst 0, 1) := by decide +kernel
theorem dJ0_isLatin1_aae02_18 : decode cJ0_isLatin1_aae02 18 = .ok (.ireturn, 1) := by decide +kernel
theorem dJ1_charAt_3b067_0 : decode cJ1_charAt_3b067 0 = .ok (.iload_n 1, 1) := by decide +kernel
theorem dJ1_charAt_3b067_1 : decode cJ1_charAt_3b067 1 = .ok (.aload_n 0, 1) := by decide +kernel
theorem dJ1_charAt_3b067_2 : decode cJ1_charAt_3b067 2 = .ok (.arraylength, 1) := by decide +kernel
theorem dJ1_charAt_3b067_3 : decode cJ1_charAt_3b067 3 = .ok (.invokestatic 9, 3) := by decide +kernel
theorem dJ1_charAt_3b067_6 : decode cJ1_charAt_3b067 6 = .ok (.aload_n 0, 1) := by decide +kernel
theorem dJ1_charAt_3b067_7 : decode cJ1_charAt_3b067 7 = .ok (.iload_n 1, 1) := by decide +kernel
theorem dJ1_charAt_3b067_8 : decode cJ1_charAt_3b067 8 = .ok (.baload, 1) := by decide +kernel
theorem dJ1_charAt_3b067_9 : decode cJ1_charAt_3b067 9 = .ok (.sipush 255, 3) := by decide +kernel
theorem dJ1_charAt_3b067_12 : decode cJ1_charAt_3b067 12 = .ok (.iand, 1) := by decide +kernel
theorem dJ1_charAt_3b067_13 : decode cJ1_charAt_3b067 13 = .ok (.i2c, 1) := by decide +kernel
theorem dJ1_charAt_3b067_14 : decode cJ1_charAt_3b067 14 = .ok (.ireturn, 1) := by decide +kernel
/-- String.coder() of a text constant -/
theorem C_coder (k n : Nat) (h : mj_H) (hk : k < 7) : mj_C yJ0_coder_7d493 cJ0_coder_7d493 1 (some .byte) 0 0 0 [.ref (1000000 + k)] h n (fun v h' => v = some (.int 0) ∧ h' = h) := by
  refine mj_C.of (by decide +kernel) (Nat.le_of_ble_eq_true rfl) ?_
  intro D cy ad bs X
  refine mj_gets1 dJ0_coder_7d493_0 FJ_38 ?_
  refine mj_if_eq 13 dJ0_coder_7d493_3 (by decide) (fun z => absurd z (by decide)) (fun _ => ?_)
  refine mj_aload_n dJ0_coder_7d493_6 0 rfl ?_
  refine mj_xcod hk dJ0_coder_7d493_7 FJ_15 ?_
  refine mj_goto 14 dJ0_coder_7d493_10 (by decide) ?_
  exact mj_iret dJ0_coder_7d493_14 rfl rfl ⟨rfl, rfl⟩ rfl (Nat.le_refl _) (Nat.le_refl _)
theorem C_isLatin1 (k n : Nat) (h : mj_H) (hk : k < 7) : mj_C yJ0_isLatin1_aae02 cJ0_isLatin1_aae02 1 (some .boolean) 0 0 0 [.ref (1000000 + k)] h n (fun v h' => v = some (.int 1) ∧ h' = h) := by
  refine mj_C.of (by decide +kernel) (Nat.le_of_ble_eq_true rfl) ?_
  intro D cy ad bs X
  refine mj_gets1 dJ0_isLatin1_aae02_0 FJ_38 ?_
  refine mj_if_eq 17 dJ0_isLatin1_aae02_3 (by decide) (fun z => absurd z (by decide)) (fun _ => ?_)
  refine mj_aload_n dJ0_isLatin1_aae02_6 0 rfl ?_
  refine mj_xcod hk dJ0_isLatin1_aae02_7 FJ_15 ?_
  refine mj_if_ne 17 dJ0_isLatin1_aae02_10 (by decide) (fun z => absurd rfl z) (fun _ => ?_)
  refine mj_iconst (v := 1) dJ0_isLatin1_aae02_13 (by decide) ?_
  refine mj_goto 18 dJ0_isLatin1_aae02_14 (by decide) ?_
  exact mj_iret dJ0_isLatin1_aae02_18 rfl (by decide) ⟨rfl, rfl⟩ rfl (Nat.le_refl _) (Nat.le_refl _)
theorem mj_shr0 (x : Int32) : x >>> ((0 : Int32) &&& 31) = x := by
  apply Int32.toBitVec_inj.mp
  simp
/-- String.length() of a text constant -/
theorem C_length (k n : Nat) (h : mj_H) (hk : k < 7) : mj_C yJ0_length_8abf5 cJ0_length_8abf5 1 (some .int) 1 0 0 [.ref (1000000 + k)] h n (fun v h' => v = some (.int (nI (mj_len.getD k 0))) ∧ h' = h) := by
  refine mj_C.of (by decide +kernel) (Nat.le_of_ble_eq_true rfl) ?_
  intro D cy ad bs X
  refine mj_aload_n dJ0_length_8abf5_0 0 rfl ?_
  refine mj_xval hk dJ0_length_8abf5_1 FJ_9 ?_
  refine mj_xlen hk dJ0_length_8abf5_4 ?_
  refine mj_aload_n dJ0_length_8abf5_5 0 rfl ?_
  refine mj_callT dJ0_length_8abf5_6 M_J0_coder_7d493 (C_coder k n h hk) ML_J0_335 IM_J0_coder_7d493 SE_J0_coder_7d493 hk rfl (As := []) rfl rfl (by decide) (Nat.le_of_ble_eq_true rfl) (Nat.le_refl _) (Nat.le_refl _) (fun v h2 hp => ?_)
  obtain ⟨rfl, rfl⟩ := hp
  refine mj_ishr dJ0_length_8abf5_9 ?_
  rw [mj_shr0]
  exact mj_iret dJ0_length_8abf5_10 rfl rfl ⟨rfl, rfl⟩ rfl (Nat.le_refl _) (Nat.le_refl _)
theorem C_pcheck (i N : Nat) (n : Nat) (h : mj_H) (w : Value) (hw : w = .null ∨ w = .ref 1000200) (hi : i < N) (hN : N < 2 ^ 31) : mj_C yJ3_checkIndex_8e157 cJ3_checkIndex_8e157 3 (some .int) 0 0 0 [.int (nI i), .int (nI N), w] h n (fun v h' => v = some (.int (nI i)) ∧ h' = h) := by
  refine mj_C.of (by decide +kernel) (by rcases hw with rfl | rfl <;> exact Nat.le_of_ble_eq_true rfl) ?_
  intro D cy ad bs X
  refine mj_iload_n dJ3_checkIndex_8e157_0 0 rfl ?_
  refine mj_if_lt 9 dJ3_checkIndex_8e157_1 (by decide) (fun z => absurd z (nI_pos (by omega))) (fun _ => ?_)
  refine mj_iload_n dJ3_checkIndex_8e157_4 0 rfl ?_
  refine mj_iload_n dJ3_checkIndex_8e157_5 1 rfl ?_
  refine mj_icmp_lt 16 dJ3_checkIndex_8e157_6 (by decide) (fun _ => ?_) (fun z => absurd (nI_lt hi (by omega)) z)
  refine mj_iload_n dJ3_checkIndex_8e157_16 0 rfl ?_
  exact mj_iret dJ3_checkIndex_8e157_17 rfl rfl ⟨rfl, rfl⟩ rfl (Nat.le_refl _) (Nat.le_refl _)
theorem C_scheck (i N : Nat) (n : Nat) (h : mj_H) (hi : i < N) (hN : N < 2 ^ 31) : mj_C yJ0_checkIndex_df160 cJ0_checkIndex_df160 2 none 1 0 0 [.int (nI i), .int (nI N)] h n (fun v h' => v = none ∧ h' = h) := by
  refine mj_C.of (by decide +kernel) (Nat.le_of_ble_eq_true rfl) ?_
  intro D cy ad bs X
  refine mj_iload_n dJ0_checkIndex_df160_0 0 rfl ?_
  refine mj_iload_n dJ0_checkIndex_df160_1 1 rfl ?_
  refine mj_getsF dJ0_checkIndex_df160_2 FJ_1053 (fun w hw => ?_)
  refine mj_callS dJ0_checkIndex_df160_5 M_J3_checkIndex_8e157 (C_pcheck i N n h w hw hi hN) ML_J0_1059 SM_J3_checkIndex_8e157 (As := [.int (nI i), .int (nI N), w]) rfl rfl (by decide) (Nat.le_of_ble_eq_true rfl) (Nat.le_refl _) (Nat.le_refl _) (fun v h2 hp => ?_)
  obtain ⟨rfl, rfl⟩ := hp
  refine mj_pop dJ0_checkIndex_df160_8 rfl ?_
  exact mj_vret dJ0_checkIndex_df160_9 rfl ⟨rfl, rfl⟩ rfl (Nat.le_refl _) (Nat.le_refl _)
/-- the char at i of a text constant -/
def mj_ch (k i : Nat) : Int32 := (mj_byt.getD k []).getD i 0
theorem mj_bytes : ∀ l ∈ mj_byt, ∀ b ∈ l, b &&& 255 = b ∧ (b.toUInt32 % 65536).toInt32 = b := by decide +kernel
theorem mj_lens : ∀ k, k < 7 → mj_len.getD k 0 = (mj_byt.getD k []).length ∧ mj_len.getD k 0 < 400 := by decide +kernel
theorem mj_chb {k i : Nat} (hk : k < 7) (hi : i < mj_len.getD k 0) : mj_ch k i &&& 255 = mj_ch k i ∧ ((mj_ch k i).toUInt32 % 65536).toInt32 = mj_ch k i := by
  have h1 := (mj_lens k hk).1
  have hl : k < mj_byt.length := hk
  have h2 : mj_byt.getD k [] ∈ mj_byt := by
    rw [List.getD_eq_getElem?_getD, List.getElem?_eq_getElem hl]
    exact List.getElem_mem hl
  have hi2 : i < (mj_byt.getD k []).length := by omega
  have h3 : (mj_byt.getD k []).getD i 0 ∈ mj_byt.getD k [] := by
    generalize mj_byt.getD k [] = l at hi2 ⊢
    rw [List.getD_eq_getElem?_getD, List.getElem?_eq_getElem hi2]
    exact List.getElem_mem hi2
  exact mj_bytes _ h2 _ h3
theorem C_charAt1 (k i n : Nat) (h : mj_H) (hk : k < 7) (hi : i < mj_len.getD k 0) : mj_C yJ1_charAt_3b067 cJ1_charAt_3b067 2 (some .char) 2 0 0 [.ref (1000100 + k), .int (nI i)] h n (fun v h' => v = some (.int (mj_ch k i)) ∧ h' = h) := by
  refine mj_C.of (by decide +kernel) (Nat.le_of_ble_eq_true rfl) ?_
  intro D cy ad bs X
  have hN := (mj_lens k hk).2
  refine mj_iload_n dJ1_charAt_3b067_0 1 rfl ?_
  refine mj_aload_n dJ1_charAt_3b067_1 0 rfl ?_
  refine mj_xlen hk dJ1_charAt_3b067_2 ?_
  refine mj_callS dJ1_charAt_3b067_3 M_J0_checkIndex_df160 (C_scheck i (mj_len.getD k 0) n h hi (by omega)) ML_J1_9 SM_J0_checkIndex_df160 (As := [.int (nI i), .int (nI (mj_len.getD k 0))]) rfl rfl (by decide) (Nat.le_of_ble_eq_true rfl) (Nat.le_refl _) (Nat.le_refl _) (fun v h2 hp => ?_)
  obtain ⟨rfl, rfl⟩ := hp
  refine mj_aload_n dJ1_charAt_3b067_6 0 rfl ?_
  refine mj_iload_n dJ1_charAt_3b067_7 1 rfl ?_
  refine mj_xbald hk dJ1_charAt_3b067_8 (vp_in_nI hi (by omega)) ?_
  refine mj_sipush (v := 255) dJ1_charAt_3b067_9 (by decide) ?_
  refine mj_iand dJ1_charAt_3b067_12 ?_
  rw [nI_clamp (by omega)]
  show mj_G _ _ _ _ _ _ _ _ _ _ _ _ _ _ _ _ _ [.int (mj_ch k i &&& 255)] _ _ _ _
  rw [(mj_chb hk hi).1]
  refine mj_i2c (v := mj_ch k i) dJ1_charAt_3b067_13 (mj_chb hk hi).2 ?_
  exact mj_iret dJ1_charAt_3b067_14 rfl (by show ((mj_ch k i).toUInt32 % 65536).toInt32 == mj_ch k i; rw [(mj_chb hk hi).2]; exact beq_self_eq_true _) ⟨rfl, rfl⟩ rfl (Nat.le_refl _) (Nat.le_refl _)
theorem C_charAt (k i n : Nat) (h : mj_H) (hk : k < 7) (hi : i < mj_len.getD k 0) : mj_C yJ0_charAt_5068e cJ0_charAt_5068e 2 (some .char) 3 0 0 [.ref (1000000 + k), .int (nI i)] h n (fun v h' => v = some (.int (mj_ch k i)) ∧ h' = h) := by
  refine mj_C.of (by decide +kernel) (Nat.le_of_ble_eq_true rfl) ?_
  intro D cy ad bs X
  refine mj_aload_n dJ0_charAt_5068e_0 0 rfl ?_
  refine mj_callT dJ0_charAt_5068e_1 M_J0_isLatin1_aae02 (C_isLatin1 k n h hk) ML_J0_492 IM_J0_isLatin1_aae02 SE_J0_isLatin1_aae02 hk rfl (As := []) rfl rfl (by decide) (Nat.le_of_ble_eq_true rfl) (Nat.le_refl _) (Nat.le_refl _) (fun v h2 hp => ?_)
  obtain ⟨rfl, rfl⟩ := hp
  refine mj_if_eq 16 dJ0_charAt_5068e_4 (by decide) (fun z => absurd z (by decide)) (fun _ => ?_)
  refine mj_aload_n dJ0_charAt_5068e_7 0 rfl ?_
  refine mj_xval hk dJ0_charAt_5068e_8 FJ_9 ?_
  refine mj_iload_n dJ0_charAt_5068e_11 1 rfl ?_
  refine mj_callS dJ0_charAt_5068e_12 M_J1_charAt_3b067 (C_charAt1 k i n h2 hk hi) ML_J0_495 SM_J1_charAt_3b067 (As := [.ref (1000100 + k), .int (nI i)]) rfl rfl (by decide) (Nat.le_of_ble_eq_true rfl) (Nat.le_refl _) (Nat.le_refl _) (fun v h3 hp => ?_)
  obtain ⟨rfl, rfl⟩ := hp
  exact mj_iret dJ0_charAt_5068e_15 rfl (by show ((mj_ch k i).toUInt32 % 65536).toInt32 == mj_ch k i; rw [(mj_chb hk hi).2]; exact beq_self_eq_true _) ⟨rfl, rfl⟩ rfl (Nat.le_refl _) (Nat.le_refl _)
