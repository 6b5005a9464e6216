/-! System.arraycopy of longs; texts; Parts that may be null. -/
theorem dJ0_indexOf_0f7a4_0 : decode cJ0_indexOf_0f7a4 0 = .ok (.aload_n 0, 1) := by decide +kernel
theorem dJ0_indexOf_0f7a4_1 : decode cJ0_indexOf_0f7a4 1 = .ok (.iload_n 1, 1) := by decide +kernel
theorem dJ0_indexOf_0f7a4_2 : decode cJ0_indexOf_0f7a4 2 = .ok (.iconst 0, 1) := by decide +kernel
theorem dJ0_indexOf_0f7a4_3 : decode cJ0_indexOf_0f7a4 3 = .ok (.invokevirtual 633, 3) := by decide +kernel
theorem dJ0_indexOf_0f7a4_6 : decode cJ0_indexOf_0f7a4 6 = .ok (.ireturn, 1) := by decide +kernel
theorem dJ0_indexOf_7cf53_0 : decode cJ0_indexOf_7cf53 0 = .ok (.aload_n 0, 1) := by decide +kernel
theorem dJ0_indexOf_7cf53_1 : decode cJ0_indexOf_7cf53 1 = .ok (.invokevirtual 492, 3) := by decide +kernel
theorem dJ0_indexOf_7cf53_11 : decode cJ0_indexOf_7cf53 11 = .ok (.iload_n 1, 1) := by decide +kernel
theorem dJ0_indexOf_7cf53_12 : decode cJ0_indexOf_7cf53 12 = .ok (.iload_n 2, 1) := by decide +kernel
theorem dJ0_indexOf_7cf53_13 : decode cJ0_indexOf_7cf53 13 = .ok (.aload_n 0, 1) := by decide +kernel
theorem dJ0_indexOf_7cf53_14 : decode cJ0_indexOf_7cf53 14 = .ok (.invokevirtual 505, 3) := by decide +kernel
theorem dJ0_indexOf_7cf53_17 : decode cJ0_indexOf_7cf53 17 = .ok (.invokestatic 637, 3) := by decide +kernel
theorem dJ0_indexOf_7cf53_20 : decode cJ0_indexOf_7cf53 20 = .ok (.goto 16, 3) := by decide +kernel
theorem dJ0_indexOf_7cf53_36 : decode cJ0_indexOf_7cf53 36 = .ok (.ireturn, 1) := by decide +kernel
theorem dJ0_indexOf_7cf53_4 : decode cJ0_indexOf_7cf53 4 = .ok (.ifCond .eq 19, 3) := by decide +kernel
theorem dJ0_indexOf_7cf53_7 : decode cJ0_indexOf_7cf53 7 = .ok (.aload_n 0, 1) := by decide +kernel
theorem dJ0_indexOf_7cf53_8 : decode cJ0_indexOf_7cf53 8 = .ok (.getfield 9, 3) := by decide +kernel
theorem dJ1_canEncode_9a6ad_0 : decode cJ1_canEncode_9a6ad 0 = .ok (.iload_n 0, 1) := by decide +kernel
theorem dJ1_canEncode_9a6ad_1 : decode cJ1_canEncode_9a6ad 1 = .ok (.ifCond .lt 14, 3) := by decide +kernel
theorem dJ1_canEncode_9a6ad_11 : decode cJ1_canEncode_9a6ad 11 = .ok (.iconst 1, 1) := by decide +kernel
theorem dJ1_canEncode_9a6ad_12 : decode cJ1_canEncode_9a6ad 12 = .ok (.goto 4, 3) := by decide +kernel
theorem dJ1_canEncode_9a6ad_15 : decode cJ1_canEncode_9a6ad 15 = .ok (.iconst 0, 1) := by decide +kernel
theorem dJ1_canEncode_9a6ad_16 : decode cJ1_canEncode_9a6ad 16 = .ok (.ireturn, 1) := by decide +kernel
theorem dJ1_canEncode_9a6ad_4 : decode cJ1_canEncode_9a6ad 4 = .ok (.iload_n 0, 1) := by decide +kernel
theorem dJ1_canEncode_9a6ad_5 : decode cJ1_canEncode_9a6ad 5 = .ok (.sipush 255, 3) := by decide +kernel
theorem dJ1_canEncode_9a6ad_8 : decode cJ1_canEncode_9a6ad 8 = .ok (.if_icmp .gt 7, 3) := by decide +kernel
theorem dJ1_indexOfChar_4cfef_0 : decode cJ1_indexOfChar_4cfef 0 = .ok (.iload_n 1, 1) := by decide +kernel
theorem dJ1_indexOfChar_4cfef_1 : decode cJ1_indexOfChar_4cfef 1 = .ok (.i2b, 1) := by decide +kernel
theorem dJ1_indexOfChar_4cfef_10 : decode cJ1_indexOfChar_4cfef 10 = .ok (.if_icmp .ge 21, 3) := by decide +kernel
theorem dJ1_indexOfChar_4cfef_13 : decode cJ1_indexOfChar_4cfef 13 = .ok (.aload_n 0, 1) := by decide +kernel
theorem dJ1_indexOfChar_4cfef_14 : decode cJ1_indexOfChar_4cfef 14 = .ok (.iload 5, 2) := by decide +kernel
theorem dJ1_indexOfChar_4cfef_16 : decode cJ1_indexOfChar_4cfef 16 = .ok (.baload, 1) := by decide +kernel
theorem dJ1_indexOfChar_4cfef_17 : decode cJ1_indexOfChar_4cfef 17 = .ok (.iload 4, 2) := by decide +kernel
theorem dJ1_indexOfChar_4cfef_19 : decode cJ1_indexOfChar_4cfef 19 = .ok (.if_icmp .ne 6, 3) := by decide +kernel
theorem dJ1_indexOfChar_4cfef_2 : decode cJ1_indexOfChar_4cfef 2 = .ok (.istore 4, 2) := by decide +kernel
theorem dJ1_indexOfChar_4cfef_22 : decode cJ1_indexOfChar_4cfef 22 = .ok (.iload 5, 2) := by decide +kernel
theorem dJ1_indexOfChar_4cfef_24 : decode cJ1_indexOfChar_4cfef 24 = .ok (.ireturn, 1) := by decide +kernel
theorem dJ1_indexOfChar_4cfef_25 : decode cJ1_indexOfChar_4cfef 25 = .ok (.iinc 5 1, 3) := by decide +kernel
theorem dJ1_indexOfChar_4cfef_28 : decode cJ1_indexOfChar_4cfef 28 = .ok (.goto (-21), 3) := by decide +kernel
theorem dJ1_indexOfChar_4cfef_31 : decode cJ1_indexOfChar_4cfef 31 = .ok (.iconst (-1), 1) := by decide +kernel
theorem dJ1_indexOfChar_4cfef_32 : decode cJ1_indexOfChar_4cfef 32 = .ok (.ireturn, 1) := by decide +kernel
theorem dJ1_indexOfChar_4cfef_4 : decode cJ1_indexOfChar_4cfef 4 = .ok (.iload_n 2, 1) := by decide +kernel
theorem dJ1_indexOfChar_4cfef_5 : decode cJ1_indexOfChar_4cfef 5 = .ok (.istore 5, 2) := by decide +kernel
theorem dJ1_indexOfChar_4cfef_7 : decode cJ1_indexOfChar_4cfef 7 = .ok (.iload 5, 2) := by decide +kernel
theorem dJ1_indexOfChar_4cfef_9 : decode cJ1_indexOfChar_4cfef 9 = .ok (.iload_n 3, 1) := by decide +kernel
theorem dJ1_indexOf_4cfef_0 : decode cJ1_indexOf_4cfef 0 = .ok (.iload_n 1, 1) := by decide +kernel
theorem dJ1_indexOf_4cfef_1 : decode cJ1_indexOf_4cfef 1 = .ok (.invokestatic 88, 3) := by decide +kernel
theorem dJ1_indexOf_4cfef_10 : decode cJ1_indexOf_4cfef 10 = .ok (.iconst 0, 1) := by decide +kernel
theorem dJ1_indexOf_4cfef_11 : decode cJ1_indexOf_4cfef 11 = .ok (.invokestatic 92, 3) := by decide +kernel
theorem dJ1_indexOf_4cfef_14 : decode cJ1_indexOf_4cfef 14 = .ok (.istore_n 2, 1) := by decide +kernel
theorem dJ1_indexOf_4cfef_15 : decode cJ1_indexOf_4cfef 15 = .ok (.iload_n 3, 1) := by decide +kernel
theorem dJ1_indexOf_4cfef_16 : decode cJ1_indexOf_4cfef 16 = .ok (.aload_n 0, 1) := by decide +kernel
theorem dJ1_indexOf_4cfef_17 : decode cJ1_indexOf_4cfef 17 = .ok (.arraylength, 1) := by decide +kernel
theorem dJ1_indexOf_4cfef_18 : decode cJ1_indexOf_4cfef 18 = .ok (.invokestatic 38, 3) := by decide +kernel
theorem dJ1_indexOf_4cfef_21 : decode cJ1_indexOf_4cfef 21 = .ok (.istore_n 3, 1) := by decide +kernel
theorem dJ1_indexOf_4cfef_22 : decode cJ1_indexOf_4cfef 22 = .ok (.iload_n 2, 1) := by decide +kernel
theorem dJ1_indexOf_4cfef_23 : decode cJ1_indexOf_4cfef 23 = .ok (.iload_n 3, 1) := by decide +kernel
theorem dJ1_indexOf_4cfef_24 : decode cJ1_indexOf_4cfef 24 = .ok (.if_icmp .lt 5, 3) := by decide +kernel
theorem dJ1_indexOf_4cfef_29 : decode cJ1_indexOf_4cfef 29 = .ok (.aload_n 0, 1) := by decide +kernel
theorem dJ1_indexOf_4cfef_30 : decode cJ1_indexOf_4cfef 30 = .ok (.iload_n 1, 1) := by decide +kernel
theorem dJ1_indexOf_4cfef_31 : decode cJ1_indexOf_4cfef 31 = .ok (.iload_n 2, 1) := by decide +kernel
theorem dJ1_indexOf_4cfef_32 : decode cJ1_indexOf_4cfef 32 = .ok (.iload_n 3, 1) := by decide +kernel
theorem dJ1_indexOf_4cfef_33 : decode cJ1_indexOf_4cfef 33 = .ok (.invokestatic 95, 3) := by decide +kernel
theorem dJ1_indexOf_4cfef_36 : decode cJ1_indexOf_4cfef 36 = .ok (.ireturn, 1) := by decide +kernel
theorem dJ1_indexOf_4cfef_4 : decode cJ1_indexOf_4cfef 4 = .ok (.ifCond .ne 5, 3) := by decide +kernel
theorem dJ1_indexOf_4cfef_7 : decode cJ1_indexOf_4cfef 7 = .ok (.iconst (-1), 1) := by decide +kernel
theorem dJ1_indexOf_4cfef_8 : decode cJ1_indexOf_4cfef 8 = .ok (.ireturn, 1) := by decide +kernel
theorem dJ1_indexOf_4cfef_9 : decode cJ1_indexOf_4cfef 9 = .ok (.iload_n 2, 1) := by decide +kernel
theorem MA_n : Cond.native arraycopyName ∈ mj_TG := mj_in7 142 rfl rfl
theorem MA_s : Cond.static arraycopyName ∈ mj_TG := mj_in7 141 rfl rfl
theorem MA_i : Cond.initialized "java/lang/System" ∈ mj_TG := mj_in1 21 rfl rfl
theorem MA_X0_154 : Cond.methodLink RX0 154 arraycopyName ∈ mj_TG := mj_in7 140 rfl rfl
theorem MA_X8_57 : Cond.methodLink RX8 57 arraycopyName ∈ mj_TG := mj_in8 90 rfl rfl
/-- a long array behind arraycopy -/
def t_cpJ (s : t_S) (a0 a : Nat) (sp dp m : Int32) : t_S := (s.1, va_up s.2.1 a (va_cpy (s.2.1 a0) (s.2.1 a) sp.toNatClampNeg dp.toNatClampNeg m.toNatClampNeg), s.2.2)
def t_cpok (sp dp m : Int32) (n0 n1 : Nat) : Bool := decide (0 ≤ sp.toInt ∧ 0 ≤ dp.toInt ∧ 0 ≤ m.toInt ∧ sp.toInt + m.toInt ≤ (n0 : Int) ∧ dp.toInt + m.toInt ≤ (n1 : Int))
theorem t_cpokI {sp dp m : Int32} {n0 n1 : Nat} (h : t_cpok sp dp m n0 n1 = true) : 0 ≤ sp.toInt ∧ 0 ≤ dp.toInt ∧ 0 ≤ m.toInt ∧ sp.toInt + m.toInt ≤ (n0 : Int) ∧ dp.toInt + m.toInt ≤ (n1 : Int) := by
  unfold t_cpok at h
  exact of_decide_eq_true h
theorem t_nneg {x : Int32} (h : 0 ≤ x.toInt) : ¬ x < 0 := fun q => by
  have h1 := Int32.lt_iff_toInt_lt.mp q
  have e : (0 : Int32).toInt = 0 := rfl
  omega
theorem t_ncl {x : Int32} (h : 0 ≤ x.toInt) : x.toInt = (x.toNatClampNeg : Int) := by
  show x.toInt = ((x.toInt.toNat : Nat) : Int)
  omega
section MJC
variable {D : va_G} {cy : Nat → ClassId} {ad : Nat → Nat} {bs : Nat} {X : State → Heap → Prop} {cc : ByteArray} {nL : Nat} {own : String} {rt : Option FieldType} {nm : String} {d mc ms nE : Nat} {post : Option Value → mj_H → Prop} {pc : Nat} {lv : List (Nat × Value)} {st : List Value} {h : mj_H} {n cells slots : Nat}
theorem mj_copyJ {idx a0 a n0 n1 : Nat} {f g : Nat → Int64} {sp dp m : Int32} (hd : decode cc pc = .ok (.invokestatic idx, 3)) (hlk : Cond.methodLink own idx arraycopyName ∈ mj_TG) (h0 : a0 < n) (e0 : h a0 = .inl (2, n0, .inr (.inl f))) (ha : a < n) (ea : h a = .inl (2, n1, .inr (.inl g))) (hok : t_cpok sp dp m n0 n1 = true) (hd1 : 1 ≤ d) (hst : (st.map fun v => v.category).sum ≤ 8) (kk : mj_G D cy ad bs X cc nL own rt nm d mc ms nE post (pc + 3) lv st (va_up h a (.inl (2, n1, .inr (.inl (va_cpy f g sp.toNatClampNeg dp.toNatClampNeg m.toNatClampNeg))))) n cells slots) : mj_G D cy ad bs X cc nL own rt nm d mc ms nE post pc lv (.int m :: .int dp :: .ref a :: .int sp :: .ref a0 :: st) h n cells slots := by
  intro p l e R s me args below meth c H locs ls Q E C hW hS hl hX hret
  have hRf := C.2.2.2.2.2.2.2.2.1
  have hK := C.2.2.2.2.2.2.2.2.2.1
  obtain ⟨k1, k2, k3, k4, k5⟩ := t_cpokI hok
  have c1 := t_ncl k1
  have c2 := t_ncl k2
  have c3 := t_ncl k3
  have hg0 : H[ad a0]? = some (arrV (cy 2) n0 (fun j => .long (f j))) := by
    have := hW.2.2 a0 _ (mj_ws_get h0)
    rw [e0] at this
    exact this
  have hg : H[ad a]? = some (arrV (cy 2) n1 (fun j => .long (g j))) := by
    have := hW.2.2 a _ (mj_ws_get ha)
    rw [ea] at this
    exact this
  intro T hT X0
  obtain ⟨-, q0, hq0, cm0, hqq0⟩ := (hK.2 2 _ rfl).1 n0 (fun j => .long (f j))
  obtain ⟨-, q1, hq1, cm1, hqq1⟩ := (hK.2 2 _ rfl).1 n1 (fun j => .long (g j))
  obtain ⟨vm', X1, step⟩ := X0.arraycopy C.1 C.2.2.2.2.2.1 (C.2.2.2.2.1 _ hlk) (C.2.2.2.2.1 _ MA_n) (C.2.2.2.2.1 _ MA_s) (C.2.2.2.2.1 _ MA_i) (src := ad a0) (dst := ad a) (cs := arrV (cy 2) n0 (fun j => .long (f j))) (cd := arrV (cy 2) n1 (fun j => .long (g j))) (srcPos := sp) (destPos := dp) (n := m) (by rw [hT]; exact hg0) (by rw [hT]; exact hg)
    (fun _ z => by cases z) (fun _ z => by cases z) (fun z => by cases z) (fun z => by cases z) hq0 hq1 hqq0 hqq1 rfl (t_nneg k1) (t_nneg k2) (t_nneg k3) (by rw [arrV_size]; omega) (by rw [arrV_size]; omega)
    (fun vm1 _ i hi => by
      have e1 : (arrV (cy 2) n0 (fun j => .long (f j))).slots.getD (sp.toNatClampNeg + i) .null = .long (f (sp.toNatClampNeg + i)) := by
        rw [Array.getD_eq_getD_getElem?, arrV_read _ _ (by omega)]
        rfl
      rw [e1]
      exact ⟨rfl, trivial⟩)
    (g := F0 me pc ls ((Value.int m :: .int dp :: .ref (ad a) :: .int sp :: .ref (ad a0) :: st.map (mj_tv ad)))) rfl (by rw [C.2.2.1]; exact hl.1) rfl (by rw [C.2.1]; exact hd) (by omega) (by
      have hw : nativeFrameWords "java/lang/System" "arraycopy" 5 + 11 ≤ 36 := by decide +kernel
      have hm : (F0 me pc ls ((Value.int m :: .int dp :: .ref (ad a) :: .int sp :: .ref (ad a0) :: st.map (mj_tv ad)))).monitorRoom = 0 := rfl
      rw [hm, mj_cats]
      omega)
  have ec : copied (arrV (cy 2) n0 (fun j => .long (f j))) (arrV (cy 2) n1 (fun j => .long (g j))) sp dp m = arrV (cy 2) n1 (fun j => .long (va_cpy f g sp.toNatClampNeg dp.toNatClampNeg m.toNatClampNeg j)) := va_copied (fun z => .long z) (cy 2) (cy 2) f g (by omega)
  rw [ec] at X1 step
  have hlt : ad a < H.size := (Array.getElem?_eq_some_iff.mp hg).1
  have hH : ((T.setVm vm').setCell (ad a) (arrV (cy 2) n1 (fun j => .long (va_cpy f g sp.toNatClampNeg dp.toNatClampNeg m.toNatClampNeg j)))).heap = H.setIfInBounds (ad a) (arrV (cy 2) n1 (fun j => .long (va_cpy f g sp.toNatClampNeg dp.toNatClampNeg m.toNatClampNeg j))) := by rw [← hT]; rfl
  have oq : ∀ q : Nat, q ≠ ad a → (H.setIfInBounds (ad a) (arrV (cy 2) n1 (fun j => .long (va_cpy f g sp.toNatClampNeg dp.toNatClampNeg m.toNatClampNeg j))))[q]? = H[q]? := fun q hq => by simp [Array.getElem?_setIfInBounds, Ne.symm hq]
  have hge := mj_adge E ha hW.2.1
  have hW2 := mj_seth (e' := .inl (2, n1, .inr (.inl (va_cpy f g sp.toNatClampNeg dp.toNatClampNeg m.toNatClampNeg)))) (H' := H.setIfInBounds (ad a) (arrV (cy 2) n1 (fun j => .long (va_cpy f g sp.toNatClampNeg dp.toNatClampNeg m.toNatClampNeg j)))) E hW ha (by
    show (H.setIfInBounds (ad a) _)[ad a]? = some _
    simp [Array.getElem?_setIfInBounds, hlt]
    rfl) (by simp) oq
  have hS2 : va_S (fun q => bs ≤ q) s.heap (H.setIfInBounds (ad a) (arrV (cy 2) n1 (fun j => .long (va_cpy f g sp.toNatClampNeg dp.toNatClampNeg m.toNatClampNeg j)))) (locs ++ ((arrV (cy 2) n0 (fun j => .long (f j))).stretch sp.toNatClampNeg m.toNatClampNeg).zipIdx.map fun q => ⟨ad a, dp.toNatClampNeg + q.2⟩) := ⟨by rw [Array.size_setIfInBounds]; exact hS.1, fun q g1 g2 => by
      rw [oq q (fun z => g2 (by rw [z]; exact hge))]
      exact hS.2.1 q g1 g2, fun q hq => by
      rcases List.mem_append.mp hq with z | z
      · exact hS.2.2 q z
      · obtain ⟨w, -, hw⟩ := List.mem_map.mp z
        rw [← hw]
        exact hge⟩
  obtain ⟨t, a1, b1⟩ := kk p l e R s me args below meth c _ _ ls Q E C hW2 hS2 hl (mj_keep E hW.1 hS hS2 C.2.2.2.2.2.2.2.2.2.2 hX) hret _ hH X1
  exact ⟨t, step t a1, b1⟩
end MJC
section TCP
variable {D : va_G} {cy : Nat → ClassId} {ad : Nat → Nat} {bs : Nat} {X : State → Heap → Prop} {cc : ByteArray} {nL : Nat} {own : String} {rt : Option FieldType} {nm : String} {d mc ms : Nat} {post : Option Value → t_S → Prop} {pc : Nat} {lv : List (Nat × Value)} {st : List Value} {s : t_S} {cells slots : Nat}
theorem t_upcJ {a0 a len : Nat} {sp dp m : Int32} (h : t_oka a 2 len = true) : va_up (t_m s) a (.inl (2, len, .inr (.inl (va_cpy (s.2.1 a0) (s.2.1 a) sp.toNatClampNeg dp.toNatClampNeg m.toNatClampNeg)))) = t_m (t_cpJ s a0 a sp dp m) := by
  have h0 := h
  simp only [t_oka, Bool.and_eq_true, decide_eq_true_eq, beq_iff_eq] at h
  funext k
  by_cases e : k = a
  · subst e
    rw [mj_up_eq, (t_aJ (s := t_cpJ s a0 k sp dp m) h0).2]
    rw [show (t_cpJ s a0 k sp dp m).2.1 k = va_cpy (s.2.1 a0) (s.2.1 k) sp.toNatClampNeg dp.toNatClampNeg m.toNatClampNeg from mj_up_eq s.2.1 k _]
  · rw [mj_up_ne _ _ e]
    show t_e s k (t_sh k) = t_e (t_cpJ s a0 a sp dp m) k (t_sh k)
    have e1 : (t_cpJ s a0 a sp dp m).2.1 k = s.2.1 k := mj_up_ne s.2.1 _ e
    unfold t_e t_fl t_v
    rw [e1]
    rfl
theorem t_copyK {idx a0 a n0 n1 : Nat} {sp dp m : Int32} (hd : decode cc pc = .ok (.invokestatic idx, 3)) (hlk : Cond.methodLink own idx arraycopyName ∈ mj_TG) (h0 : t_oka a0 2 n0 = true) (ha : t_oka a 2 n1 = true) (hok : t_cpok sp dp m n0 n1 = true) (hd1 : 1 ≤ d) (hst : (st.map fun v => v.category).sum ≤ 8) (kk : ∀ s2, s2 = t_cpJ s a0 a sp dp m → mj_G D cy ad bs X cc nL own rt nm d mc ms 1065 (t_P post) (pc + 3) lv st (t_m s2) 1065 cells slots) : mj_G D cy ad bs X cc nL own rt nm d mc ms 1065 (t_P post) pc lv (.int m :: .int dp :: .ref a :: .int sp :: .ref a0 :: st) (t_m s) 1065 cells slots := by
  obtain ⟨g1, g2⟩ := t_aJ (s := s) h0
  obtain ⟨g3, g4⟩ := t_aJ (s := s) ha
  refine mj_copyJ hd hlk g1 g2 g3 g4 hok hd1 hst ?_
  rw [t_upcJ ha]
  exact kk _ rfl
end TCP

theorem TX_X2_45 : ∃ tx, (RX2, 45, tx, 0) ∈ mj_lit := ⟨_, List.mem_cons_self⟩
theorem TX_X1_65 : ∃ tx, (RX1, 65, tx, 1) ∈ mj_lit := ⟨_, (List.mem_cons_of_mem _ List.mem_cons_self)⟩
theorem TX_X1_67 : ∃ tx, (RX1, 67, tx, 2) ∈ mj_lit := ⟨_, (List.mem_cons_of_mem _ (List.mem_cons_of_mem _ List.mem_cons_self))⟩
theorem TX_X1_84 : ∃ tx, (RX1, 84, tx, 3) ∈ mj_lit := ⟨_, (List.mem_cons_of_mem _ (List.mem_cons_of_mem _ (List.mem_cons_of_mem _ List.mem_cons_self)))⟩
theorem TX_X1_89 : ∃ tx, (RX1, 89, tx, 4) ∈ mj_lit := ⟨_, (List.mem_cons_of_mem _ (List.mem_cons_of_mem _ (List.mem_cons_of_mem _ (List.mem_cons_of_mem _ List.mem_cons_self))))⟩
theorem TX_X13_441 : ∃ tx, (RX13, 441, tx, 5) ∈ mj_lit := ⟨_, (List.mem_cons_of_mem _ (List.mem_cons_of_mem _ (List.mem_cons_of_mem _ (List.mem_cons_of_mem _ (List.mem_cons_of_mem _ List.mem_cons_self)))))⟩
theorem TX_X13_431 : ∃ tx, (RX13, 431, tx, 6) ∈ mj_lit := ⟨_, (List.mem_cons_of_mem _ (List.mem_cons_of_mem _ (List.mem_cons_of_mem _ (List.mem_cons_of_mem _ (List.mem_cons_of_mem _ (List.mem_cons_of_mem _ List.mem_cons_self))))))⟩
theorem TX_X13_1018 : ∃ tx, (RX13, 1018, tx, 1) ∈ mj_lit := ⟨_, (List.mem_cons_of_mem _ (List.mem_cons_of_mem _ (List.mem_cons_of_mem _ (List.mem_cons_of_mem _ (List.mem_cons_of_mem _ (List.mem_cons_of_mem _ (List.mem_cons_of_mem _ List.mem_cons_self)))))))⟩
theorem TX_X13_1020 : ∃ tx, (RX13, 1020, tx, 2) ∈ mj_lit := ⟨_, (List.mem_cons_of_mem _ (List.mem_cons_of_mem _ (List.mem_cons_of_mem _ (List.mem_cons_of_mem _ (List.mem_cons_of_mem _ (List.mem_cons_of_mem _ (List.mem_cons_of_mem _ (List.mem_cons_of_mem _ List.mem_cons_self))))))))⟩
theorem TX_X13_1029 : ∃ tx, (RX13, 1029, tx, 3) ∈ mj_lit := ⟨_, (List.mem_cons_of_mem _ (List.mem_cons_of_mem _ (List.mem_cons_of_mem _ (List.mem_cons_of_mem _ (List.mem_cons_of_mem _ (List.mem_cons_of_mem _ (List.mem_cons_of_mem _ (List.mem_cons_of_mem _ (List.mem_cons_of_mem _ List.mem_cons_self)))))))))⟩
theorem TX_X13_1034 : ∃ tx, (RX13, 1034, tx, 4) ∈ mj_lit := ⟨_, (List.mem_cons_of_mem _ (List.mem_cons_of_mem _ (List.mem_cons_of_mem _ (List.mem_cons_of_mem _ (List.mem_cons_of_mem _ (List.mem_cons_of_mem _ (List.mem_cons_of_mem _ (List.mem_cons_of_mem _ (List.mem_cons_of_mem _ (List.mem_cons_of_mem _ List.mem_cons_self))))))))))⟩
theorem t_i0 {x : Int32} {N : Nat} (hN : N < 2 ^ 31) (h : t_ix x N = true) : ∃ j : Nat, j < N ∧ x = nI j := by
  have h1 := t_ixI.mp h
  obtain ⟨j, hj, e⟩ := t_nI (B := N) hN ⟨h1.1, by omega⟩
  refine ⟨j, ?_, e⟩
  subst e
  have h2 := h1.2
  rw [nI_toInt (by omega)] at h2
  omega
theorem mj_ldcwX {p : Program} {l : Launch} {e : Env} {R : Room} {s : State} {m : MethodId} {args : Array Value} {below : List Frame} {meth : Method} {c : Code} {T : State} {locs : List Loc} {cells slots : Nat} (X : Stand p l e R s m args below meth c T locs cells slots) (hexec : p.tables.exec = Jvm.exec) {own tx : String} {idx : Nat} {a : Addr} (hown : s.vm.findClass own = some m.cls) (hc : (Cond.stringRef own idx tx).before args s = true) (hev : (Term.string own idx).eval args s none [] s = some (.ref a)) {g : JFrame} (hg : g.method = m) (hdg : decode c.code g.pc = .ok (.ldc_w idx, 3)) : ∀ target, Steps p.tables e below (T.setTop { g with pc := g.pc + 3, stack := .ref a :: g.stack }) target → Steps p.tables e below (T.setTop g) target := by
  obtain ⟨q, cf, i, a2, hq, hcf, hcp, -, hr, he2⟩ := Cond.stringRef_spec hown hc
  have ea := hev.symm.trans he2
  cases ea
  obtain ⟨q2, hq2, he⟩ := X.warmed.alike.2.2 _ _ hq
  have hr2 : q2.resolved[idx]? = some (some (.string a)) := by
    rcases X.warmed.entry hq hq2 idx with z | ⟨z, -⟩
    · rw [z]
      exact hr
    · rw [hr] at z
      cases z
  intro target hrest
  subst hg
  jvm_step X.here [hexec, hdg, ldc_w.wp_string (e := e) (s := T) (f := g) X.here.top hq2 (by rw [he]; exact hcf) hcp hr2]
  exact hrest
section MJT
variable {D : va_G} {cy : Nat → ClassId} {ad : Nat → Nat} {bs : Nat} {X : State → Heap → Prop} {cc : ByteArray} {nL : Nat} {own : String} {rt : Option FieldType} {nm : String} {d mc ms nE : Nat} {post : Option Value → mj_H → Prop} {pc : Nat} {lv : List (Nat × Value)} {st : List Value} {h : mj_H} {n cells slots : Nat}
theorem mj_ldcE {idx k : Nat} (hd : decode cc pc = .ok (.ldc idx, 2)) (hm : ∃ tx, (own, idx, tx, k) ∈ mj_lit) (kk : mj_G D cy ad bs X cc nL own rt nm d mc ms nE post (pc + 2) (lv) (.ref (1000000 + k) :: st) (h) (n) (cells) (slots)) : mj_G D cy ad bs X cc nL own rt nm d mc ms nE post (pc) (lv) (st) (h) (n) (cells) (slots) := by
  obtain ⟨tx, hm⟩ := hm
  exact mj_ldcS hd hm kk
theorem mj_ldcwE {idx k : Nat} (hd : decode cc pc = .ok (.ldc_w idx, 3)) (hm : ∃ tx, (own, idx, tx, k) ∈ mj_lit) (kk : mj_G D cy ad bs X cc nL own rt nm d mc ms nE post (pc + 3) (lv) (.ref (1000000 + k) :: st) (h) (n) (cells) (slots)) : mj_G D cy ad bs X cc nL own rt nm d mc ms nE post (pc) (lv) (st) (h) (n) (cells) (slots) := by
  obtain ⟨tx, hm⟩ := hm
  intro p l e R s m args below meth c H locs ls Q E C hW hS hl hX hret
  have hx := mj_X0 E C.2.2.2.2.2.2.2.2.2.2 hS hX
  have hr := hx.2.1 _ hm
  have kk2 := kk p l e R s m args below meth c H locs ls Q E C hW hS hl hX hret
  intro T hT X0
  obtain ⟨t, a1, b1⟩ := kk2 T hT X0
  exact ⟨t, mj_ldcwX X0 C.1 C.2.2.2.2.2.1 hr.1 hr.2 (g := F0 m pc ls (st.map (mj_tv ad))) rfl (by rw [C.2.1]; exact hd) t a1, b1⟩
theorem mj_txlen {idx k : Nat} (hd : decode cc pc = .ok (.invokevirtual idx, 3)) (hlk : Cond.methodLink own idx yJ0_length_8abf5 ∈ mj_TG) (hk : k < 7) (hdd : 2 ≤ d) (hst : (st.map fun v => v.category).sum ≤ 8) (hcs : cells ≤ mc) (hss : slots ≤ ms) (kk : mj_G D cy ad bs X cc nL own rt nm d mc ms nE post (pc + 3) lv (.int (nI (mj_len.getD k 0)) :: st) h n cells slots) : mj_G D cy ad bs X cc nL own rt nm d mc ms nE post pc lv (.ref (1000000 + k) :: st) h n cells slots := by
  refine mj_callT hd M_J0_length_8abf5 (C_length k n h hk) hlk IM_J0_length_8abf5 SE_J0_length_8abf5 hk rfl (As := []) rfl rfl hdd hst hcs hss (fun v h2 hp => ?_)
  obtain ⟨rfl, rfl⟩ := hp
  exact kk
theorem mj_txch {idx k : Nat} {x : Int32} (hd : decode cc pc = .ok (.invokevirtual idx, 3)) (hlk : Cond.methodLink own idx yJ0_charAt_5068e ∈ mj_TG) (hk : k < 7) (hx : t_ix x (mj_len.getD k 0) = true) (hdd : 4 ≤ d) (hst : (st.map fun v => v.category).sum ≤ 8) (hcs : cells ≤ mc) (hss : slots ≤ ms) (kk : mj_G D cy ad bs X cc nL own rt nm d mc ms nE post (pc + 3) lv (.int (mj_ch k x.toNatClampNeg) :: st) h n cells slots) : mj_G D cy ad bs X cc nL own rt nm d mc ms nE post pc lv (.int x :: .ref (1000000 + k) :: st) h n cells slots := by
  have hN := (mj_lens k hk).2
  obtain ⟨j, hj, rfl⟩ := t_i0 (by omega) hx
  rw [nI_clamp (by omega)] at kk
  refine mj_callT hd M_J0_charAt_5068e (C_charAt k j n h hk hj) hlk IM_J0_charAt_5068e SE_J0_charAt_5068e hk rfl (As := [.int (nI j)]) rfl rfl hdd hst hcs hss (fun v h2 hp => ?_)
  obtain ⟨rfl, rfl⟩ := hp
  exact kk
end MJT
/-- where a letter stands first in a text -/
def t_tif (f : Nat → Int32) (c : Int32) : Nat → Nat → Int32
  | 0, _ => -1
  | n + 1, i => if f i = c then nI i else t_tif f c n (i + 1)
def t_tix (k : Nat) (c : Int32) : Int32 := if c < 0 ∨ 255 < c then -1 else t_tif (mj_ch k) c.toInt8.toInt32 (mj_len.getD k 0) 0
theorem C_canEnc (c : Int32) (n : Nat) (h : mj_H) : mj_C yJ1_canEncode_9a6ad cJ1_canEncode_9a6ad 1 (some .boolean) 0 0 0 [.int c] h n (fun v h' => v = some (.int (if c < 0 ∨ 255 < c then 0 else 1)) ∧ h' = h) := by
  refine mj_C.of (by decide +kernel) (Nat.le_of_ble_eq_true rfl) ?_
  intro D cy ad bs X
  refine mj_iload_n dJ1_canEncode_9a6ad_0 0 rfl ?_
  have no : c < 0 ∨ 255 < c → mj_G D cy ad bs X cJ1_canEncode_9a6ad 1 yJ1_canEncode_9a6ad.cls (some .boolean) yJ1_canEncode_9a6ad.name 0 0 0 (n + 0) (fun v h' => v = some (.int (if c < 0 ∨ 255 < c then 0 else 1)) ∧ h' = h) 15 [(0, .int c)] [] h n 0 0 := by
    intro q
    refine mj_iconst (v := 0) dJ1_canEncode_9a6ad_15 (by decide) ?_
    exact mj_iret dJ1_canEncode_9a6ad_16 rfl rfl ⟨by rw [if_pos q], rfl⟩ rfl (Nat.le_refl _) (Nat.le_refl _)
  refine mj_if_lt 15 dJ1_canEncode_9a6ad_1 (by decide) (fun z => no (Or.inl z)) (fun z => ?_)
  refine mj_iload_n dJ1_canEncode_9a6ad_4 0 rfl ?_
  refine mj_sipush (v := 255) dJ1_canEncode_9a6ad_5 (by decide) ?_
  refine mj_icmp_gt 15 dJ1_canEncode_9a6ad_8 (by decide) (fun z2 => no (Or.inr z2)) (fun z2 => ?_)
  refine mj_iconst (v := 1) dJ1_canEncode_9a6ad_11 (by decide) ?_
  refine mj_goto 16 dJ1_canEncode_9a6ad_12 (by decide) ?_
  exact mj_iret dJ1_canEncode_9a6ad_16 rfl rfl ⟨by rw [if_neg (fun q => q.elim z z2)], rfl⟩ rfl (Nat.le_refl _) (Nat.le_refl _)
theorem C_ixChar (k n : Nat) (c : Int32) (h : mj_H) (hk : k < 7) : mj_C yJ1_indexOfChar_4cfef cJ1_indexOfChar_4cfef 6 (some .int) 0 0 0 [.ref (1000100 + k), .int c, .int 0, .int (nI (mj_len.getD k 0))] h n (fun v h' => v = some (.int (t_tif (mj_ch k) c.toInt8.toInt32 (mj_len.getD k 0) 0)) ∧ h' = h) := by
  refine mj_C.of (by decide +kernel) (Nat.le_of_ble_eq_true rfl) ?_
  intro D cy ad bs X
  have hN := (mj_lens k hk).2
  generalize hL : mj_len.getD k 0 = L at *
  refine mj_iload_n dJ1_indexOfChar_4cfef_0 1 rfl ?_
  refine mj_i2b (v := c.toInt8.toInt32) dJ1_indexOfChar_4cfef_1 rfl ?_
  refine mj_istore (lv2 := [(4, .int c.toInt8.toInt32), (0, .ref (1000100 + k)), (1, .int c), (2, .int 0), (3, .int (nI L))]) dJ1_indexOfChar_4cfef_2 (by decide) rfl ?_
  refine mj_iload_n dJ1_indexOfChar_4cfef_4 3 rfl ?_
  refine mj_istore (lv2 := [(5, .int 0), (4, .int c.toInt8.toInt32), (0, .ref (1000100 + k)), (1, .int c), (2, .int 0), (3, .int (nI L))]) dJ1_indexOfChar_4cfef_5 (by decide) rfl ?_
  generalize c.toInt8.toInt32 = b
  have loop : ∀ (g i : Nat), g + i = L → ∀ P : Option Value → mj_H → Prop, P (some (.int (t_tif (mj_ch k) b g i))) h → mj_G D cy ad bs X cJ1_indexOfChar_4cfef 6 yJ1_indexOfChar_4cfef.cls (some .int) yJ1_indexOfChar_4cfef.name 0 0 0 (n + 0) P 7 [(5, .int (nI i)), (4, .int b), (0, .ref (1000100 + k)), (1, .int c), (2, .int 0), (3, .int (nI L))] [] h n 0 0 := by
    intro g
    induction g with
    | zero =>
      intro i hi P hP
      refine mj_iload dJ1_indexOfChar_4cfef_7 0 rfl ?_
      refine mj_iload_n dJ1_indexOfChar_4cfef_9 5 rfl ?_
      refine mj_icmp_ge 31 dJ1_indexOfChar_4cfef_10 (by decide) (fun _ => ?_) (fun z => absurd z ?_)
      · refine mj_iconst (v := -1) dJ1_indexOfChar_4cfef_31 (by decide) ?_
        exact mj_iret dJ1_indexOfChar_4cfef_32 rfl rfl hP rfl (Nat.le_refl _) (Nat.le_refl _)
      · have e : L = i := by omega
        rw [e]
        exact fun q => q (Int32.le_refl _)
    | succ g ih =>
      intro i hi P hP
      refine mj_iload dJ1_indexOfChar_4cfef_7 0 rfl ?_
      refine mj_iload_n dJ1_indexOfChar_4cfef_9 5 rfl ?_
      refine mj_icmp_ge 31 dJ1_indexOfChar_4cfef_10 (by decide) (fun z => absurd z ?_) (fun _ => ?_)
      · exact nI_ge (by omega) (by omega)
      · refine mj_aload_n dJ1_indexOfChar_4cfef_13 2 rfl ?_
        refine mj_iload dJ1_indexOfChar_4cfef_14 0 rfl ?_
        refine mj_xbald hk dJ1_indexOfChar_4cfef_16 (by rw [hL]; exact vp_in_nI (by omega) (by omega)) ?_
        rw [nI_clamp (by omega)]
        show mj_G _ _ _ _ _ _ _ _ _ _ _ _ _ _ _ _ _ [.int (mj_ch k i)] _ _ _ _
        refine mj_iload dJ1_indexOfChar_4cfef_17 1 rfl ?_
        refine mj_icmp_ne 25 dJ1_indexOfChar_4cfef_19 (by decide) (fun z => ?_) (fun z => ?_)
        · refine mj_iinc (k := 0) (v := nI (i + 1)) (lv2 := [(5, .int (nI (i + 1))), (4, .int b), (0, .ref (1000100 + k)), (1, .int c), (2, .int 0), (3, .int (nI L))]) dJ1_indexOfChar_4cfef_25 rfl (nI_1 i) (by decide) rfl ?_
          refine mj_goto 7 dJ1_indexOfChar_4cfef_28 (by decide) ?_
          exact ih (i + 1) (by omega) P (by
            have e : t_tif (mj_ch k) b (g + 1) i = t_tif (mj_ch k) b g (i + 1) := by
              show (if mj_ch k i = b then nI i else t_tif (mj_ch k) b g (i + 1)) = _
              rw [if_neg z]
            rw [e] at hP
            exact hP)
        · refine mj_iload dJ1_indexOfChar_4cfef_22 0 rfl ?_
          exact mj_iret dJ1_indexOfChar_4cfef_24 rfl rfl (by
            have e : t_tif (mj_ch k) b (g + 1) i = nI i := by
              show (if mj_ch k i = b then nI i else t_tif (mj_ch k) b g (i + 1)) = _
              rw [if_pos z]
            rw [e] at hP
            exact hP) rfl (Nat.le_refl _) (Nat.le_refl _)
  exact loop L 0 rfl _ ⟨rfl, rfl⟩
theorem C_ix1 (k n : Nat) (c : Int32) (h : mj_H) (hk : k < 7) : mj_C yJ1_indexOf_4cfef cJ1_indexOf_4cfef 4 (some .int) 1 0 0 [.ref (1000100 + k), .int c, .int 0, .int (nI (mj_len.getD k 0))] h n (fun v h' => v = some (.int (t_tix k c)) ∧ h' = h) := by
  refine mj_C.of (by decide +kernel) (Nat.le_of_ble_eq_true rfl) ?_
  intro D cy ad bs X
  refine mj_iload_n dJ1_indexOf_4cfef_0 1 rfl ?_
  refine mj_callS dJ1_indexOf_4cfef_1 M_J1_canEncode_9a6ad (C_canEnc c n h) ML_J1_88 SM_J1_canEncode_9a6ad (As := [.int c]) rfl rfl (by decide) (Nat.le_of_ble_eq_true rfl) (Nat.le_refl _) (Nat.le_refl _) (fun v h2 hp => ?_)
  obtain ⟨rfl, rfl⟩ := hp
  by_cases hc : c < 0 ∨ 255 < c
  · rw [if_pos hc]
    refine mj_if_ne 9 dJ1_indexOf_4cfef_4 (by decide) (fun z => absurd rfl z) (fun _ => ?_)
    refine mj_iconst (v := -1) dJ1_indexOf_4cfef_7 (by decide) ?_
    exact mj_iret dJ1_indexOf_4cfef_8 rfl rfl ⟨by unfold t_tix; rw [if_pos hc], rfl⟩ rfl (Nat.le_refl _) (Nat.le_refl _)
  · rw [if_neg hc]
    refine mj_if_ne 9 dJ1_indexOf_4cfef_4 (by decide) (fun _ => ?_) (fun z => absurd z (by decide))
    have hN := mj_lens k hk
    refine mj_iload_n dJ1_indexOf_4cfef_9 2 rfl ?_
    refine mj_iconst (v := 0) dJ1_indexOf_4cfef_10 (by decide) ?_
    refine mj_imax dJ1_indexOf_4cfef_11 MM_max_J1_92 (by decide) (Nat.le_of_ble_eq_true rfl) (Nat.le_refl _) (Nat.le_refl _) ?_
    rw [show (if (0 : Int32) < 0 then (0 : Int32) else 0) = 0 by split <;> rfl]
    refine mj_istore_n 2 (lv2 := [(2, .int 0), (0, .ref (1000100 + k)), (1, .int c), (3, .int (nI (mj_len.getD k 0)))]) dJ1_indexOf_4cfef_14 rfl (by decide) rfl ?_
    refine mj_iload_n dJ1_indexOf_4cfef_15 3 rfl ?_
    refine mj_aload_n dJ1_indexOf_4cfef_16 1 rfl ?_
    refine mj_xlen hk dJ1_indexOf_4cfef_17 ?_
    refine mj_imin dJ1_indexOf_4cfef_18 MM_min_J1_38 (by decide) (Nat.le_of_ble_eq_true rfl) (Nat.le_refl _) (Nat.le_refl _) ?_
    rw [show (if Int32.ofNat (mj_len.getD k 0) < nI (mj_len.getD k 0) then Int32.ofNat (mj_len.getD k 0) else nI (mj_len.getD k 0)) = nI (mj_len.getD k 0) by split <;> rfl]
    refine mj_istore_n 3 (lv2 := [(3, .int (nI (mj_len.getD k 0))), (2, .int 0), (0, .ref (1000100 + k)), (1, .int c)]) dJ1_indexOf_4cfef_21 rfl (by decide) rfl ?_
    refine mj_iload_n dJ1_indexOf_4cfef_22 1 rfl ?_
    refine mj_iload_n dJ1_indexOf_4cfef_23 0 rfl ?_
    refine mj_icmp_lt 29 dJ1_indexOf_4cfef_24 (by decide) (fun _ => ?_) (fun z => absurd ?_ z)
    · refine mj_aload_n dJ1_indexOf_4cfef_29 2 rfl ?_
      refine mj_iload_n dJ1_indexOf_4cfef_30 3 rfl ?_
      refine mj_iload_n dJ1_indexOf_4cfef_31 1 rfl ?_
      refine mj_iload_n dJ1_indexOf_4cfef_32 0 rfl ?_
      refine mj_callS dJ1_indexOf_4cfef_33 M_J1_indexOfChar_4cfef (C_ixChar k n c _ hk) ML_J1_95 SM_J1_indexOfChar_4cfef (As := [.ref (1000100 + k), .int c, .int 0, .int (nI (mj_len.getD k 0))]) rfl rfl (by decide) (Nat.le_of_ble_eq_true rfl) (Nat.le_refl _) (Nat.le_refl _) (fun v h3 hp => ?_)
      obtain ⟨rfl, rfl⟩ := hp
      exact mj_iret dJ1_indexOf_4cfef_36 rfl rfl ⟨by unfold t_tix; rw [if_neg hc], rfl⟩ rfl (Nat.le_refl _) (Nat.le_refl _)
    · have : ∀ q, q < 7 → (0 : Int32) < nI (mj_len.getD q 0) := by decide +kernel
      exact this k hk
theorem C_ix2 (k n : Nat) (c : Int32) (h : mj_H) (hk : k < 7) : mj_C yJ0_indexOf_7cf53 cJ0_indexOf_7cf53 3 (some .int) 2 0 0 [.ref (1000000 + k), .int c, .int 0] h n (fun v h' => v = some (.int (t_tix k c)) ∧ h' = h) := by
  refine mj_C.of (by decide +kernel) (Nat.le_of_ble_eq_true rfl) ?_
  intro D cy ad bs X
  refine mj_aload_n dJ0_indexOf_7cf53_0 0 rfl ?_
  refine mj_callT dJ0_indexOf_7cf53_1 M_J0_isLatin1_aae02 (C_isLatin1 k n h hk) ML_J0_492 IM_J0_isLatin1_aae02 SE_J0_isLatin1_aae02 hk rfl (As := []) rfl rfl (by decide) (Nat.le_of_ble_eq_true rfl) (Nat.le_refl _) (Nat.le_refl _) (fun v h2 hp => ?_)
  obtain ⟨rfl, rfl⟩ := hp
  refine mj_if_eq 23 dJ0_indexOf_7cf53_4 (by decide) (fun z => absurd z (by decide)) (fun _ => ?_)
  refine mj_aload_n dJ0_indexOf_7cf53_7 0 rfl ?_
  refine mj_xval hk dJ0_indexOf_7cf53_8 FJ_9 ?_
  refine mj_iload_n dJ0_indexOf_7cf53_11 1 rfl ?_
  refine mj_iload_n dJ0_indexOf_7cf53_12 2 rfl ?_
  refine mj_aload_n dJ0_indexOf_7cf53_13 0 rfl ?_
  refine mj_callT dJ0_indexOf_7cf53_14 M_J0_length_8abf5 (C_length k n _ hk) ML_J0_505 IM_J0_length_8abf5 SE_J0_length_8abf5 hk rfl (As := []) rfl rfl (by decide) (Nat.le_of_ble_eq_true rfl) (Nat.le_refl _) (Nat.le_refl _) (fun v h3 hp => ?_)
  obtain ⟨rfl, rfl⟩ := hp
  refine mj_callS dJ0_indexOf_7cf53_17 M_J1_indexOf_4cfef (C_ix1 k n c _ hk) ML_J0_637 SM_J1_indexOf_4cfef (As := [.ref (1000100 + k), .int c, .int 0, .int (nI (mj_len.getD k 0))]) rfl rfl (by decide) (Nat.le_of_ble_eq_true rfl) (Nat.le_refl _) (Nat.le_refl _) (fun v h4 hp => ?_)
  obtain ⟨rfl, rfl⟩ := hp
  refine mj_goto 36 dJ0_indexOf_7cf53_20 (by decide) ?_
  exact mj_iret dJ0_indexOf_7cf53_36 rfl rfl ⟨rfl, rfl⟩ rfl (Nat.le_refl _) (Nat.le_refl _)
theorem C_ix (k n : Nat) (c : Int32) (h : mj_H) (hk : k < 7) : mj_C yJ0_indexOf_0f7a4 cJ0_indexOf_0f7a4 2 (some .int) 3 0 0 [.ref (1000000 + k), .int c] h n (fun v h' => v = some (.int (t_tix k c)) ∧ h' = h) := by
  refine mj_C.of (by decide +kernel) (Nat.le_of_ble_eq_true rfl) ?_
  intro D cy ad bs X
  refine mj_aload_n dJ0_indexOf_0f7a4_0 0 rfl ?_
  refine mj_iload_n dJ0_indexOf_0f7a4_1 1 rfl ?_
  refine mj_iconst (v := 0) dJ0_indexOf_0f7a4_2 (by decide) ?_
  refine mj_callT dJ0_indexOf_0f7a4_3 M_J0_indexOf_7cf53 (C_ix2 k n c h hk) ML_J0_633 IM_J0_indexOf_7cf53 SE_J0_indexOf_7cf53 hk rfl (As := [.int c, .int 0]) rfl rfl (by decide) (Nat.le_of_ble_eq_true rfl) (Nat.le_refl _) (Nat.le_refl _) (fun v h2 hp => ?_)
  obtain ⟨rfl, rfl⟩ := hp
  exact mj_iret dJ0_indexOf_0f7a4_6 rfl rfl ⟨rfl, rfl⟩ rfl (Nat.le_refl _) (Nat.le_refl _)
section MJT2
variable {D : va_G} {cy : Nat → ClassId} {ad : Nat → Nat} {bs : Nat} {X : State → Heap → Prop} {cc : ByteArray} {nL : Nat} {own : String} {rt : Option FieldType} {nm : String} {d mc ms nE : Nat} {post : Option Value → mj_H → Prop} {pc : Nat} {lv : List (Nat × Value)} {st : List Value} {h : mj_H} {n cells slots : Nat}
theorem mj_txix {idx k : Nat} {x : Int32} (hd : decode cc pc = .ok (.invokevirtual idx, 3)) (hlk : Cond.methodLink own idx yJ0_indexOf_0f7a4 ∈ mj_TG) (hk : k < 7) (hdd : 4 ≤ d) (hst : (st.map fun v => v.category).sum ≤ 8) (hcs : cells ≤ mc) (hss : slots ≤ ms) (kk : mj_G D cy ad bs X cc nL own rt nm d mc ms nE post (pc + 3) lv (.int (t_tix k x) :: st) h n cells slots) : mj_G D cy ad bs X cc nL own rt nm d mc ms nE post pc lv (.int x :: .ref (1000000 + k) :: st) h n cells slots := by
  refine mj_callT hd M_J0_indexOf_0f7a4 (C_ix k n x h hk) hlk IM_J0_indexOf_0f7a4 SE_J0_indexOf_0f7a4 hk rfl (As := [.int x]) rfl rfl hdd hst hcs hss (fun v h2 hp => ?_)
  obtain ⟨rfl, rfl⟩ := hp
  exact kk
end MJT2
def t_nk (k : Int) : List (Int × Int) → Prop
  | [] => True
  | q :: r => ¬ k = q.1 ∧ t_nk k r
theorem t_lk0 {k dflt : Int} : ∀ l : List (Int × Int), t_nk k l → Op.lookupswitch.offset l dflt k = dflt := by
  intro l
  induction l with
  | nil => intro _; rfl
  | cons q r ih =>
    intro h
    obtain ⟨a, o⟩ := q
    rw [Op.lookupswitch.offset_cons, if_neg (fun z => h.1 z.symm)]
    exact ih h.2
/-- a Part, or null: 0 -/
def t_pv (p : Nat) : Value := if p = 0 then .null else .ref p
theorem t_pvR {p : Nat} (h : ¬ p = 0) : t_pv p = .ref p := if_neg h
theorem t_pvn {p : Nat} (h : t_isP p = true) : ¬ p = 0 := by
  have := t_isPc h
  omega
section MJN
variable {D : va_G} {cy : Nat → ClassId} {ad : Nat → Nat} {bs : Nat} {X : State → Heap → Prop} {cc : ByteArray} {nL : Nat} {own : String} {rt : Option FieldType} {nm : String} {d mc ms nE : Nat} {post : Option Value → mj_H → Prop} {pc : Nat} {lv : List (Nat × Value)} {st : List Value} {h : mj_H} {n cells slots : Nat}
theorem t_pvG {x : Nat} (hx : t_isP x = true) (kk : mj_G D cy ad bs X cc nL own rt nm d mc ms nE post pc lv (.ref x :: st) h n cells slots) : mj_G D cy ad bs X cc nL own rt nm d mc ms nE post pc lv (t_pv x :: st) h n cells slots := by
  rw [t_pvR (t_pvn hx)]
  exact kk
theorem t_pvB {x : Nat} (hx : ¬ x = 0) (kk : mj_G D cy ad bs X cc nL own rt nm d mc ms nE post pc lv (t_pv x :: st) h n cells slots) : mj_G D cy ad bs X cc nL own rt nm d mc ms nE post pc lv (.ref x :: st) h n cells slots := by
  rw [t_pvR hx] at kk
  exact kk
theorem mj_null0 (hd : decode cc pc = .ok (.aconst_null, 1)) (kk : mj_G D cy ad bs X cc nL own rt nm d mc ms nE post (pc + 1) lv (t_pv 0 :: st) h n cells slots) : mj_G D cy ad bs X cc nL own rt nm d mc ms nE post pc lv st h n cells slots := mj_null hd kk
theorem mj_nonnull {x : Nat} {off : Int} (tgt : Nat) (hd : decode cc pc = .ok (.ifnonnull off, 3)) (ht : (pc : Int) + off = (tgt : Int)) (kt : ¬ x = 0 → mj_G D cy ad bs X cc nL own rt nm d mc ms nE post tgt lv st h n cells slots) (kf : x = 0 → mj_G D cy ad bs X cc nL own rt nm d mc ms nE post (pc + 3) lv st h n cells slots) : mj_G D cy ad bs X cc nL own rt nm d mc ms nE post pc lv (t_pv x :: st) h n cells slots := by
  intro p l e R s m args below meth c H locs ls Q E C hW hS hl hX hret
  by_cases z : x = 0
  · subst z
    exact lv_ifnonnullN C.1 C.2.1 hd (kf rfl p l e R s m args below meth c H locs ls Q E C hW hS hl hX hret)
  · rw [t_pvR z]
    exact lv_ifnonnull C.1 C.2.1 hd ht (kt z p l e R s m args below meth c H locs ls Q E C hW hS hl hX hret)
theorem mj_ifnull {x : Nat} {off : Int} (tgt : Nat) (hd : decode cc pc = .ok (.ifnull off, 3)) (ht : (pc : Int) + off = (tgt : Int)) (kt : x = 0 → mj_G D cy ad bs X cc nL own rt nm d mc ms nE post tgt lv st h n cells slots) (kf : ¬ x = 0 → mj_G D cy ad bs X cc nL own rt nm d mc ms nE post (pc + 3) lv st h n cells slots) : mj_G D cy ad bs X cc nL own rt nm d mc ms nE post pc lv (t_pv x :: st) h n cells slots := by
  intro p l e R s m args below meth c H locs ls Q E C hW hS hl hX hret
  by_cases z : x = 0
  · subst z
    exact lv_ifnullN C.1 C.2.1 hd ht (kt rfl p l e R s m args below meth c H locs ls Q E C hW hS hl hX hret)
  · rw [t_pvR z]
    exact lv_ifnull C.1 C.2.1 hd (kf z p l e R s m args below meth c H locs ls Q E C hW hS hl hX hret)
end MJN
section TCA
variable {D : va_G} {cy : Nat → ClassId} {ad : Nat → Nat} {bs : Nat} {X : State → Heap → Prop} {cc : ByteArray} {nL : Nat} {own : String} {rt : Option FieldType} {nm : String} {d mc ms : Nat} {post : Option Value → t_S → Prop} {pc : Nat} {lv : List (Nat × Value)} {st : List Value} {s : t_S} {cells slots : Nat} {y : MethodName} {cc2 : ByteArray} {maxL2 : Nat} {rt2 : Option FieldType} {d2 na idx : Nat} {As sk : List Value}
theorem t_callVaE {a ci : Nat} {r : Nat × t_S} (hd : decode cc pc = .ok (.invokevirtual idx, 3)) (f : mj_mf y cc2 maxL2 rt2 na) (hC : t_C y cc2 maxL2 rt2 d2 (.ref a :: As) s (fun v s' => v = some (t_pv r.1) ∧ s' = r.2)) (hlk : Cond.methodLink own idx y ∈ mj_TG) (hi : Cond.instanceMethod y ∈ mj_TG) (hse : Cond.selects y.cls y y ∈ mj_TG) (ha : t_okc a ci = true) (hci : (vwCl[ci]?).map (fun q => q.1) = some y.cls) (hna : As.length = na) (hsk : sk = As.reverse ++ .ref a :: st) (hdd : d2 + 1 ≤ d) (hst : (st.map fun v => v.category).sum ≤ 8) (hcs : cells ≤ mc) (hss : slots ≤ ms) (kk : mj_G D cy ad bs X cc nL own rt nm d mc ms 1065 (t_P post) (pc + 3) lv (t_pv r.1 :: st) (t_m r.2) 1065 cells slots) : mj_G D cy ad bs X cc nL own rt nm d mc ms 1065 (t_P post) (pc) lv (sk) (t_m s) 1065 cells slots := by
  refine t_callV hd f hC hlk hi hse ha hci hna hsk hdd hst hcs hss (fun v s2 hp => ?_)
  obtain ⟨rfl, rfl⟩ := hp
  exact kk
theorem t_callVaP {a ci : Nat} {r : Nat} (hd : decode cc pc = .ok (.invokevirtual idx, 3)) (f : mj_mf y cc2 maxL2 rt2 na) (hC : t_C y cc2 maxL2 rt2 d2 (.ref a :: As) s (fun v s' => v = some (t_pv r) ∧ s' = s)) (hlk : Cond.methodLink own idx y ∈ mj_TG) (hi : Cond.instanceMethod y ∈ mj_TG) (hse : Cond.selects y.cls y y ∈ mj_TG) (ha : t_okc a ci = true) (hci : (vwCl[ci]?).map (fun q => q.1) = some y.cls) (hna : As.length = na) (hsk : sk = As.reverse ++ .ref a :: st) (hdd : d2 + 1 ≤ d) (hst : (st.map fun v => v.category).sum ≤ 8) (hcs : cells ≤ mc) (hss : slots ≤ ms) (kk : mj_G D cy ad bs X cc nL own rt nm d mc ms 1065 (t_P post) (pc + 3) lv (t_pv r :: st) (t_m s) 1065 cells slots) : mj_G D cy ad bs X cc nL own rt nm d mc ms 1065 (t_P post) (pc) lv (sk) (t_m s) 1065 cells slots := by
  refine t_callV hd f hC hlk hi hse ha hci hna hsk hdd hst hcs hss (fun v s2 hp => ?_)
  obtain ⟨rfl, rfl⟩ := hp
  exact kk
end TCA
section TRA
variable {D : va_G} {cy : Nat → ClassId} {ad : Nat → Nat} {bs : Nat} {X : State → Heap → Prop} {cc : ByteArray} {nL : Nat} {own : String} {rt : Option FieldType} {nm : String} {d mc ms : Nat} {post : Option Value → t_S → Prop} {pc : Nat} {lv : List (Nat × Value)} {s : t_S} {cells slots : Nat}
theorem t_aret {x : Nat} {ty : FieldType} (hd : decode cc pc = .ok (.areturn, 1)) (hr : rt = some ty) (hty : ty.isReference = true) (hp : post (some (t_pv x)) s) (hc : cells ≤ mc) (hs : slots ≤ ms) : mj_G D cy ad bs X cc nL own rt nm d mc ms 1065 (t_P post) pc lv [t_pv x] (t_m s) 1065 cells slots := mj_aret hd hr hty (by
    by_cases z : x = 0
    · subst z
      exact Or.inl rfl
    · exact Or.inr ⟨x, t_pvR z⟩) ⟨s, rfl, hp⟩ rfl hc hs
end TRA
