theorem dX2_packed_0 : decode cX2_packed 0 = .ok (.lconst 0, 1) := by decide +kernel
theorem dX2_packed_1 : decode cX2_packed 1 = .ok (.lstore_n 3, 1) := by decide +kernel
theorem dX2_packed_2 : decode cX2_packed 2 = .ok (.iload_n 1, 1) := by decide +kernel
theorem dX2_packed_3 : decode cX2_packed 3 = .ok (.istore 5, 2) := by decide +kernel
theorem dX2_packed_5 : decode cX2_packed 5 = .ok (.iload 5, 2) := by decide +kernel
theorem dX2_packed_7 : decode cX2_packed 7 = .ok (.iload_n 2, 1) := by decide +kernel
theorem dX2_packed_8 : decode cX2_packed 8 = .ok (.if_icmp .ge 27, 3) := by decide +kernel
theorem dX2_packed_11 : decode cX2_packed 11 = .ok (.lload_n 3, 1) := by decide +kernel
theorem dX2_packed_12 : decode cX2_packed 12 = .ok (.bipush 8, 2) := by decide +kernel
theorem dX2_packed_14 : decode cX2_packed 14 = .ok (.lshl, 1) := by decide +kernel
theorem dX2_packed_15 : decode cX2_packed 15 = .ok (.aload_n 0, 1) := by decide +kernel
theorem dX2_packed_16 : decode cX2_packed 16 = .ok (.getfield 11, 3) := by decide +kernel
theorem dX2_packed_19 : decode cX2_packed 19 = .ok (.iload 5, 2) := by decide +kernel
theorem dX2_packed_21 : decode cX2_packed 21 = .ok (.baload, 1) := by decide +kernel
theorem dX2_packed_22 : decode cX2_packed 22 = .ok (.sipush 255, 3) := by decide +kernel
theorem dX2_packed_25 : decode cX2_packed 25 = .ok (.iand, 1) := by decide +kernel
theorem dX2_packed_26 : decode cX2_packed 26 = .ok (.i2l, 1) := by decide +kernel
theorem dX2_packed_27 : decode cX2_packed 27 = .ok (.lor, 1) := by decide +kernel
theorem dX2_packed_28 : decode cX2_packed 28 = .ok (.lstore_n 3, 1) := by decide +kernel
theorem dX2_packed_29 : decode cX2_packed 29 = .ok (.iinc 5 1, 3) := by decide +kernel
theorem dX2_packed_32 : decode cX2_packed 32 = .ok (.goto (-27), 3) := by decide +kernel
theorem dX2_packed_35 : decode cX2_packed 35 = .ok (.lload_n 3, 1) := by decide +kernel
theorem dX2_packed_36 : decode cX2_packed 36 = .ok (.lreturn, 1) := by decide +kernel
/-- the bytes f i, f (i + 1) .. (k of them) behind acc, the highest first -/
def lx_pk (f : Nat → Int32) : Nat → Nat → Int64 → Int64
  | 0, _, acc => acc
  | k + 1, i, acc => lx_pk f k (i + 1) (acc <<< ((8 : Int32).toInt64 &&& 63) ||| (f i &&& 255).toInt64)
/-- Lexer.packed(from, to) -/
theorem C_X2_packed (a T n fr to : Nat) (w1 w2 w6 w7 w8 w9 : Int32) (w10 : Int64) (w11 w12 w13 : Int32) (f : Nat → Int32) (h : mj_H) (ha : a < n) (hT : T < n) (eA : h a = .inr (2, [.ref T, .int w1, .int w2, .ref (T + 1), .ref (T + 2), .ref (T + 3), .int w6, .int w7, .int w8, .int w9, .long w10, .int w11, .int w12, .int w13, .ref (T + 4), .ref (T + 5), .ref (T + 6), .ref (T + 7), .ref (T + 8), .ref (T + 9)])) (eT : h T = .inl (0, 12000, .inl f)) (hto : to ≤ 12000) (hfr : fr ≤ 13000) : mj_C yX2_packed cX2_packed 6 (some .long) 0 0 0 [.ref a, .int (nI fr), .int (nI to)] h n (fun v h' => v = some (.long (lx_pk f (to - fr) fr 0)) ∧ h' = h) := by
  refine mj_C.of (by decide +kernel) (Nat.le_of_ble_eq_true rfl) ?_
  intro D cy ad bs X
  have loop : ∀ (k i : Nat) (acc : Int64), k = to - i → i ≤ 13000 → lx_pk f k i acc = lx_pk f (to - fr) fr 0 → mj_G D cy ad bs X cX2_packed 6 yX2_packed.cls (some .long) yX2_packed.name 0 0 0 (n + 0) (fun v h' => v = some (.long (lx_pk f (to - fr) fr 0)) ∧ h' = h) 5 [(5, .int (nI i)), (3, .long acc), (0, .ref a), (1, .int (nI fr)), (2, .int (nI to))] [] h n 0 0 := by
    intro k
    induction k with
    | zero =>
      intro i acc hk hi hacc
      refine mj_iload dX2_packed_5 0 rfl ?_
      refine mj_iload_n dX2_packed_7 4 rfl ?_
      refine mj_icmp_ge 35 dX2_packed_8 (by decide) (fun _ => ?_) (fun z => absurd (nI_le (by omega) (by omega)) z)
      refine mj_lload_n dX2_packed_35 1 rfl ?_
      exact mj_lret dX2_packed_36 rfl ⟨by rw [← hacc]; rfl, rfl⟩ rfl (Nat.le_refl _) (Nat.le_refl _)
    | succ k ih =>
      intro i acc hk hi hacc
      refine mj_iload dX2_packed_5 0 rfl ?_
      refine mj_iload_n dX2_packed_7 4 rfl ?_
      refine mj_icmp_ge 35 dX2_packed_8 (by decide) (fun z => absurd z (nI_ge (by omega) (by omega))) (fun _ => ?_)
      refine mj_lload_n dX2_packed_11 1 rfl ?_
      refine mj_bipush (v := 8) dX2_packed_12 (by decide) ?_
      refine mj_lshl (v := acc <<< ((8 : Int32).toInt64 &&& 63)) dX2_packed_14 rfl ?_
      refine mj_aload_n dX2_packed_15 2 rfl ?_
      refine mj_get dX2_packed_16 F_X2_11 (by omega) eA rfl ?_
      refine mj_iload dX2_packed_19 0 rfl ?_
      refine mj_bald dX2_packed_21 (by omega) eT (vp_in_nI (by omega) (by omega)) ?_
      rw [nI_clamp (by omega)]
      refine mj_sipush (v := 255) dX2_packed_22 (by decide) ?_
      refine mj_iand dX2_packed_25 ?_
      refine mj_i2l (v := ((f i) &&& 255).toInt64) dX2_packed_26 rfl ?_
      refine mj_lor dX2_packed_27 ?_
      refine mj_lstore_n 3 (lv2 := [(3, .long ((acc <<< ((8 : Int32).toInt64 &&& 63)) ||| (((f i) &&& 255).toInt64))), (5, .int (nI i)), (0, .ref a), (1, .int (nI fr)), (2, .int (nI to))]) dX2_packed_28 rfl (by decide) rfl ?_
      refine mj_iinc (k := 1) (v := nI (i + 1)) (lv2 := [(5, .int (nI (i + 1))), (3, .long ((acc <<< ((8 : Int32).toInt64 &&& 63)) ||| (((f i) &&& 255).toInt64))), (0, .ref a), (1, .int (nI fr)), (2, .int (nI to))]) dX2_packed_29 rfl (nI_1 _) (by decide) rfl ?_
      refine mj_goto 5 dX2_packed_32 (by decide) ?_
      refine mj_sublv [(5, .int (nI (i + 1))), (3, .long (acc <<< ((8 : Int32).toInt64 &&& 63) ||| (f i &&& 255).toInt64)), (0, .ref a), (1, .int (nI fr)), (2, .int (nI to))] [0, 1, 2, 3, 4] rfl ?_
      exact ih (i + 1) _ (by omega) (by omega) hacc
  refine mj_lconst (v := 0) dX2_packed_0 (by decide) ?_
  refine mj_lstore_n 3 (lv2 := [(3, .long 0), (0, .ref a), (1, .int (nI fr)), (2, .int (nI to))]) dX2_packed_1 rfl (by decide) rfl ?_
  refine mj_iload_n dX2_packed_2 2 rfl ?_
  refine mj_istore (lv2 := [(5, .int (nI fr)), (3, .long 0), (0, .ref a), (1, .int (nI fr)), (2, .int (nI to))]) dX2_packed_3 (by decide) rfl ?_
  exact loop (to - fr) fr 0 rfl hfr rfl
theorem dX2_addWord_0 : decode cX2_addWord 0 = .ok (.aload_n 0, 1) := by decide +kernel
theorem dX2_addWord_1 : decode cX2_addWord 1 = .ok (.getfield 68, 3) := by decide +kernel
theorem dX2_addWord_4 : decode cX2_addWord 4 = .ok (.sipush 8000, 3) := by decide +kernel
theorem dX2_addWord_7 : decode cX2_addWord 7 = .ok (.if_icmp .lt 6, 3) := by decide +kernel
theorem dX2_addWord_10 : decode cX2_addWord 10 = .ok (.bipush 66, 2) := by decide +kernel
theorem dX2_addWord_12 : decode cX2_addWord 12 = .ok (.ireturn, 1) := by decide +kernel
theorem dX2_addWord_13 : decode cX2_addWord 13 = .ok (.aload_n 0, 1) := by decide +kernel
theorem dX2_addWord_14 : decode cX2_addWord 14 = .ok (.getfield 68, 3) := by decide +kernel
theorem dX2_addWord_17 : decode cX2_addWord 17 = .ok (.istore 5, 2) := by decide +kernel
theorem dX2_addWord_19 : decode cX2_addWord 19 = .ok (.aload_n 0, 1) := by decide +kernel
theorem dX2_addWord_20 : decode cX2_addWord 20 = .ok (.dup, 1) := by decide +kernel
theorem dX2_addWord_21 : decode cX2_addWord 21 = .ok (.getfield 68, 3) := by decide +kernel
theorem dX2_addWord_24 : decode cX2_addWord 24 = .ok (.iconst 1, 1) := by decide +kernel
theorem dX2_addWord_25 : decode cX2_addWord 25 = .ok (.iadd, 1) := by decide +kernel
theorem dX2_addWord_26 : decode cX2_addWord 26 = .ok (.putfield 68, 3) := by decide +kernel
theorem dX2_addWord_29 : decode cX2_addWord 29 = .ok (.aload_n 0, 1) := by decide +kernel
theorem dX2_addWord_30 : decode cX2_addWord 30 = .ok (.getfield 33, 3) := by decide +kernel
theorem dX2_addWord_33 : decode cX2_addWord 33 = .ok (.iload 5, 2) := by decide +kernel
theorem dX2_addWord_35 : decode cX2_addWord 35 = .ok (.lload_n 1, 1) := by decide +kernel
theorem dX2_addWord_36 : decode cX2_addWord 36 = .ok (.lastore, 1) := by decide +kernel
theorem dX2_addWord_37 : decode cX2_addWord 37 = .ok (.aload_n 0, 1) := by decide +kernel
theorem dX2_addWord_38 : decode cX2_addWord 38 = .ok (.getfield 36, 3) := by decide +kernel
theorem dX2_addWord_41 : decode cX2_addWord 41 = .ok (.iload 5, 2) := by decide +kernel
theorem dX2_addWord_43 : decode cX2_addWord 43 = .ok (.iload_n 3, 1) := by decide +kernel
theorem dX2_addWord_44 : decode cX2_addWord 44 = .ok (.iastore, 1) := by decide +kernel
theorem dX2_addWord_45 : decode cX2_addWord 45 = .ok (.aload_n 0, 1) := by decide +kernel
theorem dX2_addWord_46 : decode cX2_addWord 46 = .ok (.getfield 39, 3) := by decide +kernel
theorem dX2_addWord_49 : decode cX2_addWord 49 = .ok (.iload 5, 2) := by decide +kernel
theorem dX2_addWord_51 : decode cX2_addWord 51 = .ok (.iload 4, 2) := by decide +kernel
theorem dX2_addWord_53 : decode cX2_addWord 53 = .ok (.iastore, 1) := by decide +kernel
theorem dX2_addWord_54 : decode cX2_addWord 54 = .ok (.aload_n 0, 1) := by decide +kernel
theorem dX2_addWord_55 : decode cX2_addWord 55 = .ok (.getfield 42, 3) := by decide +kernel
theorem dX2_addWord_58 : decode cX2_addWord 58 = .ok (.iload 4, 2) := by decide +kernel
theorem dX2_addWord_60 : decode cX2_addWord 60 = .ok (.iload 5, 2) := by decide +kernel
theorem dX2_addWord_62 : decode cX2_addWord 62 = .ok (.iconst 1, 1) := by decide +kernel
theorem dX2_addWord_63 : decode cX2_addWord 63 = .ok (.iadd, 1) := by decide +kernel
theorem dX2_addWord_64 : decode cX2_addWord 64 = .ok (.iastore, 1) := by decide +kernel
theorem dX2_addWord_65 : decode cX2_addWord 65 = .ok (.aload_n 0, 1) := by decide +kernel
theorem dX2_addWord_66 : decode cX2_addWord 66 = .ok (.getfield 26, 3) := by decide +kernel
theorem dX2_addWord_69 : decode cX2_addWord 69 = .ok (.iload 5, 2) := by decide +kernel
theorem dX2_addWord_71 : decode cX2_addWord 71 = .ok (.iconst 0, 1) := by decide +kernel
theorem dX2_addWord_72 : decode cX2_addWord 72 = .ok (.iastore, 1) := by decide +kernel
theorem dX2_addWord_73 : decode cX2_addWord 73 = .ok (.aload_n 0, 1) := by decide +kernel
theorem dX2_addWord_74 : decode cX2_addWord 74 = .ok (.getfield 29, 3) := by decide +kernel
theorem dX2_addWord_77 : decode cX2_addWord 77 = .ok (.iload 5, 2) := by decide +kernel
theorem dX2_addWord_79 : decode cX2_addWord 79 = .ok (.iconst 0, 1) := by decide +kernel
theorem dX2_addWord_80 : decode cX2_addWord 80 = .ok (.bastore, 1) := by decide +kernel
theorem dX2_addWord_81 : decode cX2_addWord 81 = .ok (.iload 5, 2) := by decide +kernel
theorem dX2_addWord_83 : decode cX2_addWord 83 = .ok (.ireturn, 1) := by decide +kernel
/-- Lexer.addWord(head, tail, slot): the wd-th word -/
theorem C_X2_addWord (a T n wd sl : Nat) (w1 w2 w6 w7 w8 w9 : Int32) (w10 : Int64) (w11 w12 : Int32) (hd : Nat → Int64) (tl so mn ie f : Nat → Int32) (sN : Nat → Nat) (H : Int64) (t : Int32) (h : mj_H) (ha : a < n) (hT : T + 9 < n) (haT : a < T) (eA : h a = .inr (2, [.ref T, .int w1, .int w2, .ref (T + 1), .ref (T + 2), .ref (T + 3), .int w6, .int w7, .int w8, .int w9, .long w10, .int w11, .int w12, .int (nI wd), .ref (T + 4), .ref (T + 5), .ref (T + 6), .ref (T + 7), .ref (T + 8), .ref (T + 9)])) (rT : h T = .inl (0, 12000, .inl f)) (r4 : h (T + 4) = .inl (1, 8000, .inl mn)) (r5 : h (T + 5) = .inl (3, 8000, .inl ie)) (r6 : h (T + 6) = .inl (2, 8000, .inr (.inl hd))) (r7 : h (T + 7) = .inl (1, 8000, .inl tl)) (r8 : h (T + 8) = .inl (1, 8000, .inl so)) (r9 : h (T + 9) = .inl (1, 16384, .inl ((fun j => nI (sN j))))) (hwd : wd < 8000) (hsl : sl < 16384) : mj_C yX2_addWord cX2_addWord 6 (some .int) 0 0 0 [.ref a, .long H, .int t, .int (nI sl)] h n (fun v h' => v = some (.int (nI wd)) ∧ h' a = .inr (2, [.ref T, .int w1, .int w2, .ref (T + 1), .ref (T + 2), .ref (T + 3), .int w6, .int w7, .int w8, .int w9, .long w10, .int w11, .int w12, .int (nI (wd + 1)), .ref (T + 4), .ref (T + 5), .ref (T + 6), .ref (T + 7), .ref (T + 8), .ref (T + 9)]) ∧ h' T = .inl (0, 12000, .inl f) ∧ h' (T + 4) = .inl (1, 8000, .inl ((va_up mn wd 0))) ∧ h' (T + 5) = .inl (3, 8000, .inl ((va_up ie wd 0))) ∧ h' (T + 6) = .inl (2, 8000, .inr (.inl ((va_up hd wd H)))) ∧ h' (T + 7) = .inl (1, 8000, .inl ((va_up tl wd t))) ∧ h' (T + 8) = .inl (1, 8000, .inl ((va_up so wd (nI sl)))) ∧ h' (T + 9) = .inl (1, 16384, .inl ((va_up ((fun j => nI (sN j))) sl (nI (wd + 1))))) ∧ ∀ j, j ≠ a → (j < T + 4 ∨ T + 9 < j) → h' j = h j) := by
  refine mj_C.of (by decide +kernel) (Nat.le_of_ble_eq_true rfl) ?_
  intro D cy ad bs X
  refine mj_aload_n dX2_addWord_0 0 rfl ?_
  refine mj_get dX2_addWord_1 F_X2_68 (by omega) eA rfl ?_
  refine mj_sipush (v := 8000) dX2_addWord_4 (by decide) ?_
  refine mj_icmp_lt 13 dX2_addWord_7 (by decide) (fun _ => ?_) (fun z => absurd (show nI wd < nI 8000 from nI_lt (by omega) (by omega)) z)
  refine mj_aload_n dX2_addWord_13 0 rfl ?_
  refine mj_get dX2_addWord_14 F_X2_68 (by omega) eA rfl ?_
  refine mj_istore (lv2 := [(5, .int (nI wd)), (0, .ref a), (1, .long H), (3, .int t), (4, .int (nI sl))]) dX2_addWord_17 (by decide) rfl ?_
  refine mj_aload_n dX2_addWord_19 1 rfl ?_
  refine mj_dup dX2_addWord_20 rfl ?_
  refine mj_get dX2_addWord_21 F_X2_68 (by omega) eA rfl ?_
  refine mj_iconst (v := 1) dX2_addWord_24 (by decide) ?_
  refine mj_iadd dX2_addWord_25 ?_
  rw [show (nI wd : Int32) + 1 = nI (wd + 1) from by rw [show (1 : Int32) = nI 1 from rfl, nI_add]]
  refine mj_putA dX2_addWord_26 F_X2_68 (by omega) eA rfl (Nat.le_of_ble_eq_true rfl) (fun h1 q2 o3 => ?_)
  replace q2 : h1 a = .inr (2, [.ref T, .int w1, .int w2, .ref (T + 1), .ref (T + 2), .ref (T + 3), .int w6, .int w7, .int w8, .int w9, .long w10, .int w11, .int w12, .int (nI (wd + 1)), .ref (T + 4), .ref (T + 5), .ref (T + 6), .ref (T + 7), .ref (T + 8), .ref (T + 9)]) := q2
  refine mj_aload_n dX2_addWord_29 1 rfl ?_
  refine mj_get dX2_addWord_30 F_X2_33 (by omega) q2 rfl ?_
  refine mj_iload dX2_addWord_33 0 rfl ?_
  refine mj_lload_n dX2_addWord_35 2 rfl ?_
  have e4 : h1 (T + 6) = .inl (2, 8000, .inr (.inl hd)) := (o3 _ (by omega)).trans (r6)
  refine mj_lastA dX2_addWord_36 (by omega) e4 (vp_in_nI (by omega) (by omega)) (fun h5 q6 o7 => ?_)
  rw [nI_clamp (by omega)] at q6
  replace q6 : h5 (T + 6) = .inl (2, 8000, .inr (.inl ((va_up hd wd H)))) := q6
  refine mj_aload_n dX2_addWord_37 1 rfl ?_
  have e8 : h5 a = .inr (2, [.ref T, .int w1, .int w2, .ref (T + 1), .ref (T + 2), .ref (T + 3), .int w6, .int w7, .int w8, .int w9, .long w10, .int w11, .int w12, .int (nI (wd + 1)), .ref (T + 4), .ref (T + 5), .ref (T + 6), .ref (T + 7), .ref (T + 8), .ref (T + 9)]) := (o7 _ (by omega)).trans (q2)
  refine mj_get dX2_addWord_38 F_X2_36 (by omega) e8 rfl ?_
  refine mj_iload dX2_addWord_41 0 rfl ?_
  refine mj_iload_n dX2_addWord_43 3 rfl ?_
  have e9 : h5 (T + 7) = .inl (1, 8000, .inl tl) := (o7 _ (by omega)).trans ((o3 _ (by omega)).trans (r7))
  refine mj_iastA dX2_addWord_44 (by omega) e9 (vp_in_nI (by omega) (by omega)) (fun h10 q11 o12 => ?_)
  rw [nI_clamp (by omega)] at q11
  replace q11 : h10 (T + 7) = .inl (1, 8000, .inl ((va_up tl wd t))) := q11
  refine mj_aload_n dX2_addWord_45 1 rfl ?_
  have e13 : h10 a = .inr (2, [.ref T, .int w1, .int w2, .ref (T + 1), .ref (T + 2), .ref (T + 3), .int w6, .int w7, .int w8, .int w9, .long w10, .int w11, .int w12, .int (nI (wd + 1)), .ref (T + 4), .ref (T + 5), .ref (T + 6), .ref (T + 7), .ref (T + 8), .ref (T + 9)]) := (o12 _ (by omega)).trans (e8)
  refine mj_get dX2_addWord_46 F_X2_39 (by omega) e13 rfl ?_
  refine mj_iload dX2_addWord_49 0 rfl ?_
  refine mj_iload dX2_addWord_51 4 rfl ?_
  have e14 : h10 (T + 8) = .inl (1, 8000, .inl so) := (o12 _ (by omega)).trans ((o7 _ (by omega)).trans ((o3 _ (by omega)).trans (r8)))
  refine mj_iastA dX2_addWord_53 (by omega) e14 (vp_in_nI (by omega) (by omega)) (fun h15 q16 o17 => ?_)
  rw [nI_clamp (by omega)] at q16
  replace q16 : h15 (T + 8) = .inl (1, 8000, .inl ((va_up so wd (nI sl)))) := q16
  refine mj_aload_n dX2_addWord_54 1 rfl ?_
  have e18 : h15 a = .inr (2, [.ref T, .int w1, .int w2, .ref (T + 1), .ref (T + 2), .ref (T + 3), .int w6, .int w7, .int w8, .int w9, .long w10, .int w11, .int w12, .int (nI (wd + 1)), .ref (T + 4), .ref (T + 5), .ref (T + 6), .ref (T + 7), .ref (T + 8), .ref (T + 9)]) := (o17 _ (by omega)).trans (e13)
  refine mj_get dX2_addWord_55 F_X2_42 (by omega) e18 rfl ?_
  refine mj_iload dX2_addWord_58 4 rfl ?_
  refine mj_iload dX2_addWord_60 0 rfl ?_
  refine mj_iconst (v := 1) dX2_addWord_62 (by decide) ?_
  refine mj_iadd dX2_addWord_63 ?_
  rw [show (nI wd : Int32) + 1 = nI (wd + 1) from by rw [show (1 : Int32) = nI 1 from rfl, nI_add]]
  have e19 : h15 (T + 9) = .inl (1, 16384, .inl ((fun j => nI (sN j)))) := (o17 _ (by omega)).trans ((o12 _ (by omega)).trans ((o7 _ (by omega)).trans ((o3 _ (by omega)).trans (r9))))
  refine mj_iastA dX2_addWord_64 (by omega) e19 (vp_in_nI (by omega) (by omega)) (fun h20 q21 o22 => ?_)
  rw [nI_clamp (by omega)] at q21
  replace q21 : h20 (T + 9) = .inl (1, 16384, .inl ((va_up ((fun j => nI (sN j))) sl (nI (wd + 1))))) := q21
  refine mj_aload_n dX2_addWord_65 1 rfl ?_
  have e23 : h20 a = .inr (2, [.ref T, .int w1, .int w2, .ref (T + 1), .ref (T + 2), .ref (T + 3), .int w6, .int w7, .int w8, .int w9, .long w10, .int w11, .int w12, .int (nI (wd + 1)), .ref (T + 4), .ref (T + 5), .ref (T + 6), .ref (T + 7), .ref (T + 8), .ref (T + 9)]) := (o22 _ (by omega)).trans (e18)
  refine mj_get dX2_addWord_66 F_X2_26 (by omega) e23 rfl ?_
  refine mj_iload dX2_addWord_69 0 rfl ?_
  refine mj_iconst (v := 0) dX2_addWord_71 (by decide) ?_
  have e24 : h20 (T + 4) = .inl (1, 8000, .inl mn) := (o22 _ (by omega)).trans ((o17 _ (by omega)).trans ((o12 _ (by omega)).trans ((o7 _ (by omega)).trans ((o3 _ (by omega)).trans (r4)))))
  refine mj_iastA dX2_addWord_72 (by omega) e24 (vp_in_nI (by omega) (by omega)) (fun h25 q26 o27 => ?_)
  rw [nI_clamp (by omega)] at q26
  replace q26 : h25 (T + 4) = .inl (1, 8000, .inl ((va_up mn wd 0))) := q26
  refine mj_aload_n dX2_addWord_73 1 rfl ?_
  have e28 : h25 a = .inr (2, [.ref T, .int w1, .int w2, .ref (T + 1), .ref (T + 2), .ref (T + 3), .int w6, .int w7, .int w8, .int w9, .long w10, .int w11, .int w12, .int (nI (wd + 1)), .ref (T + 4), .ref (T + 5), .ref (T + 6), .ref (T + 7), .ref (T + 8), .ref (T + 9)]) := (o27 _ (by omega)).trans (e23)
  refine mj_get dX2_addWord_74 F_X2_29 (by omega) e28 rfl ?_
  refine mj_iload dX2_addWord_77 0 rfl ?_
  refine mj_iconst (v := 0) dX2_addWord_79 (by decide) ?_
  have e29 : h25 (T + 5) = .inl (3, 8000, .inl ie) := (o27 _ (by omega)).trans ((o22 _ (by omega)).trans ((o17 _ (by omega)).trans ((o12 _ (by omega)).trans ((o7 _ (by omega)).trans ((o3 _ (by omega)).trans (r5))))))
  refine mj_zastA dX2_addWord_80 (by omega) e29 (vp_in_nI (by omega) (by omega)) (Or.inl rfl) (fun h30 q31 o32 => ?_)
  rw [nI_clamp (by omega)] at q31
  replace q31 : h30 (T + 5) = .inl (3, 8000, .inl ((va_up ie wd 0))) := q31
  refine mj_iload dX2_addWord_81 0 rfl ?_
  have e33 : h30 a = .inr (2, [.ref T, .int w1, .int w2, .ref (T + 1), .ref (T + 2), .ref (T + 3), .int w6, .int w7, .int w8, .int w9, .long w10, .int w11, .int w12, .int (nI (wd + 1)), .ref (T + 4), .ref (T + 5), .ref (T + 6), .ref (T + 7), .ref (T + 8), .ref (T + 9)]) := (o32 _ (by omega)).trans (e28)
  have e34 : h30 T = .inl (0, 12000, .inl f) := (o32 _ (by omega)).trans ((o27 _ (by omega)).trans ((o22 _ (by omega)).trans ((o17 _ (by omega)).trans ((o12 _ (by omega)).trans ((o7 _ (by omega)).trans ((o3 _ (by omega)).trans (rT)))))))
  have e35 : h30 (T + 4) = .inl (1, 8000, .inl ((va_up mn wd 0))) := (o32 _ (by omega)).trans (q26)
  have e36 : h30 (T + 6) = .inl (2, 8000, .inr (.inl ((va_up hd wd H)))) := (o32 _ (by omega)).trans ((o27 _ (by omega)).trans ((o22 _ (by omega)).trans ((o17 _ (by omega)).trans ((o12 _ (by omega)).trans (q6)))))
  have e37 : h30 (T + 7) = .inl (1, 8000, .inl ((va_up tl wd t))) := (o32 _ (by omega)).trans ((o27 _ (by omega)).trans ((o22 _ (by omega)).trans ((o17 _ (by omega)).trans (q11))))
  have e38 : h30 (T + 8) = .inl (1, 8000, .inl ((va_up so wd (nI sl)))) := (o32 _ (by omega)).trans ((o27 _ (by omega)).trans ((o22 _ (by omega)).trans (q16)))
  have e39 : h30 (T + 9) = .inl (1, 16384, .inl ((va_up ((fun j => nI (sN j))) sl (nI (wd + 1))))) := (o32 _ (by omega)).trans ((o27 _ (by omega)).trans (q21))
  exact mj_iret dX2_addWord_83 rfl rfl ⟨rfl, e33, e34, e35, q31, e36, e37, e38, e39, fun j hj1 hj2 => ((o32 j (by omega)).trans ((o27 j (by omega)).trans ((o22 j (by omega)).trans ((o17 j (by omega)).trans ((o12 j (by omega)).trans ((o7 j (by omega)).trans (o3 j (by omega))))))))⟩ rfl (Nat.le_refl _) (Nat.le_refl _)
theorem dX2_wordOf_0 : decode cX2_wordOf 0 = .ok (.aload_n 0, 1) := by decide +kernel
theorem dX2_wordOf_1 : decode cX2_wordOf 1 = .ok (.iload_n 1, 1) := by decide +kernel
theorem dX2_wordOf_2 : decode cX2_wordOf 2 = .ok (.iload_n 2, 1) := by decide +kernel
theorem dX2_wordOf_3 : decode cX2_wordOf 3 = .ok (.iload_n 1, 1) := by decide +kernel
theorem dX2_wordOf_4 : decode cX2_wordOf 4 = .ok (.bipush 8, 2) := by decide +kernel
theorem dX2_wordOf_6 : decode cX2_wordOf 6 = .ok (.iadd, 1) := by decide +kernel
theorem dX2_wordOf_7 : decode cX2_wordOf 7 = .ok (.invokestatic 144, 3) := by decide +kernel
theorem dX2_wordOf_10 : decode cX2_wordOf 10 = .ok (.invokevirtual 149, 3) := by decide +kernel
theorem dX2_wordOf_13 : decode cX2_wordOf 13 = .ok (.lstore_n 3, 1) := by decide +kernel
theorem dX2_wordOf_14 : decode cX2_wordOf 14 = .ok (.aload_n 0, 1) := by decide +kernel
theorem dX2_wordOf_15 : decode cX2_wordOf 15 = .ok (.iload_n 1, 1) := by decide +kernel
theorem dX2_wordOf_16 : decode cX2_wordOf 16 = .ok (.bipush 8, 2) := by decide +kernel
theorem dX2_wordOf_18 : decode cX2_wordOf 18 = .ok (.iadd, 1) := by decide +kernel
theorem dX2_wordOf_19 : decode cX2_wordOf 19 = .ok (.iload_n 2, 1) := by decide +kernel
theorem dX2_wordOf_20 : decode cX2_wordOf 20 = .ok (.invokevirtual 149, 3) := by decide +kernel
theorem dX2_wordOf_23 : decode cX2_wordOf 23 = .ok (.l2i, 1) := by decide +kernel
theorem dX2_wordOf_24 : decode cX2_wordOf 24 = .ok (.istore 5, 2) := by decide +kernel
theorem dX2_wordOf_26 : decode cX2_wordOf 26 = .ok (.lload_n 3, 1) := by decide +kernel
theorem dX2_wordOf_27 : decode cX2_wordOf 27 = .ok (.iload 5, 2) := by decide +kernel
theorem dX2_wordOf_29 : decode cX2_wordOf 29 = .ok (.i2l, 1) := by decide +kernel
theorem dX2_wordOf_30 : decode cX2_wordOf 30 = .ok (.ldc2_w 153, 3) := by decide +kernel
theorem dX2_wordOf_33 : decode cX2_wordOf 33 = .ok (.lmul, 1) := by decide +kernel
theorem dX2_wordOf_34 : decode cX2_wordOf 34 = .ok (.lxor, 1) := by decide +kernel
theorem dX2_wordOf_35 : decode cX2_wordOf 35 = .ok (.ldc2_w 155, 3) := by decide +kernel
theorem dX2_wordOf_38 : decode cX2_wordOf 38 = .ok (.lmul, 1) := by decide +kernel
theorem dX2_wordOf_39 : decode cX2_wordOf 39 = .ok (.lstore 6, 2) := by decide +kernel
theorem dX2_wordOf_41 : decode cX2_wordOf 41 = .ok (.lload 6, 2) := by decide +kernel
theorem dX2_wordOf_43 : decode cX2_wordOf 43 = .ok (.bipush 50, 2) := by decide +kernel
theorem dX2_wordOf_45 : decode cX2_wordOf 45 = .ok (.lushr, 1) := by decide +kernel
theorem dX2_wordOf_46 : decode cX2_wordOf 46 = .ok (.l2i, 1) := by decide +kernel
theorem dX2_wordOf_47 : decode cX2_wordOf 47 = .ok (.sipush 16383, 3) := by decide +kernel
theorem dX2_wordOf_50 : decode cX2_wordOf 50 = .ok (.iand, 1) := by decide +kernel
theorem dX2_wordOf_51 : decode cX2_wordOf 51 = .ok (.istore 8, 2) := by decide +kernel
theorem dX2_wordOf_53 : decode cX2_wordOf 53 = .ok (.iconst 0, 1) := by decide +kernel
theorem dX2_wordOf_54 : decode cX2_wordOf 54 = .ok (.istore 9, 2) := by decide +kernel
theorem dX2_wordOf_56 : decode cX2_wordOf 56 = .ok (.iload 9, 2) := by decide +kernel
theorem dX2_wordOf_58 : decode cX2_wordOf 58 = .ok (.sipush 16384, 3) := by decide +kernel
theorem dX2_wordOf_61 : decode cX2_wordOf 61 = .ok (.if_icmp .ge 73, 3) := by decide +kernel
theorem dX2_wordOf_64 : decode cX2_wordOf 64 = .ok (.iload 8, 2) := by decide +kernel
theorem dX2_wordOf_66 : decode cX2_wordOf 66 = .ok (.iload 9, 2) := by decide +kernel
theorem dX2_wordOf_68 : decode cX2_wordOf 68 = .ok (.iadd, 1) := by decide +kernel
theorem dX2_wordOf_69 : decode cX2_wordOf 69 = .ok (.sipush 16383, 3) := by decide +kernel
theorem dX2_wordOf_72 : decode cX2_wordOf 72 = .ok (.iand, 1) := by decide +kernel
theorem dX2_wordOf_73 : decode cX2_wordOf 73 = .ok (.istore 10, 2) := by decide +kernel
theorem dX2_wordOf_75 : decode cX2_wordOf 75 = .ok (.aload_n 0, 1) := by decide +kernel
theorem dX2_wordOf_76 : decode cX2_wordOf 76 = .ok (.getfield 42, 3) := by decide +kernel
theorem dX2_wordOf_79 : decode cX2_wordOf 79 = .ok (.iload 10, 2) := by decide +kernel
theorem dX2_wordOf_81 : decode cX2_wordOf 81 = .ok (.iaload, 1) := by decide +kernel
theorem dX2_wordOf_82 : decode cX2_wordOf 82 = .ok (.iconst 1, 1) := by decide +kernel
theorem dX2_wordOf_83 : decode cX2_wordOf 83 = .ok (.isub, 1) := by decide +kernel
theorem dX2_wordOf_84 : decode cX2_wordOf 84 = .ok (.istore 11, 2) := by decide +kernel
theorem dX2_wordOf_86 : decode cX2_wordOf 86 = .ok (.iload 11, 2) := by decide +kernel
theorem dX2_wordOf_88 : decode cX2_wordOf 88 = .ok (.ifCond .ge 13, 3) := by decide +kernel
theorem dX2_wordOf_91 : decode cX2_wordOf 91 = .ok (.aload_n 0, 1) := by decide +kernel
theorem dX2_wordOf_92 : decode cX2_wordOf 92 = .ok (.lload_n 3, 1) := by decide +kernel
theorem dX2_wordOf_93 : decode cX2_wordOf 93 = .ok (.iload 5, 2) := by decide +kernel
theorem dX2_wordOf_95 : decode cX2_wordOf 95 = .ok (.iload 10, 2) := by decide +kernel
theorem dX2_wordOf_97 : decode cX2_wordOf 97 = .ok (.invokevirtual 157, 3) := by decide +kernel
theorem dX2_wordOf_100 : decode cX2_wordOf 100 = .ok (.ireturn, 1) := by decide +kernel
theorem dX2_wordOf_101 : decode cX2_wordOf 101 = .ok (.aload_n 0, 1) := by decide +kernel
theorem dX2_wordOf_102 : decode cX2_wordOf 102 = .ok (.getfield 33, 3) := by decide +kernel
theorem dX2_wordOf_105 : decode cX2_wordOf 105 = .ok (.iload 11, 2) := by decide +kernel
theorem dX2_wordOf_107 : decode cX2_wordOf 107 = .ok (.laload, 1) := by decide +kernel
theorem dX2_wordOf_108 : decode cX2_wordOf 108 = .ok (.lload_n 3, 1) := by decide +kernel
theorem dX2_wordOf_109 : decode cX2_wordOf 109 = .ok (.lcmp, 1) := by decide +kernel
theorem dX2_wordOf_110 : decode cX2_wordOf 110 = .ok (.ifCond .ne 18, 3) := by decide +kernel
theorem dX2_wordOf_113 : decode cX2_wordOf 113 = .ok (.aload_n 0, 1) := by decide +kernel
theorem dX2_wordOf_114 : decode cX2_wordOf 114 = .ok (.getfield 36, 3) := by decide +kernel
theorem dX2_wordOf_117 : decode cX2_wordOf 117 = .ok (.iload 11, 2) := by decide +kernel
theorem dX2_wordOf_119 : decode cX2_wordOf 119 = .ok (.iaload, 1) := by decide +kernel
theorem dX2_wordOf_120 : decode cX2_wordOf 120 = .ok (.iload 5, 2) := by decide +kernel
theorem dX2_wordOf_122 : decode cX2_wordOf 122 = .ok (.if_icmp .ne 6, 3) := by decide +kernel
theorem dX2_wordOf_125 : decode cX2_wordOf 125 = .ok (.iload 11, 2) := by decide +kernel
theorem dX2_wordOf_127 : decode cX2_wordOf 127 = .ok (.ireturn, 1) := by decide +kernel
theorem dX2_wordOf_128 : decode cX2_wordOf 128 = .ok (.iinc 9 1, 3) := by decide +kernel
theorem dX2_wordOf_131 : decode cX2_wordOf 131 = .ok (.goto (-75), 3) := by decide +kernel
theorem dX2_wordOf_134 : decode cX2_wordOf 134 = .ok (.bipush 66, 2) := by decide +kernel
theorem dX2_wordOf_136 : decode cX2_wordOf 136 = .ok (.ireturn, 1) := by decide +kernel
/-- where a word of this head and tail is looked for: a free slot (inl), the word's number (inr) -/
def lx_go (hd : Nat → Int64) (tl : Nat → Int32) (sN : Nat → Nat) (H : Int64) (t : Int32) (s0 : Nat) : Nat → Nat → Option (Nat ⊕ Nat)
  | 0, _ => none
  | k + 1, i => if sN ((s0 + i) % 16384) = 0 then some (.inl ((s0 + i) % 16384)) else if hd (sN ((s0 + i) % 16384) - 1) = H ∧ tl (sN ((s0 + i) % 16384) - 1) = t then some (.inr (sN ((s0 + i) % 16384) - 1)) else lx_go hd tl sN H t s0 k (i + 1)
def lx_s0 (H : Int64) (t : Int32) : Nat := ((((H ^^^ (t.toInt64 * (6364136223846793005 : Int64))) * (-7046029254386353131 : Int64)).toUInt64 >>> ((50 : Int32).toInt64.toUInt64 &&& Int64.toUInt64 63)).toInt64.toInt32).toBitVec.toNat % 2 ^ 14
/-- behind addWord: the wd-th word stands in the tables -/
def lx_added (a T wd sl : Nat) (w1 w2 w6 w7 w8 w9 : Int32) (w10 : Int64) (w11 w12 : Int32) (hd : Nat → Int64) (tl so mn ie f : Nat → Int32) (sN : Nat → Nat) (H : Int64) (t : Int32) (h : mj_H) (v : Option Value) (h' : mj_H) : Prop := v = some (.int (nI wd)) ∧ h' a = .inr (2, [.ref T, .int w1, .int w2, .ref (T + 1), .ref (T + 2), .ref (T + 3), .int w6, .int w7, .int w8, .int w9, .long w10, .int w11, .int w12, .int (nI (wd + 1)), .ref (T + 4), .ref (T + 5), .ref (T + 6), .ref (T + 7), .ref (T + 8), .ref (T + 9)]) ∧ h' T = .inl (0, 12000, .inl f) ∧ h' (T + 4) = .inl (1, 8000, .inl ((va_up mn wd 0))) ∧ h' (T + 5) = .inl (3, 8000, .inl ((va_up ie wd 0))) ∧ h' (T + 6) = .inl (2, 8000, .inr (.inl ((va_up hd wd H)))) ∧ h' (T + 7) = .inl (1, 8000, .inl ((va_up tl wd t))) ∧ h' (T + 8) = .inl (1, 8000, .inl ((va_up so wd (nI sl)))) ∧ h' (T + 9) = .inl (1, 16384, .inl ((va_up ((fun j => nI (sN j))) sl (nI (wd + 1))))) ∧ ∀ j, j ≠ a → (j < T + 4 ∨ T + 9 < j) → h' j = h j
/-- behind wordOf -/
def lx_word (a T wd : Nat) (w1 w2 w6 w7 w8 w9 : Int32) (w10 : Int64) (w11 w12 : Int32) (hd : Nat → Int64) (tl so mn ie f : Nat → Int32) (sN : Nat → Nat) (H : Int64) (t : Int32) (h : mj_H) (r : Option (Nat ⊕ Nat)) (v : Option Value) (h' : mj_H) : Prop := match r with
  | none => v = some (.int 66) ∧ h' = h
  | some (.inl sl) => lx_added a T wd sl w1 w2 w6 w7 w8 w9 w10 w11 w12 hd tl so mn ie f sN H t h v h'
  | some (.inr id) => v = some (.int (nI id)) ∧ h' = h
theorem lx_wloop (a T n wd s0 fr to dp : Nat) (w1 w2 w6 w7 w8 w9 : Int32) (w10 : Int64) (w11 w12 : Int32) (hd : Nat → Int64) (tl so mn ie f : Nat → Int32) (sN : Nat → Nat) (H M : Int64) (t : Int32) (h : mj_H) (ha : a < n) (hT : T + 9 < n) (haT : a < T) (eA : h a = .inr (2, [.ref T, .int w1, .int w2, .ref (T + 1), .ref (T + 2), .ref (T + 3), .int w6, .int w7, .int w8, .int w9, .long w10, .int w11, .int w12, .int (nI wd), .ref (T + 4), .ref (T + 5), .ref (T + 6), .ref (T + 7), .ref (T + 8), .ref (T + 9)])) (rT : h T = .inl (0, 12000, .inl f)) (r4 : h (T + 4) = .inl (1, 8000, .inl mn)) (r5 : h (T + 5) = .inl (3, 8000, .inl ie)) (r6 : h (T + 6) = .inl (2, 8000, .inr (.inl hd))) (r7 : h (T + 7) = .inl (1, 8000, .inl tl)) (r8 : h (T + 8) = .inl (1, 8000, .inl so)) (r9 : h (T + 9) = .inl (1, 16384, .inl ((fun j => nI (sN j))))) (hwd : wd < 8000) (hsN : ∀ j, sN j ≤ 8000) (hs0 : s0 < 16384) (hdp : 0 + 1 ≤ dp) (R : Option (Nat ⊕ Nat)) (D : va_G) (cy : Nat → ClassId) (ad : Nat → Nat) (bs : Nat) (X : State → Heap → Prop) : ∀ (k i : Nat), k + i = 16384 → i ≤ 16384 → lx_go hd tl sN H t s0 k i = R → mj_G D cy ad bs X cX2_wordOf 12 yX2_wordOf.cls (some .int) yX2_wordOf.name dp 0 0 (n + 0) (fun v h' => lx_word a T wd w1 w2 w6 w7 w8 w9 w10 w11 w12 hd tl so mn ie f sN H t h R v h') 56 [(9, .int (nI i)), (8, .int (nI s0)), (6, .long M), (5, .int t), (3, .long H), (0, .ref a), (1, .int (nI fr)), (2, .int (nI to))] [] h n 0 0 := by
  intro k
  induction k with
  | zero =>
    intro i hk hi hR
    refine mj_iload dX2_wordOf_56 0 rfl ?_
    refine mj_sipush (v := 16384) dX2_wordOf_58 (by decide) ?_
    refine mj_icmp_ge 134 dX2_wordOf_61 (by decide) (fun _ => ?_) (fun z => absurd (show nI 16384 ≤ nI i from nI_le (by omega) (by omega)) z)
    refine mj_bipush (v := 66) dX2_wordOf_134 (by decide) ?_
    exact mj_iret dX2_wordOf_136 rfl rfl (by rw [← hR]; exact ⟨rfl, rfl⟩) rfl (Nat.le_refl _) (Nat.le_refl _)
  | succ k ih =>
    intro i hk hi hR
    refine mj_iload dX2_wordOf_56 0 rfl ?_
    refine mj_sipush (v := 16384) dX2_wordOf_58 (by decide) ?_
    refine mj_icmp_ge 134 dX2_wordOf_61 (by decide) (fun z => absurd (show nI 16384 ≤ nI i from z) (nI_ge (by omega) (by omega))) (fun _ => ?_)
    refine mj_iload dX2_wordOf_64 1 rfl ?_
    refine mj_iload dX2_wordOf_66 0 rfl ?_
    refine mj_iadd dX2_wordOf_68 ?_
    rw [show (nI s0 : Int32) + nI i = nI (s0 + i) from nI_add _ _]
    refine mj_sipush (v := 16383) dX2_wordOf_69 (by decide) ?_
    refine mj_iand dX2_wordOf_72 ?_
    rw [pk_andN (n := s0 + i) (m := 16383) (by omega) 14 (by decide)]
    have hs : (s0 + i) % 2 ^ 14 = (s0 + i) % 16384 := rfl
    rw [hs]
    have hsl : (s0 + i) % 16384 < 16384 := Nat.mod_lt _ (by decide)
    unfold lx_go at hR
    generalize hsg : (s0 + i) % 16384 = sl at hR hsl ⊢
    refine mj_istore (lv2 := [(10, .int (nI sl)), (9, .int (nI i)), (8, .int (nI s0)), (6, .long M), (5, .int t), (3, .long H), (0, .ref a), (1, .int (nI fr)), (2, .int (nI to))]) dX2_wordOf_73 (by decide) rfl ?_
    refine mj_aload_n dX2_wordOf_75 6 rfl ?_
    refine mj_get dX2_wordOf_76 F_X2_42 (by omega) eA rfl ?_
    refine mj_iload dX2_wordOf_79 0 rfl ?_
    refine mj_iald dX2_wordOf_81 (by omega) r9 (vp_in_nI hsl (by omega)) ?_
    rw [nI_clamp (by omega)]
    show mj_G _ _ _ _ _ _ _ _ _ _ _ _ _ _ _ _ _ [.int (nI (sN sl))] _ _ _ _
    refine mj_iconst (v := 1) dX2_wordOf_82 (by decide) ?_
    refine mj_isub dX2_wordOf_83 ?_
    refine mj_istore (lv2 := [(11, .int (nI (sN sl) - 1)), (10, .int (nI sl)), (9, .int (nI i)), (8, .int (nI s0)), (6, .long M), (5, .int t), (3, .long H), (0, .ref a), (1, .int (nI fr)), (2, .int (nI to))]) dX2_wordOf_84 (by decide) rfl ?_
    refine mj_iload dX2_wordOf_86 0 rfl ?_
    cases hc : sN sl with
    | zero =>
      rw [hc] at hR
      rw [if_pos rfl] at hR
      refine mj_if_ge 101 dX2_wordOf_88 (by decide) (fun z => absurd z (by decide)) (fun _ => ?_)
      refine mj_aload_n dX2_wordOf_91 7 rfl ?_
      refine mj_lload_n dX2_wordOf_92 6 rfl ?_
      refine mj_iload dX2_wordOf_93 5 rfl ?_
      refine mj_iload dX2_wordOf_95 1 rfl ?_
      refine mj_callV dX2_wordOf_97 M_X2_addWord (C_X2_addWord a T n wd sl w1 w2 w6 w7 w8 w9 w10 w11 w12 hd tl so mn ie f sN H t h ha hT haT eA rT r4 r5 r6 r7 r8 r9 hwd hsl) ML_X2_157 IM_X2_addWord SE_X2_addWord ha eA rfl (As := [.long H, .int t, .int (nI sl)]) rfl rfl hdp (Nat.le_of_ble_eq_true rfl) (Nat.le_refl _) (Nat.le_refl _) (fun v h2 hp => ?_)
      obtain ⟨rfl, hp⟩ := hp
      exact mj_iret dX2_wordOf_100 rfl rfl (by rw [← hR]; exact ⟨rfl, hp⟩) rfl (Nat.le_refl _) (Nat.le_refl _)
    | succ c =>
      have hcb := hsN sl
      rw [hc] at hcb
      rw [hc] at hR
      rw [if_neg (Nat.succ_ne_zero c), Nat.add_sub_cancel] at hR
      rw [nI_pred]
      refine mj_if_ge 101 dX2_wordOf_88 (by decide) (fun _ => ?_) (fun z => absurd (nI_pos' (by omega)) z)
      refine mj_aload_n dX2_wordOf_101 7 rfl ?_
      refine mj_get dX2_wordOf_102 F_X2_33 (by omega) eA rfl ?_
      refine mj_iload dX2_wordOf_105 0 rfl ?_
      refine mj_lald dX2_wordOf_107 (by omega) r6 (vp_in_nI (by omega) (by omega)) ?_
      rw [nI_clamp (by omega)]
      refine mj_lload_n dX2_wordOf_108 6 rfl ?_
      refine mj_lcmp dX2_wordOf_109 ?_
      refine mj_if_ne 128 dX2_wordOf_110 (by decide) (fun z => ?_) (fun z => ?_)
      · have hne : ¬ hd c = H := fun q => z ((lg_cmp_eq _ _).mpr q)
        rw [if_neg (fun q => hne q.1)] at hR
        refine mj_iinc (k := 2) (v := nI (i + 1)) (lv2 := [(9, .int (nI (i + 1))), (11, .int (nI c)), (10, .int (nI sl)), (8, .int (nI s0)), (6, .long M), (5, .int t), (3, .long H), (0, .ref a), (1, .int (nI fr)), (2, .int (nI to))]) dX2_wordOf_128 rfl (nI_1 _) (by decide) rfl ?_
        refine mj_goto 56 dX2_wordOf_131 (by decide) ?_
        refine mj_sublv [(9, .int (nI (i + 1))), (8, .int (nI s0)), (6, .long M), (5, .int t), (3, .long H), (0, .ref a), (1, .int (nI fr)), (2, .int (nI to))] [0, 3, 4, 5, 6, 7, 8, 9] rfl ?_
        exact ih (i + 1) (by omega) (by omega) hR
      · have heq : hd c = H := (lg_cmp_eq _ _).mp z
        refine mj_aload_n dX2_wordOf_113 7 rfl ?_
        refine mj_get dX2_wordOf_114 F_X2_36 (by omega) eA rfl ?_
        refine mj_iload dX2_wordOf_117 0 rfl ?_
        refine mj_iald dX2_wordOf_119 (by omega) r7 (vp_in_nI (by omega) (by omega)) ?_
        rw [nI_clamp (by omega)]
        refine mj_iload dX2_wordOf_120 5 rfl ?_
        refine mj_icmp_ne 128 dX2_wordOf_122 (by decide) (fun z2 => ?_) (fun z2 => ?_)
        · rw [if_neg (fun q => z2 q.2)] at hR
          refine mj_iinc (k := 2) (v := nI (i + 1)) (lv2 := [(9, .int (nI (i + 1))), (11, .int (nI c)), (10, .int (nI sl)), (8, .int (nI s0)), (6, .long M), (5, .int t), (3, .long H), (0, .ref a), (1, .int (nI fr)), (2, .int (nI to))]) dX2_wordOf_128 rfl (nI_1 _) (by decide) rfl ?_
          refine mj_goto 56 dX2_wordOf_131 (by decide) ?_
          refine mj_sublv [(9, .int (nI (i + 1))), (8, .int (nI s0)), (6, .long M), (5, .int t), (3, .long H), (0, .ref a), (1, .int (nI fr)), (2, .int (nI to))] [0, 3, 4, 5, 6, 7, 8, 9] rfl ?_
          exact ih (i + 1) (by omega) (by omega) hR
        · have heq2 : tl c = t := z2
          rw [if_pos ⟨heq, heq2⟩] at hR
          refine mj_iload dX2_wordOf_125 0 rfl ?_
          exact mj_iret dX2_wordOf_127 rfl rfl (by rw [← hR]; exact ⟨rfl, rfl⟩) rfl (Nat.le_refl _) (Nat.le_refl _)
theorem lx_min {x y : Nat} (hx : x < 2 ^ 31) (hy : y < 2 ^ 31) : (if nI y < nI x then nI y else nI x) = nI (min x y) := by
  by_cases z : y < x
  · rw [if_pos ((nI_ltI hy hx).mpr z), Nat.min_eq_right (by omega)]
  · rw [if_neg (fun q => z ((nI_ltI hy hx).mp q)), Nat.min_eq_left (by omega)]
/-- Lexer.wordOf(from, to) -/
theorem C_X2_wordOf (a T n wd fr to dp : Nat) (w1 w2 w6 w7 w8 w9 : Int32) (w10 : Int64) (w11 w12 : Int32) (hd : Nat → Int64) (tl so mn ie f : Nat → Int32) (sN : Nat → Nat) (h : mj_H) (ha : a < n) (hT : T + 9 < n) (haT : a < T) (eA : h a = .inr (2, [.ref T, .int w1, .int w2, .ref (T + 1), .ref (T + 2), .ref (T + 3), .int w6, .int w7, .int w8, .int w9, .long w10, .int w11, .int w12, .int (nI wd), .ref (T + 4), .ref (T + 5), .ref (T + 6), .ref (T + 7), .ref (T + 8), .ref (T + 9)])) (rT : h T = .inl (0, 12000, .inl f)) (r4 : h (T + 4) = .inl (1, 8000, .inl mn)) (r5 : h (T + 5) = .inl (3, 8000, .inl ie)) (r6 : h (T + 6) = .inl (2, 8000, .inr (.inl hd))) (r7 : h (T + 7) = .inl (1, 8000, .inl tl)) (r8 : h (T + 8) = .inl (1, 8000, .inl so)) (r9 : h (T + 9) = .inl (1, 16384, .inl ((fun j => nI (sN j))))) (hwd : wd < 8000) (hsN : ∀ j, sN j ≤ 8000) (hto : to ≤ 12000) (hfr : fr ≤ 12000) (hdp : 0 + 1 ≤ dp) : mj_C yX2_wordOf cX2_wordOf 12 (some .int) dp 0 0 [.ref a, .int (nI fr), .int (nI to)] h n (fun v h' => lx_word a T wd w1 w2 w6 w7 w8 w9 w10 w11 w12 hd tl so mn ie f sN (lx_pk f (min to (fr + 8) - fr) fr 0) (lx_pk f (to - (fr + 8)) (fr + 8) 0).toInt32 h (lx_go hd tl sN (lx_pk f (min to (fr + 8) - fr) fr 0) (lx_pk f (to - (fr + 8)) (fr + 8) 0).toInt32 (lx_s0 (lx_pk f (min to (fr + 8) - fr) fr 0) (lx_pk f (to - (fr + 8)) (fr + 8) 0).toInt32) 16384 0) v h') := by
  refine mj_C.of (by decide +kernel) (Nat.le_of_ble_eq_true rfl) ?_
  intro D cy ad bs X
  refine mj_aload_n dX2_wordOf_0 0 rfl ?_
  refine mj_iload_n dX2_wordOf_1 1 rfl ?_
  refine mj_iload_n dX2_wordOf_2 2 rfl ?_
  refine mj_iload_n dX2_wordOf_3 1 rfl ?_
  refine mj_bipush (v := 8) dX2_wordOf_4 (by decide) ?_
  refine mj_iadd dX2_wordOf_6 ?_
  rw [show (nI fr : Int32) + 8 = nI (fr + 8) from by rw [show (8 : Int32) = nI 8 from rfl, nI_add]]
  refine mj_imin dX2_wordOf_7 MM_min_X2_144 (by omega) (Nat.le_of_ble_eq_true rfl) (Nat.le_refl _) (Nat.le_refl _) ?_
  rw [lx_min (by omega) (by omega)]
  refine mj_callV dX2_wordOf_10 M_X2_packed (C_X2_packed a T n fr (min to (fr + 8)) w1 w2 w6 w7 w8 w9 w10 w11 w12 (nI wd) f h ha (by omega) eA rT (by omega) (by omega)) ML_X2_149 IM_X2_packed SE_X2_packed ha eA rfl (As := [.int (nI fr), .int (nI (min to (fr + 8)))]) rfl rfl hdp (Nat.le_of_ble_eq_true rfl) (Nat.le_refl _) (Nat.le_refl _) (fun v h2 hp => ?_)
  obtain ⟨rfl, hh⟩ := hp
  rw [hh]
  clear hh h2
  generalize hH : lx_pk f (min to (fr + 8) - fr) fr 0 = H
  refine mj_lstore_n 3 (lv2 := [(3, .long H), (0, .ref a), (1, .int (nI fr)), (2, .int (nI to))]) dX2_wordOf_13 rfl (by decide) rfl ?_
  refine mj_aload_n dX2_wordOf_14 1 rfl ?_
  refine mj_iload_n dX2_wordOf_15 2 rfl ?_
  refine mj_bipush (v := 8) dX2_wordOf_16 (by decide) ?_
  refine mj_iadd dX2_wordOf_18 ?_
  rw [show (nI fr : Int32) + 8 = nI (fr + 8) from by rw [show (8 : Int32) = nI 8 from rfl, nI_add]]
  refine mj_iload_n dX2_wordOf_19 3 rfl ?_
  refine mj_callV dX2_wordOf_20 M_X2_packed (C_X2_packed a T n (fr + 8) to w1 w2 w6 w7 w8 w9 w10 w11 w12 (nI wd) f h ha (by omega) eA rT (by omega) (by omega)) ML_X2_149 IM_X2_packed SE_X2_packed ha eA rfl (As := [.int (nI (fr + 8)), .int (nI to)]) rfl rfl hdp (Nat.le_of_ble_eq_true rfl) (Nat.le_refl _) (Nat.le_refl _) (fun v h2 hp => ?_)
  obtain ⟨rfl, hh⟩ := hp
  rw [hh]
  clear hh h2
  refine mj_l2i (v := (lx_pk f (to - (fr + 8)) (fr + 8) 0).toInt32) dX2_wordOf_23 rfl ?_
  generalize ht : (lx_pk f (to - (fr + 8)) (fr + 8) 0).toInt32 = t
  refine mj_istore (lv2 := [(5, .int t), (3, .long H), (0, .ref a), (1, .int (nI fr)), (2, .int (nI to))]) dX2_wordOf_24 (by decide) rfl ?_
  refine mj_lload_n dX2_wordOf_26 1 rfl ?_
  refine mj_iload dX2_wordOf_27 0 rfl ?_
  refine mj_i2l (v := t.toInt64) dX2_wordOf_29 rfl ?_
  refine mj_ldc2 dX2_wordOf_30 K_X2_153 ?_
  refine mj_lmul dX2_wordOf_33 ?_
  refine mj_lxor dX2_wordOf_34 ?_
  refine mj_ldc2 dX2_wordOf_35 K_X2_155 ?_
  refine mj_lmul dX2_wordOf_38 ?_
  refine mj_lstore (lv2 := [(6, .long ((H ^^^ ((t.toInt64) * 6364136223846793005)) * ((-7046029254386353131)))), (5, .int t), (3, .long H), (0, .ref a), (1, .int (nI fr)), (2, .int (nI to))]) dX2_wordOf_39 (by decide) rfl ?_
  refine mj_lload dX2_wordOf_41 0 rfl ?_
  refine mj_bipush (v := 50) dX2_wordOf_43 (by decide) ?_
  refine mj_lushr (v := (((H ^^^ ((t.toInt64) * 6364136223846793005)) * ((-7046029254386353131))).toUInt64 >>> ((50 : Int32).toInt64.toUInt64 &&& Int64.toUInt64 63)).toInt64) dX2_wordOf_45 rfl ?_
  refine mj_l2i (v := ((((H ^^^ ((t.toInt64) * 6364136223846793005)) * ((-7046029254386353131))).toUInt64 >>> ((50 : Int32).toInt64.toUInt64 &&& Int64.toUInt64 63)).toInt64).toInt32) dX2_wordOf_46 rfl ?_
  refine mj_sipush (v := 16383) dX2_wordOf_47 (by decide) ?_
  refine mj_iand dX2_wordOf_50 ?_
  rw [pk_and (m := 16383) _ 14 (by decide)]
  show mj_G _ _ _ _ _ _ _ _ _ _ _ _ _ _ _ _ _ [.int (nI (lx_s0 H t))] _ _ _ _
  refine mj_istore (lv2 := [(8, .int (nI (lx_s0 H t))), (6, .long ((H ^^^ ((t.toInt64) * 6364136223846793005)) * ((-7046029254386353131)))), (5, .int t), (3, .long H), (0, .ref a), (1, .int (nI fr)), (2, .int (nI to))]) dX2_wordOf_51 (by decide) rfl ?_
  refine mj_iconst (v := 0) dX2_wordOf_53 (by decide) ?_
  refine mj_istore (lv2 := [(9, .int 0), (8, .int (nI (lx_s0 H t))), (6, .long ((H ^^^ ((t.toInt64) * 6364136223846793005)) * ((-7046029254386353131)))), (5, .int t), (3, .long H), (0, .ref a), (1, .int (nI fr)), (2, .int (nI to))]) dX2_wordOf_54 (by decide) rfl ?_
  refine mj_sublv [(9, .int (nI 0)), (8, .int (nI (lx_s0 H t))), (6, .long ((H ^^^ ((t.toInt64) * 6364136223846793005)) * ((-7046029254386353131)))), (5, .int t), (3, .long H), (0, .ref a), (1, .int (nI fr)), (2, .int (nI to))] [0, 1, 2, 3, 4, 5, 6, 7] rfl ?_
  refine lx_wloop a T n wd (lx_s0 H t) fr to dp w1 w2 w6 w7 w8 w9 w10 w11 w12 hd tl so mn ie f sN H _ t h ha hT haT eA rT r4 r5 r6 r7 r8 r9 hwd hsN (Nat.mod_lt _ (by decide)) hdp _ D cy ad bs X 16384 0 rfl (Nat.zero_le _) rfl
