theorem dX2_init_0 : decode cX2_init 0 = .ok (.aload_n 0, 1) := by decide +kernel
theorem dX2_init_1 : decode cX2_init 1 = .ok (.invokespecial 3, 3) := by decide +kernel
theorem dX2_init_4 : decode cX2_init 4 = .ok (.aload_n 0, 1) := by decide +kernel
theorem dX2_init_5 : decode cX2_init 5 = .ok (.sipush 12000, 3) := by decide +kernel
theorem dX2_init_8 : decode cX2_init 8 = .ok (.newarray .byte, 2) := by decide +kernel
theorem dX2_init_10 : decode cX2_init 10 = .ok (.putfield 11, 3) := by decide +kernel
theorem dX2_init_13 : decode cX2_init 13 = .ok (.aload_n 0, 1) := by decide +kernel
theorem dX2_init_14 : decode cX2_init 14 = .ok (.sipush 12001, 3) := by decide +kernel
theorem dX2_init_17 : decode cX2_init 17 = .ok (.newarray .int, 2) := by decide +kernel
theorem dX2_init_19 : decode cX2_init 19 = .ok (.putfield 15, 3) := by decide +kernel
theorem dX2_init_22 : decode cX2_init 22 = .ok (.aload_n 0, 1) := by decide +kernel
theorem dX2_init_23 : decode cX2_init 23 = .ok (.sipush 12001, 3) := by decide +kernel
theorem dX2_init_26 : decode cX2_init 26 = .ok (.newarray .int, 2) := by decide +kernel
theorem dX2_init_28 : decode cX2_init 28 = .ok (.putfield 19, 3) := by decide +kernel
theorem dX2_init_31 : decode cX2_init 31 = .ok (.aload_n 0, 1) := by decide +kernel
theorem dX2_init_32 : decode cX2_init 32 = .ok (.sipush 12001, 3) := by decide +kernel
theorem dX2_init_35 : decode cX2_init 35 = .ok (.newarray .long, 2) := by decide +kernel
theorem dX2_init_37 : decode cX2_init 37 = .ok (.putfield 22, 3) := by decide +kernel
theorem dX2_init_40 : decode cX2_init 40 = .ok (.aload_n 0, 1) := by decide +kernel
theorem dX2_init_41 : decode cX2_init 41 = .ok (.sipush 8000, 3) := by decide +kernel
theorem dX2_init_44 : decode cX2_init 44 = .ok (.newarray .int, 2) := by decide +kernel
theorem dX2_init_46 : decode cX2_init 46 = .ok (.putfield 26, 3) := by decide +kernel
theorem dX2_init_49 : decode cX2_init 49 = .ok (.aload_n 0, 1) := by decide +kernel
theorem dX2_init_50 : decode cX2_init 50 = .ok (.sipush 8000, 3) := by decide +kernel
theorem dX2_init_53 : decode cX2_init 53 = .ok (.newarray .boolean, 2) := by decide +kernel
theorem dX2_init_55 : decode cX2_init 55 = .ok (.putfield 29, 3) := by decide +kernel
theorem dX2_init_58 : decode cX2_init 58 = .ok (.aload_n 0, 1) := by decide +kernel
theorem dX2_init_59 : decode cX2_init 59 = .ok (.sipush 8000, 3) := by decide +kernel
theorem dX2_init_62 : decode cX2_init 62 = .ok (.newarray .long, 2) := by decide +kernel
theorem dX2_init_64 : decode cX2_init 64 = .ok (.putfield 33, 3) := by decide +kernel
theorem dX2_init_67 : decode cX2_init 67 = .ok (.aload_n 0, 1) := by decide +kernel
theorem dX2_init_68 : decode cX2_init 68 = .ok (.sipush 8000, 3) := by decide +kernel
theorem dX2_init_71 : decode cX2_init 71 = .ok (.newarray .int, 2) := by decide +kernel
theorem dX2_init_73 : decode cX2_init 73 = .ok (.putfield 36, 3) := by decide +kernel
theorem dX2_init_76 : decode cX2_init 76 = .ok (.aload_n 0, 1) := by decide +kernel
theorem dX2_init_77 : decode cX2_init 77 = .ok (.sipush 8000, 3) := by decide +kernel
theorem dX2_init_80 : decode cX2_init 80 = .ok (.newarray .int, 2) := by decide +kernel
theorem dX2_init_82 : decode cX2_init 82 = .ok (.putfield 39, 3) := by decide +kernel
theorem dX2_init_85 : decode cX2_init 85 = .ok (.aload_n 0, 1) := by decide +kernel
theorem dX2_init_86 : decode cX2_init 86 = .ok (.sipush 16384, 3) := by decide +kernel
theorem dX2_init_89 : decode cX2_init 89 = .ok (.newarray .int, 2) := by decide +kernel
theorem dX2_init_91 : decode cX2_init 91 = .ok (.putfield 42, 3) := by decide +kernel
theorem dX2_init_94 : decode cX2_init 94 = .ok (.iconst 0, 1) := by decide +kernel
theorem dX2_init_95 : decode cX2_init 95 = .ok (.istore_n 1, 1) := by decide +kernel
theorem dX2_init_96 : decode cX2_init 96 = .ok (.iconst 0, 1) := by decide +kernel
theorem dX2_init_97 : decode cX2_init 97 = .ok (.istore_n 2, 1) := by decide +kernel
theorem dX2_init_98 : decode cX2_init 98 = .ok (.iload_n 2, 1) := by decide +kernel
theorem dX2_init_99 : decode cX2_init 99 = .ok (.ldc 45, 2) := by decide +kernel
theorem dX2_init_101 : decode cX2_init 101 = .ok (.invokevirtual 47, 3) := by decide +kernel
theorem dX2_init_104 : decode cX2_init 104 = .ok (.if_icmp .ge 48, 3) := by decide +kernel
theorem dX2_init_107 : decode cX2_init 107 = .ok (.aload_n 0, 1) := by decide +kernel
theorem dX2_init_108 : decode cX2_init 108 = .ok (.getfield 11, 3) := by decide +kernel
theorem dX2_init_111 : decode cX2_init 111 = .ok (.iload_n 2, 1) := by decide +kernel
theorem dX2_init_112 : decode cX2_init 112 = .ok (.iload_n 1, 1) := by decide +kernel
theorem dX2_init_113 : decode cX2_init 113 = .ok (.isub, 1) := by decide +kernel
theorem dX2_init_114 : decode cX2_init 114 = .ok (.ldc 45, 2) := by decide +kernel
theorem dX2_init_116 : decode cX2_init 116 = .ok (.iload_n 2, 1) := by decide +kernel
theorem dX2_init_117 : decode cX2_init 117 = .ok (.invokevirtual 53, 3) := by decide +kernel
theorem dX2_init_120 : decode cX2_init 120 = .ok (.i2b, 1) := by decide +kernel
theorem dX2_init_121 : decode cX2_init 121 = .ok (.bastore, 1) := by decide +kernel
theorem dX2_init_122 : decode cX2_init 122 = .ok (.ldc 45, 2) := by decide +kernel
theorem dX2_init_124 : decode cX2_init 124 = .ok (.iload_n 2, 1) := by decide +kernel
theorem dX2_init_125 : decode cX2_init 125 = .ok (.invokevirtual 53, 3) := by decide +kernel
theorem dX2_init_128 : decode cX2_init 128 = .ok (.bipush 32, 2) := by decide +kernel
theorem dX2_init_130 : decode cX2_init 130 = .ok (.if_icmp .ne 16, 3) := by decide +kernel
theorem dX2_init_133 : decode cX2_init 133 = .ok (.aload_n 0, 1) := by decide +kernel
theorem dX2_init_134 : decode cX2_init 134 = .ok (.iconst 0, 1) := by decide +kernel
theorem dX2_init_135 : decode cX2_init 135 = .ok (.iload_n 2, 1) := by decide +kernel
theorem dX2_init_136 : decode cX2_init 136 = .ok (.iload_n 1, 1) := by decide +kernel
theorem dX2_init_137 : decode cX2_init 137 = .ok (.isub, 1) := by decide +kernel
theorem dX2_init_138 : decode cX2_init 138 = .ok (.invokevirtual 57, 3) := by decide +kernel
theorem dX2_init_141 : decode cX2_init 141 = .ok (.pop, 1) := by decide +kernel
theorem dX2_init_142 : decode cX2_init 142 = .ok (.iload_n 2, 1) := by decide +kernel
theorem dX2_init_143 : decode cX2_init 143 = .ok (.iconst 1, 1) := by decide +kernel
theorem dX2_init_144 : decode cX2_init 144 = .ok (.iadd, 1) := by decide +kernel
theorem dX2_init_145 : decode cX2_init 145 = .ok (.istore_n 1, 1) := by decide +kernel
theorem dX2_init_146 : decode cX2_init 146 = .ok (.iinc 2 1, 3) := by decide +kernel
theorem dX2_init_149 : decode cX2_init 149 = .ok (.goto (-51), 3) := by decide +kernel
theorem dX2_init_152 : decode cX2_init 152 = .ok (.return_, 1) := by decide +kernel
/-- the tables' state while the reserved words are taken in: words, where the word begins, heads, tails, slots of words, meanings, whether in an enum, text, words of slots -/
abbrev lx_St : Type := Nat × Nat × (Nat → Int64) × (Nat → Int32) × (Nat → Int32) × (Nat → Int32) × (Nat → Int32) × (Nat → Int32) × (Nat → Nat)
def lx_add (H : Int64) (t : Int32) (r : Option (Nat ⊕ Nat)) (s : lx_St) : lx_St := match r, s with
  | some (.inl sl), (wd, fr, hd, tl, so, mn, ie, f, sN) => (wd + 1, fr, va_up hd wd H, va_up tl wd t, va_up so wd (nI sl), va_up mn wd 0, va_up ie wd 0, f, va_up sN sl (wd + 1))
  | _, s => s
def lx_look (k : Nat) (s : lx_St) : lx_St := match s with
  | (wd, fr, hd, tl, so, mn, ie, f, sN) => lx_add (lx_pk f (min k 8) 0 0) (lx_pk f (k - 8) 8 0).toInt32 (lx_go hd tl sN (lx_pk f (min k 8) 0 0) (lx_pk f (k - 8) 8 0).toInt32 (lx_s0 (lx_pk f (min k 8) 0 0) (lx_pk f (k - 8) 8 0).toInt32) 16384 0) s
/-- one sign of the reserved words -/
def lx_put (c : Int32) (i : Nat) (s : lx_St) : lx_St := match s with
  | (wd, fr, hd, tl, so, mn, ie, f, sN) => match (if c = 32 then lx_look (i - fr) (wd, i + 1, hd, tl, so, mn, ie, va_up f (i - fr) c.toInt8.toInt32.toInt8.toInt32, sN) else (wd, fr, hd, tl, so, mn, ie, va_up f (i - fr) c.toInt8.toInt32.toInt8.toInt32, sN)) with
    | r => r
def lx_run : Nat → lx_St
  | 0 => (0, 0, fun _ => 0, fun _ => 0, fun _ => 0, fun _ => 0, fun _ => 0, fun _ => 0, fun _ => 0)
  | i + 1 => lx_put (mj_ch 0 i) i (lx_run i)
theorem lx_cnt_le (i : Nat) : ((mj_byt.getD 0 []).take i).count 32 ≤ ((mj_byt.getD 0 []).take (i + 1)).count 32 := List.Sublist.count_le _ ((List.take_sublist_take_left (Nat.le_succ i)))
theorem lx_cnt_blank (i : Nat) (hi : i < 380) (hc : mj_ch 0 i = 32) : ((mj_byt.getD 0 []).take (i + 1)).count 32 = ((mj_byt.getD 0 []).take i).count 32 + 1 := by
  have hl : i < (mj_byt.getD 0 []).length := by
    have := (mj_lens 0 (by decide)).1
    have h2 : mj_len.getD 0 0 = 380 := rfl
    omega
  unfold mj_ch at hc
  generalize mj_byt.getD 0 [] = l at hc hl ⊢
  rw [List.take_succ, List.count_append, List.getElem?_eq_getElem hl]
  rw [List.getD_eq_getElem?_getD, List.getElem?_eq_getElem hl] at hc
  have hc2 : l[i] = 32 := hc
  rw [hc2]
  rfl
theorem lx_cnt_all : ((mj_byt.getD 0 []).take 380).count 32 = 66 := by decide +kernel
theorem lx_iloop (a n : Nat) (h : mj_H) (ha : a < n) (hn : n + 10 < 1000000) (D : va_G) (cy : Nat → ClassId) (ad : Nat → Nat) (bs : Nat) (X : State → Heap → Prop) : ∀ (k i : Nat) (g : mj_H) (wd fr : Nat) (hd : Nat → Int64) (tl so mn ie f : Nat → Int32) (sN : Nat → Nat), k + i = 380 → i ≤ 380 → (wd, fr, hd, tl, so, mn, ie, f, sN) = lx_run i → wd ≤ ((mj_byt.getD 0 []).take i).count 32 → (∀ j, sN j ≤ 8000) → fr ≤ i → g a = .inr (2, [.ref n, .int 0, .int 0, .ref (n + 1), .ref (n + 2), .ref (n + 3), .int 0, .int 0, .int 0, .int 0, .long 0, .int 0, .int 0, .int (nI wd), .ref (n + 4), .ref (n + 5), .ref (n + 6), .ref (n + 7), .ref (n + 8), .ref (n + 9)]) → g n = .inl (0, 12000, .inl f) → g (n + 1) = .inl (1, 12001, .inl ((fun _ => 0))) → g (n + 2) = .inl (1, 12001, .inl ((fun _ => 0))) → g (n + 3) = .inl (2, 12001, .inr (.inl ((fun _ => 0)))) → g (n + 4) = .inl (1, 8000, .inl mn) → g (n + 5) = .inl (3, 8000, .inl ie) → g (n + 6) = .inl (2, 8000, .inr (.inl hd)) → g (n + 7) = .inl (1, 8000, .inl tl) → g (n + 8) = .inl (1, 8000, .inl so) → g (n + 9) = .inl (1, 16384, .inl ((fun j => nI (sN j)))) → (∀ j, j < n → j ≠ a → g j = h j) → mj_G D cy ad bs X cX2_init 3 yX2_init.cls none yX2_init.name 4 10 104387 (n + 10) (fun v h' => v = none ∧ ∃ (wd fr : Nat) (hd : Nat → Int64) (tl so mn ie f : Nat → Int32) (sN : Nat → Nat), (wd, fr, hd, tl, so, mn, ie, f, sN) = lx_run 380 ∧ wd ≤ 66 ∧ (∀ j, sN j ≤ 8000) ∧ h' a = .inr (2, [.ref n, .int 0, .int 0, .ref (n + 1), .ref (n + 2), .ref (n + 3), .int 0, .int 0, .int 0, .int 0, .long 0, .int 0, .int 0, .int (nI wd), .ref (n + 4), .ref (n + 5), .ref (n + 6), .ref (n + 7), .ref (n + 8), .ref (n + 9)]) ∧ h' n = .inl (0, 12000, .inl f) ∧ h' (n + 1) = .inl (1, 12001, .inl ((fun _ => 0))) ∧ h' (n + 2) = .inl (1, 12001, .inl ((fun _ => 0))) ∧ h' (n + 3) = .inl (2, 12001, .inr (.inl ((fun _ => 0)))) ∧ h' (n + 4) = .inl (1, 8000, .inl mn) ∧ h' (n + 5) = .inl (3, 8000, .inl ie) ∧ h' (n + 6) = .inl (2, 8000, .inr (.inl hd)) ∧ h' (n + 7) = .inl (1, 8000, .inl tl) ∧ h' (n + 8) = .inl (1, 8000, .inl so) ∧ h' (n + 9) = .inl (1, 16384, .inl ((fun j => nI (sN j)))) ∧ ∀ j, j < n → j ≠ a → h' j = h j) 98 [(2, .int (nI i)), (1, .int (nI fr)), (0, .ref a)] [] g (n + 10) 10 104387 := by
  intro k
  induction k with
  | zero =>
    intro i g wd fr hd tl so mn ie f sN hk hi hs hwd hsN hfi eA rT r1 r2 r3 r4 r5 r6 r7 r8 r9 hfr
    refine mj_iload_n dX2_init_98 0 rfl ?_
    refine mj_ldcS dX2_init_99 List.mem_cons_self ?_
    refine mj_callT dX2_init_101 M_J0_length_8abf5 (C_length 0 (n + 10) g (by decide)) ML_X2_47 IM_J0_length_8abf5 SE_J0_length_8abf5 (by decide) rfl (As := []) rfl rfl (by decide) (Nat.le_of_ble_eq_true rfl) (Nat.le_refl _) (Nat.le_refl _) (fun v h2 hp => ?_)
    obtain ⟨rfl, hh⟩ := hp
    rw [hh]
    clear hh h2
    refine mj_icmp_ge 152 dX2_init_104 (by decide) (fun _ => ?_) (fun z => absurd (show nI 380 ≤ nI i from nI_le (by omega) (by omega)) z)
    have hi2 : i = 380 := by omega
    subst hi2
    rw [lx_cnt_all] at hwd
    exact mj_vret dX2_init_152 rfl ⟨rfl, wd, fr, hd, tl, so, mn, ie, f, sN, hs, hwd, hsN, eA, rT, r1, r2, r3, r4, r5, r6, r7, r8, r9, hfr⟩ rfl (Nat.le_refl _) (Nat.le_refl _)
  | succ k ih =>
    intro i g wd fr hd tl so mn ie f sN hk hi hs hwd hsN hfi eA rT r1 r2 r3 r4 r5 r6 r7 r8 r9 hfr
    have hwd2 : wd < 8000 := by
      have h1 : ((mj_byt.getD 0 []).take i).count 32 ≤ ((mj_byt.getD 0 []).take 380).count 32 := List.Sublist.count_le _ ((List.take_sublist_take_left hi))
      rw [lx_cnt_all] at h1
      omega
    refine mj_iload_n dX2_init_98 0 rfl ?_
    refine mj_ldcS dX2_init_99 List.mem_cons_self ?_
    refine mj_callT dX2_init_101 M_J0_length_8abf5 (C_length 0 (n + 10) g (by decide)) ML_X2_47 IM_J0_length_8abf5 SE_J0_length_8abf5 (by decide) rfl (As := []) rfl rfl (by decide) (Nat.le_of_ble_eq_true rfl) (Nat.le_refl _) (Nat.le_refl _) (fun v h2 hp => ?_)
    obtain ⟨rfl, hh⟩ := hp
    rw [hh]
    clear hh h2
    refine mj_icmp_ge 152 dX2_init_104 (by decide) (fun z => absurd (show nI 380 ≤ nI i from z) (nI_ge (by omega) (by omega))) (fun _ => ?_)
    refine mj_aload_n dX2_init_107 2 rfl ?_
    refine mj_get dX2_init_108 F_X2_11 (by omega) eA rfl ?_
    refine mj_iload_n dX2_init_111 0 rfl ?_
    refine mj_iload_n dX2_init_112 1 rfl ?_
    refine mj_isub dX2_init_113 ?_
    rw [pk_sub hfi]
    refine mj_ldcS dX2_init_114 List.mem_cons_self ?_
    refine mj_iload_n dX2_init_116 0 rfl ?_
    refine mj_callT dX2_init_117 M_J0_charAt_5068e (C_charAt 0 i (n + 10) g (by decide) (by show i < 380; omega)) ML_X2_53 IM_J0_charAt_5068e SE_J0_charAt_5068e (by decide) rfl (As := [.int (nI i)]) rfl rfl (by decide) (Nat.le_of_ble_eq_true rfl) (Nat.le_refl _) (Nat.le_refl _) (fun v h2 hp => ?_)
    obtain ⟨rfl, hh⟩ := hp
    rw [hh]
    clear hh h2
    generalize hcc : mj_ch 0 i = c
    refine mj_i2b (v := c.toInt8.toInt32) dX2_init_120 rfl ?_
    refine mj_bastA dX2_init_121 (by omega) rT (vp_in_nI (by omega) (by omega)) (fun h1 q2 o3 => ?_)
    rw [nI_clamp (by omega)] at q2
    replace q2 : h1 n = .inl (0, 12000, .inl ((va_up f ((i - fr)) ((c.toInt8.toInt32).toInt8.toInt32)))) := q2
    refine mj_ldcS dX2_init_122 List.mem_cons_self ?_
    refine mj_iload_n dX2_init_124 0 rfl ?_
    refine mj_callT dX2_init_125 M_J0_charAt_5068e (C_charAt 0 i (n + 10) h1 (by decide) (by show i < 380; omega)) ML_X2_53 IM_J0_charAt_5068e SE_J0_charAt_5068e (by decide) rfl (As := [.int (nI i)]) rfl rfl (by decide) (Nat.le_of_ble_eq_true rfl) (Nat.le_refl _) (Nat.le_refl _) (fun v h2 hp => ?_)
    obtain ⟨rfl, hh⟩ := hp
    rw [hh]
    clear hh h2
    rw [hcc]
    refine mj_bipush (v := 32) dX2_init_128 (by decide) ?_
    refine mj_icmp_ne 146 dX2_init_130 (by decide) (fun z => ?_) (fun z => ?_)
    · have hr2 : lx_run (i + 1) = (wd, fr, hd, tl, so, mn, ie, va_up f (i - fr) c.toInt8.toInt32.toInt8.toInt32, sN) := by
        show lx_put (mj_ch 0 i) i (lx_run i) = _
        rw [hcc, ← hs]
        show (if c = 32 then _ else _) = _
        rw [if_neg z]
      refine mj_iinc (k := 0) (v := nI (i + 1)) (lv2 := [(2, .int (nI (i + 1))), (1, .int (nI fr)), (0, .ref a)]) dX2_init_146 rfl (nI_1 _) (by decide) rfl ?_
      refine mj_goto 98 dX2_init_149 (by decide) ?_
      have e4 : h1 a = .inr (2, [.ref n, .int 0, .int 0, .ref (n + 1), .ref (n + 2), .ref (n + 3), .int 0, .int 0, .int 0, .int 0, .long 0, .int 0, .int 0, .int (nI wd), .ref (n + 4), .ref (n + 5), .ref (n + 6), .ref (n + 7), .ref (n + 8), .ref (n + 9)]) := (o3 _ (by omega)).trans (eA)
      have e5 : h1 (n + 1) = .inl (1, 12001, .inl ((fun _ => 0))) := (o3 _ (by omega)).trans (r1)
      have e6 : h1 (n + 2) = .inl (1, 12001, .inl ((fun _ => 0))) := (o3 _ (by omega)).trans (r2)
      have e7 : h1 (n + 3) = .inl (2, 12001, .inr (.inl ((fun _ => 0)))) := (o3 _ (by omega)).trans (r3)
      have e8 : h1 (n + 4) = .inl (1, 8000, .inl mn) := (o3 _ (by omega)).trans (r4)
      have e9 : h1 (n + 5) = .inl (3, 8000, .inl ie) := (o3 _ (by omega)).trans (r5)
      have e10 : h1 (n + 6) = .inl (2, 8000, .inr (.inl hd)) := (o3 _ (by omega)).trans (r6)
      have e11 : h1 (n + 7) = .inl (1, 8000, .inl tl) := (o3 _ (by omega)).trans (r7)
      have e12 : h1 (n + 8) = .inl (1, 8000, .inl so) := (o3 _ (by omega)).trans (r8)
      have e13 : h1 (n + 9) = .inl (1, 16384, .inl ((fun j => nI (sN j)))) := (o3 _ (by omega)).trans (r9)
      exact ih (i + 1) h1 wd fr hd tl so mn ie _ sN (by omega) (by omega) hr2.symm (Nat.le_trans hwd (lx_cnt_le i)) hsN (by omega) e4 q2 e5 e6 e7 e8 e9 e10 e11 e12 e13 (fun j hj1 hj2 => (o3 j (by omega)).trans (hfr j hj1 hj2))
    · have hcnt := lx_cnt_blank i (by omega) (hcc.trans z)
      refine mj_aload_n dX2_init_133 2 rfl ?_
      refine mj_iconst (v := 0) dX2_init_134 (by decide) ?_
      refine mj_iload_n dX2_init_135 0 rfl ?_
      refine mj_iload_n dX2_init_136 1 rfl ?_
      refine mj_isub dX2_init_137 ?_
      rw [pk_sub hfi]
      have e14 : h1 a = .inr (2, [.ref n, .int 0, .int 0, .ref (n + 1), .ref (n + 2), .ref (n + 3), .int 0, .int 0, .int 0, .int 0, .long 0, .int 0, .int 0, .int (nI wd), .ref (n + 4), .ref (n + 5), .ref (n + 6), .ref (n + 7), .ref (n + 8), .ref (n + 9)]) := (o3 _ (by omega)).trans (eA)
      have e15 : h1 (n + 4) = .inl (1, 8000, .inl mn) := (o3 _ (by omega)).trans (r4)
      have e16 : h1 (n + 5) = .inl (3, 8000, .inl ie) := (o3 _ (by omega)).trans (r5)
      have e17 : h1 (n + 6) = .inl (2, 8000, .inr (.inl hd)) := (o3 _ (by omega)).trans (r6)
      have e18 : h1 (n + 7) = .inl (1, 8000, .inl tl) := (o3 _ (by omega)).trans (r7)
      have e19 : h1 (n + 8) = .inl (1, 8000, .inl so) := (o3 _ (by omega)).trans (r8)
      have e20 : h1 (n + 9) = .inl (1, 16384, .inl ((fun j => nI (sN j)))) := (o3 _ (by omega)).trans (r9)
      refine mj_callV dX2_init_138 M_X2_wordOf (C_X2_wordOf a n (n + 10) wd 0 (i - fr) 1 0 0 0 0 0 0 0 0 0 hd tl so mn ie _ sN h1 (by omega) (by omega) ha e14 q2 e15 e16 e17 e18 e19 e20 hwd2 hsN (by omega) (by omega) (by decide)) ML_X2_57 IM_X2_wordOf SE_X2_wordOf (by omega) e14 rfl (As := [.int 0, .int (nI (i - fr))]) rfl rfl (by decide) (Nat.le_of_ble_eq_true rfl) (Nat.le_refl _) (Nat.le_refl _) (fun v h3 hp => ?_)
      generalize hR : lx_go _ _ _ _ _ _ _ _ = R at hp
      have hr2 : lx_run (i + 1) = lx_look (i - fr) (wd, i + 1, hd, tl, so, mn, ie, va_up f (i - fr) c.toInt8.toInt32.toInt8.toInt32, sN) := by
        show lx_put (mj_ch 0 i) i (lx_run i) = _
        rw [hcc, ← hs]
        show (if c = 32 then _ else _) = _
        rw [if_pos z]
      have hr3 : lx_run (i + 1) = lx_add (lx_pk (va_up f (i - fr) c.toInt8.toInt32.toInt8.toInt32) (min (i - fr) 8) 0 0) (lx_pk (va_up f (i - fr) c.toInt8.toInt32.toInt8.toInt32) (i - fr - 8) 8 0).toInt32 R (wd, i + 1, hd, tl, so, mn, ie, (va_up f (i - fr) c.toInt8.toInt32.toInt8.toInt32), sN) := hr2.trans (congrArg (fun r => lx_add _ _ r _) hR)
      clear hR hr2
      generalize hHH : lx_pk (va_up f (i - fr) c.toInt8.toInt32.toInt8.toInt32) (min (i - fr) 8) 0 0 = HH at hr3
      generalize htt : (lx_pk (va_up f (i - fr) c.toInt8.toInt32.toInt8.toInt32) (i - fr - 8) 8 0).toInt32 = tt at hr3
      cases R with
      | none =>
        obtain ⟨rfl, hh⟩ := hp
        rw [hh]
        clear hh h3
        have e21 : h1 (n + 1) = .inl (1, 12001, .inl ((fun _ => 0))) := (o3 _ (by omega)).trans (r1)
        have e22 : h1 (n + 2) = .inl (1, 12001, .inl ((fun _ => 0))) := (o3 _ (by omega)).trans (r2)
        have e23 : h1 (n + 3) = .inl (2, 12001, .inr (.inl ((fun _ => 0)))) := (o3 _ (by omega)).trans (r3)
        refine mj_pop dX2_init_141 rfl ?_
        refine mj_iload_n dX2_init_142 0 rfl ?_
        refine mj_iconst (v := 1) dX2_init_143 (by decide) ?_
        refine mj_iadd dX2_init_144 ?_
        rw [show (nI i : Int32) + 1 = nI (i + 1) from nI_1 i]
        refine mj_istore_n 1 (lv2 := [(1, .int (nI (i + 1))), (2, .int (nI i)), (0, .ref a)]) dX2_init_145 rfl (by decide) rfl ?_
        refine mj_iinc (k := 1) (v := nI (i + 1)) (lv2 := [(2, .int (nI (i + 1))), (1, .int (nI (i + 1))), (0, .ref a)]) dX2_init_146 rfl (nI_1 _) (by decide) rfl ?_
        refine mj_goto 98 dX2_init_149 (by decide) ?_
        refine mj_sublv [(2, .int (nI (i + 1))), (1, .int (nI (i + 1))), (0, .ref a)] [0, 1, 2] rfl ?_
        exact ih (i + 1) h1 wd (i + 1) hd tl so mn ie _ sN (by omega) (by omega) (hr3).symm (by rw [hcnt]; omega) (hsN) (Nat.le_refl _) e14 q2 e21 e22 e23 e15 e16 e17 e18 e19 e20 (fun j hj1 hj2 => (o3 j (by omega)).trans (hfr j hj1 hj2))
      | some r =>
        cases r with
        | inr id =>
          obtain ⟨rfl, hh⟩ := hp
          rw [hh]
          clear hh h3
          have e24 : h1 (n + 1) = .inl (1, 12001, .inl ((fun _ => 0))) := (o3 _ (by omega)).trans (r1)
          have e25 : h1 (n + 2) = .inl (1, 12001, .inl ((fun _ => 0))) := (o3 _ (by omega)).trans (r2)
          have e26 : h1 (n + 3) = .inl (2, 12001, .inr (.inl ((fun _ => 0)))) := (o3 _ (by omega)).trans (r3)
          refine mj_pop dX2_init_141 rfl ?_
          refine mj_iload_n dX2_init_142 0 rfl ?_
          refine mj_iconst (v := 1) dX2_init_143 (by decide) ?_
          refine mj_iadd dX2_init_144 ?_
          rw [show (nI i : Int32) + 1 = nI (i + 1) from nI_1 i]
          refine mj_istore_n 1 (lv2 := [(1, .int (nI (i + 1))), (2, .int (nI i)), (0, .ref a)]) dX2_init_145 rfl (by decide) rfl ?_
          refine mj_iinc (k := 1) (v := nI (i + 1)) (lv2 := [(2, .int (nI (i + 1))), (1, .int (nI (i + 1))), (0, .ref a)]) dX2_init_146 rfl (nI_1 _) (by decide) rfl ?_
          refine mj_goto 98 dX2_init_149 (by decide) ?_
          refine mj_sublv [(2, .int (nI (i + 1))), (1, .int (nI (i + 1))), (0, .ref a)] [0, 1, 2] rfl ?_
          exact ih (i + 1) h1 wd (i + 1) hd tl so mn ie _ sN (by omega) (by omega) (hr3).symm (by rw [hcnt]; omega) (hsN) (Nat.le_refl _) e14 q2 e24 e25 e26 e15 e16 e17 e18 e19 e20 (fun j hj1 hj2 => (o3 j (by omega)).trans (hfr j hj1 hj2))
        | inl sl =>
          have e27 : h1 (n + 1) = .inl (1, 12001, .inl ((fun _ => 0))) := (o3 _ (by omega)).trans (r1)
          have e28 : h1 (n + 2) = .inl (1, 12001, .inl ((fun _ => 0))) := (o3 _ (by omega)).trans (r2)
          have e29 : h1 (n + 3) = .inl (2, 12001, .inr (.inl ((fun _ => 0)))) := (o3 _ (by omega)).trans (r3)
          obtain ⟨rfl, p0, p1, p2, p3, p4, p5, p6, p7, po⟩ := hp
          have p7b : h3 (n + 9) = .inl (1, 16384, .inl (fun j => nI (va_up sN sl (wd + 1) j))) := by
            rw [p7]
            refine congrArg (fun z => (.inl (1, 16384, .inl z) : va_E)) (funext fun j => ?_)
            by_cases hj : j = sl
            · subst hj; rw [mj_up_eq, mj_up_eq]
            · rw [mj_up_ne _ _ hj, mj_up_ne _ _ hj]
          have hsN2 : ∀ j, va_up sN sl (wd + 1) j ≤ 8000 := by
            intro j
            by_cases hj : j = sl
            · subst hj; rw [mj_up_eq]; omega
            · rw [mj_up_ne _ _ hj]; exact hsN j
          refine mj_pop dX2_init_141 rfl ?_
          refine mj_iload_n dX2_init_142 0 rfl ?_
          refine mj_iconst (v := 1) dX2_init_143 (by decide) ?_
          refine mj_iadd dX2_init_144 ?_
          rw [show (nI i : Int32) + 1 = nI (i + 1) from nI_1 i]
          refine mj_istore_n 1 (lv2 := [(1, .int (nI (i + 1))), (2, .int (nI i)), (0, .ref a)]) dX2_init_145 rfl (by decide) rfl ?_
          refine mj_iinc (k := 1) (v := nI (i + 1)) (lv2 := [(2, .int (nI (i + 1))), (1, .int (nI (i + 1))), (0, .ref a)]) dX2_init_146 rfl (nI_1 _) (by decide) rfl ?_
          refine mj_goto 98 dX2_init_149 (by decide) ?_
          refine mj_sublv [(2, .int (nI (i + 1))), (1, .int (nI (i + 1))), (0, .ref a)] [0, 1, 2] rfl ?_
          exact ih (i + 1) h3 (wd + 1) (i + 1) _ _ _ _ _ _ (va_up sN sl (wd + 1)) (by omega) (by omega) (hr3.trans (by rw [← hHH, ← htt]; rfl)).symm (by rw [hcnt]; omega) (hsN2) (Nat.le_refl _) p0 p1 ((po (n + 1) (by omega) (by omega)).trans e27) ((po (n + 2) (by omega) (by omega)).trans e28) ((po (n + 3) (by omega) (by omega)).trans e29) p2 p3 p4 p5 p6 p7b (fun j hj1 hj2 => ((po j (by omega) (by omega)).trans (o3 j (by omega))).trans (hfr j hj1 hj2))
/-- Lexer() -/
theorem C_X2_init (a n : Nat) (h : mj_H) (ha : a < n) (hn : n + 10 < 1000000) (e0 : h a = .inr (2, [.null, .int 0, .int 0, .null, .null, .null, .int 0, .int 0, .int 0, .int 0, .long 0, .int 0, .int 0, .int 0, .null, .null, .null, .null, .null, .null])) : mj_C yX2_init cX2_init 3 none 4 10 104387 [.ref a] h n (fun v h' => v = none ∧ ∃ (wd fr : Nat) (hd : Nat → Int64) (tl so mn ie f : Nat → Int32) (sN : Nat → Nat), (wd, fr, hd, tl, so, mn, ie, f, sN) = lx_run 380 ∧ wd ≤ 66 ∧ (∀ j, sN j ≤ 8000) ∧ h' a = .inr (2, [.ref n, .int 0, .int 0, .ref (n + 1), .ref (n + 2), .ref (n + 3), .int 0, .int 0, .int 0, .int 0, .long 0, .int 0, .int 0, .int (nI wd), .ref (n + 4), .ref (n + 5), .ref (n + 6), .ref (n + 7), .ref (n + 8), .ref (n + 9)]) ∧ h' n = .inl (0, 12000, .inl f) ∧ h' (n + 1) = .inl (1, 12001, .inl ((fun _ => 0))) ∧ h' (n + 2) = .inl (1, 12001, .inl ((fun _ => 0))) ∧ h' (n + 3) = .inl (2, 12001, .inr (.inl ((fun _ => 0)))) ∧ h' (n + 4) = .inl (1, 8000, .inl mn) ∧ h' (n + 5) = .inl (3, 8000, .inl ie) ∧ h' (n + 6) = .inl (2, 8000, .inr (.inl hd)) ∧ h' (n + 7) = .inl (1, 8000, .inl tl) ∧ h' (n + 8) = .inl (1, 8000, .inl so) ∧ h' (n + 9) = .inl (1, 16384, .inl ((fun j => nI (sN j)))) ∧ ∀ j, j < n → j ≠ a → h' j = h j) := by
  refine mj_C.of (by decide +kernel) (Nat.le_of_ble_eq_true rfl) ?_
  intro D cy ad bs X
  refine mj_aload_n dX2_init_0 0 rfl ?_
  refine mj_objInit dX2_init_1 ML_X2_3 OI_i OI_c (by decide) (Nat.le_of_ble_eq_true rfl) ?_
  refine mj_aload_n dX2_init_4 0 rfl ?_
  refine mj_sipush (v := 12000) dX2_init_5 (by decide) ?_
  refine mj_newBA (N := 12000) dX2_init_8 AC_byte (by decide) (by decide) (Nat.le_of_ble_eq_true rfl) (by omega) (Nat.le_of_ble_eq_true rfl) (Nat.le_of_ble_eq_true rfl) (fun h1 q2 o3 => ?_)
  have e4 : h1 a = .inr (2, [.null, .int 0, .int 0, .null, .null, .null, .int 0, .int 0, .int 0, .int 0, .long 0, .int 0, .int 0, .int 0, .null, .null, .null, .null, .null, .null]) := (o3 _ (by omega)).trans (e0)
  refine mj_putFA dX2_init_10 F_X2_11 (by omega) e4 rfl (Nat.le_of_ble_eq_true rfl) rfl rfl (fun h5 q6 o7 => ?_)
  replace q6 : h5 a = .inr (2, [.ref n, .int 0, .int 0, .null, .null, .null, .int 0, .int 0, .int 0, .int 0, .long 0, .int 0, .int 0, .int 0, .null, .null, .null, .null, .null, .null]) := q6
  refine mj_aload_n dX2_init_13 0 rfl ?_
  refine mj_sipush (v := 12001) dX2_init_14 (by decide) ?_
  refine mj_newIA (N := 12001) dX2_init_17 AC_int (by decide) (by decide) (Nat.le_of_ble_eq_true rfl) (by omega) (Nat.le_of_ble_eq_true rfl) (Nat.le_of_ble_eq_true rfl) (fun h8 q9 o10 => ?_)
  have e11 : h8 a = .inr (2, [.ref n, .int 0, .int 0, .null, .null, .null, .int 0, .int 0, .int 0, .int 0, .long 0, .int 0, .int 0, .int 0, .null, .null, .null, .null, .null, .null]) := (o10 _ (by omega)).trans (q6)
  refine mj_putFA dX2_init_19 F_X2_15 (by omega) e11 rfl (Nat.le_of_ble_eq_true rfl) rfl rfl (fun h12 q13 o14 => ?_)
  replace q13 : h12 a = .inr (2, [.ref n, .int 0, .int 0, .ref (n + 1), .null, .null, .int 0, .int 0, .int 0, .int 0, .long 0, .int 0, .int 0, .int 0, .null, .null, .null, .null, .null, .null]) := q13
  refine mj_aload_n dX2_init_22 0 rfl ?_
  refine mj_sipush (v := 12001) dX2_init_23 (by decide) ?_
  refine mj_newIA (N := 12001) dX2_init_26 AC_int (by decide) (by decide) (Nat.le_of_ble_eq_true rfl) (by omega) (Nat.le_of_ble_eq_true rfl) (Nat.le_of_ble_eq_true rfl) (fun h15 q16 o17 => ?_)
  have e18 : h15 a = .inr (2, [.ref n, .int 0, .int 0, .ref (n + 1), .null, .null, .int 0, .int 0, .int 0, .int 0, .long 0, .int 0, .int 0, .int 0, .null, .null, .null, .null, .null, .null]) := (o17 _ (by omega)).trans (q13)
  refine mj_putFA dX2_init_28 F_X2_19 (by omega) e18 rfl (Nat.le_of_ble_eq_true rfl) rfl rfl (fun h19 q20 o21 => ?_)
  replace q20 : h19 a = .inr (2, [.ref n, .int 0, .int 0, .ref (n + 1), .ref (n + 2), .null, .int 0, .int 0, .int 0, .int 0, .long 0, .int 0, .int 0, .int 0, .null, .null, .null, .null, .null, .null]) := q20
  refine mj_aload_n dX2_init_31 0 rfl ?_
  refine mj_sipush (v := 12001) dX2_init_32 (by decide) ?_
  refine mj_newJA (N := 12001) dX2_init_35 AC_long (by decide) (by decide) (Nat.le_of_ble_eq_true rfl) (by omega) (Nat.le_of_ble_eq_true rfl) (Nat.le_of_ble_eq_true rfl) (fun h22 q23 o24 => ?_)
  have e25 : h22 a = .inr (2, [.ref n, .int 0, .int 0, .ref (n + 1), .ref (n + 2), .null, .int 0, .int 0, .int 0, .int 0, .long 0, .int 0, .int 0, .int 0, .null, .null, .null, .null, .null, .null]) := (o24 _ (by omega)).trans (q20)
  refine mj_putFA dX2_init_37 F_X2_22 (by omega) e25 rfl (Nat.le_of_ble_eq_true rfl) rfl rfl (fun h26 q27 o28 => ?_)
  replace q27 : h26 a = .inr (2, [.ref n, .int 0, .int 0, .ref (n + 1), .ref (n + 2), .ref (n + 3), .int 0, .int 0, .int 0, .int 0, .long 0, .int 0, .int 0, .int 0, .null, .null, .null, .null, .null, .null]) := q27
  refine mj_aload_n dX2_init_40 0 rfl ?_
  refine mj_sipush (v := 8000) dX2_init_41 (by decide) ?_
  refine mj_newIA (N := 8000) dX2_init_44 AC_int (by decide) (by decide) (Nat.le_of_ble_eq_true rfl) (by omega) (Nat.le_of_ble_eq_true rfl) (Nat.le_of_ble_eq_true rfl) (fun h29 q30 o31 => ?_)
  have e32 : h29 a = .inr (2, [.ref n, .int 0, .int 0, .ref (n + 1), .ref (n + 2), .ref (n + 3), .int 0, .int 0, .int 0, .int 0, .long 0, .int 0, .int 0, .int 0, .null, .null, .null, .null, .null, .null]) := (o31 _ (by omega)).trans (q27)
  refine mj_putFA dX2_init_46 F_X2_26 (by omega) e32 rfl (Nat.le_of_ble_eq_true rfl) rfl rfl (fun h33 q34 o35 => ?_)
  replace q34 : h33 a = .inr (2, [.ref n, .int 0, .int 0, .ref (n + 1), .ref (n + 2), .ref (n + 3), .int 0, .int 0, .int 0, .int 0, .long 0, .int 0, .int 0, .int 0, .ref (n + 4), .null, .null, .null, .null, .null]) := q34
  refine mj_aload_n dX2_init_49 0 rfl ?_
  refine mj_sipush (v := 8000) dX2_init_50 (by decide) ?_
  refine mj_newZA (N := 8000) dX2_init_53 AC_boolean (by decide) (by decide) (Nat.le_of_ble_eq_true rfl) (by omega) (Nat.le_of_ble_eq_true rfl) (Nat.le_of_ble_eq_true rfl) (fun h36 q37 o38 => ?_)
  have e39 : h36 a = .inr (2, [.ref n, .int 0, .int 0, .ref (n + 1), .ref (n + 2), .ref (n + 3), .int 0, .int 0, .int 0, .int 0, .long 0, .int 0, .int 0, .int 0, .ref (n + 4), .null, .null, .null, .null, .null]) := (o38 _ (by omega)).trans (q34)
  refine mj_putFA dX2_init_55 F_X2_29 (by omega) e39 rfl (Nat.le_of_ble_eq_true rfl) rfl rfl (fun h40 q41 o42 => ?_)
  replace q41 : h40 a = .inr (2, [.ref n, .int 0, .int 0, .ref (n + 1), .ref (n + 2), .ref (n + 3), .int 0, .int 0, .int 0, .int 0, .long 0, .int 0, .int 0, .int 0, .ref (n + 4), .ref (n + 5), .null, .null, .null, .null]) := q41
  refine mj_aload_n dX2_init_58 0 rfl ?_
  refine mj_sipush (v := 8000) dX2_init_59 (by decide) ?_
  refine mj_newJA (N := 8000) dX2_init_62 AC_long (by decide) (by decide) (Nat.le_of_ble_eq_true rfl) (by omega) (Nat.le_of_ble_eq_true rfl) (Nat.le_of_ble_eq_true rfl) (fun h43 q44 o45 => ?_)
  have e46 : h43 a = .inr (2, [.ref n, .int 0, .int 0, .ref (n + 1), .ref (n + 2), .ref (n + 3), .int 0, .int 0, .int 0, .int 0, .long 0, .int 0, .int 0, .int 0, .ref (n + 4), .ref (n + 5), .null, .null, .null, .null]) := (o45 _ (by omega)).trans (q41)
  refine mj_putFA dX2_init_64 F_X2_33 (by omega) e46 rfl (Nat.le_of_ble_eq_true rfl) rfl rfl (fun h47 q48 o49 => ?_)
  replace q48 : h47 a = .inr (2, [.ref n, .int 0, .int 0, .ref (n + 1), .ref (n + 2), .ref (n + 3), .int 0, .int 0, .int 0, .int 0, .long 0, .int 0, .int 0, .int 0, .ref (n + 4), .ref (n + 5), .ref (n + 6), .null, .null, .null]) := q48
  refine mj_aload_n dX2_init_67 0 rfl ?_
  refine mj_sipush (v := 8000) dX2_init_68 (by decide) ?_
  refine mj_newIA (N := 8000) dX2_init_71 AC_int (by decide) (by decide) (Nat.le_of_ble_eq_true rfl) (by omega) (Nat.le_of_ble_eq_true rfl) (Nat.le_of_ble_eq_true rfl) (fun h50 q51 o52 => ?_)
  have e53 : h50 a = .inr (2, [.ref n, .int 0, .int 0, .ref (n + 1), .ref (n + 2), .ref (n + 3), .int 0, .int 0, .int 0, .int 0, .long 0, .int 0, .int 0, .int 0, .ref (n + 4), .ref (n + 5), .ref (n + 6), .null, .null, .null]) := (o52 _ (by omega)).trans (q48)
  refine mj_putFA dX2_init_73 F_X2_36 (by omega) e53 rfl (Nat.le_of_ble_eq_true rfl) rfl rfl (fun h54 q55 o56 => ?_)
  replace q55 : h54 a = .inr (2, [.ref n, .int 0, .int 0, .ref (n + 1), .ref (n + 2), .ref (n + 3), .int 0, .int 0, .int 0, .int 0, .long 0, .int 0, .int 0, .int 0, .ref (n + 4), .ref (n + 5), .ref (n + 6), .ref (n + 7), .null, .null]) := q55
  refine mj_aload_n dX2_init_76 0 rfl ?_
  refine mj_sipush (v := 8000) dX2_init_77 (by decide) ?_
  refine mj_newIA (N := 8000) dX2_init_80 AC_int (by decide) (by decide) (Nat.le_of_ble_eq_true rfl) (by omega) (Nat.le_of_ble_eq_true rfl) (Nat.le_of_ble_eq_true rfl) (fun h57 q58 o59 => ?_)
  have e60 : h57 a = .inr (2, [.ref n, .int 0, .int 0, .ref (n + 1), .ref (n + 2), .ref (n + 3), .int 0, .int 0, .int 0, .int 0, .long 0, .int 0, .int 0, .int 0, .ref (n + 4), .ref (n + 5), .ref (n + 6), .ref (n + 7), .null, .null]) := (o59 _ (by omega)).trans (q55)
  refine mj_putFA dX2_init_82 F_X2_39 (by omega) e60 rfl (Nat.le_of_ble_eq_true rfl) rfl rfl (fun h61 q62 o63 => ?_)
  replace q62 : h61 a = .inr (2, [.ref n, .int 0, .int 0, .ref (n + 1), .ref (n + 2), .ref (n + 3), .int 0, .int 0, .int 0, .int 0, .long 0, .int 0, .int 0, .int 0, .ref (n + 4), .ref (n + 5), .ref (n + 6), .ref (n + 7), .ref (n + 8), .null]) := q62
  refine mj_aload_n dX2_init_85 0 rfl ?_
  refine mj_sipush (v := 16384) dX2_init_86 (by decide) ?_
  refine mj_newIA (N := 16384) dX2_init_89 AC_int (by decide) (by decide) (Nat.le_of_ble_eq_true rfl) (by omega) (Nat.le_of_ble_eq_true rfl) (Nat.le_of_ble_eq_true rfl) (fun h64 q65 o66 => ?_)
  have e67 : h64 a = .inr (2, [.ref n, .int 0, .int 0, .ref (n + 1), .ref (n + 2), .ref (n + 3), .int 0, .int 0, .int 0, .int 0, .long 0, .int 0, .int 0, .int 0, .ref (n + 4), .ref (n + 5), .ref (n + 6), .ref (n + 7), .ref (n + 8), .null]) := (o66 _ (by omega)).trans (q62)
  refine mj_putFA dX2_init_91 F_X2_42 (by omega) e67 rfl (Nat.le_of_ble_eq_true rfl) rfl rfl (fun h68 q69 o70 => ?_)
  replace q69 : h68 a = .inr (2, [.ref n, .int 0, .int 0, .ref (n + 1), .ref (n + 2), .ref (n + 3), .int 0, .int 0, .int 0, .int 0, .long 0, .int 0, .int 0, .int 0, .ref (n + 4), .ref (n + 5), .ref (n + 6), .ref (n + 7), .ref (n + 8), .ref (n + 9)]) := q69
  refine mj_iconst (v := 0) dX2_init_94 (by decide) ?_
  refine mj_istore_n 1 (lv2 := [(1, .int 0), (0, .ref a)]) dX2_init_95 rfl (by decide) rfl ?_
  refine mj_iconst (v := 0) dX2_init_96 (by decide) ?_
  refine mj_istore_n 2 (lv2 := [(2, .int 0), (1, .int 0), (0, .ref a)]) dX2_init_97 rfl (by decide) rfl ?_
  have e71 : h68 n = .inl (0, 12000, .inl ((fun _ => 0))) := (o70 _ (by omega)).trans ((o66 _ (by omega)).trans ((o63 _ (by omega)).trans ((o59 _ (by omega)).trans ((o56 _ (by omega)).trans ((o52 _ (by omega)).trans ((o49 _ (by omega)).trans ((o45 _ (by omega)).trans ((o42 _ (by omega)).trans ((o38 _ (by omega)).trans ((o35 _ (by omega)).trans ((o31 _ (by omega)).trans ((o28 _ (by omega)).trans ((o24 _ (by omega)).trans ((o21 _ (by omega)).trans ((o17 _ (by omega)).trans ((o14 _ (by omega)).trans ((o10 _ (by omega)).trans ((o7 _ (by omega)).trans (q2)))))))))))))))))))
  have e72 : h68 (n + 1) = .inl (1, 12001, .inl ((fun _ => 0))) := (o70 _ (by omega)).trans ((o66 _ (by omega)).trans ((o63 _ (by omega)).trans ((o59 _ (by omega)).trans ((o56 _ (by omega)).trans ((o52 _ (by omega)).trans ((o49 _ (by omega)).trans ((o45 _ (by omega)).trans ((o42 _ (by omega)).trans ((o38 _ (by omega)).trans ((o35 _ (by omega)).trans ((o31 _ (by omega)).trans ((o28 _ (by omega)).trans ((o24 _ (by omega)).trans ((o21 _ (by omega)).trans ((o17 _ (by omega)).trans ((o14 _ (by omega)).trans (q9)))))))))))))))))
  have e73 : h68 (n + 2) = .inl (1, 12001, .inl ((fun _ => 0))) := (o70 _ (by omega)).trans ((o66 _ (by omega)).trans ((o63 _ (by omega)).trans ((o59 _ (by omega)).trans ((o56 _ (by omega)).trans ((o52 _ (by omega)).trans ((o49 _ (by omega)).trans ((o45 _ (by omega)).trans ((o42 _ (by omega)).trans ((o38 _ (by omega)).trans ((o35 _ (by omega)).trans ((o31 _ (by omega)).trans ((o28 _ (by omega)).trans ((o24 _ (by omega)).trans ((o21 _ (by omega)).trans (q16)))))))))))))))
  have e74 : h68 (n + 3) = .inl (2, 12001, .inr (.inl ((fun _ => 0)))) := (o70 _ (by omega)).trans ((o66 _ (by omega)).trans ((o63 _ (by omega)).trans ((o59 _ (by omega)).trans ((o56 _ (by omega)).trans ((o52 _ (by omega)).trans ((o49 _ (by omega)).trans ((o45 _ (by omega)).trans ((o42 _ (by omega)).trans ((o38 _ (by omega)).trans ((o35 _ (by omega)).trans ((o31 _ (by omega)).trans ((o28 _ (by omega)).trans (q23)))))))))))))
  have e75 : h68 (n + 4) = .inl (1, 8000, .inl ((fun _ => 0))) := (o70 _ (by omega)).trans ((o66 _ (by omega)).trans ((o63 _ (by omega)).trans ((o59 _ (by omega)).trans ((o56 _ (by omega)).trans ((o52 _ (by omega)).trans ((o49 _ (by omega)).trans ((o45 _ (by omega)).trans ((o42 _ (by omega)).trans ((o38 _ (by omega)).trans ((o35 _ (by omega)).trans (q30)))))))))))
  have e76 : h68 (n + 5) = .inl (3, 8000, .inl ((fun _ => 0))) := (o70 _ (by omega)).trans ((o66 _ (by omega)).trans ((o63 _ (by omega)).trans ((o59 _ (by omega)).trans ((o56 _ (by omega)).trans ((o52 _ (by omega)).trans ((o49 _ (by omega)).trans ((o45 _ (by omega)).trans ((o42 _ (by omega)).trans (q37)))))))))
  have e77 : h68 (n + 6) = .inl (2, 8000, .inr (.inl ((fun _ => 0)))) := (o70 _ (by omega)).trans ((o66 _ (by omega)).trans ((o63 _ (by omega)).trans ((o59 _ (by omega)).trans ((o56 _ (by omega)).trans ((o52 _ (by omega)).trans ((o49 _ (by omega)).trans (q44)))))))
  have e78 : h68 (n + 7) = .inl (1, 8000, .inl ((fun _ => 0))) := (o70 _ (by omega)).trans ((o66 _ (by omega)).trans ((o63 _ (by omega)).trans ((o59 _ (by omega)).trans ((o56 _ (by omega)).trans (q51)))))
  have e79 : h68 (n + 8) = .inl (1, 8000, .inl ((fun _ => 0))) := (o70 _ (by omega)).trans ((o66 _ (by omega)).trans ((o63 _ (by omega)).trans (q58)))
  have e80 : h68 (n + 9) = .inl (1, 16384, .inl ((fun _ => 0))) := (o70 _ (by omega)).trans (q65)
  refine mj_sublv [(2, .int (nI 0)), (1, .int (nI 0)), (0, .ref a)] [0, 1, 2] rfl ?_
  exact lx_iloop a n h ha hn D cy ad bs X 380 0 h68 0 0 _ _ _ _ _ _ (fun _ => 0) rfl (Nat.zero_le _) rfl (Nat.zero_le _) (fun _ => Nat.zero_le _) (Nat.le_refl _) q69 e71 e72 e73 e74 e75 e76 e77 e78 e79 e80 (fun j hj1 hj2 => ((o70 j (by omega)).trans ((o66 j (by omega)).trans ((o63 j (by omega)).trans ((o59 j (by omega)).trans ((o56 j (by omega)).trans ((o52 j (by omega)).trans ((o49 j (by omega)).trans ((o45 j (by omega)).trans ((o42 j (by omega)).trans ((o38 j (by omega)).trans ((o35 j (by omega)).trans ((o31 j (by omega)).trans ((o28 j (by omega)).trans ((o24 j (by omega)).trans ((o21 j (by omega)).trans ((o17 j (by omega)).trans ((o14 j (by omega)).trans ((o10 j (by omega)).trans ((o7 j (by omega)).trans (o3 j (by omega))))))))))))))))))))))
