/-! Level 2: the cells of array 7 (words of enums) stay 0 or 1 through all that reads a module. By gen_bk.py. -/
def BK (s : t_S) : Prop := ∀ j, s.1 7 j = 0 ∨ s.1 7 j = 1
theorem BK.set {s : t_S} {a k : Nat} {v : Int32} (h : BK s) (hk : a = 7 → v = 0 ∨ v = 1) : BK (t_setI s a k v) := fun j => by
  rw [l2_gI]
  by_cases z : 7 = a
  · rw [if_pos z]
    by_cases y : j = k
    · rw [if_pos y]; exact hk z.symm
    · rw [if_neg y]; exact h j
  · rw [if_neg z]; exact h j
theorem BK.fr {W : Nat → Nat → Prop} {s s' : t_S} (h : BK s) (f : l2_fr W s s') (w : ∀ j, ¬ W 7 j) : BK s' := fun j => by
  rw [(f 7 j (w j)).1]
  exact h j
theorem bk_st {T : Type} {a : t_S} {f : t_S → Option T} {Q : T → Prop} (h : BK a) (g : ∀ s, BK s → t_pq (f s) Q) : t_pq (t_let a f) Q := g a h
theorem bk_oka1 {a : Nat} (h : t_oka a 1 (t_ln a) = true) : a ≠ 7 := fun e => by
  subst e
  exact absurd h (by decide)
theorem bk_oka2 {a : Nat} (h : t_oka a 2 (t_ln a) = true) : a ≠ 7 := fun e => by
  subst e
  exact absurd h (by decide)
theorem bk_k_X2_forget_0 {l1 : Int32} {s : t_S} (h_s : BK s) : t_pq (k_X2_forget_0 l1 s) (fun z => Sum.elim (fun y => BK y.2) (fun y => BK y) z) := by
  unfold k_X2_forget_0
  exact pc_if (fun _ => pc_mp (pc_some h_s)) (fun _ => pc_if (fun _ => pc_mp (pc_some h_s)) (fun _ => bk_st (BK.set h_s (fun y => absurd y (by decide))) (fun s1 h_s1 => pc_if (fun _ => pc_if (fun _ => bk_st (BK.set h_s1 (fun y => absurd y (by decide))) (fun s2 h_s2 => pc_some h_s2)) (fun _ => pc_none)) (fun _ => pc_none))))
theorem bk_b_X2_forget_0 {x : Int32 × t_S} (h : BK x.2) : t_pq (b_X2_forget_0 x) (fun z => Sum.elim (fun y => BK y.2) (fun y => BK y) z) := bk_k_X2_forget_0 h
theorem bk_f_X2_forget {x1 : Int32} {s : t_S} (h_s : BK s) : t_pq (f_X2_forget x1 s) (fun y => BK y) := by
  unfold f_X2_forget
  exact pc_lp (fun x h => bk_b_X2_forget_0 h) h_s
theorem bk_f_X2_advance {s : t_S} (h_s : BK s) : t_pq (f_X2_advance s) (fun y => BK y) := by
  unfold f_X2_advance
  exact pc_if (fun _ => pc_if (fun _ => bk_st (BK.set h_s (fun y => absurd y (by decide))) (fun s1 h_s1 => pc_if (fun _ => bk_st (BK.set h_s1 (fun y => absurd y (by decide))) (fun s2 h_s2 => pc_if (fun _ => bk_st (BK.set h_s2 (fun y => absurd y (by decide))) (fun s3 h_s3 => pc_if (fun _ => bk_st h_s3 (fun s4 h_s4 => pc_if (fun _ => bk_st (BK.set h_s4 (fun y => absurd y (by decide))) (fun s5 h_s5 => bk_st (BK.set h_s5 (fun y => absurd y (by decide))) (fun s6 h_s6 => pc_some h_s6))) (fun _ => pc_some h_s4))) (fun _ => pc_none))) (fun _ => pc_none))) (fun _ => pc_none))) (fun _ => pc_some h_s)) (fun _ => pc_some h_s)
theorem bk_k_X2_scan_116 {s : t_S} (h_s : BK s) : t_pq (k_X2_scan_116 s) (fun y => BK y) := by
  unfold k_X2_scan_116
  exact bk_st (BK.set h_s (fun y => absurd y (by decide))) (fun s1 h_s1 => bk_st (BK.set h_s1 (fun y => absurd y (by decide))) (fun s2 h_s2 => bk_st (BK.set h_s2 (fun y => absurd y (by decide))) (fun s3 h_s3 => pc_bd (bk_f_X2_advance h_s3) (fun r1 h_r1 => pc_some h_r1))))
theorem bk_k_X2_skipBlanks_72 {l1 : Int32} {s : t_S} (h_s : BK s) : t_pq (k_X2_skipBlanks_72 l1 s) (fun z => Sum.elim (fun y => BK y.2) (fun y => BK y) z) := by
  unfold k_X2_skipBlanks_72
  exact bk_st (BK.set h_s (fun y => absurd y (by decide))) (fun s1 h_s1 => pc_some h_s1)
theorem bk_k_X2_skipBlanks_2 {l1 : Int32} {s : t_S} (h_s : BK s) : t_pq (k_X2_skipBlanks_2 l1 s) (fun z => Sum.elim (fun y => BK y.2) (fun y => BK y) z) := by
  unfold k_X2_skipBlanks_2
  exact pc_if (fun _ => pc_mp (pc_some h_s)) (fun _ => pc_if (fun _ => pc_if (fun _ => (bk_k_X2_skipBlanks_72 h_s)) (fun _ => pc_if (fun _ => (bk_k_X2_skipBlanks_72 h_s)) (fun _ => pc_if (fun _ => pc_if (fun _ => (bk_k_X2_skipBlanks_72 h_s)) (fun _ => pc_if (fun _ => (bk_k_X2_skipBlanks_72 h_s)) (fun _ => pc_if (fun _ => (bk_k_X2_skipBlanks_72 h_s)) (fun _ => pc_mp (pc_some h_s))))) (fun _ => (bk_k_X2_skipBlanks_72 h_s))))) (fun _ => pc_none))
theorem bk_b_X2_skipBlanks_2 {x : Int32 × t_S} (h : BK x.2) : t_pq (b_X2_skipBlanks_2 x) (fun z => Sum.elim (fun y => BK y.2) (fun y => BK y) z) := bk_k_X2_skipBlanks_2 h
theorem bk_f_X2_skipBlanks {s : t_S} (h_s : BK s) : t_pq (f_X2_skipBlanks s) (fun y => BK y) := by
  unfold f_X2_skipBlanks
  exact pc_lp (fun x h => bk_b_X2_skipBlanks_2 h) h_s
theorem bk_k_X2_readText_130 {k0 : Int32} {s : t_S} (h_s : BK s) : t_pq (k_X2_readText_130 k0 s) (fun y => BK y.2) := by
  unfold k_X2_readText_130
  exact bk_st (BK.set h_s (fun y => absurd y (by decide))) (fun s1 h_s1 => pc_if (fun _ => pc_some h_s1) (fun _ => pc_some h_s1))
theorem bk_k_X2_readText_129 {s : t_S} (h_s : BK s) : t_pq (k_X2_readText_129 s) (fun y => BK y.2) := by
  unfold k_X2_readText_129
  exact (bk_k_X2_readText_130 h_s)
theorem bk_k_X2_readText_78 {l1 : Int32} {s : t_S} (h_s : BK s) : t_pq (k_X2_readText_78 l1 s) (fun y => BK y.2) := by
  unfold k_X2_readText_78
  exact bk_st h_s (fun s1 h_s1 => pc_if (fun _ => (bk_k_X2_readText_129 h_s1)) (fun _ => pc_if (fun _ => pc_if (fun _ => pc_if (fun _ => (bk_k_X2_readText_129 h_s1)) (fun _ => (bk_k_X2_readText_130 h_s1))) (fun _ => (bk_k_X2_readText_129 h_s1))) (fun _ => pc_none)))
theorem bk_k_X2_readText_12 {l1 : Int32} {s : t_S} (h_s : BK s) : t_pq (k_X2_readText_12 l1 s) (fun z => Sum.elim (fun y => BK y.2) (fun y => BK y.2) z) := by
  unfold k_X2_readText_12
  exact pc_if (fun _ => pc_mp ((bk_k_X2_readText_78 h_s))) (fun _ => pc_if (fun _ => pc_if (fun _ => pc_mp ((bk_k_X2_readText_78 h_s))) (fun _ => pc_if (fun _ => pc_mp ((bk_k_X2_readText_78 h_s))) (fun _ => pc_if (fun _ => pc_mp ((bk_k_X2_readText_78 h_s))) (fun _ => bk_st (BK.set h_s (fun y => absurd y (by decide))) (fun s1 h_s1 => pc_some h_s1))))) (fun _ => pc_none))
theorem bk_b_X2_readText_12 {x : Int32 × t_S} (h : BK x.2) : t_pq (b_X2_readText_12 x) (fun z => Sum.elim (fun y => BK y.2) (fun y => BK y.2) z) := bk_k_X2_readText_12 h
theorem bk_f_X2_readText {s : t_S} (h_s : BK s) : t_pq (f_X2_readText s) (fun y => BK y.2) := by
  unfold f_X2_readText
  exact bk_st (BK.set h_s (fun y => absurd y (by decide))) (fun s1 h_s1 => pc_lp (fun x h => bk_b_X2_readText_12 h) h_s1)
theorem bk_k_X2_readToken_88 {l1 : Int32} {l3 : Int32} {k0 : Int32} {k1 : Int32} {s : t_S} (h_s : BK s) : t_pq (k_X2_readToken_88 l1 l3 k0 k1 s) (fun y => BK y.2) := by
  unfold k_X2_readToken_88
  exact bk_st (BK.set h_s (fun y => absurd y (by decide))) (fun s1 h_s1 => pc_if (fun _ => pc_if (fun _ => pc_some h_s1) (fun _ => pc_some h_s1)) (fun _ => pc_some h_s1))
theorem bk_k_X2_readToken_67 {l1 : Int32} {k0 : Int32} {s : t_S} (h_s : BK s) : t_pq (k_X2_readToken_67 l1 k0 s) (fun y => BK y.2) := by
  unfold k_X2_readToken_67
  exact pc_if (fun _ => (bk_k_X2_readToken_88 h_s)) (fun _ => (bk_k_X2_readToken_88 h_s))
theorem bk_k_X2_readNumber_85 {l1 : Int32} {s : t_S} (h_s : BK s) : t_pq (k_X2_readNumber_85 l1 s) (fun y => BK y.2) := by
  unfold k_X2_readNumber_85
  exact pc_if (fun _ => pc_some h_s) (fun _ => pc_some h_s)
theorem bk_k_X2_readNumber_72 {l1 : Int32} {s : t_S} (h_s : BK s) : t_pq (k_X2_readNumber_72 l1 s) (fun z => Sum.elim (fun y => BK y.2) (fun y => BK y.2) z) := by
  unfold k_X2_readNumber_72
  exact bk_st (BK.set h_s (fun y => absurd y (by decide))) (fun s1 h_s1 => pc_some h_s1)
theorem bk_k_X2_readNumber_5 {l1 : Int32} {s : t_S} (h_s : BK s) : t_pq (k_X2_readNumber_5 l1 s) (fun z => Sum.elim (fun y => BK y.2) (fun y => BK y.2) z) := by
  unfold k_X2_readNumber_5
  exact pc_if (fun _ => pc_mp ((bk_k_X2_readNumber_85 h_s))) (fun _ => pc_if (fun _ => pc_if (fun _ => pc_mp ((bk_k_X2_readNumber_85 h_s))) (fun _ => pc_if (fun _ => (bk_k_X2_readNumber_72 h_s)) (fun _ => bk_st h_s (fun s1 h_s1 => (bk_k_X2_readNumber_72 h_s1))))) (fun _ => pc_none))
theorem bk_b_X2_readNumber_5 {x : Int32 × t_S} (h : BK x.2) : t_pq (b_X2_readNumber_5 x) (fun z => Sum.elim (fun y => BK y.2) (fun y => BK y.2) z) := bk_k_X2_readNumber_5 h
theorem bk_f_X2_readNumber {s : t_S} (h_s : BK s) : t_pq (f_X2_readNumber s) (fun y => BK y.2) := by
  unfold f_X2_readNumber
  exact pc_lp (fun x h => bk_b_X2_readNumber_5 h) h_s
theorem bk_k_X2_wordOf_128 {l3 : Int64} {l5 : Int32} {l8 : Int32} {l9 : Int32} {s : t_S} (h_s : BK s) : t_pq (k_X2_wordOf_128 l3 l5 l8 l9 s) (fun z => Sum.elim (fun y => BK y.2.2.2.2) (fun y => BK y.2) z) := by
  unfold k_X2_wordOf_128
  exact pc_some h_s
theorem bk_f_X2_addWord {x1 : Int64} {x2 : Int32} {x3 : Int32} {s : t_S} (h_s : BK s) : t_pq (f_X2_addWord x1 x2 x3 s) (fun y => BK y.2) := by
  unfold f_X2_addWord
  exact pc_if (fun _ => bk_st (BK.set h_s (fun y => absurd y (by decide))) (fun s1 h_s1 => pc_if (fun _ => bk_st h_s1 (fun s2 h_s2 => bk_st (BK.set h_s2 (fun y => absurd y (by decide))) (fun s3 h_s3 => bk_st (BK.set h_s3 (fun y => absurd y (by decide))) (fun s4 h_s4 => pc_if (fun _ => bk_st (BK.set h_s4 (fun y => absurd y (by decide))) (fun s5 h_s5 => bk_st (BK.set h_s5 (fun y => absurd y (by decide))) (fun s6 h_s6 => bk_st (BK.set h_s6 (fun _ => Or.inl rfl)) (fun s7 h_s7 => pc_some h_s7)))) (fun _ => pc_none))))) (fun _ => pc_none))) (fun _ => pc_some h_s)
theorem bk_k_X2_wordOf_56 {l3 : Int64} {l5 : Int32} {l8 : Int32} {l9 : Int32} {s : t_S} (h_s : BK s) : t_pq (k_X2_wordOf_56 l3 l5 l8 l9 s) (fun z => Sum.elim (fun y => BK y.2.2.2.2) (fun y => BK y.2) z) := by
  unfold k_X2_wordOf_56
  exact pc_if (fun _ => pc_mp (pc_some h_s)) (fun _ => pc_if (fun _ => pc_if (fun _ => pc_if (fun _ => pc_if (fun _ => pc_if (fun _ => pc_mp (pc_some h_s)) (fun _ => (bk_k_X2_wordOf_128 h_s))) (fun _ => (bk_k_X2_wordOf_128 h_s))) (fun _ => pc_none)) (fun _ => pc_mp (pc_bd (bk_f_X2_addWord h_s) (fun r3 h_r3 => pc_some h_r3)))) (fun _ => pc_none))
theorem bk_b_X2_wordOf_56 {x : Int64 × Int32 × Int32 × Int32 × t_S} (h : BK x.2.2.2.2) : t_pq (b_X2_wordOf_56 x) (fun z => Sum.elim (fun y => BK y.2.2.2.2) (fun y => BK y.2) z) := bk_k_X2_wordOf_56 h
theorem bk_f_X2_wordOf {x1 : Int32} {x2 : Int32} {s : t_S} (h_s : BK s) : t_pq (f_X2_wordOf x1 x2 s) (fun y => BK y.2) := by
  unfold f_X2_wordOf
  exact pc_bd pc_any (fun r1 h_r1 => pc_bd pc_any (fun r2 h_r2 => pc_lp (fun x h => bk_b_X2_wordOf_56 h) h_s))
theorem bk_k_X2_readWord_81 {l1 : Int32} {s : t_S} (h_s : BK s) : t_pq (k_X2_readWord_81 l1 s) (fun y => BK y.2) := by
  unfold k_X2_readWord_81
  exact pc_if (fun _ => pc_bd (bk_f_X2_wordOf h_s) (fun r1 h_r1 => bk_st h_r1 (fun s1 h_s1 => pc_if (fun _ => pc_some h_s1) (fun _ => pc_some h_s1)))) (fun _ => pc_some h_s)
theorem bk_k_X2_readWord_68 {l1 : Int32} {s : t_S} (h_s : BK s) : t_pq (k_X2_readWord_68 l1 s) (fun z => Sum.elim (fun y => BK y.2) (fun y => BK y.2) z) := by
  unfold k_X2_readWord_68
  exact bk_st (BK.set h_s (fun y => absurd y (by decide))) (fun s1 h_s1 => pc_some h_s1)
theorem bk_k_X2_readWord_5 {l1 : Int32} {s : t_S} (h_s : BK s) : t_pq (k_X2_readWord_5 l1 s) (fun z => Sum.elim (fun y => BK y.2) (fun y => BK y.2) z) := by
  unfold k_X2_readWord_5
  exact pc_if (fun _ => pc_mp ((bk_k_X2_readWord_81 h_s))) (fun _ => pc_if (fun _ => pc_if (fun _ => pc_if (fun _ => pc_if (fun _ => (bk_k_X2_readWord_68 h_s)) (fun _ => pc_mp ((bk_k_X2_readWord_81 h_s)))) (fun _ => (bk_k_X2_readWord_68 h_s))) (fun _ => (bk_k_X2_readWord_68 h_s))) (fun _ => pc_none))
theorem bk_b_X2_readWord_5 {x : Int32 × t_S} (h : BK x.2) : t_pq (b_X2_readWord_5 x) (fun z => Sum.elim (fun y => BK y.2) (fun y => BK y.2) z) := bk_k_X2_readWord_5 h
theorem bk_f_X2_readWord {s : t_S} (h_s : BK s) : t_pq (f_X2_readWord s) (fun y => BK y.2) := by
  unfold f_X2_readWord
  exact pc_lp (fun x h => bk_b_X2_readWord_5 h) h_s
theorem bk_f_X2_readToken {x1 : Int32} {s : t_S} (h_s : BK s) : t_pq (f_X2_readToken x1 s) (fun y => BK y.2) := by
  unfold f_X2_readToken
  exact pc_if (fun _ => pc_if (fun _ => pc_if (fun _ => pc_bd (bk_f_X2_readText h_s) (fun r4 h_r4 => pc_some h_r4)) (fun _ => pc_if (fun _ => (bk_k_X2_readToken_67 h_s)) (fun _ => pc_if (fun _ => (bk_k_X2_readToken_67 h_s)) (fun _ => pc_none)))) (fun _ => pc_bd (bk_f_X2_readNumber h_s) (fun r5 h_r5 => pc_some h_r5))) (fun _ => pc_bd (bk_f_X2_readWord h_s) (fun r6 h_r6 => pc_some h_r6))
theorem bk_k_X2_scan_82 {l2 : Int32} {k0 : Int32} {s : t_S} (h_s : BK s) : t_pq (k_X2_scan_82 l2 k0 s) (fun z => Sum.elim (fun y => BK y.2.2) (fun y => BK y) z) := by
  unfold k_X2_scan_82
  exact pc_if (fun _ => bk_st (BK.set h_s (fun y => absurd y (by decide))) (fun s1 h_s1 => bk_st h_s1 (fun s2 h_s2 => bk_st (BK.set h_s2 (fun y => absurd y (by decide))) (fun s3 h_s3 => pc_some h_s3)))) (fun _ => pc_none)
theorem bk_k_X2_scan_14 {l1 : Int32} {l2 : Int32} {s : t_S} (h_s : BK s) : t_pq (k_X2_scan_14 l1 l2 s) (fun z => Sum.elim (fun y => BK y.2.2) (fun y => BK y) z) := by
  unfold k_X2_scan_14
  exact pc_if (fun _ => pc_mp ((bk_k_X2_scan_116 h_s))) (fun _ => pc_if (fun _ => pc_mp ((bk_k_X2_scan_116 h_s))) (fun _ => pc_if (fun _ => pc_mp ((bk_k_X2_scan_116 h_s))) (fun _ => pc_bd (bk_f_X2_skipBlanks h_s) (fun r1 h_r1 => bk_st h_r1 (fun s1 h_s1 => pc_if (fun _ => bk_st (BK.set h_s1 (fun y => absurd y (by decide))) (fun s2 h_s2 => pc_if (fun _ => pc_if (fun _ => pc_bd (bk_f_X2_readToken h_s2) (fun r4 h_r4 => (bk_k_X2_scan_82 h_r4))) (fun _ => pc_none)) (fun _ => (bk_k_X2_scan_82 h_s2)))) (fun _ => pc_none))))))
theorem bk_b_X2_scan_14 {x : Int32 × Int32 × t_S} (h : BK x.2.2) : t_pq (b_X2_scan_14 x) (fun z => Sum.elim (fun y => BK y.2.2) (fun y => BK y) z) := bk_k_X2_scan_14 h
theorem bk_f_X2_scan {s : t_S} (h_s : BK s) : t_pq (f_X2_scan s) (fun y => BK y) := by
  unfold f_X2_scan
  exact bk_st (BK.set h_s (fun y => absurd y (by decide))) (fun s1 h_s1 => bk_st (BK.set h_s1 (fun y => absurd y (by decide))) (fun s2 h_s2 => pc_lp (fun x h => bk_b_X2_scan_14 h) h_s2))
theorem bk_f_X2_fail {x1 : Int32} {s : t_S} (h_s : BK s) : t_pq (f_X2_fail x1 s) (fun y => BK y) := by
  unfold f_X2_fail
  exact pc_if (fun _ => bk_st (BK.set h_s (fun y => absurd y (by decide))) (fun s1 h_s1 => bk_st (BK.set h_s1 (fun y => absurd y (by decide))) (fun s2 h_s2 => bk_st (BK.set h_s2 (fun y => absurd y (by decide))) (fun s3 h_s3 => pc_some h_s3)))) (fun _ => pc_some h_s)
theorem bk_k_X6_takeName_64 {l1 : Int32} {l2 : Int32} {s : t_S} (h_s : BK s) : t_pq (k_X6_takeName_64 l1 l2 s) (fun y => BK y.2) := by
  unfold k_X6_takeName_64
  exact pc_if (fun _ => pc_if (fun _ => bk_st (BK.set h_s (fun y => absurd y (by decide))) (fun s1 h_s1 => pc_some h_s1)) (fun _ => pc_none)) (fun _ => pc_some h_s)
theorem bk_f_X6_takeName {x1 : Int32} {x2 : Int32} {x3 : Int32} {s : t_S} (h_s : BK s) : t_pq (f_X6_takeName x1 x2 x3 s) (fun y => BK y.2) := by
  unfold f_X6_takeName
  exact pc_if (fun _ => pc_if (fun _ => pc_if (fun _ => pc_if (fun _ => (bk_k_X6_takeName_64 h_s)) (fun _ => pc_bd (bk_f_X2_fail h_s) (fun r3 h_r3 => (bk_k_X6_takeName_64 h_r3)))) (fun _ => pc_bd (bk_f_X2_fail h_s) (fun r4 h_r4 => (bk_k_X6_takeName_64 h_r4)))) (fun _ => pc_none)) (fun _ => pc_bd (bk_f_X2_fail h_s) (fun r5 h_r5 => (bk_k_X6_takeName_64 h_r5)))
theorem bk_f_X2_need {x1 : Int32} {s : t_S} (h_s : BK s) : t_pq (f_X2_need x1 s) (fun y => BK y) := by
  unfold f_X2_need
  exact pc_if (fun _ => pc_bd (bk_f_X2_advance h_s) (fun r2 h_r2 => pc_some h_r2)) (fun _ => pc_bd (bk_f_X2_fail h_s) (fun r1 h_r1 => pc_some h_r1))
def BKB_X6_readFields (rc : RT_X6_readFields) : Prop := (∀ (x0 : Int32) (x1 : Int32) (x2 : Int32) (s : t_S), BK s → t_pq (rc.1 x0 x1 x2 s) (fun y => BK y)) ∧ (∀ (x0 : Int32) (s : t_S), BK s → t_pq (rc.2 x0 s) (fun y => BK y.2))
theorem bk_k_X6_readFields_278 {rc : RT_X6_readFields} {s : t_S} (hrc : BKB_X6_readFields rc) (h_s : BK s) : t_pq (k_X6_readFields_278 rc s) (fun y => BK y) := by
  unfold k_X6_readFields_278
  exact pc_bd (bk_f_X2_need h_s) (fun r1 h_r1 => pc_some h_r1)
theorem bk_f_X6_node {s : t_S} (h_s : BK s) : t_pq (f_X6_node s) (fun y => BK y) := by
  unfold f_X6_node
  exact pc_if (fun _ => bk_st (BK.set h_s (fun y => absurd y (by decide))) (fun s1 h_s1 => pc_some h_s1)) (fun _ => pc_bd (bk_f_X2_fail h_s) (fun r1 h_r1 => pc_some h_r1))
theorem bk_f_X11_add {x1 : Int32} {s : t_S} (h_s : BK s) : t_pq (f_X11_add x1 s) (fun y => BK y.2) := by
  unfold f_X11_add
  exact pc_if (fun _ => bk_st (BK.set h_s (fun y => absurd y (by decide))) (fun s1 h_s1 => pc_if (fun _ => bk_st (BK.set h_s1 (fun y => absurd y (by decide))) (fun s2 h_s2 => bk_st (BK.set h_s2 (fun y => absurd y (by decide))) (fun s3 h_s3 => bk_st (BK.set h_s3 (fun y => absurd y (by decide))) (fun s4 h_s4 => bk_st (BK.set h_s4 (fun y => absurd y (by decide))) (fun s5 h_s5 => bk_st (BK.set h_s5 (fun y => absurd y (by decide))) (fun s6 h_s6 => bk_st h_s6 (fun s7 h_s7 => bk_st h_s7 (fun s8 h_s8 => pc_some h_s8)))))))) (fun _ => pc_none))) (fun _ => pc_some h_s)
theorem bk_f_X2_take {x1 : Int32} {s : t_S} (h_s : BK s) : t_pq (f_X2_take x1 s) (fun y => BK y.2) := by
  unfold f_X2_take
  exact pc_if (fun _ => pc_bd (bk_f_X2_advance h_s) (fun r1 h_r1 => pc_some h_r1)) (fun _ => pc_some h_s)
theorem bk_k_X6_readFields_240 {rc : RT_X6_readFields} {l1 : Int32} {l2 : Int32} {l3 : Int32} {l5 : Int32} {l6 : Int32} {s : t_S} (hrc : BKB_X6_readFields rc) (h_s : BK s) : t_pq (k_X6_readFields_240 rc l1 l2 l3 l5 l6 s) (fun z => Sum.elim (fun y => BK y.2.2.2.2.2) (fun y => BK y) z) := by
  unfold k_X6_readFields_240
  exact pc_if (fun _ => bk_st (BK.set h_s (fun y => absurd y (by decide))) (fun s1 h_s1 => pc_bd (bk_f_X2_take h_s1) (fun r2 h_r2 => pc_if (fun _ => pc_mp ((bk_k_X6_readFields_278 hrc h_r2))) (fun _ => pc_some h_r2)))) (fun _ => pc_none)
theorem bk_k_X6_readFields_209 {rc : RT_X6_readFields} {l1 : Int32} {l2 : Int32} {l3 : Int32} {l4 : Int32} {l5 : Int32} {l6 : Int32} {s : t_S} (hrc : BKB_X6_readFields rc) (h_s : BK s) : t_pq (k_X6_readFields_209 rc l1 l2 l3 l4 l5 l6 s) (fun z => Sum.elim (fun y => BK y.2.2.2.2.2) (fun y => BK y) z) := by
  unfold k_X6_readFields_209
  exact pc_if (fun _ => pc_if (fun _ => bk_st (BK.set h_s (fun y => absurd y (by decide))) (fun s2 h_s2 => (bk_k_X6_readFields_240 hrc h_s2))) (fun _ => pc_none)) (fun _ => pc_if (fun _ => bk_st (BK.set h_s (fun y => absurd y (by decide))) (fun s1 h_s1 => (bk_k_X6_readFields_240 hrc h_s1))) (fun _ => pc_none))
theorem bk_k_X6_readFields_105 {rc : RT_X6_readFields} {l1 : Int32} {l2 : Int32} {l3 : Int32} {l4 : Int32} {l5 : Int32} {s : t_S} (hrc : BKB_X6_readFields rc) (h_s : BK s) : t_pq (k_X6_readFields_105 rc l1 l2 l3 l4 l5 s) (fun z => Sum.elim (fun y => BK y.2.2.2.2.2) (fun y => BK y) z) := by
  unfold k_X6_readFields_105
  exact pc_bd (bk_f_X6_node h_s) (fun r1 h_r1 => pc_if (fun _ => pc_bd (bk_f_X11_add h_r1) (fun r2 h_r2 => pc_if (fun _ => bk_st (BK.set h_r2 (fun y => absurd y (by decide))) (fun s1 h_s1 => pc_bd (bk_f_X2_advance h_s1) (fun r5 h_r5 => pc_bd (bk_f_X2_need h_r5) (fun r6 h_r6 => pc_bd (hrc.2 _ _ h_r6) (fun r7 h_r7 => bk_st (BK.set h_r7 (fun y => absurd y (by decide))) (fun s2 h_s2 => pc_if (fun _ => (bk_k_X6_readFields_209 hrc h_s2)) (fun _ => pc_bd (bk_f_X2_take h_s2) (fun r8 h_r8 => pc_if (fun _ => (bk_k_X6_readFields_209 hrc h_r8)) (fun _ => bk_st (BK.set h_r8 (fun y => absurd y (by decide))) (fun s3 h_s3 => (bk_k_X6_readFields_209 hrc h_s3))))))))))) (fun _ => pc_none))) (fun _ => pc_mp (pc_some h_r1)))
theorem bk_k_X6_readFields_32 {rc : RT_X6_readFields} {l1 : Int32} {l2 : Int32} {l3 : Int32} {l4 : Int32} {l5 : Int32} {s : t_S} (hrc : BKB_X6_readFields rc) (h_s : BK s) : t_pq (k_X6_readFields_32 rc l1 l2 l3 l4 l5 s) (fun z => Sum.elim (fun y => BK y.2.2.2.2.2) (fun y => BK y) z) := by
  unfold k_X6_readFields_32
  exact pc_if (fun _ => pc_mp ((bk_k_X6_readFields_278 hrc h_s))) (fun _ => pc_if (fun _ => pc_bd pc_any (fun r2 h_r2 => pc_if (fun _ => pc_if (fun _ => pc_bd (bk_f_X2_fail h_s) (fun r3 h_r3 => (bk_k_X6_readFields_105 hrc h_r3))) (fun _ => (bk_k_X6_readFields_105 hrc h_s))) (fun _ => pc_bd (bk_f_X2_fail h_s) (fun r4 h_r4 => (bk_k_X6_readFields_105 hrc h_r4))))) (fun _ => pc_bd (bk_f_X2_fail h_s) (fun r5 h_r5 => (bk_k_X6_readFields_105 hrc h_r5))))
theorem bk_b_X6_readFields_32 {rc : RT_X6_readFields} {x : Int32 × Int32 × Int32 × Int32 × Int32 × t_S} (hrc : BKB_X6_readFields rc) (h : BK x.2.2.2.2.2) : t_pq (b_X6_readFields_32 rc x) (fun z => Sum.elim (fun y => BK y.2.2.2.2.2) (fun y => BK y) z) := bk_k_X6_readFields_32 hrc h
theorem bk_k_X6_readFields_26 {rc : RT_X6_readFields} {l1 : Int32} {l2 : Int32} {l3 : Int32} {s : t_S} (hrc : BKB_X6_readFields rc) (h_s : BK s) : t_pq (k_X6_readFields_26 rc l1 l2 l3 s) (fun y => BK y) := by
  unfold k_X6_readFields_26
  exact pc_lp (fun x h => bk_b_X6_readFields_32 hrc h) h_s
theorem bk_m_X6_readFields {rc : RT_X6_readFields} {x1 : Int32} {x2 : Int32} {x3 : Int32} {s : t_S} (hrc : BKB_X6_readFields rc) (h_s : BK s) : t_pq (m_X6_readFields rc x1 x2 x3 s) (fun y => BK y) := by
  unfold m_X6_readFields
  exact pc_bd (bk_f_X2_need h_s) (fun r1 h_r1 => pc_if (fun _ => (bk_k_X6_readFields_26 hrc h_r1)) (fun _ => pc_bd (bk_f_X2_take h_r1) (fun r2 h_r2 => pc_if (fun _ => (bk_k_X6_readFields_26 hrc h_r2)) (fun _ => pc_some h_r2))))
theorem bk_f_X3_add {x1 : Int32} {x2 : Int32} {x3 : Int32} {x4 : Int32} {x5 : Int32} {x6 : Int32} {s : t_S} (h_s : BK s) : t_pq (f_X3_add x1 x2 x3 x4 x5 x6 s) (fun y => BK y) := by
  unfold f_X3_add
  exact pc_if (fun _ => pc_if (fun _ => bk_st (BK.set h_s (fun y => absurd y (by omega))) (fun s1 h_s1 => pc_if (fun _ => bk_st (BK.set h_s1 (fun y => absurd y (by omega))) (fun s2 h_s2 => pc_if (fun _ => bk_st (BK.set h_s2 (fun y => absurd y (by omega))) (fun s3 h_s3 => pc_if (fun _ => bk_st (BK.set h_s3 (fun y => absurd y (by omega))) (fun s4 h_s4 => pc_if (fun _ => bk_st (BK.set h_s4 (fun y => absurd y (by omega))) (fun s5 h_s5 => pc_if (fun _ => bk_st (BK.set h_s5 (fun y => absurd y (by omega))) (fun s6 h_s6 => bk_st (BK.set h_s6 (fun y => absurd y (by decide))) (fun s7 h_s7 => pc_some h_s7))) (fun _ => pc_none))) (fun _ => pc_none))) (fun _ => pc_none))) (fun _ => pc_none))) (fun _ => pc_none))) (fun _ => pc_none)) (fun _ => pc_some h_s)
theorem bk_f_X6_link {x1 : Int32} {x2 : Int32} {x3 : Int32} {s : t_S} (h_s : BK s) : t_pq (f_X6_link x1 x2 x3 s) (fun y => BK y) := by
  unfold f_X6_link
  exact pc_if (fun _ => pc_bd (bk_f_X3_add h_s) (fun r3 h_r3 => pc_bd (bk_f_X2_advance h_r3) (fun r4 h_r4 => pc_some h_r4))) (fun _ => pc_bd (bk_f_X2_fail h_s) (fun r5 h_r5 => pc_some h_r5))
theorem bk_k_X6_readInt_346 {s : t_S} (h_s : BK s) : t_pq (k_X6_readInt_346 s) (fun y => BK y) := by
  unfold k_X6_readInt_346
  exact pc_bd (bk_f_X2_need h_s) (fun r1 h_r1 => pc_some h_r1)
theorem bk_k_X6_readNumber_90 {l4 : Int64} {s : t_S} (h_s : BK s) : t_pq (k_X6_readNumber_90 l4 s) (fun y => BK y.2) := by
  unfold k_X6_readNumber_90
  exact pc_if (fun _ => pc_bd (bk_f_X2_advance h_s) (fun r1 h_r1 => pc_some h_r1)) (fun _ => pc_some h_s)
theorem bk_k_X6_readNumber_51 {l1 : Int64} {k0 : Int64} {s : t_S} (h_s : BK s) : t_pq (k_X6_readNumber_51 l1 k0 s) (fun y => BK y.2) := by
  unfold k_X6_readNumber_51
  exact pc_if (fun _ => pc_if (fun _ => (bk_k_X6_readNumber_90 h_s)) (fun _ => pc_bd (bk_f_X2_fail h_s) (fun r1 h_r1 => (bk_k_X6_readNumber_90 h_r1)))) (fun _ => pc_bd (bk_f_X2_fail h_s) (fun r2 h_r2 => (bk_k_X6_readNumber_90 h_r2)))
theorem bk_k_X6_readNumber_29 {l1 : Int64} {l3 : Int32} {s : t_S} (h_s : BK s) : t_pq (k_X6_readNumber_29 l1 l3 s) (fun y => BK y.2) := by
  unfold k_X6_readNumber_29
  exact pc_if (fun _ => (bk_k_X6_readNumber_51 h_s)) (fun _ => (bk_k_X6_readNumber_51 h_s))
theorem bk_k_X6_readNumber_17 {l1 : Int64} {k0 : Int32} {s : t_S} (h_s : BK s) : t_pq (k_X6_readNumber_17 l1 k0 s) (fun y => BK y.2) := by
  unfold k_X6_readNumber_17
  exact pc_if (fun _ => (bk_k_X6_readNumber_29 h_s)) (fun _ => pc_bd (bk_f_X2_advance h_s) (fun r1 h_r1 => (bk_k_X6_readNumber_29 h_r1)))
theorem bk_f_X6_readNumber {x1 : Int64} {s : t_S} (h_s : BK s) : t_pq (f_X6_readNumber x1 s) (fun y => BK y.2) := by
  unfold f_X6_readNumber
  exact pc_if (fun _ => (bk_k_X6_readNumber_17 h_s)) (fun _ => (bk_k_X6_readNumber_17 h_s))
theorem bk_k_X6_readInt_308 {l1 : Int32} {l3 : Int32} {l4 : Int32} {k0 : Int64} {k1 : Int32} {s : t_S} (h_s : BK s) : t_pq (k_X6_readInt_308 l1 l3 l4 k0 k1 s) (fun z => Sum.elim (fun y => BK y.2.2.2) (fun y => BK y) z) := by
  unfold k_X6_readInt_308
  exact pc_if (fun _ => bk_st h_s (fun s1 h_s1 => pc_if (fun _ => bk_st (BK.set h_s1 (fun y => absurd y (by decide))) (fun s2 h_s2 => pc_bd (bk_f_X2_take h_s2) (fun r3 h_r3 => pc_if (fun _ => pc_mp ((bk_k_X6_readInt_346 h_r3))) (fun _ => pc_some h_r3)))) (fun _ => pc_none))) (fun _ => pc_none)
theorem bk_k_X6_readInt_260 {l1 : Int32} {l3 : Int32} {l4 : Int32} {k0 : Int64} {k1 : Int32} {s : t_S} (h_s : BK s) : t_pq (k_X6_readInt_260 l1 l3 l4 k0 k1 s) (fun z => Sum.elim (fun y => BK y.2.2.2) (fun y => BK y) z) := by
  unfold k_X6_readInt_260
  exact pc_if (fun _ => bk_st h_s (fun s1 h_s1 => pc_if (fun _ => pc_if (fun _ => (bk_k_X6_readInt_308 h_s1)) (fun _ => pc_none)) (fun _ => pc_if (fun _ => pc_if (fun _ => (bk_k_X6_readInt_308 h_s1)) (fun _ => pc_none)) (fun _ => pc_none)))) (fun _ => pc_none)
theorem bk_k_X6_readInt_213 {l1 : Int32} {l3 : Int32} {l4 : Int32} {s : t_S} (h_s : BK s) : t_pq (k_X6_readInt_213 l1 l3 l4 s) (fun z => Sum.elim (fun y => BK y.2.2.2) (fun y => BK y) z) := by
  unfold k_X6_readInt_213
  exact pc_if (fun _ => pc_if (fun _ => (bk_k_X6_readInt_260 h_s)) (fun _ => pc_none)) (fun _ => pc_if (fun _ => pc_if (fun _ => (bk_k_X6_readInt_260 h_s)) (fun _ => pc_none)) (fun _ => pc_none))
theorem bk_k_X6_readInt_183 {l1 : Int32} {l2 : Int32} {l3 : Int32} {l4 : Int32} {k0 : Int64} {k1 : Int32} {s : t_S} (h_s : BK s) : t_pq (k_X6_readInt_183 l1 l2 l3 l4 k0 k1 s) (fun z => Sum.elim (fun y => BK y.2.2.2) (fun y => BK y) z) := by
  unfold k_X6_readInt_183
  exact pc_if (fun _ => bk_st h_s (fun s1 h_s1 => pc_if (fun _ => pc_if (fun _ => bk_st (BK.set h_s1 (fun y => absurd y (by decide))) (fun s3 h_s3 => (bk_k_X6_readInt_213 h_s3))) (fun _ => pc_none)) (fun _ => pc_if (fun _ => bk_st (BK.set h_s1 (fun y => absurd y (by decide))) (fun s2 h_s2 => (bk_k_X6_readInt_213 h_s2))) (fun _ => pc_none)))) (fun _ => pc_none)
theorem bk_k_X6_readInt_92 {l1 : Int32} {l2 : Int32} {l3 : Int32} {s : t_S} (h_s : BK s) : t_pq (k_X6_readInt_92 l1 l2 l3 s) (fun z => Sum.elim (fun y => BK y.2.2.2) (fun y => BK y) z) := by
  unfold k_X6_readInt_92
  exact pc_bd (bk_f_X6_node h_s) (fun r1 h_r1 => pc_if (fun _ => pc_bd (bk_f_X11_add h_r1) (fun r2 h_r2 => pc_bd (bk_f_X6_readNumber h_r2) (fun r3 h_r3 => pc_if (fun _ => bk_st h_r3 (fun s1 h_s1 => pc_bd (bk_f_X2_take h_s1) (fun r5 h_r5 => pc_if (fun _ => (bk_k_X6_readInt_183 h_r5)) (fun _ => pc_bd (bk_f_X6_readNumber h_r5) (fun r6 h_r6 => (bk_k_X6_readInt_183 h_r6)))))) (fun _ => pc_none)))) (fun _ => pc_mp (pc_some h_r1)))
theorem bk_k_X6_readInt_78 {l1 : Int32} {l2 : Int32} {l3 : Int32} {s : t_S} (h_s : BK s) : t_pq (k_X6_readInt_78 l1 l2 l3 s) (fun z => Sum.elim (fun y => BK y.2.2.2) (fun y => BK y) z) := by
  unfold k_X6_readInt_78
  exact pc_if (fun _ => pc_bd (bk_f_X2_fail h_s) (fun r1 h_r1 => (bk_k_X6_readInt_92 h_r1))) (fun _ => (bk_k_X6_readInt_92 h_s))
theorem bk_k_X6_readInt_41 {l1 : Int32} {l2 : Int32} {l3 : Int32} {s : t_S} (h_s : BK s) : t_pq (k_X6_readInt_41 l1 l2 l3 s) (fun z => Sum.elim (fun y => BK y.2.2.2) (fun y => BK y) z) := by
  unfold k_X6_readInt_41
  exact pc_if (fun _ => pc_mp ((bk_k_X6_readInt_346 h_s))) (fun _ => pc_if (fun _ => (bk_k_X6_readInt_78 h_s)) (fun _ => pc_if (fun _ => (bk_k_X6_readInt_78 h_s)) (fun _ => pc_bd (bk_f_X2_fail h_s) (fun r1 h_r1 => (bk_k_X6_readInt_78 h_r1)))))
theorem bk_b_X6_readInt_41 {x : Int32 × Int32 × Int32 × t_S} (h : BK x.2.2.2) : t_pq (b_X6_readInt_41 x) (fun z => Sum.elim (fun y => BK y.2.2.2) (fun y => BK y) z) := bk_k_X6_readInt_41 h
theorem bk_f_X6_readInt {x1 : Int32} {s : t_S} (h_s : BK s) : t_pq (f_X6_readInt x1 s) (fun y => BK y) := by
  unfold f_X6_readInt
  exact pc_if (fun _ => bk_st h_s (fun s1 h_s1 => bk_st h_s1 (fun s2 h_s2 => pc_bd (bk_f_X2_take h_s2) (fun r2 h_r2 => pc_if (fun _ => pc_some h_r2) (fun _ => pc_lp (fun x h => bk_b_X6_readInt_41 h) h_r2))))) (fun _ => pc_none)
theorem bk_k_X6_readBound_52 {l3 : Int64} {s : t_S} (h_s : BK s) : t_pq (k_X6_readBound_52 l3 s) (fun y => BK y.2) := by
  unfold k_X6_readBound_52
  exact pc_if (fun _ => pc_bd (bk_f_X2_advance h_s) (fun r1 h_r1 => pc_some h_r1)) (fun _ => pc_some h_s)
theorem bk_k_X6_readBound_44 {l3 : Int64} {s : t_S} (h_s : BK s) : t_pq (k_X6_readBound_44 l3 s) (fun y => BK y.2) := by
  unfold k_X6_readBound_44
  exact pc_bd (bk_f_X2_fail h_s) (fun r1 h_r1 => (bk_k_X6_readBound_52 h_r1))
theorem bk_f_X6_readBound {x1 : Int32} {x2 : Int32} {s : t_S} (h_s : BK s) : t_pq (f_X6_readBound x1 x2 s) (fun y => BK y.2) := by
  unfold f_X6_readBound
  exact pc_if (fun _ => pc_if (fun _ => (bk_k_X6_readBound_44 h_s)) (fun _ => pc_if (fun _ => (bk_k_X6_readBound_52 h_s)) (fun _ => (bk_k_X6_readBound_44 h_s)))) (fun _ => pc_bd (bk_f_X2_fail h_s) (fun r1 h_r1 => (bk_k_X6_readBound_52 h_r1)))
theorem bk_k_X6_readSpan_38 {l2 : Int32} {k0 : Int32} {s : t_S} (h_s : BK s) : t_pq (k_X6_readSpan_38 l2 k0 s) (fun y => BK y.2) := by
  unfold k_X6_readSpan_38
  exact pc_bd (bk_f_X2_need h_s) (fun r1 h_r1 => pc_some h_r1)
theorem bk_f_X6_readSpan {x1 : Int32} {s : t_S} (h_s : BK s) : t_pq (f_X6_readSpan x1 s) (fun y => BK y.2) := by
  unfold f_X6_readSpan
  exact pc_bd (bk_f_X2_need h_s) (fun r1 h_r1 => pc_bd (bk_f_X6_readBound h_r1) (fun r2 h_r2 => pc_bd (bk_f_X2_take h_r2) (fun r3 h_r3 => pc_if (fun _ => (bk_k_X6_readSpan_38 h_r3)) (fun _ => pc_bd (bk_f_X6_readBound h_r3) (fun r4 h_r4 => (bk_k_X6_readSpan_38 h_r4))))))
theorem bk_f_X6_setSpan {x1 : Int32} {x2 : Int32} {s : t_S} (h_s : BK s) : t_pq (f_X6_setSpan x1 x2 s) (fun y => BK y) := by
  unfold f_X6_setSpan
  exact pc_if (fun _ => bk_st h_s (fun s1 h_s1 => bk_st h_s1 (fun s2 h_s2 => pc_some h_s2))) (fun _ => pc_none)
theorem bk_k_X6_readEnum_201 {s : t_S} (h_s : BK s) : t_pq (k_X6_readEnum_201 s) (fun y => BK y) := by
  unfold k_X6_readEnum_201
  exact pc_bd (bk_f_X2_need h_s) (fun r1 h_r1 => pc_some h_r1)
theorem bk_k_X6_readEnum_98 {l1 : Int32} {l2 : Int32} {s : t_S} (h_s : BK s) : t_pq (k_X6_readEnum_98 l1 l2 s) (fun z => Sum.elim (fun y => BK y.2.2) (fun y => BK y) z) := by
  unfold k_X6_readEnum_98
  exact pc_if (fun _ => pc_if (fun _ => bk_st (BK.set h_s (fun _ => Or.inr rfl)) (fun s1 h_s1 => pc_if (fun _ => bk_st (BK.set h_s1 (fun y => absurd y (by decide))) (fun s2 h_s2 => bk_st (BK.set h_s2 (fun y => absurd y (by decide))) (fun s3 h_s3 => pc_if (fun _ => bk_st (BK.set h_s3 (fun y => absurd y (by decide))) (fun s4 h_s4 => pc_bd (bk_f_X2_advance h_s4) (fun r6 h_r6 => pc_bd (bk_f_X2_take h_r6) (fun r7 h_r7 => pc_if (fun _ => pc_mp ((bk_k_X6_readEnum_201 h_r7))) (fun _ => pc_some h_r7))))) (fun _ => pc_none)))) (fun _ => pc_none))) (fun _ => pc_none)) (fun _ => pc_mp (pc_some h_s))
theorem bk_k_X6_readEnum_27 {l1 : Int32} {l2 : Int32} {s : t_S} (h_s : BK s) : t_pq (k_X6_readEnum_27 l1 l2 s) (fun z => Sum.elim (fun y => BK y.2.2) (fun y => BK y) z) := by
  unfold k_X6_readEnum_27
  exact pc_if (fun _ => pc_mp ((bk_k_X6_readEnum_201 h_s))) (fun _ => pc_if (fun _ => pc_bd pc_any (fun r2 h_r2 => pc_if (fun _ => pc_if (fun _ => pc_bd (bk_f_X2_fail h_s) (fun r3 h_r3 => (bk_k_X6_readEnum_98 h_r3))) (fun _ => (bk_k_X6_readEnum_98 h_s))) (fun _ => pc_bd (bk_f_X2_fail h_s) (fun r4 h_r4 => (bk_k_X6_readEnum_98 h_r4))))) (fun _ => pc_bd (bk_f_X2_fail h_s) (fun r5 h_r5 => (bk_k_X6_readEnum_98 h_r5))))
theorem bk_b_X6_readEnum_27 {x : Int32 × Int32 × t_S} (h : BK x.2.2) : t_pq (b_X6_readEnum_27 x) (fun z => Sum.elim (fun y => BK y.2.2) (fun y => BK y) z) := bk_k_X6_readEnum_27 h
theorem bk_f_X6_readEnum {x1 : Int32} {s : t_S} (h_s : BK s) : t_pq (f_X6_readEnum x1 s) (fun y => BK y) := by
  unfold f_X6_readEnum
  exact pc_bd (bk_f_X2_need h_s) (fun r1 h_r1 => pc_if (fun _ => bk_st (BK.set h_r1 (fun y => absurd y (by decide))) (fun s1 h_s1 => pc_lp (fun x h => bk_b_X6_readEnum_27 h) h_s1)) (fun _ => pc_none))
theorem bk_k_X6_readType_257 {rc : RT_X6_readFields} {l1 : Int32} {l3 : Int32} {s : t_S} (hrc : BKB_X6_readFields rc) (h_s : BK s) : t_pq (k_X6_readType_257 rc l1 l3 s) (fun y => BK y.2) := by
  unfold k_X6_readType_257
  exact pc_bd (bk_f_X2_need h_s) (fun r1 h_r1 => pc_bd (hrc.2 _ _ h_r1) (fun r2 h_r2 => pc_if (fun _ => bk_st (BK.set h_r2 (fun y => absurd y (by decide))) (fun s1 h_s1 => pc_some h_s1)) (fun _ => pc_none)))
theorem bk_k_X6_readType_80 {rc : RT_X6_readFields} {l1 : Int32} {l2 : Int32} {k0 : Int32} {s : t_S} (hrc : BKB_X6_readFields rc) (h_s : BK s) : t_pq (k_X6_readType_80 rc l1 l2 k0 s) (fun y => BK y.2) := by
  unfold k_X6_readType_80
  exact pc_bd (bk_f_X11_add h_s) (fun r1 h_r1 => pc_if (fun _ => pc_bd (bk_f_X6_link h_r1) (fun r13 h_r13 => pc_some h_r13)) (fun _ => pc_bd (bk_f_X2_advance h_r1) (fun r2 h_r2 => pc_if (fun _ => pc_some h_r2) (fun _ => pc_if (fun _ => pc_bd (bk_f_X6_readInt h_r2) (fun r3 h_r3 => pc_some h_r3)) (fun _ => pc_if (fun _ => pc_some h_r2) (fun _ => pc_if (fun _ => pc_if (fun _ => bk_st h_r2 (fun s1 h_s1 => pc_if (fun _ => pc_bd (bk_f_X6_readSpan h_s1) (fun r5 h_r5 => pc_bd (bk_f_X6_setSpan h_r5) (fun r6 h_r6 => pc_some h_r6))) (fun _ => pc_some h_s1))) (fun _ => pc_none)) (fun _ => pc_if (fun _ => pc_bd (bk_f_X6_readEnum h_r2) (fun r7 h_r7 => pc_some h_r7)) (fun _ => pc_if (fun _ => pc_bd (hrc.1 _ _ _ _ h_r2) (fun r8 h_r8 => pc_some h_r8)) (fun _ => pc_if (fun _ => pc_bd (hrc.1 _ _ _ _ h_r2) (fun r9 h_r9 => pc_some h_r9)) (fun _ => pc_if (fun _ => bk_st h_r2 (fun s2 h_s2 => pc_if (fun _ => pc_bd (bk_f_X6_readSpan h_s2) (fun r11 h_r11 => pc_bd (bk_f_X6_setSpan h_r11) (fun r12 h_r12 => (bk_k_X6_readType_257 hrc h_r12)))) (fun _ => (bk_k_X6_readType_257 hrc h_s2)))) (fun _ => pc_none)))))))))))
theorem bk_k_X6_readType_35 {rc : RT_X6_readFields} {l1 : Int32} {s : t_S} (hrc : BKB_X6_readFields rc) (h_s : BK s) : t_pq (k_X6_readType_35 rc l1 s) (fun y => BK y.2) := by
  unfold k_X6_readType_35
  exact pc_bd (bk_f_X6_node h_s) (fun r1 h_r1 => pc_if (fun _ => pc_if (fun _ => (bk_k_X6_readType_80 hrc h_r1)) (fun _ => (bk_k_X6_readType_80 hrc h_r1))) (fun _ => pc_some h_r1))
theorem bk_k_X6_readType_21 {rc : RT_X6_readFields} {l1 : Int32} {s : t_S} (hrc : BKB_X6_readFields rc) (h_s : BK s) : t_pq (k_X6_readType_21 rc l1 s) (fun y => BK y.2) := by
  unfold k_X6_readType_21
  exact pc_if (fun _ => (bk_k_X6_readType_35 hrc h_s)) (fun _ => pc_bd (bk_f_X2_fail h_s) (fun r1 h_r1 => (bk_k_X6_readType_35 hrc h_r1)))
theorem bk_m_X6_readType {rc : RT_X6_readFields} {x1 : Int32} {s : t_S} (hrc : BKB_X6_readFields rc) (h_s : BK s) : t_pq (m_X6_readType rc x1 s) (fun y => BK y.2) := by
  unfold m_X6_readType
  exact pc_if (fun _ => pc_bd (bk_f_X2_fail h_s) (fun r2 h_r2 => (bk_k_X6_readType_21 hrc h_r2))) (fun _ => (bk_k_X6_readType_21 hrc h_s))
theorem BKB_X6_readFields_R : ∀ n, BKB_X6_readFields (R_X6_readFields n) := by
  intro n
  induction n with
  | zero => exact ⟨fun _ _ _ _ _ => pc_none, fun _ _ _ => pc_none⟩
  | succ n ih => exact ⟨fun _ _ _ _ h => bk_m_X6_readFields ih h, fun _ _ h => bk_m_X6_readType ih h⟩
theorem bk_f_X6_readType {x1 : Int32} {s : t_S} (h_s : BK s) : t_pq (f_X6_readType x1 s) (fun y => BK y.2) := by
  unfold f_X6_readType
  exact ((BKB_X6_readFields_R 100).2 _ _ h_s)
theorem bk_f_X6_readTypeItem {s : t_S} (h_s : BK s) : t_pq (f_X6_readTypeItem s) (fun y => BK y) := by
  unfold f_X6_readTypeItem
  exact pc_bd (bk_f_X2_advance h_s) (fun r1 h_r1 => pc_bd (bk_f_X6_takeName h_r1) (fun r2 h_r2 => pc_if (fun _ => pc_some h_r2) (fun _ => pc_if (fun _ => bk_st (BK.set h_r2 (fun y => absurd y (by decide))) (fun s1 h_s1 => bk_st (BK.set h_s1 (fun y => absurd y (by decide))) (fun s2 h_s2 => pc_bd (bk_f_X2_advance h_s2) (fun r4 h_r4 => pc_bd (bk_f_X2_need h_r4) (fun r5 h_r5 => pc_bd (bk_f_X6_readType h_r5) (fun r6 h_r6 => bk_st (BK.set h_r6 (fun y => absurd y (by decide))) (fun s3 h_s3 => pc_bd (bk_f_X2_need h_s3) (fun r7 h_r7 => pc_some h_r7)))))))) (fun _ => pc_none))))
def BKB_X6_readBase (rc : RT_X6_readBase) : Prop := (∀ (x0 : Int32) (s : t_S), BK s → t_pq (rc.1 x0 s) (fun y => BK y)) ∧ (∀ (x0 : Int32) (s : t_S), BK s → t_pq (rc.2.1 x0 s) (fun y => BK y)) ∧ (∀ (x0 : Int32) (s : t_S), BK s → t_pq (rc.2.2.1 x0 s) (fun y => BK y.2)) ∧ (∀ (x0 : Int32) (s : t_S), BK s → t_pq (rc.2.2.2.1 x0 s) (fun y => BK y)) ∧ (∀ (x0 : Int32) (s : t_S), BK s → t_pq (rc.2.2.2.2.1 x0 s) (fun y => BK y.2)) ∧ (∀ (x0 : Int32) (x1 : Int32) (x2 : Int32) (x3 : Int32) (s : t_S), BK s → t_pq (rc.2.2.2.2.2.1 x0 x1 x2 x3 s) (fun y => BK y)) ∧ (∀ (x0 : Int32) (s : t_S), BK s → t_pq (rc.2.2.2.2.2.2.1 x0 s) (fun y => BK y)) ∧ (∀ (x0 : Int32) (s : t_S), BK s → t_pq (rc.2.2.2.2.2.2.2.1 x0 s) (fun y => BK y)) ∧ (∀ (x0 : Int32) (x1 : Int32) (s : t_S), BK s → t_pq (rc.2.2.2.2.2.2.2.2.1 x0 x1 s) (fun y => BK y.2)) ∧ (∀ (x0 : Int32) (x1 : Int32) (x2 : Int32) (s : t_S), BK s → t_pq (rc.2.2.2.2.2.2.2.2.2.1 x0 x1 x2 s) (fun y => BK y)) ∧ (∀ (x0 : Int32) (x1 : Int32) (x2 : Int32) (x3 : Int32) (s : t_S), BK s → t_pq (rc.2.2.2.2.2.2.2.2.2.2.1 x0 x1 x2 x3 s) (fun y => BK y)) ∧ (∀ (x0 : Int32) (x1 : Int32) (s : t_S), BK s → t_pq (rc.2.2.2.2.2.2.2.2.2.2.2.1 x0 x1 s) (fun y => BK y)) ∧ (∀ (x0 : Int32) (x1 : Int32) (x2 : Int32) (s : t_S), BK s → t_pq (rc.2.2.2.2.2.2.2.2.2.2.2.2.1 x0 x1 x2 s) (fun y => BK y)) ∧ (∀ (x0 : Int32) (x1 : Int32) (s : t_S), BK s → t_pq (rc.2.2.2.2.2.2.2.2.2.2.2.2.2.1 x0 x1 s) (fun y => BK y.2)) ∧ (∀ (x0 : Int32) (x1 : Int32) (x2 : Int32) (s : t_S), BK s → t_pq (rc.2.2.2.2.2.2.2.2.2.2.2.2.2.2.1 x0 x1 x2 s) (fun y => BK y)) ∧ (∀ (x0 : Int32) (x1 : Int32) (x2 : Int32) (s : t_S), BK s → t_pq (rc.2.2.2.2.2.2.2.2.2.2.2.2.2.2.2 x0 x1 x2 s) (fun y => BK y))
theorem bk_f_X0_emit {x1 : Int32} {x2 : Int32} {s : t_S} (h_s : BK s) : t_pq (f_X0_emit x1 x2 s) (fun y => BK y.2) := by
  unfold f_X0_emit
  exact pc_if (fun _ => pc_if (fun _ => bk_st (BK.set h_s (fun y => absurd y (by decide))) (fun s1 h_s1 => pc_if (fun _ => bk_st (BK.set h_s1 (fun y => absurd y (by decide))) (fun s2 h_s2 => bk_st (BK.set h_s2 (fun y => absurd y (by decide))) (fun s3 h_s3 => pc_some h_s3))) (fun _ => pc_none))) (fun _ => pc_none)) (fun _ => pc_some h_s)
theorem bk_k_X6_emitWord_55 {l1 : Int32} {l2 : Int32} {k0 : Int32} {s : t_S} (h_s : BK s) : t_pq (k_X6_emitWord_55 l1 l2 k0 s) (fun y => BK y) := by
  unfold k_X6_emitWord_55
  exact pc_if (fun _ => pc_if (fun _ => pc_bd (bk_f_X0_emit h_s) (fun r2 h_r2 => pc_bd (bk_f_X3_add h_r2) (fun r3 h_r3 => pc_some h_r3))) (fun _ => pc_bd (bk_f_X0_emit h_s) (fun r4 h_r4 => pc_some h_r4))) (fun _ => pc_bd (bk_f_X0_emit h_s) (fun r5 h_r5 => pc_some h_r5))
theorem bk_k_X6_emitWord_31 {l1 : Int32} {k0 : Int32} {s : t_S} (h_s : BK s) : t_pq (k_X6_emitWord_31 l1 k0 s) (fun y => BK y) := by
  unfold k_X6_emitWord_31
  exact pc_if (fun _ => (bk_k_X6_emitWord_55 h_s)) (fun _ => pc_bd pc_any (fun r1 h_r1 => (bk_k_X6_emitWord_55 h_s)))
theorem bk_f_X6_emitWord {s : t_S} (h_s : BK s) : t_pq (f_X6_emitWord s) (fun y => BK y) := by
  unfold f_X6_emitWord
  exact pc_if (fun _ => (bk_k_X6_emitWord_31 h_s)) (fun _ => pc_bd pc_any (fun r2 h_r2 => (bk_k_X6_emitWord_31 h_s)))
theorem bk_k_X6_readBase_326 {rc : RT_X6_readBase} {l1 : Int32} {l2 : Int32} {s : t_S} (hrc : BKB_X6_readBase rc) (h_s : BK s) : t_pq (k_X6_readBase_326 rc l1 l2 s) (fun y => BK y) := by
  unfold k_X6_readBase_326
  exact pc_bd (bk_f_X2_advance h_s) (fun r1 h_r1 => pc_if (fun _ => pc_bd (hrc.2.2.1 _ _ h_r1) (fun r2 h_r2 => pc_bd (bk_f_X2_need h_r2) (fun r3 h_r3 => pc_some h_r3))) (fun _ => pc_if (fun _ => pc_bd (hrc.2.1 _ _ h_r1) (fun r4 h_r4 => pc_some h_r4)) (fun _ => pc_if (fun _ => pc_bd (hrc.2.2.2.1 _ _ h_r1) (fun r5 h_r5 => pc_some h_r5)) (fun _ => pc_if (fun _ => pc_bd (hrc.2.2.2.2.2.2.1 _ _ h_r1) (fun r6 h_r6 => pc_some h_r6)) (fun _ => pc_if (fun _ => pc_bd (bk_f_X2_need h_r1) (fun r7 h_r7 => pc_bd (hrc.2.2.1 _ _ h_r7) (fun r8 h_r8 => pc_bd (bk_f_X2_need h_r8) (fun r9 h_r9 => pc_bd (bk_f_X0_emit h_r9) (fun r10 h_r10 => pc_some h_r10))))) (fun _ => pc_if (fun _ => pc_bd (bk_f_X0_emit h_r1) (fun r11 h_r11 => pc_bd (bk_f_X6_link h_r11) (fun r12 h_r12 => pc_some h_r12))) (fun _ => pc_some h_r1)))))))
theorem bk_f_X0_poolCell {x1 : Int64} {s : t_S} (h_s : BK s) : t_pq (f_X0_poolCell x1 s) (fun y => BK y.2) := by
  unfold f_X0_poolCell
  exact pc_if (fun _ => pc_if (fun _ => bk_st h_s (fun s1 h_s1 => bk_st (BK.set h_s1 (fun y => absurd y (by decide))) (fun s2 h_s2 => pc_some h_s2))) (fun _ => pc_none)) (fun _ => pc_some h_s)
theorem bk_f_X0_poolText {x1 : Int32} {s : t_S} (h_s : BK s) : t_pq (f_X0_poolText x1 s) (fun y => BK y.2) := by
  unfold f_X0_poolText
  exact pc_if (fun _ => pc_bd pc_any (fun r1 h_r1 => pc_if (fun _ => bk_st h_s (fun s1 h_s1 => bk_st (BK.set h_s1 (fun y => absurd y (by decide))) (fun s2 h_s2 => pc_some h_s2))) (fun _ => pc_none))) (fun _ => pc_some h_s)
theorem bk_k_X8_putSign_24 {l0 : Nat} {l2 : Int32} {l3 : Int32} {l4 : Int32} {s : t_S} (h_s : BK s) : t_pq (k_X8_putSign_24 l0 l2 l3 l4 s) (fun y => BK y) := by
  unfold k_X8_putSign_24
  exact pc_if (fun z1 => pc_if (fun _ => bk_st h_s (fun s1 h_s1 => pc_some h_s1)) (fun _ => pc_none)) (fun _ => pc_none)
theorem bk_f_X8_putSign {x1 : Nat} {x2 : Int32} {x3 : Int32} {x4 : Int32} {s : t_S} (h_s : BK s) : t_pq (f_X8_putSign x1 x2 x3 x4 s) (fun y => BK y) := by
  unfold f_X8_putSign
  exact pc_if (fun _ => pc_if (fun z1 => pc_if (fun _ => bk_st h_s (fun s1 h_s1 => (bk_k_X8_putSign_24 h_s1))) (fun _ => pc_none)) (fun _ => pc_none)) (fun _ => (bk_k_X8_putSign_24 h_s))
theorem bk_k_X6_poolText_18 {l1 : Int32} {l2 : Int32} {s : t_S} (h_s : BK s) : t_pq (k_X6_poolText_18 l1 l2 s) (fun z => Sum.elim (fun y => BK y.2.2) (fun y => BK y.2) z) := by
  unfold k_X6_poolText_18
  exact pc_if (fun _ => pc_mp (pc_some h_s)) (fun _ => pc_bd pc_any (fun r1 h_r1 => pc_bd (bk_f_X8_putSign h_s) (fun r2 h_r2 => pc_some h_r2)))
theorem bk_b_X6_poolText_18 {x : Int32 × Int32 × t_S} (h : BK x.2.2) : t_pq (b_X6_poolText_18 x) (fun z => Sum.elim (fun y => BK y.2.2) (fun y => BK y.2) z) := bk_k_X6_poolText_18 h
theorem bk_f_X6_poolText {s : t_S} (h_s : BK s) : t_pq (f_X6_poolText s) (fun y => BK y.2) := by
  unfold f_X6_poolText
  exact pc_bd (bk_f_X0_poolText h_s) (fun r1 h_r1 => pc_lp (fun x h => bk_b_X6_poolText_18 h) h_r1)
theorem bk_k_X6_readBase_82 {rc : RT_X6_readBase} {l1 : Int32} {l2 : Int32} {s : t_S} (hrc : BKB_X6_readBase rc) (h_s : BK s) : t_pq (k_X6_readBase_82 rc l1 l2 s) (fun y => BK y) := by
  unfold k_X6_readBase_82
  exact pc_if (fun _ => pc_bd (bk_f_X6_emitWord h_s) (fun r1 h_r1 => (bk_k_X6_readBase_326 hrc h_r1))) (fun _ => pc_if (fun _ => pc_bd (bk_f_X0_poolCell h_s) (fun r3 h_r3 => pc_bd (bk_f_X0_emit h_r3) (fun r4 h_r4 => (bk_k_X6_readBase_326 hrc h_r4)))) (fun _ => pc_if (fun _ => pc_bd (bk_f_X6_poolText h_s) (fun r5 h_r5 => pc_bd (bk_f_X0_emit h_r5) (fun r6 h_r6 => (bk_k_X6_readBase_326 hrc h_r6)))) (fun _ => pc_if (fun _ => pc_bd (bk_f_X0_poolCell h_s) (fun r8 h_r8 => pc_bd (bk_f_X0_emit h_r8) (fun r9 h_r9 => (bk_k_X6_readBase_326 hrc h_r9)))) (fun _ => pc_if (fun _ => pc_bd (bk_f_X0_poolCell h_s) (fun r11 h_r11 => pc_bd (bk_f_X0_emit h_r11) (fun r12 h_r12 => (bk_k_X6_readBase_326 hrc h_r12)))) (fun _ => pc_if (fun _ => pc_bd (bk_f_X0_poolCell h_s) (fun r13 h_r13 => pc_bd (bk_f_X0_emit h_r13) (fun r14 h_r14 => (bk_k_X6_readBase_326 hrc h_r14)))) (fun _ => pc_if (fun _ => pc_bd (bk_f_X0_emit h_s) (fun r15 h_r15 => (bk_k_X6_readBase_326 hrc h_r15))) (fun _ => pc_if (fun _ => pc_bd (bk_f_X0_emit h_s) (fun r16 h_r16 => (bk_k_X6_readBase_326 hrc h_r16))) (fun _ => pc_if (fun _ => pc_bd (bk_f_X0_emit h_s) (fun r17 h_r17 => (bk_k_X6_readBase_326 hrc h_r17))) (fun _ => (bk_k_X6_readBase_326 hrc h_s))))))))))
theorem bk_k_X3_late_31 {l1 : Int32} {l2 : Int32} {s : t_S} (h_s : BK s) : t_pq (k_X3_late_31 l1 l2 s) (fun y => BK y) := by
  unfold k_X3_late_31
  exact bk_st (BK.set h_s (fun y => absurd y (by decide))) (fun s1 h_s1 => bk_st (BK.set h_s1 (fun y => absurd y (by decide))) (fun s2 h_s2 => pc_some h_s2))
theorem bk_f_X3_late {x1 : Int32} {x2 : Int32} {s : t_S} (h_s : BK s) : t_pq (f_X3_late x1 x2 s) (fun y => BK y) := by
  unfold f_X3_late
  exact pc_if (fun _ => (bk_k_X3_late_31 h_s)) (fun _ => pc_if (fun _ => (bk_k_X3_late_31 h_s)) (fun _ => pc_if (fun _ => pc_if (fun _ => pc_some h_s) (fun _ => (bk_k_X3_late_31 h_s))) (fun _ => pc_some h_s)))
theorem bk_k_X6_readBase_55 {rc : RT_X6_readBase} {l1 : Int32} {l2 : Int32} {k0 : Int32} {s : t_S} (hrc : BKB_X6_readBase rc) (h_s : BK s) : t_pq (k_X6_readBase_55 rc l1 l2 k0 s) (fun y => BK y) := by
  unfold k_X6_readBase_55
  exact pc_if (fun _ => (bk_k_X6_readBase_82 hrc h_s)) (fun _ => pc_if (fun _ => (bk_k_X6_readBase_82 hrc h_s)) (fun _ => pc_bd (bk_f_X3_late h_s) (fun r1 h_r1 => (bk_k_X6_readBase_82 hrc h_r1))))
theorem bk_k_X6_readBase_50 {rc : RT_X6_readBase} {l1 : Int32} {l2 : Int32} {s : t_S} (hrc : BKB_X6_readBase rc) (h_s : BK s) : t_pq (k_X6_readBase_50 rc l1 l2 s) (fun y => BK y) := by
  unfold k_X6_readBase_50
  exact (bk_k_X6_readBase_55 hrc h_s)
theorem bk_m_X6_readBase {rc : RT_X6_readBase} {x1 : Int32} {s : t_S} (hrc : BKB_X6_readBase rc) (h_s : BK s) : t_pq (m_X6_readBase rc x1 s) (fun y => BK y) := by
  unfold m_X6_readBase
  exact pc_if (fun _ => (bk_k_X6_readBase_50 hrc h_s)) (fun _ => pc_if (fun _ => (bk_k_X6_readBase_50 hrc h_s)) (fun _ => pc_if (fun _ => (bk_k_X6_readBase_50 hrc h_s)) (fun _ => pc_if (fun _ => (bk_k_X6_readBase_50 hrc h_s)) (fun _ => pc_if (fun _ => (bk_k_X6_readBase_50 hrc h_s)) (fun _ => pc_if (fun _ => (bk_k_X6_readBase_50 hrc h_s)) (fun _ => (bk_k_X6_readBase_55 hrc h_s)))))))
theorem bk_k_X6_readElements_23 {rc : RT_X6_readBase} {k0 : Int32} {s : t_S} (hrc : BKB_X6_readBase rc) (h_s : BK s) : t_pq (k_X6_readElements_23 rc k0 s) (fun y => BK y) := by
  unfold k_X6_readElements_23
  exact pc_bd (bk_f_X2_need h_s) (fun r1 h_r1 => pc_bd (bk_f_X0_emit h_r1) (fun r2 h_r2 => pc_some h_r2))
theorem bk_m_X6_readElements {rc : RT_X6_readBase} {x1 : Int32} {s : t_S} (hrc : BKB_X6_readBase rc) (h_s : BK s) : t_pq (m_X6_readElements rc x1 s) (fun y => BK y) := by
  unfold m_X6_readElements
  exact pc_if (fun _ => (bk_k_X6_readElements_23 hrc h_s)) (fun _ => pc_bd (hrc.2.2.2.2.1 _ _ h_s) (fun r1 h_r1 => (bk_k_X6_readElements_23 hrc h_r1)))
theorem bk_k_X6_lower_63 {l1 : Int32} {l2 : Int32} {s : t_S} (h_s : BK s) : t_pq (k_X6_lower_63 l1 l2 s) (fun z => Sum.elim (fun y => BK y.2.2) (fun y => BK y) z) := by
  unfold k_X6_lower_63
  exact pc_bd (bk_f_X0_emit h_s) (fun r1 h_r1 => pc_if (fun _ => pc_if (fun _ => bk_st (BK.set h_r1 (fun y => absurd y (by decide))) (fun s1 h_s1 => pc_some h_s1)) (fun _ => pc_none)) (fun _ => pc_none))
theorem bk_k_X6_lower_29 {l1 : Int32} {l2 : Int32} {s : t_S} (h_s : BK s) : t_pq (k_X6_lower_29 l1 l2 s) (fun z => Sum.elim (fun y => BK y.2.2) (fun y => BK y) z) := by
  unfold k_X6_lower_29
  exact bk_st (BK.set h_s (fun y => absurd y (by decide))) (fun s1 h_s1 => pc_if (fun _ => pc_if (fun _ => (bk_k_X6_lower_63 h_s1)) (fun _ => pc_if (fun _ => (bk_k_X6_lower_63 h_s1)) (fun _ => pc_bd (bk_f_X0_emit h_s1) (fun r3 h_r3 => pc_some h_r3)))) (fun _ => pc_none))
theorem bk_k_X6_lower_0 {l1 : Int32} {l2 : Int32} {s : t_S} (h_s : BK s) : t_pq (k_X6_lower_0 l1 l2 s) (fun z => Sum.elim (fun y => BK y.2.2) (fun y => BK y) z) := by
  unfold k_X6_lower_0
  exact pc_if (fun _ => pc_mp (pc_some h_s)) (fun _ => pc_bd pc_any (fun r1 h_r1 => pc_if (fun _ => (bk_k_X6_lower_29 h_s)) (fun _ => pc_bd pc_any (fun r2 h_r2 => pc_if (fun _ => pc_if (fun _ => pc_mp (pc_some h_s)) (fun _ => (bk_k_X6_lower_29 h_s))) (fun _ => pc_mp (pc_some h_s))))))
theorem bk_b_X6_lower_0 {x : Int32 × Int32 × t_S} (h : BK x.2.2) : t_pq (b_X6_lower_0 x) (fun z => Sum.elim (fun y => BK y.2.2) (fun y => BK y) z) := bk_k_X6_lower_0 h
theorem bk_f_X6_lower {x1 : Int32} {x2 : Int32} {s : t_S} (h_s : BK s) : t_pq (f_X6_lower x1 x2 s) (fun y => BK y) := by
  unfold f_X6_lower
  exact pc_lp (fun x h => bk_b_X6_lower_0 h) h_s
theorem bk_k_X6_readExp_175 {rc : RT_X6_readBase} {l1 : Int32} {l2 : Int32} {l3 : Int32} {s : t_S} (hrc : BKB_X6_readBase rc) (h_s : BK s) : t_pq (k_X6_readExp_175 rc l1 l2 l3 s) (fun y => BK y.2) := by
  unfold k_X6_readExp_175
  exact pc_bd (bk_f_X6_lower h_s) (fun r1 h_r1 => pc_if (fun _ => pc_bd (bk_f_X0_emit h_r1) (fun r2 h_r2 => pc_some h_r2)) (fun _ => pc_some h_r1))
theorem bk_f_X6_pushWaiting {x1 : Int32} {x2 : Int32} {s : t_S} (h_s : BK s) : t_pq (f_X6_pushWaiting x1 x2 s) (fun y => BK y) := by
  unfold f_X6_pushWaiting
  exact pc_if (fun _ => pc_if (fun _ => bk_st (BK.set h_s (fun y => absurd y (by decide))) (fun s1 h_s1 => pc_if (fun _ => bk_st (BK.set h_s1 (fun y => absurd y (by decide))) (fun s2 h_s2 => bk_st (BK.set h_s2 (fun y => absurd y (by decide))) (fun s3 h_s3 => pc_some h_s3))) (fun _ => pc_none))) (fun _ => pc_none)) (fun _ => pc_some h_s)
theorem bk_k_X6_pushOperator_36 {l1 : Int32} {l2 : Int32} {s : t_S} (h_s : BK s) : t_pq (k_X6_pushOperator_36 l1 l2 s) (fun y => BK y) := by
  unfold k_X6_pushOperator_36
  exact pc_bd (bk_f_X6_pushWaiting h_s) (fun r1 h_r1 => pc_some h_r1)
theorem bk_k_X6_pushOperator_19 {l1 : Int32} {l2 : Int32} {s : t_S} (h_s : BK s) : t_pq (k_X6_pushOperator_19 l1 l2 s) (fun y => BK y) := by
  unfold k_X6_pushOperator_19
  exact pc_if (fun _ => pc_bd (bk_f_X0_emit h_s) (fun r1 h_r1 => (bk_k_X6_pushOperator_36 h_r1))) (fun _ => (bk_k_X6_pushOperator_36 h_s))
theorem bk_f_X6_pushOperator {x1 : Int32} {s : t_S} (h_s : BK s) : t_pq (f_X6_pushOperator x1 s) (fun y => BK y) := by
  unfold f_X6_pushOperator
  exact pc_if (fun _ => pc_bd (bk_f_X0_emit h_s) (fun r1 h_r1 => (bk_k_X6_pushOperator_19 h_r1))) (fun _ => (bk_k_X6_pushOperator_19 h_s))
theorem bk_k_X6_readExp_125 {rc : RT_X6_readBase} {l1 : Int32} {l2 : Int32} {l3 : Int32} {l4 : Int32} {s : t_S} (hrc : BKB_X6_readBase rc) (h_s : BK s) : t_pq (k_X6_readExp_125 rc l1 l2 l3 l4 s) (fun z => Sum.elim (fun y => BK y.2.2.2.2) (fun y => BK y.2) z) := by
  unfold k_X6_readExp_125
  exact pc_bd (bk_f_X6_node h_s) (fun r1 h_r1 => pc_if (fun _ => pc_bd (bk_f_X6_pushOperator h_r1) (fun r2 h_r2 => pc_bd (bk_f_X2_advance h_r2) (fun r3 h_r3 => pc_bd (hrc.2.2.2.2.2.2.2.1 _ _ h_r3) (fun r4 h_r4 => pc_some h_r4)))) (fun _ => pc_mp ((bk_k_X6_readExp_175 hrc h_r1))))
theorem bk_k_X6_readExp_60 {rc : RT_X6_readBase} {l1 : Int32} {l2 : Int32} {l3 : Int32} {l4 : Int32} {s : t_S} (hrc : BKB_X6_readBase rc) (h_s : BK s) : t_pq (k_X6_readExp_60 rc l1 l2 l3 l4 s) (fun z => Sum.elim (fun y => BK y.2.2.2.2) (fun y => BK y.2) z) := by
  unfold k_X6_readExp_60
  exact pc_if (fun _ => pc_mp ((bk_k_X6_readExp_175 hrc h_s))) (fun _ => pc_if (fun _ => pc_mp ((bk_k_X6_readExp_175 hrc h_s))) (fun _ => pc_bd (bk_f_X6_lower h_s) (fun r2 h_r2 => pc_if (fun _ => pc_if (fun _ => (bk_k_X6_readExp_125 hrc h_r2)) (fun _ => pc_bd pc_any (fun r3 h_r3 => pc_if (fun _ => pc_bd (bk_f_X2_fail h_r2) (fun r4 h_r4 => (bk_k_X6_readExp_125 hrc h_r4))) (fun _ => (bk_k_X6_readExp_125 hrc h_r2))))) (fun _ => (bk_k_X6_readExp_125 hrc h_r2)))))
theorem bk_b_X6_readExp_60 {rc : RT_X6_readBase} {x : Int32 × Int32 × Int32 × Int32 × t_S} (hrc : BKB_X6_readBase rc) (h : BK x.2.2.2.2) : t_pq (b_X6_readExp_60 rc x) (fun z => Sum.elim (fun y => BK y.2.2.2.2) (fun y => BK y.2) z) := bk_k_X6_readExp_60 hrc h
theorem bk_k_X6_readExp_43 {rc : RT_X6_readBase} {l1 : Int32} {l2 : Int32} {s : t_S} (hrc : BKB_X6_readBase rc) (h_s : BK s) : t_pq (k_X6_readExp_43 rc l1 l2 s) (fun y => BK y.2) := by
  unfold k_X6_readExp_43
  exact pc_bd (hrc.2.2.2.2.2.2.2.1 _ _ h_s) (fun r1 h_r1 => pc_lp (fun x h => bk_b_X6_readExp_60 hrc h) h_r1)
theorem bk_k_X6_readExp_29 {rc : RT_X6_readBase} {l1 : Int32} {l2 : Int32} {s : t_S} (hrc : BKB_X6_readBase rc) (h_s : BK s) : t_pq (k_X6_readExp_29 rc l1 l2 s) (fun y => BK y.2) := by
  unfold k_X6_readExp_29
  exact pc_if (fun _ => (bk_k_X6_readExp_43 hrc h_s)) (fun _ => pc_bd (bk_f_X2_fail h_s) (fun r1 h_r1 => (bk_k_X6_readExp_43 hrc h_r1)))
theorem bk_m_X6_readExp {rc : RT_X6_readBase} {x1 : Int32} {s : t_S} (hrc : BKB_X6_readBase rc) (h_s : BK s) : t_pq (m_X6_readExp rc x1 s) (fun y => BK y.2) := by
  unfold m_X6_readExp
  exact pc_if (fun _ => pc_bd (bk_f_X2_fail h_s) (fun r2 h_r2 => (bk_k_X6_readExp_29 hrc h_r2))) (fun _ => (bk_k_X6_readExp_29 hrc h_s))
theorem bk_k_X6_readExpFields_190 {rc : RT_X6_readBase} {l2 : Int32} {l3 : Int32} {s : t_S} (hrc : BKB_X6_readBase rc) (h_s : BK s) : t_pq (k_X6_readExpFields_190 rc l2 l3 s) (fun z => Sum.elim (fun y => BK y.2.2) (fun y => BK y) z) := by
  unfold k_X6_readExpFields_190
  exact pc_if (fun _ => pc_mp (bk_st (BK.set h_s (fun y => absurd y (by decide))) (fun s1 h_s1 => pc_some h_s1))) (fun _ => pc_if (fun _ => pc_bd (bk_f_X0_emit h_s) (fun r2 h_r2 => pc_some h_r2)) (fun _ => pc_none))
theorem bk_b_X6_readExpFields_190 {rc : RT_X6_readBase} {x : Int32 × Int32 × t_S} (hrc : BKB_X6_readBase rc) (h : BK x.2.2) : t_pq (b_X6_readExpFields_190 rc x) (fun z => Sum.elim (fun y => BK y.2.2) (fun y => BK y) z) := bk_k_X6_readExpFields_190 hrc h
theorem bk_k_X6_readExpFields_163 {rc : RT_X6_readBase} {l2 : Int32} {s : t_S} (hrc : BKB_X6_readBase rc) (h_s : BK s) : t_pq (k_X6_readExpFields_163 rc l2 s) (fun y => BK y) := by
  unfold k_X6_readExpFields_163
  exact pc_bd (bk_f_X2_need h_s) (fun r1 h_r1 => pc_bd (bk_f_X0_emit h_r1) (fun r2 h_r2 => pc_lp (fun x h => bk_b_X6_readExpFields_190 hrc h) h_r2))
theorem bk_k_X6_takeFieldName_62 {l1 : Int32} {s : t_S} (h_s : BK s) : t_pq (k_X6_takeFieldName_62 l1 s) (fun y => BK y.2) := by
  unfold k_X6_takeFieldName_62
  exact pc_bd (bk_f_X2_advance h_s) (fun r1 h_r1 => pc_some h_r1)
theorem bk_k_X6_takeFieldName_19 {s : t_S} (h_s : BK s) : t_pq (k_X6_takeFieldName_19 s) (fun y => BK y.2) := by
  unfold k_X6_takeFieldName_19
  exact pc_if (fun _ => pc_if (fun _ => (bk_k_X6_takeFieldName_62 h_s)) (fun _ => pc_bd (bk_f_X3_late h_s) (fun r2 h_r2 => (bk_k_X6_takeFieldName_62 h_r2)))) (fun _ => pc_some h_s)
theorem bk_f_X6_takeFieldName {s : t_S} (h_s : BK s) : t_pq (f_X6_takeFieldName s) (fun y => BK y.2) := by
  unfold f_X6_takeFieldName
  exact pc_if (fun _ => (bk_k_X6_takeFieldName_19 h_s)) (fun _ => pc_bd (bk_f_X2_fail h_s) (fun r1 h_r1 => (bk_k_X6_takeFieldName_19 h_r1)))
theorem bk_k_X6_readExpFields_87 {rc : RT_X6_readBase} {l1 : Int32} {l2 : Int32} {l3 : Int32} {s : t_S} (hrc : BKB_X6_readBase rc) (h_s : BK s) : t_pq (k_X6_readExpFields_87 rc l1 l2 l3 s) (fun z => Sum.elim (fun y => BK y.2.2.2) (fun y => BK y) z) := by
  unfold k_X6_readExpFields_87
  exact pc_bd (bk_f_X6_node h_s) (fun r1 h_r1 => pc_if (fun _ => pc_bd (bk_f_X6_takeFieldName h_r1) (fun r2 h_r2 => pc_if (fun _ => bk_st (BK.set h_r2 (fun y => absurd y (by decide))) (fun s1 h_s1 => bk_st (BK.set h_s1 (fun y => absurd y (by decide))) (fun s2 h_s2 => pc_bd (bk_f_X2_need h_s2) (fun r4 h_r4 => pc_bd (hrc.2.2.1 _ _ h_r4) (fun r5 h_r5 => pc_bd (bk_f_X2_take h_r5) (fun r6 h_r6 => pc_if (fun _ => pc_mp ((bk_k_X6_readExpFields_163 hrc h_r6))) (fun _ => pc_some h_r6))))))) (fun _ => pc_none))) (fun _ => pc_mp (pc_some h_r1)))
theorem bk_k_X6_readExpFields_19 {rc : RT_X6_readBase} {l1 : Int32} {l2 : Int32} {l3 : Int32} {s : t_S} (hrc : BKB_X6_readBase rc) (h_s : BK s) : t_pq (k_X6_readExpFields_19 rc l1 l2 l3 s) (fun z => Sum.elim (fun y => BK y.2.2.2) (fun y => BK y) z) := by
  unfold k_X6_readExpFields_19
  exact pc_if (fun _ => pc_mp ((bk_k_X6_readExpFields_163 hrc h_s))) (fun _ => pc_if (fun _ => pc_bd pc_any (fun r2 h_r2 => pc_if (fun _ => pc_if (fun _ => pc_bd (bk_f_X2_fail h_s) (fun r3 h_r3 => (bk_k_X6_readExpFields_87 hrc h_r3))) (fun _ => (bk_k_X6_readExpFields_87 hrc h_s))) (fun _ => pc_bd (bk_f_X2_fail h_s) (fun r4 h_r4 => (bk_k_X6_readExpFields_87 hrc h_r4))))) (fun _ => pc_bd (bk_f_X2_fail h_s) (fun r5 h_r5 => (bk_k_X6_readExpFields_87 hrc h_r5))))
theorem bk_b_X6_readExpFields_19 {rc : RT_X6_readBase} {x : Int32 × Int32 × Int32 × t_S} (hrc : BKB_X6_readBase rc) (h : BK x.2.2.2) : t_pq (b_X6_readExpFields_19 rc x) (fun z => Sum.elim (fun y => BK y.2.2.2) (fun y => BK y) z) := bk_k_X6_readExpFields_19 hrc h
theorem bk_m_X6_readExpFields {rc : RT_X6_readBase} {x1 : Int32} {s : t_S} (hrc : BKB_X6_readBase rc) (h_s : BK s) : t_pq (m_X6_readExpFields rc x1 s) (fun y => BK y) := by
  unfold m_X6_readExpFields
  exact pc_if (fun _ => (bk_k_X6_readExpFields_163 hrc h_s)) (fun _ => pc_lp (fun x h => bk_b_X6_readExpFields_19 hrc h) h_s)
theorem bk_k_X6_readExps_45 {rc : RT_X6_readBase} {l1 : Int32} {l2 : Int32} {s : t_S} (hrc : BKB_X6_readBase rc) (h_s : BK s) : t_pq (k_X6_readExps_45 rc l1 l2 s) (fun z => Sum.elim (fun y => BK y.2.2) (fun y => BK y.2) z) := by
  unfold k_X6_readExps_45
  exact pc_bd (hrc.2.2.1 _ _ h_s) (fun r1 h_r1 => pc_bd (bk_f_X2_take h_r1) (fun r2 h_r2 => pc_if (fun _ => pc_mp (pc_some h_r2)) (fun _ => pc_some h_r2)))
theorem bk_k_X6_readExps_2 {rc : RT_X6_readBase} {l1 : Int32} {l2 : Int32} {s : t_S} (hrc : BKB_X6_readBase rc) (h_s : BK s) : t_pq (k_X6_readExps_2 rc l1 l2 s) (fun z => Sum.elim (fun y => BK y.2.2) (fun y => BK y.2) z) := by
  unfold k_X6_readExps_2
  exact pc_if (fun _ => pc_mp (pc_some h_s)) (fun _ => pc_if (fun _ => pc_if (fun _ => pc_if (fun _ => (bk_k_X6_readExps_45 hrc h_s)) (fun _ => pc_bd (bk_f_X2_fail h_s) (fun r2 h_r2 => (bk_k_X6_readExps_45 hrc h_r2)))) (fun _ => (bk_k_X6_readExps_45 hrc h_s))) (fun _ => pc_mp (pc_some h_s)))
theorem bk_b_X6_readExps_2 {rc : RT_X6_readBase} {x : Int32 × Int32 × t_S} (hrc : BKB_X6_readBase rc) (h : BK x.2.2) : t_pq (b_X6_readExps_2 rc x) (fun z => Sum.elim (fun y => BK y.2.2) (fun y => BK y.2) z) := bk_k_X6_readExps_2 hrc h
theorem bk_m_X6_readExps {rc : RT_X6_readBase} {x1 : Int32} {s : t_S} (hrc : BKB_X6_readBase rc) (h_s : BK s) : t_pq (m_X6_readExps rc x1 s) (fun y => BK y.2) := by
  unfold m_X6_readExps
  exact pc_lp (fun x h => bk_b_X6_readExps_2 hrc h) h_s
theorem bk_k_X6_readInner_131 {rc : RT_X6_readBase} {s : t_S} (hrc : BKB_X6_readBase rc) (h_s : BK s) : t_pq (k_X6_readInner_131 rc s) (fun y => BK y) := by
  unfold k_X6_readInner_131
  exact pc_bd (bk_f_X2_need h_s) (fun r1 h_r1 => pc_some h_r1)
theorem bk_k_X6_readInner_106 {rc : RT_X6_readBase} {l1 : Int32} {l3 : Int32} {l4 : Int32} {l6 : Int32} {l7 : Int32} {s : t_S} (hrc : BKB_X6_readBase rc) (h_s : BK s) : t_pq (k_X6_readInner_106 rc l1 l3 l4 l6 l7 s) (fun z => Sum.elim (fun y => BK y.2.2.2.2.2) (fun y => BK y) z) := by
  unfold k_X6_readInner_106
  exact pc_bd (bk_f_X2_take h_s) (fun r1 h_r1 => pc_if (fun _ => pc_mp ((bk_k_X6_readInner_131 hrc h_r1))) (fun _ => pc_some h_r1))
theorem bk_k_X6_readInner_51 {rc : RT_X6_readBase} {l1 : Int32} {l3 : Int32} {l4 : Int32} {l5 : Int32} {l6 : Int32} {s : t_S} (hrc : BKB_X6_readBase rc) (h_s : BK s) : t_pq (k_X6_readInner_51 rc l1 l3 l4 l5 l6 s) (fun z => Sum.elim (fun y => BK y.2.2.2.2.2) (fun y => BK y) z) := by
  unfold k_X6_readInner_51
  exact pc_bd (hrc.2.2.2.2.2.2.2.2.2.2.2.2.2.1 _ _ _ h_s) (fun r1 h_r1 => pc_if (fun _ => pc_if (fun _ => pc_if (fun _ => bk_st (BK.set h_r1 (fun y => absurd y (by decide))) (fun s2 h_s2 => (bk_k_X6_readInner_106 hrc h_s2))) (fun _ => pc_none)) (fun _ => pc_if (fun _ => bk_st (BK.set h_r1 (fun y => absurd y (by decide))) (fun s1 h_s1 => (bk_k_X6_readInner_106 hrc h_s1))) (fun _ => pc_none))) (fun _ => pc_mp (pc_some h_r1)))
theorem bk_k_X6_readInner_16 {rc : RT_X6_readBase} {l1 : Int32} {l3 : Int32} {l4 : Int32} {l5 : Int32} {l6 : Int32} {s : t_S} (hrc : BKB_X6_readBase rc) (h_s : BK s) : t_pq (k_X6_readInner_16 rc l1 l3 l4 l5 l6 s) (fun z => Sum.elim (fun y => BK y.2.2.2.2.2) (fun y => BK y) z) := by
  unfold k_X6_readInner_16
  exact pc_if (fun _ => pc_mp ((bk_k_X6_readInner_131 hrc h_s))) (fun _ => pc_if (fun _ => pc_if (fun _ => (bk_k_X6_readInner_51 hrc h_s)) (fun _ => pc_bd (bk_f_X2_fail h_s) (fun r2 h_r2 => (bk_k_X6_readInner_51 hrc h_r2)))) (fun _ => (bk_k_X6_readInner_51 hrc h_s)))
theorem bk_b_X6_readInner_16 {rc : RT_X6_readBase} {x : Int32 × Int32 × Int32 × Int32 × Int32 × t_S} (hrc : BKB_X6_readBase rc) (h : BK x.2.2.2.2.2) : t_pq (b_X6_readInner_16 rc x) (fun z => Sum.elim (fun y => BK y.2.2.2.2.2) (fun y => BK y) z) := bk_k_X6_readInner_16 hrc h
theorem bk_m_X6_readInner {rc : RT_X6_readBase} {x1 : Int32} {x2 : Int32} {x3 : Int32} {x4 : Int32} {s : t_S} (hrc : BKB_X6_readBase rc) (h_s : BK s) : t_pq (m_X6_readInner rc x1 x2 x3 x4 s) (fun y => BK y) := by
  unfold m_X6_readInner
  exact pc_if (fun _ => bk_st (BK.set h_s (fun y => absurd y (by decide))) (fun s1 h_s1 => pc_lp (fun x h => bk_b_X6_readInner_16 hrc h) h_s1)) (fun _ => pc_none)
theorem bk_m_X6_readMet {rc : RT_X6_readBase} {x1 : Int32} {s : t_S} (hrc : BKB_X6_readBase rc) (h_s : BK s) : t_pq (m_X6_readMet rc x1 s) (fun y => BK y) := by
  unfold m_X6_readMet
  exact pc_bd (bk_f_X2_need h_s) (fun r1 h_r1 => pc_bd (hrc.2.2.1 _ _ h_r1) (fun r2 h_r2 => pc_bd (bk_f_X2_need h_r2) (fun r3 h_r3 => pc_bd (hrc.2.2.2.2.2.2.2.2.2.2.2.2.2.1 _ _ _ h_r3) (fun r4 h_r4 => pc_bd (bk_f_X0_emit h_r4) (fun r5 h_r5 => pc_bd (bk_f_X2_need h_r5) (fun r6 h_r6 => pc_some h_r6))))))
theorem bk_k_X6_readOne_313 {rc : RT_X6_readBase} {l2 : Int32} {s : t_S} (hrc : BKB_X6_readBase rc) (h_s : BK s) : t_pq (k_X6_readOne_313 rc l2 s) (fun z => Sum.elim (fun y => BK y.2) (fun y => BK y) z) := by
  unfold k_X6_readOne_313
  exact pc_if (fun _ => pc_mp (pc_some h_s)) (fun _ => bk_st (BK.set h_s (fun y => absurd y (by decide))) (fun s1 h_s1 => pc_if (fun _ => pc_if (fun _ => pc_bd (bk_f_X0_emit h_s1) (fun r3 h_r3 => pc_some h_r3)) (fun _ => pc_none)) (fun _ => pc_none)))
theorem bk_b_X6_readOne_313 {rc : RT_X6_readBase} {x : Int32 × t_S} (hrc : BKB_X6_readBase rc) (h : BK x.2) : t_pq (b_X6_readOne_313 rc x) (fun z => Sum.elim (fun y => BK y.2) (fun y => BK y) z) := bk_k_X6_readOne_313 hrc h
theorem bk_k_X6_readOne_307 {rc : RT_X6_readBase} {l1 : Int32} {l2 : Int32} {l3 : Int32} {s : t_S} (hrc : BKB_X6_readBase rc) (h_s : BK s) : t_pq (k_X6_readOne_307 rc l1 l2 l3 s) (fun z => Sum.elim (fun y => BK y.2.2.2) (fun y => BK y) z) := by
  unfold k_X6_readOne_307
  exact pc_some h_s
theorem bk_k_X6_readOne_230 {rc : RT_X6_readBase} {l1 : Int32} {l2 : Int32} {l3 : Int32} {s : t_S} (hrc : BKB_X6_readBase rc) (h_s : BK s) : t_pq (k_X6_readOne_230 rc l1 l2 l3 s) (fun z => Sum.elim (fun y => BK y.2.2.2) (fun y => BK y) z) := by
  unfold k_X6_readOne_230
  exact pc_bd (bk_f_X6_node h_s) (fun r1 h_r1 => pc_bd (bk_f_X2_take h_r1) (fun r2 h_r2 => pc_if (fun _ => pc_bd (bk_f_X2_take h_r2) (fun r3 h_r3 => pc_if (fun _ => (bk_k_X6_readOne_307 hrc h_r3)) (fun _ => pc_bd (hrc.2.2.1 _ _ h_r3) (fun r4 h_r4 => pc_bd (bk_f_X2_need h_r4) (fun r5 h_r5 => pc_bd (bk_f_X0_emit h_r5) (fun r6 h_r6 => (bk_k_X6_readOne_307 hrc h_r6))))))) (fun _ => pc_bd (bk_f_X6_takeFieldName h_r2) (fun r7 h_r7 => pc_bd (bk_f_X0_emit h_r7) (fun r8 h_r8 => (bk_k_X6_readOne_307 hrc h_r8))))))
theorem bk_k_X6_readOne_186 {rc : RT_X6_readBase} {l1 : Int32} {l2 : Int32} {l3 : Int32} {s : t_S} (hrc : BKB_X6_readBase rc) (h_s : BK s) : t_pq (k_X6_readOne_186 rc l1 l2 l3 s) (fun z => Sum.elim (fun y => BK y.2.2.2) (fun y => BK y) z) := by
  unfold k_X6_readOne_186
  exact pc_if (fun _ => pc_mp (pc_lp (fun x h => bk_b_X6_readOne_313 hrc h) h_s)) (fun _ => pc_if (fun _ => pc_if (fun _ => (bk_k_X6_readOne_230 hrc h_s)) (fun _ => pc_if (fun _ => (bk_k_X6_readOne_230 hrc h_s)) (fun _ => pc_mp (pc_lp (fun x h => bk_b_X6_readOne_313 hrc h) h_s)))) (fun _ => pc_mp (pc_lp (fun x h => bk_b_X6_readOne_313 hrc h) h_s)))
theorem bk_b_X6_readOne_186 {rc : RT_X6_readBase} {x : Int32 × Int32 × Int32 × t_S} (hrc : BKB_X6_readBase rc) (h : BK x.2.2.2) : t_pq (b_X6_readOne_186 rc x) (fun z => Sum.elim (fun y => BK y.2.2.2) (fun y => BK y) z) := bk_k_X6_readOne_186 hrc h
theorem bk_k_X6_readOne_184 {rc : RT_X6_readBase} {l1 : Int32} {l2 : Int32} {s : t_S} (hrc : BKB_X6_readBase rc) (h_s : BK s) : t_pq (k_X6_readOne_184 rc l1 l2 s) (fun y => BK y) := by
  unfold k_X6_readOne_184
  exact pc_lp (fun x h => bk_b_X6_readOne_186 hrc h) h_s
theorem bk_k_X6_readOne_165 {rc : RT_X6_readBase} {l1 : Int32} {l2 : Int32} {s : t_S} (hrc : BKB_X6_readBase rc) (h_s : BK s) : t_pq (k_X6_readOne_165 rc l1 l2 s) (fun y => BK y) := by
  unfold k_X6_readOne_165
  exact pc_bd (bk_f_X6_node h_s) (fun r1 h_r1 => pc_if (fun _ => pc_bd (hrc.1 _ _ h_r1) (fun r2 h_r2 => (bk_k_X6_readOne_184 hrc h_r2))) (fun _ => (bk_k_X6_readOne_184 hrc h_r1)))
theorem bk_k_X6_readOne_144 {rc : RT_X6_readBase} {l1 : Int32} {l2 : Int32} {s : t_S} (hrc : BKB_X6_readBase rc) (h_s : BK s) : t_pq (k_X6_readOne_144 rc l1 l2 s) (fun y => BK y) := by
  unfold k_X6_readOne_144
  exact pc_if (fun _ => pc_bd (bk_f_X2_fail h_s) (fun r2 h_r2 => (bk_k_X6_readOne_165 hrc h_r2))) (fun _ => (bk_k_X6_readOne_165 hrc h_s))
theorem bk_k_X6_readOne_138 {rc : RT_X6_readBase} {l1 : Int32} {l2 : Int32} {l3 : Int32} {s : t_S} (hrc : BKB_X6_readBase rc) (h_s : BK s) : t_pq (k_X6_readOne_138 rc l1 l2 l3 s) (fun z => Sum.elim (fun y => BK y.2.2.2) (fun y => BK y) z) := by
  unfold k_X6_readOne_138
  exact pc_some h_s
theorem bk_k_X6_readOne_65 {rc : RT_X6_readBase} {l1 : Int32} {l2 : Int32} {l3 : Int32} {l4 : Int32} {s : t_S} (hrc : BKB_X6_readBase rc) (h_s : BK s) : t_pq (k_X6_readOne_65 rc l1 l2 l3 l4 s) (fun z => Sum.elim (fun y => BK y.2.2.2) (fun y => BK y) z) := by
  unfold k_X6_readOne_65
  exact pc_bd (bk_f_X6_node h_s) (fun r1 h_r1 => pc_bd (bk_f_X2_advance h_r1) (fun r2 h_r2 => pc_if (fun _ => pc_bd (bk_f_X6_pushWaiting h_r2) (fun r7 h_r7 => (bk_k_X6_readOne_138 hrc h_r7))) (fun _ => pc_if (fun _ => pc_bd (bk_f_X6_pushWaiting h_r2) (fun r6 h_r6 => (bk_k_X6_readOne_138 hrc h_r6))) (fun _ => pc_if (fun _ => pc_bd (bk_f_X6_pushWaiting h_r2) (fun r5 h_r5 => (bk_k_X6_readOne_138 hrc h_r5))) (fun _ => pc_bd (bk_f_X6_takeFieldName h_r2) (fun r3 h_r3 => pc_bd (bk_f_X6_pushWaiting h_r3) (fun r4 h_r4 => (bk_k_X6_readOne_138 hrc h_r4))))))))
theorem bk_k_X6_readOne_7 {rc : RT_X6_readBase} {l1 : Int32} {l2 : Int32} {l3 : Int32} {s : t_S} (hrc : BKB_X6_readBase rc) (h_s : BK s) : t_pq (k_X6_readOne_7 rc l1 l2 l3 s) (fun z => Sum.elim (fun y => BK y.2.2.2) (fun y => BK y) z) := by
  unfold k_X6_readOne_7
  exact pc_if (fun _ => pc_mp ((bk_k_X6_readOne_144 hrc h_s))) (fun _ => pc_if (fun _ => pc_if (fun _ => (bk_k_X6_readOne_65 hrc h_s)) (fun _ => pc_if (fun _ => (bk_k_X6_readOne_65 hrc h_s)) (fun _ => pc_if (fun _ => (bk_k_X6_readOne_65 hrc h_s)) (fun _ => pc_if (fun _ => (bk_k_X6_readOne_65 hrc h_s)) (fun _ => pc_mp ((bk_k_X6_readOne_144 hrc h_s))))))) (fun _ => pc_mp ((bk_k_X6_readOne_144 hrc h_s))))
theorem bk_b_X6_readOne_7 {rc : RT_X6_readBase} {x : Int32 × Int32 × Int32 × t_S} (hrc : BKB_X6_readBase rc) (h : BK x.2.2.2) : t_pq (b_X6_readOne_7 rc x) (fun z => Sum.elim (fun y => BK y.2.2.2) (fun y => BK y) z) := bk_k_X6_readOne_7 hrc h
theorem bk_m_X6_readOne {rc : RT_X6_readBase} {x1 : Int32} {s : t_S} (hrc : BKB_X6_readBase rc) (h_s : BK s) : t_pq (m_X6_readOne rc x1 s) (fun y => BK y) := by
  unfold m_X6_readOne
  exact pc_lp (fun x h => bk_b_X6_readOne_7 hrc h) h_s
theorem bk_f_X10_add {x1 : Int32} {s : t_S} (h_s : BK s) : t_pq (f_X10_add x1 s) (fun y => BK y.2) := by
  unfold f_X10_add
  exact pc_if (fun _ => bk_st (BK.set h_s (fun y => absurd y (by decide))) (fun s1 h_s1 => pc_if (fun _ => bk_st (BK.set h_s1 (fun y => absurd y (by decide))) (fun s2 h_s2 => bk_st (BK.set h_s2 (fun y => absurd y (by decide))) (fun s3 h_s3 => bk_st (BK.set h_s3 (fun y => absurd y (by decide))) (fun s4 h_s4 => bk_st (BK.set h_s4 (fun y => absurd y (by decide))) (fun s5 h_s5 => bk_st (BK.set h_s5 (fun y => absurd y (by decide))) (fun s6 h_s6 => bk_st (BK.set h_s6 (fun y => absurd y (by decide))) (fun s7 h_s7 => bk_st (BK.set h_s7 (fun y => absurd y (by decide))) (fun s8 h_s8 => bk_st h_s8 (fun s9 h_s9 => bk_st h_s9 (fun s10 h_s10 => pc_some h_s10)))))))))) (fun _ => pc_none))) (fun _ => pc_some h_s)
theorem bk_m_X6_readPerm {rc : RT_X6_readBase} {x1 : Int32} {x2 : Int32} {s : t_S} (hrc : BKB_X6_readBase rc) (h_s : BK s) : t_pq (m_X6_readPerm rc x1 x2 s) (fun y => BK y.2) := by
  unfold m_X6_readPerm
  exact pc_bd (bk_f_X6_node h_s) (fun r1 h_r1 => pc_if (fun _ => pc_bd (bk_f_X10_add h_r1) (fun r2 h_r2 => pc_bd (bk_f_X2_advance h_r2) (fun r3 h_r3 => pc_bd (hrc.2.2.2.2.2.2.2.2.2.2.1 _ _ _ _ _ h_r3) (fun r4 h_r4 => pc_some h_r4)))) (fun _ => pc_some h_r1))
theorem bk_k_X6_readPieces_185 {rc : RT_X6_readBase} {s : t_S} (hrc : BKB_X6_readBase rc) (h_s : BK s) : t_pq (k_X6_readPieces_185 rc s) (fun y => BK y) := by
  unfold k_X6_readPieces_185
  exact pc_bd (bk_f_X2_need h_s) (fun r1 h_r1 => pc_some h_r1)
theorem bk_k_X6_readPieces_160 {rc : RT_X6_readBase} {l1 : Int32} {l2 : Int32} {l3 : Int32} {l5 : Int32} {l7 : Int32} {s : t_S} (hrc : BKB_X6_readBase rc) (h_s : BK s) : t_pq (k_X6_readPieces_160 rc l1 l2 l3 l5 l7 s) (fun z => Sum.elim (fun y => BK y.2.2.2.2.2) (fun y => BK y) z) := by
  unfold k_X6_readPieces_160
  exact pc_bd (bk_f_X2_take h_s) (fun r1 h_r1 => pc_if (fun _ => pc_mp ((bk_k_X6_readPieces_185 hrc h_r1))) (fun _ => pc_some h_r1))
theorem bk_k_X6_readPieces_116 {rc : RT_X6_readBase} {l1 : Int32} {l2 : Int32} {l3 : Int32} {l4 : Int32} {l5 : Int32} {k0 : Int32} {s : t_S} (hrc : BKB_X6_readBase rc) (h_s : BK s) : t_pq (k_X6_readPieces_116 rc l1 l2 l3 l4 l5 k0 s) (fun z => Sum.elim (fun y => BK y.2.2.2.2.2) (fun y => BK y) z) := by
  unfold k_X6_readPieces_116
  exact pc_if (fun _ => pc_if (fun _ => pc_if (fun _ => bk_st (BK.set h_s (fun y => absurd y (by decide))) (fun s2 h_s2 => (bk_k_X6_readPieces_160 hrc h_s2))) (fun _ => pc_none)) (fun _ => pc_if (fun _ => bk_st (BK.set h_s (fun y => absurd y (by decide))) (fun s1 h_s1 => (bk_k_X6_readPieces_160 hrc h_s1))) (fun _ => pc_none))) (fun _ => pc_mp (pc_some h_s))
theorem bk_k_X6_readPieces_90 {rc : RT_X6_readBase} {l1 : Int32} {l2 : Int32} {l3 : Int32} {l4 : Int32} {l5 : Int32} {l6 : Int32} {s : t_S} (hrc : BKB_X6_readBase rc) (h_s : BK s) : t_pq (k_X6_readPieces_90 rc l1 l2 l3 l4 l5 l6 s) (fun z => Sum.elim (fun y => BK y.2.2.2.2.2) (fun y => BK y) z) := by
  unfold k_X6_readPieces_90
  exact pc_if (fun _ => pc_bd (hrc.2.2.2.2.2.2.2.2.2.2.2.2.2.1 _ _ _ h_s) (fun r1 h_r1 => (bk_k_X6_readPieces_116 hrc h_r1))) (fun _ => pc_bd (hrc.2.2.2.2.2.2.2.2.1 _ _ _ h_s) (fun r2 h_r2 => (bk_k_X6_readPieces_116 hrc h_r2)))
theorem bk_k_X6_readPieces_82 {rc : RT_X6_readBase} {l1 : Int32} {l2 : Int32} {l3 : Int32} {l4 : Int32} {l5 : Int32} {l6 : Int32} {s : t_S} (hrc : BKB_X6_readBase rc) (h_s : BK s) : t_pq (k_X6_readPieces_82 rc l1 l2 l3 l4 l5 l6 s) (fun z => Sum.elim (fun y => BK y.2.2.2.2.2) (fun y => BK y) z) := by
  unfold k_X6_readPieces_82
  exact pc_bd (bk_f_X2_fail h_s) (fun r1 h_r1 => (bk_k_X6_readPieces_90 hrc h_r1))
theorem bk_k_X6_readPieces_55 {rc : RT_X6_readBase} {l1 : Int32} {l2 : Int32} {l3 : Int32} {l4 : Int32} {l5 : Int32} {k0 : Int32} {s : t_S} (hrc : BKB_X6_readBase rc) (h_s : BK s) : t_pq (k_X6_readPieces_55 rc l1 l2 l3 l4 l5 k0 s) (fun z => Sum.elim (fun y => BK y.2.2.2.2.2) (fun y => BK y) z) := by
  unfold k_X6_readPieces_55
  exact pc_if (fun _ => pc_if (fun _ => pc_if (fun _ => (bk_k_X6_readPieces_90 hrc h_s)) (fun _ => (bk_k_X6_readPieces_82 hrc h_s))) (fun _ => (bk_k_X6_readPieces_82 hrc h_s))) (fun _ => (bk_k_X6_readPieces_90 hrc h_s))
theorem bk_k_X6_readPieces_30 {rc : RT_X6_readBase} {l1 : Int32} {l2 : Int32} {l3 : Int32} {l4 : Int32} {l5 : Int32} {s : t_S} (hrc : BKB_X6_readBase rc) (h_s : BK s) : t_pq (k_X6_readPieces_30 rc l1 l2 l3 l4 l5 s) (fun z => Sum.elim (fun y => BK y.2.2.2.2.2) (fun y => BK y) z) := by
  unfold k_X6_readPieces_30
  exact pc_if (fun _ => pc_mp ((bk_k_X6_readPieces_185 hrc h_s))) (fun _ => pc_if (fun _ => (bk_k_X6_readPieces_55 hrc h_s)) (fun _ => (bk_k_X6_readPieces_55 hrc h_s)))
theorem bk_b_X6_readPieces_30 {rc : RT_X6_readBase} {x : Int32 × Int32 × Int32 × Int32 × Int32 × t_S} (hrc : BKB_X6_readBase rc) (h : BK x.2.2.2.2.2) : t_pq (b_X6_readPieces_30 rc x) (fun z => Sum.elim (fun y => BK y.2.2.2.2.2) (fun y => BK y) z) := bk_k_X6_readPieces_30 hrc h
theorem bk_m_X6_readPieces {rc : RT_X6_readBase} {x1 : Int32} {x2 : Int32} {x3 : Int32} {s : t_S} (hrc : BKB_X6_readBase rc) (h_s : BK s) : t_pq (m_X6_readPieces rc x1 x2 x3 s) (fun y => BK y) := by
  unfold m_X6_readPieces
  exact pc_if (fun _ => bk_st (BK.set h_s (fun y => absurd y (by decide))) (fun s1 h_s1 => pc_bd (bk_f_X2_take h_s1) (fun r2 h_r2 => pc_if (fun _ => pc_lp (fun x h => bk_b_X6_readPieces_30 hrc h) h_r2) (fun _ => pc_some h_r2)))) (fun _ => pc_none)
theorem bk_m_X6_readRow {rc : RT_X6_readBase} {x1 : Int32} {x2 : Int32} {x3 : Int32} {x4 : Int32} {s : t_S} (hrc : BKB_X6_readBase rc) (h_s : BK s) : t_pq (m_X6_readRow rc x1 x2 x3 x4 s) (fun y => BK y) := by
  unfold m_X6_readRow
  exact pc_bd (bk_f_X2_need h_s) (fun r1 h_r1 => pc_bd (hrc.2.2.2.2.2.1 _ _ _ _ _ h_r1) (fun r2 h_r2 => pc_some h_r2))
theorem bk_m_X6_readSame {rc : RT_X6_readBase} {x1 : Int32} {x2 : Int32} {s : t_S} (hrc : BKB_X6_readBase rc) (h_s : BK s) : t_pq (m_X6_readSame rc x1 x2 s) (fun y => BK y) := by
  unfold m_X6_readSame
  exact pc_if (fun _ => bk_st (BK.set h_s (fun y => absurd y (by decide))) (fun s1 h_s1 => pc_bd (bk_f_X2_need h_s1) (fun r2 h_r2 => pc_bd (hrc.2.2.1 _ _ h_r2) (fun r3 h_r3 => pc_bd (bk_f_X2_need h_r3) (fun r4 h_r4 => pc_bd (bk_f_X0_emit h_r4) (fun r5 h_r5 => pc_some h_r5)))))) (fun _ => pc_none)
theorem bk_k_X6_readTag_38 {rc : RT_X6_readBase} {l1 : Int32} {l2 : Int32} {l3 : Int32} {s : t_S} (hrc : BKB_X6_readBase rc) (h_s : BK s) : t_pq (k_X6_readTag_38 rc l1 l2 l3 s) (fun y => BK y) := by
  unfold k_X6_readTag_38
  exact pc_bd (bk_f_X2_need h_s) (fun r1 h_r1 => pc_bd (hrc.2.2.2.2.2.2.2.2.2.2.2.2.2.1 _ _ _ h_r1) (fun r2 h_r2 => pc_if (fun _ => bk_st (BK.set h_r2 (fun y => absurd y (by decide))) (fun s1 h_s1 => pc_some h_s1)) (fun _ => pc_none)))
theorem bk_m_X6_readTag {rc : RT_X6_readBase} {x1 : Int32} {x2 : Int32} {x3 : Int32} {s : t_S} (hrc : BKB_X6_readBase rc) (h_s : BK s) : t_pq (m_X6_readTag rc x1 x2 x3 s) (fun y => BK y) := by
  unfold m_X6_readTag
  exact pc_if (fun _ => bk_st (BK.set h_s (fun y => absurd y (by decide))) (fun s1 h_s1 => pc_if (fun _ => bk_st (BK.set h_s1 (fun y => absurd y (by decide))) (fun s2 h_s2 => (bk_k_X6_readTag_38 hrc h_s2))) (fun _ => (bk_k_X6_readTag_38 hrc h_s1)))) (fun _ => pc_none)
theorem bk_k_X6_readTempl_95 {rc : RT_X6_readBase} {l3 : Int32} {s : t_S} (hrc : BKB_X6_readBase rc) (h_s : BK s) : t_pq (k_X6_readTempl_95 rc l3 s) (fun y => BK y.2) := by
  unfold k_X6_readTempl_95
  exact pc_bd (bk_f_X2_take h_s) (fun r1 h_r1 => pc_if (fun _ => pc_some h_r1) (fun _ => pc_if (fun _ => bk_st (BK.set h_r1 (fun y => absurd y (by decide))) (fun s1 h_s1 => pc_some h_s1)) (fun _ => pc_none)))
theorem bk_k_X6_readTempl_35 {rc : RT_X6_readBase} {l1 : Int32} {l2 : Int32} {s : t_S} (hrc : BKB_X6_readBase rc) (h_s : BK s) : t_pq (k_X6_readTempl_35 rc l1 l2 s) (fun y => BK y.2) := by
  unfold k_X6_readTempl_35
  exact pc_bd (bk_f_X6_node h_s) (fun r1 h_r1 => pc_if (fun _ => pc_bd (bk_f_X10_add h_r1) (fun r2 h_r2 => pc_bd (hrc.2.2.2.2.2.2.2.2.2.2.2.2.2.2.2 _ _ _ _ h_r2) (fun r3 h_r3 => pc_bd (bk_f_X2_take h_r3) (fun r4 h_r4 => pc_if (fun _ => (bk_k_X6_readTempl_95 hrc h_r4)) (fun _ => pc_bd (bk_f_X6_readSpan h_r4) (fun r5 h_r5 => pc_if (fun _ => bk_st (BK.set h_r5 (fun y => absurd y (by decide))) (fun s1 h_s1 => (bk_k_X6_readTempl_95 hrc h_s1))) (fun _ => pc_none))))))) (fun _ => pc_some h_r1))
theorem bk_k_X6_readTempl_21 {rc : RT_X6_readBase} {l1 : Int32} {l2 : Int32} {s : t_S} (hrc : BKB_X6_readBase rc) (h_s : BK s) : t_pq (k_X6_readTempl_21 rc l1 l2 s) (fun y => BK y.2) := by
  unfold k_X6_readTempl_21
  exact pc_if (fun _ => (bk_k_X6_readTempl_35 hrc h_s)) (fun _ => pc_bd (bk_f_X2_fail h_s) (fun r1 h_r1 => (bk_k_X6_readTempl_35 hrc h_r1)))
theorem bk_m_X6_readTempl {rc : RT_X6_readBase} {x1 : Int32} {x2 : Int32} {s : t_S} (hrc : BKB_X6_readBase rc) (h_s : BK s) : t_pq (m_X6_readTempl rc x1 x2 s) (fun y => BK y.2) := by
  unfold m_X6_readTempl
  exact pc_if (fun _ => pc_bd (bk_f_X2_fail h_s) (fun r2 h_r2 => (bk_k_X6_readTempl_21 hrc h_r2))) (fun _ => (bk_k_X6_readTempl_21 hrc h_s))
theorem bk_k_X6_readTemplFields_248 {rc : RT_X6_readBase} {s : t_S} (hrc : BKB_X6_readBase rc) (h_s : BK s) : t_pq (k_X6_readTemplFields_248 rc s) (fun y => BK y) := by
  unfold k_X6_readTemplFields_248
  exact pc_bd (bk_f_X2_need h_s) (fun r1 h_r1 => pc_some h_r1)
theorem bk_k_X6_readTemplFields_187 {rc : RT_X6_readBase} {l1 : Int32} {l2 : Int32} {l3 : Int32} {l5 : Int32} {l6 : Int32} {s : t_S} (hrc : BKB_X6_readBase rc) (h_s : BK s) : t_pq (k_X6_readTemplFields_187 rc l1 l2 l3 l5 l6 s) (fun z => Sum.elim (fun y => BK y.2.2.2.2.2) (fun y => BK y) z) := by
  unfold k_X6_readTemplFields_187
  exact pc_bd (bk_f_X2_advance h_s) (fun r1 h_r1 => pc_bd (bk_f_X2_need h_r1) (fun r2 h_r2 => pc_bd (hrc.2.2.2.2.2.2.2.2.2.2.2.2.2.1 _ _ _ h_r2) (fun r3 h_r3 => pc_if (fun _ => bk_st (BK.set h_r3 (fun y => absurd y (by decide))) (fun s1 h_s1 => pc_bd (bk_f_X2_take h_s1) (fun r5 h_r5 => pc_if (fun _ => pc_mp ((bk_k_X6_readTemplFields_248 hrc h_r5))) (fun _ => pc_some h_r5)))) (fun _ => pc_none))))
theorem bk_k_X6_readTemplFields_100 {rc : RT_X6_readBase} {l1 : Int32} {l2 : Int32} {l3 : Int32} {l4 : Int32} {l5 : Int32} {s : t_S} (hrc : BKB_X6_readBase rc) (h_s : BK s) : t_pq (k_X6_readTemplFields_100 rc l1 l2 l3 l4 l5 s) (fun z => Sum.elim (fun y => BK y.2.2.2.2.2) (fun y => BK y) z) := by
  unfold k_X6_readTemplFields_100
  exact pc_bd (bk_f_X6_node h_s) (fun r1 h_r1 => pc_if (fun _ => pc_bd (bk_f_X10_add h_r1) (fun r2 h_r2 => pc_if (fun _ => bk_st (BK.set h_r2 (fun y => absurd y (by decide))) (fun s1 h_s1 => bk_st (BK.set h_s1 (fun y => absurd y (by decide))) (fun s2 h_s2 => pc_if (fun _ => pc_if (fun _ => bk_st (BK.set h_s2 (fun y => absurd y (by decide))) (fun s4 h_s4 => (bk_k_X6_readTemplFields_187 hrc h_s4))) (fun _ => pc_none)) (fun _ => pc_if (fun _ => bk_st (BK.set h_s2 (fun y => absurd y (by decide))) (fun s3 h_s3 => (bk_k_X6_readTemplFields_187 hrc h_s3))) (fun _ => pc_none))))) (fun _ => pc_none))) (fun _ => pc_mp (pc_some h_r1)))
theorem bk_k_X6_readTemplFields_30 {rc : RT_X6_readBase} {l1 : Int32} {l2 : Int32} {l3 : Int32} {l4 : Int32} {l5 : Int32} {s : t_S} (hrc : BKB_X6_readBase rc) (h_s : BK s) : t_pq (k_X6_readTemplFields_30 rc l1 l2 l3 l4 l5 s) (fun z => Sum.elim (fun y => BK y.2.2.2.2.2) (fun y => BK y) z) := by
  unfold k_X6_readTemplFields_30
  exact pc_if (fun _ => pc_mp ((bk_k_X6_readTemplFields_248 hrc h_s))) (fun _ => pc_if (fun _ => pc_bd pc_any (fun r2 h_r2 => pc_if (fun _ => pc_if (fun _ => pc_bd (bk_f_X2_fail h_s) (fun r3 h_r3 => (bk_k_X6_readTemplFields_100 hrc h_r3))) (fun _ => (bk_k_X6_readTemplFields_100 hrc h_s))) (fun _ => pc_bd (bk_f_X2_fail h_s) (fun r4 h_r4 => (bk_k_X6_readTemplFields_100 hrc h_r4))))) (fun _ => pc_bd (bk_f_X2_fail h_s) (fun r5 h_r5 => (bk_k_X6_readTemplFields_100 hrc h_r5))))
theorem bk_b_X6_readTemplFields_30 {rc : RT_X6_readBase} {x : Int32 × Int32 × Int32 × Int32 × Int32 × t_S} (hrc : BKB_X6_readBase rc) (h : BK x.2.2.2.2.2) : t_pq (b_X6_readTemplFields_30 rc x) (fun z => Sum.elim (fun y => BK y.2.2.2.2.2) (fun y => BK y) z) := bk_k_X6_readTemplFields_30 hrc h
theorem bk_m_X6_readTemplFields {rc : RT_X6_readBase} {x1 : Int32} {x2 : Int32} {x3 : Int32} {s : t_S} (hrc : BKB_X6_readBase rc) (h_s : BK s) : t_pq (m_X6_readTemplFields rc x1 x2 x3 s) (fun y => BK y) := by
  unfold m_X6_readTemplFields
  exact pc_if (fun _ => bk_st (BK.set h_s (fun y => absurd y (by decide))) (fun s1 h_s1 => pc_bd (bk_f_X2_take h_s1) (fun r2 h_r2 => pc_if (fun _ => pc_lp (fun x h => bk_b_X6_readTemplFields_30 hrc h) h_r2) (fun _ => pc_some h_r2)))) (fun _ => pc_none)
theorem bk_k_X6_readTone_163 {rc : RT_X6_readBase} {k0 : Int64} {k1 : Int32} {s : t_S} (hrc : BKB_X6_readBase rc) (h_s : BK s) : t_pq (k_X6_readTone_163 rc k0 k1 s) (fun y => BK y) := by
  unfold k_X6_readTone_163
  exact pc_if (fun _ => bk_st h_s (fun s1 h_s1 => pc_some h_s1)) (fun _ => pc_none)
theorem bk_k_X10_setLiteral_26 {l1 : Int32} {l2 : Int32} {k0 : Int32} {k1 : Int32} {s : t_S} (h_s : BK s) : t_pq (k_X10_setLiteral_26 l1 l2 k0 k1 s) (fun y => BK y) := by
  unfold k_X10_setLiteral_26
  exact pc_if (fun _ => bk_st (BK.set h_s (fun y => absurd y (by decide))) (fun s1 h_s1 => pc_if (fun _ => bk_st (BK.set h_s1 (fun y => absurd y (by decide))) (fun s2 h_s2 => pc_some h_s2)) (fun _ => pc_none))) (fun _ => pc_none)
theorem bk_f_X10_setLiteral {x1 : Int32} {x2 : Int32} {s : t_S} (h_s : BK s) : t_pq (f_X10_setLiteral x1 x2 s) (fun y => BK y) := by
  unfold f_X10_setLiteral
  exact pc_if (fun _ => pc_if (fun _ => (bk_k_X10_setLiteral_26 h_s)) (fun _ => (bk_k_X10_setLiteral_26 h_s))) (fun _ => pc_none)
theorem bk_k_X6_readTone_530 {rc : RT_X6_readBase} {l1 : Int32} {s : t_S} (hrc : BKB_X6_readBase rc) (h_s : BK s) : t_pq (k_X6_readTone_530 rc l1 s) (fun y => BK y) := by
  unfold k_X6_readTone_530
  exact pc_if (fun _ => bk_st (BK.set h_s (fun y => absurd y (by decide))) (fun s1 h_s1 => pc_bd (bk_f_X2_need h_s1) (fun r2 h_r2 => pc_some h_r2))) (fun _ => pc_none)
theorem bk_k_X6_readTone_310 {rc : RT_X6_readBase} {l1 : Int32} {l2 : Int32} {l3 : Int32} {l4 : Int32} {s : t_S} (hrc : BKB_X6_readBase rc) (h_s : BK s) : t_pq (k_X6_readTone_310 rc l1 l2 l3 l4 s) (fun y => BK y) := by
  unfold k_X6_readTone_310
  exact pc_bd (bk_f_X2_advance h_s) (fun r1 h_r1 => pc_if (fun _ => pc_bd (hrc.2.2.2.2.2.1 _ _ _ _ _ h_r1) (fun r2 h_r2 => pc_some h_r2)) (fun _ => pc_if (fun _ => pc_bd (hrc.2.2.2.2.2.2.2.2.2.2.2.1 _ _ _ h_r1) (fun r3 h_r3 => pc_some h_r3)) (fun _ => pc_if (fun _ => pc_bd (hrc.2.2.2.2.2.2.2.2.2.2.2.2.1 _ _ _ _ h_r1) (fun r4 h_r4 => pc_some h_r4)) (fun _ => pc_if (fun _ => pc_bd (hrc.2.2.2.2.2.2.2.2.2.1 _ _ _ _ h_r1) (fun r5 h_r5 => pc_some h_r5)) (fun _ => pc_if (fun _ => pc_bd (hrc.2.2.2.2.2.2.2.2.2.2.2.2.2.2.1 _ _ _ _ h_r1) (fun r6 h_r6 => pc_some h_r6)) (fun _ => pc_if (fun _ => pc_bd (hrc.2.2.2.2.2.2.2.2.2.2.1 _ _ _ _ _ h_r1) (fun r7 h_r7 => pc_some h_r7)) (fun _ => pc_if (fun _ => pc_bd (hrc.2.2.2.2.2.2.2.2.2.2.1 _ _ _ _ _ h_r1) (fun r8 h_r8 => pc_some h_r8)) (fun _ => pc_if (fun _ => pc_if (fun _ => pc_bd (bk_f_X6_poolText h_r1) (fun r9 h_r9 => pc_bd (bk_f_X10_setLiteral h_r9) (fun r10 h_r10 => (bk_k_X6_readTone_530 hrc h_r10)))) (fun _ => (bk_k_X6_readTone_530 hrc h_r1))) (fun _ => pc_if (fun _ => pc_bd (hrc.2.2.2.2.2.2.2.2.2.2.1 _ _ _ _ _ h_r1) (fun r11 h_r11 => pc_some h_r11)) (fun _ => pc_if (fun _ => pc_bd (hrc.2.2.2.2.2.2.2.2.2.2.1 _ _ _ _ _ h_r1) (fun r12 h_r12 => pc_some h_r12)) (fun _ => pc_some h_r1)))))))))))
theorem bk_m_X6_readTone {rc : RT_X6_readBase} {x1 : Int32} {x2 : Int32} {x3 : Int32} {s : t_S} (hrc : BKB_X6_readBase rc) (h_s : BK s) : t_pq (m_X6_readTone rc x1 x2 x3 s) (fun y => BK y) := by
  unfold m_X6_readTone
  exact pc_if (fun _ => pc_if (fun _ => bk_st (BK.set h_s (fun y => absurd y (by decide))) (fun s1 h_s1 => bk_st (BK.set h_s1 (fun y => absurd y (by decide))) (fun s2 h_s2 => pc_bd (bk_f_X0_emit h_s2) (fun r3 h_r3 => pc_bd (bk_f_X6_link h_r3) (fun r4 h_r4 => pc_some h_r4))))) (fun _ => pc_none)) (fun _ => pc_if (fun _ => pc_if (fun _ => bk_st (BK.set h_s (fun y => absurd y (by decide))) (fun s3 h_s3 => pc_bd (bk_f_X6_readNumber h_s3) (fun r6 h_r6 => bk_st h_r6 (fun s4 h_s4 => pc_bd (bk_f_X2_take h_s4) (fun r7 h_r7 => pc_if (fun _ => (bk_k_X6_readTone_163 hrc h_r7)) (fun _ => pc_bd (bk_f_X6_readNumber h_r7) (fun r8 h_r8 => (bk_k_X6_readTone_163 hrc h_r8)))))))) (fun _ => pc_none)) (fun _ => pc_if (fun _ => pc_bd (bk_f_X6_poolText h_s) (fun r9 h_r9 => pc_bd (bk_f_X10_setLiteral h_r9) (fun r10 h_r10 => (bk_k_X6_readTone_310 hrc h_r10)))) (fun _ => pc_if (fun _ => pc_if (fun _ => bk_st (BK.set h_s (fun y => absurd y (by decide))) (fun s5 h_s5 => (bk_k_X6_readTone_310 hrc h_s5))) (fun _ => pc_none)) (fun _ => pc_if (fun _ => pc_if (fun _ => bk_st (BK.set h_s (fun y => absurd y (by decide))) (fun s6 h_s6 => pc_bd (bk_f_X6_readNumber h_s6) (fun r13 h_r13 => bk_st h_r13 (fun s7 h_s7 => pc_bd (bk_f_X2_take h_s7) (fun r14 h_r14 => pc_if (fun _ => (bk_k_X6_readTone_163 hrc h_r14)) (fun _ => pc_bd (bk_f_X6_readNumber h_r14) (fun r15 h_r15 => (bk_k_X6_readTone_163 hrc h_r15)))))))) (fun _ => pc_none)) (fun _ => pc_if (fun _ => pc_if (fun _ => bk_st (BK.set h_s (fun y => absurd y (by decide))) (fun s8 h_s8 => (bk_k_X6_readTone_310 hrc h_s8))) (fun _ => pc_none)) (fun _ => pc_if (fun _ => pc_bd (bk_f_X0_poolCell h_s) (fun r18 h_r18 => pc_bd (bk_f_X10_setLiteral h_r18) (fun r19 h_r19 => (bk_k_X6_readTone_310 hrc h_r19)))) (fun _ => pc_if (fun _ => pc_bd (bk_f_X0_poolCell h_s) (fun r21 h_r21 => pc_bd (bk_f_X10_setLiteral h_r21) (fun r22 h_r22 => (bk_k_X6_readTone_310 hrc h_r22)))) (fun _ => pc_if (fun _ => pc_if (fun _ => bk_st (BK.set h_s (fun y => absurd y (by decide))) (fun s9 h_s9 => (bk_k_X6_readTone_310 hrc h_s9))) (fun _ => pc_none)) (fun _ => (bk_k_X6_readTone_310 hrc h_s))))))))))
theorem BKB_X6_readBase_R : ∀ n, BKB_X6_readBase (R_X6_readBase n) := by
  intro n
  induction n with
  | zero => exact ⟨fun _ _ _ => pc_none, fun _ _ _ => pc_none, fun _ _ _ => pc_none, fun _ _ _ => pc_none, fun _ _ _ => pc_none, fun _ _ _ _ _ _ => pc_none, fun _ _ _ => pc_none, fun _ _ _ => pc_none, fun _ _ _ _ => pc_none, fun _ _ _ _ _ => pc_none, fun _ _ _ _ _ _ => pc_none, fun _ _ _ _ => pc_none, fun _ _ _ _ _ => pc_none, fun _ _ _ _ => pc_none, fun _ _ _ _ _ => pc_none, fun _ _ _ _ _ => pc_none⟩
  | succ n ih => exact ⟨fun _ _ h => bk_m_X6_readBase ih h, fun _ _ h => bk_m_X6_readElements ih h, fun _ _ h => bk_m_X6_readExp ih h, fun _ _ h => bk_m_X6_readExpFields ih h, fun _ _ h => bk_m_X6_readExps ih h, fun _ _ _ _ _ h => bk_m_X6_readInner ih h, fun _ _ h => bk_m_X6_readMet ih h, fun _ _ h => bk_m_X6_readOne ih h, fun _ _ _ h => bk_m_X6_readPerm ih h, fun _ _ _ _ h => bk_m_X6_readPieces ih h, fun _ _ _ _ _ h => bk_m_X6_readRow ih h, fun _ _ _ h => bk_m_X6_readSame ih h, fun _ _ _ _ h => bk_m_X6_readTag ih h, fun _ _ _ h => bk_m_X6_readTempl ih h, fun _ _ _ _ h => bk_m_X6_readTemplFields ih h, fun _ _ _ _ h => bk_m_X6_readTone ih h⟩
theorem bk_f_X6_readTempl {x1 : Int32} {x2 : Int32} {s : t_S} (h_s : BK s) : t_pq (f_X6_readTempl x1 x2 s) (fun y => BK y.2) := by
  unfold f_X6_readTempl
  exact ((BKB_X6_readBase_R 250).2.2.2.2.2.2.2.2.2.2.2.2.2.1 _ _ _ h_s)
theorem bk_f_X6_readTemplateItem {s : t_S} (h_s : BK s) : t_pq (f_X6_readTemplateItem s) (fun y => BK y) := by
  unfold f_X6_readTemplateItem
  exact pc_bd (bk_f_X2_advance h_s) (fun r1 h_r1 => pc_bd (bk_f_X6_takeName h_r1) (fun r2 h_r2 => pc_if (fun _ => pc_some h_r2) (fun _ => pc_if (fun _ => bk_st (BK.set h_r2 (fun y => absurd y (by omega))) (fun s1 h_s1 => bk_st (BK.set h_s1 (fun y => absurd y (by decide))) (fun s2 h_s2 => pc_bd (bk_f_X2_advance h_s2) (fun r4 h_r4 => pc_bd (bk_f_X2_need h_r4) (fun r5 h_r5 => bk_st (BK.set h_r5 (fun y => absurd y (by decide))) (fun s3 h_s3 => bk_st (BK.set h_s3 (fun y => absurd y (by omega))) (fun s4 h_s4 => bk_st (BK.set h_s4 (fun y => absurd y (by omega))) (fun s5 h_s5 => pc_bd (bk_f_X6_readTempl h_s5) (fun r6 h_r6 => bk_st (BK.set h_r6 (fun y => absurd y (by omega))) (fun s6 h_s6 => bk_st (BK.set h_s6 (fun y => absurd y (by omega))) (fun s7 h_s7 => pc_bd (bk_f_X0_emit h_s7) (fun r7 h_r7 => bk_st (BK.set h_r7 (fun y => absurd y (by decide))) (fun s8 h_s8 => pc_bd (bk_f_X2_need h_s8) (fun r8 h_r8 => pc_some h_r8)))))))))))))) (fun _ => pc_none))))
theorem bk_f_X5_addKind {x1 : Int32} {s : t_S} (h_s : BK s) : t_pq (f_X5_addKind x1 s) (fun y => BK y) := by
  unfold f_X5_addKind
  exact bk_st (BK.set h_s (fun y => absurd y (by decide))) (fun s1 h_s1 => pc_if (fun _ => bk_st (BK.set h_s1 (fun y => absurd y (by decide))) (fun s2 h_s2 => bk_st (BK.set h_s2 (fun y => absurd y (by decide))) (fun s3 h_s3 => bk_st (BK.set h_s3 (fun y => absurd y (by decide))) (fun s4 h_s4 => pc_some h_s4)))) (fun _ => pc_none))
theorem bk_k_X6_readComponentItem_104 {s : t_S} (h_s : BK s) : t_pq (k_X6_readComponentItem_104 s) (fun y => BK y) := by
  unfold k_X6_readComponentItem_104
  exact pc_bd (bk_f_X2_need h_s) (fun r1 h_r1 => bk_st (BK.set h_r1 (fun y => absurd y (by decide))) (fun s1 h_s1 => pc_some h_s1))
theorem bk_f_X6_readVarType {x1 : Int32} {x2 : Int32} {s : t_S} (h_s : BK s) : t_pq (f_X6_readVarType x1 x2 s) (fun y => BK y) := by
  unfold f_X6_readVarType
  exact pc_bd (bk_f_X2_take h_s) (fun r1 h_r1 => pc_if (fun _ => pc_some h_r1) (fun _ => pc_bd (bk_f_X6_link h_r1) (fun r2 h_r2 => pc_some h_r2)))
theorem bk_f_X6_readExp {x1 : Int32} {s : t_S} (h_s : BK s) : t_pq (f_X6_readExp x1 s) (fun y => BK y.2) := by
  unfold f_X6_readExp
  exact ((BKB_X6_readBase_R 250).2.2.1 _ _ h_s)
theorem bk_k_X6_readOwn_321 {l2 : Nat} {s : t_S} (h_s : BK s) : t_pq (k_X6_readOwn_321 l2 s) (fun y => BK y) := by
  unfold k_X6_readOwn_321
  exact pc_bd (bk_f_X2_need h_s) (fun r1 h_r1 => pc_if (fun z1 => pc_if (fun _ => bk_st (BK.set h_r1 (fun y => absurd y (bk_oka1 z1))) (fun s1 h_s1 => pc_some h_s1)) (fun _ => pc_none)) (fun _ => pc_none))
theorem bk_k_X6_readOwn_227 {l1 : Int32} {l2 : Nat} {l3 : Int32} {l4 : Nat} {s : t_S} (h_s : BK s) : t_pq (k_X6_readOwn_227 l1 l2 l3 l4 s) (fun y => BK y) := by
  unfold k_X6_readOwn_227
  exact pc_if (fun _ => pc_if (fun z1 => pc_if (fun _ => pc_if (fun z2 => pc_if (fun _ => bk_st (BK.set h_s (fun y => absurd y (bk_oka1 z2))) (fun s1 h_s1 => pc_bd (bk_f_X2_advance h_s1) (fun r6 h_r6 => pc_if (fun _ => pc_if (fun _ => bk_st (BK.set h_r6 (fun y => absurd y (by decide))) (fun s2 h_s2 => pc_bd (bk_f_X6_readVarType h_s2) (fun r8 h_r8 => pc_bd (bk_f_X2_need h_r8) (fun r9 h_r9 => pc_bd (bk_f_X6_readExp h_r9) (fun r10 h_r10 => bk_st (BK.set h_r10 (fun y => absurd y (by decide))) (fun s3 h_s3 => (bk_k_X6_readOwn_321 h_s3))))))) (fun _ => pc_none)) (fun _ => (bk_k_X6_readOwn_321 h_r6))))) (fun _ => pc_none)) (fun _ => pc_none)) (fun _ => pc_none)) (fun _ => pc_none)) (fun _ => pc_some h_s)
theorem bk_k_X6_readOwn_153 {l1 : Int32} {l2 : Nat} {l3 : Int32} {k0 : Nat} {s : t_S} (h_s : BK s) : t_pq (k_X6_readOwn_153 l1 l2 l3 k0 s) (fun y => BK y) := by
  unfold k_X6_readOwn_153
  exact pc_if (fun _ => pc_bd pc_any (fun r2 h_r2 => pc_if (fun _ => pc_if (fun z1 => pc_if (fun _ => pc_if (fun _ => (bk_k_X6_readOwn_227 h_s)) (fun _ => pc_bd (bk_f_X2_fail h_s) (fun r5 h_r5 => (bk_k_X6_readOwn_227 h_r5)))) (fun _ => pc_none)) (fun _ => pc_none)) (fun _ => pc_bd (bk_f_X2_fail h_s) (fun r6 h_r6 => (bk_k_X6_readOwn_227 h_r6))))) (fun _ => pc_bd (bk_f_X2_fail h_s) (fun r7 h_r7 => (bk_k_X6_readOwn_227 h_r7)))
theorem bk_k_X6_readOwn_111 {l1 : Int32} {l2 : Nat} {k0 : Int32} {s : t_S} (h_s : BK s) : t_pq (k_X6_readOwn_111 l1 l2 k0 s) (fun y => BK y) := by
  unfold k_X6_readOwn_111
  exact pc_if (fun _ => (bk_k_X6_readOwn_153 h_s)) (fun _ => pc_if (fun _ => (bk_k_X6_readOwn_153 h_s)) (fun _ => (bk_k_X6_readOwn_153 h_s)))
theorem bk_k_X6_readOwn_85 {l1 : Int32} {k0 : Nat} {s : t_S} (h_s : BK s) : t_pq (k_X6_readOwn_85 l1 k0 s) (fun y => BK y) := by
  unfold k_X6_readOwn_85
  exact pc_if (fun _ => (bk_k_X6_readOwn_111 h_s)) (fun _ => pc_if (fun _ => (bk_k_X6_readOwn_111 h_s)) (fun _ => (bk_k_X6_readOwn_111 h_s)))
theorem bk_k_X6_readOwn_37 {l1 : Int32} {s : t_S} (h_s : BK s) : t_pq (k_X6_readOwn_37 l1 s) (fun y => BK y) := by
  unfold k_X6_readOwn_37
  exact pc_bd (bk_f_X2_advance h_s) (fun r1 h_r1 => pc_if (fun _ => (bk_k_X6_readOwn_85 h_r1)) (fun _ => pc_if (fun _ => (bk_k_X6_readOwn_85 h_r1)) (fun _ => (bk_k_X6_readOwn_85 h_r1))))
theorem bk_f_X6_readOwn {s : t_S} (h_s : BK s) : t_pq (f_X6_readOwn s) (fun y => BK y) := by
  unfold f_X6_readOwn
  exact pc_if (fun _ => (bk_k_X6_readOwn_37 h_s)) (fun _ => pc_if (fun _ => (bk_k_X6_readOwn_37 h_s)) (fun _ => pc_if (fun _ => (bk_k_X6_readOwn_37 h_s)) (fun _ => pc_bd (bk_f_X2_fail h_s) (fun r1 h_r1 => (bk_k_X6_readOwn_37 h_r1)))))
theorem bk_k_X6_readComponentItem_65 {l1 : Int32} {s : t_S} (h_s : BK s) : t_pq (k_X6_readComponentItem_65 l1 s) (fun z => Sum.elim (fun y => BK y.2) (fun y => BK y) z) := by
  unfold k_X6_readComponentItem_65
  exact pc_if (fun _ => pc_mp ((bk_k_X6_readComponentItem_104 h_s))) (fun _ => pc_if (fun _ => pc_if (fun _ => pc_mp ((bk_k_X6_readComponentItem_104 h_s))) (fun _ => pc_bd (bk_f_X6_readOwn h_s) (fun r1 h_r1 => pc_some h_r1))) (fun _ => pc_mp ((bk_k_X6_readComponentItem_104 h_s))))
theorem bk_b_X6_readComponentItem_65 {x : Int32 × t_S} (h : BK x.2) : t_pq (b_X6_readComponentItem_65 x) (fun z => Sum.elim (fun y => BK y.2) (fun y => BK y) z) := bk_k_X6_readComponentItem_65 h
theorem bk_f_X6_readComponentItem {s : t_S} (h_s : BK s) : t_pq (f_X6_readComponentItem s) (fun y => BK y) := by
  unfold f_X6_readComponentItem
  exact pc_bd (bk_f_X2_advance h_s) (fun r1 h_r1 => pc_bd (bk_f_X6_takeName h_r1) (fun r2 h_r2 => pc_if (fun _ => pc_some h_r2) (fun _ => bk_st (BK.set h_r2 (fun y => absurd y (by decide))) (fun s1 h_s1 => pc_bd (bk_f_X5_addKind h_s1) (fun r3 h_r3 => pc_bd (bk_f_X2_advance h_r3) (fun r4 h_r4 => pc_bd (bk_f_X2_need h_r4) (fun r5 h_r5 => pc_lp (fun x h => bk_b_X6_readComponentItem_65 h) h_r5)))))))
theorem bk_f_X5_addUnit {x1 : Int32} {x2 : Int32} {s : t_S} (h_s : BK s) : t_pq (f_X5_addUnit x1 x2 s) (fun y => BK y) := by
  unfold f_X5_addUnit
  exact bk_st (BK.set h_s (fun y => absurd y (by decide))) (fun s1 h_s1 => pc_if (fun _ => bk_st (BK.set h_s1 (fun y => absurd y (by decide))) (fun s2 h_s2 => bk_st (BK.set h_s2 (fun y => absurd y (by decide))) (fun s3 h_s3 => bk_st (BK.set h_s3 (fun y => absurd y (by decide))) (fun s4 h_s4 => bk_st (BK.set h_s4 (fun y => absurd y (by decide))) (fun s5 h_s5 => bk_st (BK.set h_s5 (fun y => absurd y (by decide))) (fun s6 h_s6 => pc_some h_s6)))))) (fun _ => pc_none))
def BKB_X6_readAlts (rc : RT_X6_readAlts) : Prop := (∀ (x0 : Int32) (x1 : Int32) (s : t_S), BK s → t_pq (rc.1 x0 x1 s) (fun y => BK y.2)) ∧ (∀ (x0 : Int32) (x1 : Int32) (s : t_S), BK s → t_pq (rc.2.1 x0 x1 s) (fun y => BK y.2)) ∧ (∀ (x0 : Int32) (x1 : Int32) (x2 : Int32) (s : t_S), BK s → t_pq (rc.2.2.1 x0 x1 x2 s) (fun y => BK y.2)) ∧ (∀ (x0 : Int32) (x1 : Int32) (s : t_S), BK s → t_pq (rc.2.2.2.1 x0 x1 s) (fun y => BK y.2)) ∧ (∀ (x0 : Int32) (x1 : Int32) (s : t_S), BK s → t_pq (rc.2.2.2.2 x0 x1 s) (fun y => BK y.2))
theorem bk_m_X6_readAlts {rc : RT_X6_readAlts} {x1 : Int32} {x2 : Int32} {s : t_S} (hrc : BKB_X6_readAlts rc) (h_s : BK s) : t_pq (m_X6_readAlts rc x1 x2 s) (fun y => BK y.2) := by
  unfold m_X6_readAlts
  exact pc_bd (hrc.2.2.1 _ _ _ _ h_s) (fun r1 h_r1 => pc_some h_r1)
theorem bk_m_X6_readBlock {rc : RT_X6_readAlts} {x1 : Int32} {x2 : Int32} {s : t_S} (hrc : BKB_X6_readAlts rc) (h_s : BK s) : t_pq (m_X6_readBlock rc x1 x2 s) (fun y => BK y.2) := by
  unfold m_X6_readBlock
  exact pc_bd (hrc.2.2.1 _ _ _ _ h_s) (fun r1 h_r1 => pc_some h_r1)
theorem bk_k_X6_readBraces_142 {rc : RT_X6_readAlts} {l4 : Int32} {s : t_S} (hrc : BKB_X6_readAlts rc) (h_s : BK s) : t_pq (k_X6_readBraces_142 rc l4 s) (fun y => BK y.2) := by
  unfold k_X6_readBraces_142
  exact pc_bd (bk_f_X2_need h_s) (fun r1 h_r1 => pc_some h_r1)
theorem bk_k_X6_readBraces_132 {rc : RT_X6_readAlts} {l1 : Int32} {l2 : Int32} {l3 : Int32} {l4 : Int32} {l6 : Int32} {l7 : Int32} {s : t_S} (hrc : BKB_X6_readAlts rc) (h_s : BK s) : t_pq (k_X6_readBraces_132 rc l1 l2 l3 l4 l6 l7 s) (fun z => Sum.elim (fun y => BK y.2.2.2.2.2.2) (fun y => BK y.2) z) := by
  unfold k_X6_readBraces_132
  exact pc_some h_s
theorem bk_k_X6_readBraces_99 {rc : RT_X6_readAlts} {l1 : Int32} {l2 : Int32} {l3 : Int32} {l4 : Int32} {l5 : Int32} {l6 : Int32} {k0 : Int32} {s : t_S} (hrc : BKB_X6_readAlts rc) (h_s : BK s) : t_pq (k_X6_readBraces_99 rc l1 l2 l3 l4 l5 l6 k0 s) (fun z => Sum.elim (fun y => BK y.2.2.2.2.2.2) (fun y => BK y.2) z) := by
  unfold k_X6_readBraces_99
  exact pc_if (fun _ => pc_if (fun _ => (bk_k_X6_readBraces_132 hrc h_s)) (fun _ => pc_if (fun _ => bk_st (BK.set h_s (fun y => absurd y (by omega))) (fun s1 h_s1 => (bk_k_X6_readBraces_132 hrc h_s1))) (fun _ => pc_none))) (fun _ => (bk_k_X6_readBraces_132 hrc h_s))
theorem bk_k_X6_readBraces_50 {rc : RT_X6_readAlts} {l1 : Int32} {l2 : Int32} {l3 : Int32} {l4 : Int32} {l5 : Int32} {l6 : Int32} {s : t_S} (hrc : BKB_X6_readAlts rc) (h_s : BK s) : t_pq (k_X6_readBraces_50 rc l1 l2 l3 l4 l5 l6 s) (fun z => Sum.elim (fun y => BK y.2.2.2.2.2.2) (fun y => BK y.2) z) := by
  unfold k_X6_readBraces_50
  exact pc_if (fun _ => pc_mp ((bk_k_X6_readBraces_142 hrc h_s))) (fun _ => pc_if (fun _ => pc_if (fun _ => pc_mp ((bk_k_X6_readBraces_142 hrc h_s))) (fun _ => pc_if (fun _ => pc_bd (hrc.2.2.2.2 _ _ _ h_s) (fun r1 h_r1 => (bk_k_X6_readBraces_99 hrc h_r1))) (fun _ => pc_bd (hrc.2.2.2.1 _ _ _ h_s) (fun r2 h_r2 => (bk_k_X6_readBraces_99 hrc h_r2))))) (fun _ => pc_mp ((bk_k_X6_readBraces_142 hrc h_s))))
theorem bk_b_X6_readBraces_50 {rc : RT_X6_readAlts} {x : Int32 × Int32 × Int32 × Int32 × Int32 × Int32 × t_S} (hrc : BKB_X6_readAlts rc) (h : BK x.2.2.2.2.2.2) : t_pq (b_X6_readBraces_50 rc x) (fun z => Sum.elim (fun y => BK y.2.2.2.2.2.2) (fun y => BK y.2) z) := bk_k_X6_readBraces_50 hrc h
theorem bk_k_X6_readBraces_34 {rc : RT_X6_readAlts} {l1 : Int32} {l2 : Int32} {l3 : Int32} {s : t_S} (hrc : BKB_X6_readAlts rc) (h_s : BK s) : t_pq (k_X6_readBraces_34 rc l1 l2 l3 s) (fun y => BK y.2) := by
  unfold k_X6_readBraces_34
  exact pc_bd (bk_f_X2_advance h_s) (fun r1 h_r1 => pc_lp (fun x h => bk_b_X6_readBraces_50 hrc h) h_r1)
theorem bk_k_X6_readBraces_20 {rc : RT_X6_readAlts} {l1 : Int32} {l2 : Int32} {l3 : Int32} {s : t_S} (hrc : BKB_X6_readAlts rc) (h_s : BK s) : t_pq (k_X6_readBraces_20 rc l1 l2 l3 s) (fun y => BK y.2) := by
  unfold k_X6_readBraces_20
  exact pc_if (fun _ => (bk_k_X6_readBraces_34 hrc h_s)) (fun _ => pc_bd (bk_f_X2_fail h_s) (fun r1 h_r1 => (bk_k_X6_readBraces_34 hrc h_r1)))
theorem bk_m_X6_readBraces {rc : RT_X6_readAlts} {x1 : Int32} {x2 : Int32} {x3 : Int32} {s : t_S} (hrc : BKB_X6_readAlts rc) (h_s : BK s) : t_pq (m_X6_readBraces rc x1 x2 x3 s) (fun y => BK y.2) := by
  unfold m_X6_readBraces
  exact pc_if (fun _ => (bk_k_X6_readBraces_20 hrc h_s)) (fun _ => pc_bd (bk_f_X2_fail h_s) (fun r1 h_r1 => (bk_k_X6_readBraces_20 hrc h_r1)))
theorem bk_k_J7_fill_53178_5 {l0 : Nat} {l1 : Int32} {l2 : Int32} {l3 : Int32} {s : t_S} (h_s : BK s) : t_pq (k_J7_fill_53178_5 l0 l1 l2 l3 s) (fun z => Sum.elim (fun y => BK y.2.2.2.2) (fun y => BK y) z) := by
  unfold k_J7_fill_53178_5
  exact pc_if (fun _ => pc_mp (pc_some h_s)) (fun _ => pc_if (fun z1 => pc_if (fun _ => bk_st (BK.set h_s (fun y => absurd y (bk_oka1 z1))) (fun s1 h_s1 => pc_some h_s1)) (fun _ => pc_none)) (fun _ => pc_none))
theorem bk_b_J7_fill_53178_5 {x : Nat × Int32 × Int32 × Int32 × t_S} (h : BK x.2.2.2.2) : t_pq (b_J7_fill_53178_5 x) (fun z => Sum.elim (fun y => BK y.2.2.2.2) (fun y => BK y) z) := bk_k_J7_fill_53178_5 h
theorem bk_f_J7_fill_53178 {x1 : Nat} {x2 : Int32} {s : t_S} (h_s : BK s) : t_pq (f_J7_fill_53178 x1 x2 s) (fun y => BK y) := by
  unfold f_J7_fill_53178
  exact pc_if (fun z1 => pc_lp (fun x h => bk_b_J7_fill_53178_5 h) h_s) (fun _ => pc_none)
theorem bk_f_X5_addStep {x1 : Int32} {x2 : Int32} {s : t_S} (h_s : BK s) : t_pq (f_X5_addStep x1 x2 s) (fun y => BK y.2) := by
  unfold f_X5_addStep
  exact pc_if (fun _ => bk_st (BK.set h_s (fun y => absurd y (by decide))) (fun s1 h_s1 => pc_if (fun _ => pc_bd (bk_f_J7_fill_53178 h_s1) (fun r2 h_r2 => bk_st (BK.set h_r2 (fun y => absurd y (by omega))) (fun s2 h_s2 => bk_st (BK.set h_s2 (fun y => absurd y (by omega))) (fun s3 h_s3 => pc_some h_s3)))) (fun _ => pc_none))) (fun _ => pc_some h_s)
theorem bk_k_X6_takeVar_33 {l1 : Int32} {k0 : Int32} {s : t_S} (h_s : BK s) : t_pq (k_X6_takeVar_33 l1 k0 s) (fun y => BK y) := by
  unfold k_X6_takeVar_33
  exact pc_if (fun _ => bk_st (BK.set h_s (fun y => absurd y (by omega))) (fun s1 h_s1 => pc_if (fun _ => pc_bd (bk_f_X6_link h_s1) (fun r2 h_r2 => pc_some h_r2)) (fun _ => pc_bd (bk_f_X2_advance h_s1) (fun r3 h_r3 => pc_some h_r3)))) (fun _ => pc_none)
theorem bk_f_X6_takeVar {x1 : Int32} {s : t_S} (h_s : BK s) : t_pq (f_X6_takeVar x1 s) (fun y => BK y) := by
  unfold f_X6_takeVar
  exact pc_if (fun _ => pc_bd pc_any (fun r2 h_r2 => (bk_k_X6_takeVar_33 h_s))) (fun _ => (bk_k_X6_takeVar_33 h_s))
theorem bk_f_X6_readInto {x1 : Int32} {s : t_S} (h_s : BK s) : t_pq (f_X6_readInto x1 s) (fun y => BK y) := by
  unfold f_X6_readInto
  exact pc_bd (bk_f_X2_take h_s) (fun r1 h_r1 => pc_if (fun _ => pc_some h_r1) (fun _ => pc_bd (bk_f_X6_takeVar h_r1) (fun r2 h_r2 => pc_some h_r2)))
theorem bk_k_X6_readEvent_133 {l1 : Int32} {s : t_S} (h_s : BK s) : t_pq (k_X6_readEvent_133 l1 s) (fun y => BK y) := by
  unfold k_X6_readEvent_133
  exact pc_bd (bk_f_X6_readInto h_s) (fun r1 h_r1 => pc_some h_r1)
theorem bk_k_X6_readEvent_62 {l1 : Int32} {l2 : Nat} {s : t_S} (h_s : BK s) : t_pq (k_X6_readEvent_62 l1 l2 s) (fun y => BK y) := by
  unfold k_X6_readEvent_62
  exact pc_if (fun z1 => pc_if (fun _ => pc_if (fun _ => pc_bd (bk_f_X6_link h_s) (fun r3 h_r3 => pc_if (fun _ => bk_st (BK.set h_r3 (fun y => absurd y (bk_oka1 z1))) (fun s1 h_s1 => pc_bd (bk_f_X6_readTempl h_s1) (fun r5 h_r5 => pc_if (fun _ => bk_st (BK.set h_r5 (fun y => absurd y (bk_oka1 z1))) (fun s2 h_s2 => pc_bd (bk_f_X0_emit h_s2) (fun r7 h_r7 => pc_bd (bk_f_X2_take h_r7) (fun r8 h_r8 => pc_if (fun _ => (bk_k_X6_readEvent_133 h_r8)) (fun _ => pc_bd (bk_f_X6_readExp h_r8) (fun r9 h_r9 => pc_if (fun _ => bk_st (BK.set h_r9 (fun y => absurd y (bk_oka1 z1))) (fun s3 h_s3 => (bk_k_X6_readEvent_133 h_s3))) (fun _ => pc_none))))))) (fun _ => pc_none)))) (fun _ => pc_none))) (fun _ => pc_some h_s)) (fun _ => pc_none)) (fun _ => pc_none)
theorem bk_k_X6_readEvent_46 {l1 : Int32} {l2 : Nat} {s : t_S} (h_s : BK s) : t_pq (k_X6_readEvent_46 l1 l2 s) (fun y => BK y) := by
  unfold k_X6_readEvent_46
  exact pc_if (fun z1 => pc_if (fun _ => pc_if (fun _ => pc_bd (bk_f_X6_readExp h_s) (fun r3 h_r3 => pc_if (fun _ => bk_st (BK.set h_r3 (fun y => absurd y (bk_oka1 z1))) (fun s1 h_s1 => (bk_k_X6_readEvent_62 h_s1))) (fun _ => pc_none))) (fun _ => (bk_k_X6_readEvent_62 h_s))) (fun _ => pc_none)) (fun _ => pc_none)
theorem bk_f_X6_readEvent {x1 : Int32} {s : t_S} (h_s : BK s) : t_pq (f_X6_readEvent x1 s) (fun y => BK y) := by
  unfold f_X6_readEvent
  exact pc_if (fun _ => bk_st (BK.set h_s (fun y => absurd y (by omega))) (fun s1 h_s1 => pc_bd (bk_f_X2_advance h_s1) (fun r3 h_r3 => pc_if (fun _ => pc_bd (bk_f_X6_link h_r3) (fun r4 h_r4 => (bk_k_X6_readEvent_46 h_r4))) (fun _ => (bk_k_X6_readEvent_46 h_r3))))) (fun _ => pc_none)
theorem bk_k_X6_readBranch_210 {rc : RT_X6_readAlts} {l1 : Int32} {l3 : Int32} {l4 : Nat} {s : t_S} (hrc : BKB_X6_readAlts rc) (h_s : BK s) : t_pq (k_X6_readBranch_210 rc l1 l3 l4 s) (fun y => BK y.2) := by
  unfold k_X6_readBranch_210
  exact pc_bd (bk_f_X6_readEvent h_s) (fun r1 h_r1 => pc_bd (hrc.2.1 _ _ _ h_r1) (fun r2 h_r2 => pc_if (fun z1 => pc_if (fun _ => bk_st (BK.set h_r2 (fun y => absurd y (bk_oka1 z1))) (fun s1 h_s1 => pc_some h_s1)) (fun _ => pc_none)) (fun _ => pc_none)))
theorem bk_k_X6_readCall_87 {l1 : Int32} {l2 : Int32} {l3 : Int32} {l4 : Int32} {k0 : Int32} {s : t_S} (h_s : BK s) : t_pq (k_X6_readCall_87 l1 l2 l3 l4 k0 s) (fun y => BK y) := by
  unfold k_X6_readCall_87
  exact pc_bd (bk_f_X2_need h_s) (fun r1 h_r1 => pc_bd (bk_f_X0_emit h_r1) (fun r2 h_r2 => pc_bd (bk_f_X3_add h_r2) (fun r4 h_r4 => pc_some h_r4)))
theorem bk_f_X6_readExps {x1 : Int32} {s : t_S} (h_s : BK s) : t_pq (f_X6_readExps x1 s) (fun y => BK y.2) := by
  unfold f_X6_readExps
  exact ((BKB_X6_readBase_R 250).2.2.2.2.1 _ _ h_s)
theorem bk_k_X6_readCall_66 {l1 : Int32} {l2 : Int32} {l3 : Int32} {l4 : Int32} {s : t_S} (h_s : BK s) : t_pq (k_X6_readCall_66 l1 l2 l3 l4 s) (fun y => BK y) := by
  unfold k_X6_readCall_66
  exact pc_if (fun _ => (bk_k_X6_readCall_87 h_s)) (fun _ => pc_bd (bk_f_X6_readExps h_s) (fun r1 h_r1 => (bk_k_X6_readCall_87 h_r1)))
theorem bk_f_X6_readCall {x1 : Int32} {x2 : Int32} {s : t_S} (h_s : BK s) : t_pq (f_X6_readCall x1 x2 s) (fun y => BK y) := by
  unfold f_X6_readCall
  exact pc_bd (bk_f_X2_need h_s) (fun r2 h_r2 => pc_bd (bk_f_X2_need h_r2) (fun r3 h_r3 => pc_if (fun _ => pc_if (fun _ => (bk_k_X6_readCall_66 h_r3)) (fun _ => bk_st (BK.set h_r3 (fun y => absurd y (by omega))) (fun s1 h_s1 => (bk_k_X6_readCall_66 h_s1)))) (fun _ => pc_none)))
theorem bk_k_X6_readBranch_140 {rc : RT_X6_readAlts} {l1 : Int32} {l3 : Int32} {l4 : Nat} {s : t_S} (hrc : BKB_X6_readAlts rc) (h_s : BK s) : t_pq (k_X6_readBranch_140 rc l1 l3 l4 s) (fun y => BK y.2) := by
  unfold k_X6_readBranch_140
  exact pc_bd (bk_f_X2_need h_s) (fun r1 h_r1 => pc_bd (bk_f_X2_take h_r1) (fun r2 h_r2 => pc_if (fun _ => pc_if (fun _ => pc_bd (bk_f_X2_fail h_r2) (fun r5 h_r5 => (bk_k_X6_readBranch_210 hrc h_r5))) (fun _ => (bk_k_X6_readBranch_210 hrc h_r2))) (fun _ => pc_if (fun z1 => pc_if (fun _ => bk_st (BK.set h_r2 (fun y => absurd y (bk_oka1 z1))) (fun s1 h_s1 => pc_bd (bk_f_X6_readCall h_s1) (fun r8 h_r8 => pc_bd (bk_f_X2_need h_r8) (fun r9 h_r9 => pc_some h_r9)))) (fun _ => pc_none)) (fun _ => pc_none))))
theorem bk_k_X6_readBranch_41 {rc : RT_X6_readAlts} {l1 : Int32} {l2 : Int32} {s : t_S} (hrc : BKB_X6_readAlts rc) (h_s : BK s) : t_pq (k_X6_readBranch_41 rc l1 l2 s) (fun y => BK y.2) := by
  unfold k_X6_readBranch_41
  exact pc_if (fun _ => pc_bd (bk_f_X5_addStep h_s) (fun r1 h_r1 => pc_if (fun _ => pc_bd (bk_f_X2_advance h_r1) (fun r3 h_r3 => pc_bd (bk_f_X2_take h_r3) (fun r4 h_r4 => pc_if (fun _ => pc_if (fun _ => (bk_k_X6_readBranch_140 hrc h_r4)) (fun _ => pc_bd (bk_f_X6_readExp h_r4) (fun r5 h_r5 => bk_st (BK.set h_r5 (fun y => absurd y (by omega))) (fun s1 h_s1 => (bk_k_X6_readBranch_140 hrc h_s1))))) (fun _ => pc_bd (bk_f_X2_need h_r4) (fun r6 h_r6 => pc_bd (hrc.2.1 _ _ _ h_r6) (fun r7 h_r7 => bk_st (BK.set h_r7 (fun y => absurd y (by omega))) (fun s2 h_s2 => pc_some h_s2))))))) (fun _ => pc_none))) (fun _ => pc_some h_s)
theorem bk_k_X6_readBranch_20 {rc : RT_X6_readAlts} {l1 : Int32} {l2 : Int32} {s : t_S} (hrc : BKB_X6_readAlts rc) (h_s : BK s) : t_pq (k_X6_readBranch_20 rc l1 l2 s) (fun y => BK y.2) := by
  unfold k_X6_readBranch_20
  exact pc_if (fun _ => (bk_k_X6_readBranch_41 hrc h_s)) (fun _ => pc_bd (bk_f_X2_fail h_s) (fun r1 h_r1 => (bk_k_X6_readBranch_41 hrc h_r1)))
theorem bk_m_X6_readBranch {rc : RT_X6_readAlts} {x1 : Int32} {x2 : Int32} {s : t_S} (hrc : BKB_X6_readAlts rc) (h_s : BK s) : t_pq (m_X6_readBranch rc x1 x2 s) (fun y => BK y.2) := by
  unfold m_X6_readBranch
  exact pc_if (fun _ => (bk_k_X6_readBranch_20 hrc h_s)) (fun _ => pc_bd (bk_f_X2_fail h_s) (fun r1 h_r1 => (bk_k_X6_readBranch_20 hrc h_r1)))
theorem bk_k_X6_takePlace_100 {s : t_S} (h_s : BK s) : t_pq (k_X6_takePlace_100 s) (fun y => BK y.2) := by
  unfold k_X6_takePlace_100
  exact pc_if (fun _ => pc_if (fun _ => pc_if (fun _ => bk_st (BK.set h_s (fun y => absurd y (by decide))) (fun s1 h_s1 => bk_st (BK.set h_s1 (fun y => absurd y (by decide))) (fun s2 h_s2 => pc_bd (bk_f_X2_advance h_s2) (fun r4 h_r4 => pc_if (fun _ => pc_some h_r4) (fun _ => pc_none))))) (fun _ => pc_none)) (fun _ => pc_none)) (fun _ => pc_some h_s)
theorem bk_k_X6_takePlace_64 {s : t_S} (h_s : BK s) : t_pq (k_X6_takePlace_64 s) (fun y => BK y.2) := by
  unfold k_X6_takePlace_64
  exact pc_bd (bk_f_X2_fail h_s) (fun r1 h_r1 => (bk_k_X6_takePlace_100 h_r1))
theorem bk_f_X6_takePlace {s : t_S} (h_s : BK s) : t_pq (f_X6_takePlace s) (fun y => BK y.2) := by
  unfold f_X6_takePlace
  exact pc_if (fun _ => pc_bd pc_any (fun r2 h_r2 => pc_if (fun _ => (bk_k_X6_takePlace_64 h_s)) (fun _ => pc_bd pc_any (fun r4 h_r4 => pc_if (fun _ => pc_if (fun _ => pc_if (fun _ => (bk_k_X6_takePlace_100 h_s)) (fun _ => pc_bd (bk_f_X2_fail h_s) (fun r6 h_r6 => (bk_k_X6_takePlace_100 h_r6)))) (fun _ => pc_none)) (fun _ => (bk_k_X6_takePlace_64 h_s)))))) (fun _ => pc_bd (bk_f_X2_fail h_s) (fun r7 h_r7 => (bk_k_X6_takePlace_100 h_r7)))
theorem bk_f_X6_readVar {x1 : Int32} {s : t_S} (h_s : BK s) : t_pq (f_X6_readVar x1 s) (fun y => BK y) := by
  unfold f_X6_readVar
  exact pc_if (fun _ => pc_bd (bk_f_X6_takePlace h_s) (fun r2 h_r2 => pc_if (fun _ => pc_bd (bk_f_X6_readVarType h_r2) (fun r3 h_r3 => pc_bd (bk_f_X2_need h_r3) (fun r4 h_r4 => pc_bd (bk_f_X6_readExp h_r4) (fun r5 h_r5 => bk_st (BK.set h_r5 (fun y => absurd y (by omega))) (fun s1 h_s1 => bk_st (BK.set h_s1 (fun y => absurd y (by omega))) (fun s2 h_s2 => pc_if (fun _ => bk_st (BK.set h_s2 (fun y => absurd y (by decide))) (fun s3 h_s3 => pc_some h_s3)) (fun _ => pc_none))))))) (fun _ => pc_some h_r2))) (fun _ => pc_none)
theorem bk_k_X6_readPlain_197 {s : t_S} (h_s : BK s) : t_pq (k_X6_readPlain_197 s) (fun y => BK y) := by
  unfold k_X6_readPlain_197
  exact pc_bd (bk_f_X2_advance h_s) (fun r1 h_r1 => pc_some h_r1)
theorem bk_k_X6_readPlain_189 {s : t_S} (h_s : BK s) : t_pq (k_X6_readPlain_189 s) (fun y => BK y) := by
  unfold k_X6_readPlain_189
  exact pc_bd (bk_f_X2_fail h_s) (fun r1 h_r1 => (bk_k_X6_readPlain_197 h_r1))
theorem bk_f_X6_readPlain {x1 : Int32} {x2 : Int32} {s : t_S} (h_s : BK s) : t_pq (f_X6_readPlain x1 x2 s) (fun y => BK y) := by
  unfold f_X6_readPlain
  exact pc_if (fun _ => pc_if (fun _ => pc_some h_s) (fun _ => pc_if (fun _ => pc_bd (bk_f_X6_readVar h_s) (fun r2 h_r2 => pc_some h_r2)) (fun _ => pc_if (fun _ => pc_some h_s) (fun _ => pc_if (fun _ => pc_some h_s) (fun _ => pc_if (fun _ => pc_some h_s) (fun _ => pc_if (fun _ => pc_if (fun _ => pc_some h_s) (fun _ => pc_bd (bk_f_X6_readExp h_s) (fun r3 h_r3 => bk_st (BK.set h_r3 (fun y => absurd y (by omega))) (fun s1 h_s1 => pc_some h_s1)))) (fun _ => pc_if (fun _ => pc_bd (bk_f_X6_readCall h_s) (fun r4 h_r4 => pc_bd (bk_f_X6_readInto h_r4) (fun r5 h_r5 => pc_some h_r5))) (fun _ => pc_if (fun _ => bk_st (BK.set h_s (fun y => absurd y (by omega))) (fun s2 h_s2 => pc_if (fun _ => (bk_k_X6_readPlain_189 h_s2)) (fun _ => pc_if (fun _ => (bk_k_X6_readPlain_197 h_s2)) (fun _ => (bk_k_X6_readPlain_189 h_s2))))) (fun _ => pc_if (fun _ => pc_bd (bk_f_X6_readExp h_s) (fun r6 h_r6 => bk_st (BK.set h_r6 (fun y => absurd y (by omega))) (fun s3 h_s3 => pc_some h_s3))) (fun _ => pc_if (fun _ => pc_bd (bk_f_X6_link h_s) (fun r7 h_r7 => pc_bd (bk_f_X6_readExp h_r7) (fun r8 h_r8 => bk_st (BK.set h_r8 (fun y => absurd y (by omega))) (fun s4 h_s4 => pc_some h_s4)))) (fun _ => pc_if (fun _ => pc_some h_s) (fun _ => pc_if (fun _ => pc_some h_s) (fun _ => pc_if (fun _ => pc_some h_s) (fun _ => pc_if (fun _ => pc_some h_s) (fun _ => pc_if (fun _ => pc_bd (bk_f_X6_link h_s) (fun r9 h_r9 => pc_bd (bk_f_X6_readExp h_r9) (fun r10 h_r10 => bk_st (BK.set h_r10 (fun y => absurd y (by omega))) (fun s5 h_s5 => pc_some h_s5)))) (fun _ => pc_if (fun _ => pc_bd (bk_f_X6_link h_s) (fun r11 h_r11 => pc_some h_r11)) (fun _ => pc_if (fun _ => pc_some h_s) (fun _ => pc_if (fun _ => pc_some h_s) (fun _ => pc_if (fun _ => pc_some h_s) (fun _ => pc_if (fun _ => pc_some h_s) (fun _ => pc_bd (bk_f_X6_readExp h_s) (fun r12 h_r12 => bk_st (BK.set h_r12 (fun y => absurd y (by omega))) (fun s6 h_s6 => pc_some h_s6))))))))))))))))))))))) (fun _ => pc_none)
theorem bk_k_X6_readStatement_315 {rc : RT_X6_readAlts} {l4 : Int32} {s : t_S} (hrc : BKB_X6_readAlts rc) (h_s : BK s) : t_pq (k_X6_readStatement_315 rc l4 s) (fun y => BK y.2) := by
  unfold k_X6_readStatement_315
  exact pc_bd (bk_f_X2_need h_s) (fun r1 h_r1 => pc_some h_r1)
theorem bk_k_X6_readAssignment_152 {l2 : Nat} {s : t_S} (h_s : BK s) : t_pq (k_X6_readAssignment_152 l2 s) (fun y => BK y) := by
  unfold k_X6_readAssignment_152
  exact pc_bd (bk_f_X2_need h_s) (fun r1 h_r1 => pc_if (fun z1 => pc_if (fun _ => bk_st (BK.set h_r1 (fun y => absurd y (bk_oka1 z1))) (fun s1 h_s1 => pc_bd (bk_f_X6_readExp h_s1) (fun r4 h_r4 => pc_bd (bk_f_X0_emit h_r4) (fun r5 h_r5 => pc_bd (bk_f_X2_need h_r5) (fun r6 h_r6 => pc_some h_r6))))) (fun _ => pc_none)) (fun _ => pc_none))
theorem bk_k_X6_readAssignment_146 {l2 : Nat} {l3 : Int32} {s : t_S} (h_s : BK s) : t_pq (k_X6_readAssignment_146 l2 l3 s) (fun z => Sum.elim (fun y => BK y.2.2) (fun y => BK y) z) := by
  unfold k_X6_readAssignment_146
  exact pc_some h_s
theorem bk_k_X6_readAssignment_71 {l2 : Nat} {l3 : Int32} {s : t_S} (h_s : BK s) : t_pq (k_X6_readAssignment_71 l2 l3 s) (fun z => Sum.elim (fun y => BK y.2.2) (fun y => BK y) z) := by
  unfold k_X6_readAssignment_71
  exact pc_bd (bk_f_X6_node h_s) (fun r1 h_r1 => pc_bd (bk_f_X2_take h_r1) (fun r2 h_r2 => pc_if (fun _ => pc_bd (bk_f_X2_take h_r2) (fun r3 h_r3 => pc_if (fun _ => (bk_k_X6_readAssignment_146 h_r3)) (fun _ => pc_bd (bk_f_X6_readExp h_r3) (fun r4 h_r4 => pc_bd (bk_f_X2_need h_r4) (fun r5 h_r5 => pc_bd (bk_f_X0_emit h_r5) (fun r6 h_r6 => (bk_k_X6_readAssignment_146 h_r6))))))) (fun _ => pc_bd (bk_f_X6_takeFieldName h_r2) (fun r7 h_r7 => pc_bd (bk_f_X0_emit h_r7) (fun r8 h_r8 => (bk_k_X6_readAssignment_146 h_r8))))))
theorem bk_k_X6_readAssignment_27 {l2 : Nat} {l3 : Int32} {s : t_S} (h_s : BK s) : t_pq (k_X6_readAssignment_27 l2 l3 s) (fun z => Sum.elim (fun y => BK y.2.2) (fun y => BK y) z) := by
  unfold k_X6_readAssignment_27
  exact pc_if (fun _ => pc_mp ((bk_k_X6_readAssignment_152 h_s))) (fun _ => pc_if (fun _ => pc_if (fun _ => (bk_k_X6_readAssignment_71 h_s)) (fun _ => pc_if (fun _ => (bk_k_X6_readAssignment_71 h_s)) (fun _ => pc_mp ((bk_k_X6_readAssignment_152 h_s))))) (fun _ => pc_mp ((bk_k_X6_readAssignment_152 h_s))))
theorem bk_b_X6_readAssignment_27 {x : Nat × Int32 × t_S} (h : BK x.2.2) : t_pq (b_X6_readAssignment_27 x) (fun z => Sum.elim (fun y => BK y.2.2) (fun y => BK y) z) := bk_k_X6_readAssignment_27 h
theorem bk_f_X6_readAssignment {x1 : Int32} {s : t_S} (h_s : BK s) : t_pq (f_X6_readAssignment x1 s) (fun y => BK y) := by
  unfold f_X6_readAssignment
  exact pc_if (fun _ => pc_bd (bk_f_X6_takeVar h_s) (fun r2 h_r2 => bk_st (BK.set h_r2 (fun y => absurd y (by omega))) (fun s1 h_s1 => pc_lp (fun x h => bk_b_X6_readAssignment_27 h) h_s1))) (fun _ => pc_none)
theorem bk_k_X6_readOfComponents_64 {l1 : Int32} {s : t_S} (h_s : BK s) : t_pq (k_X6_readOfComponents_64 l1 s) (fun y => BK y) := by
  unfold k_X6_readOfComponents_64
  exact pc_bd (bk_f_X6_readInto h_s) (fun r1 h_r1 => pc_some h_r1)
theorem bk_f_X6_takePort {x1 : Int32} {s : t_S} (h_s : BK s) : t_pq (f_X6_takePort x1 s) (fun y => BK y.2) := by
  unfold f_X6_takePort
  exact pc_bd (bk_f_X6_link h_s) (fun r2 h_r2 => pc_some h_r2)
theorem bk_f_X6_readOfComponents {x1 : Int32} {x2 : Int32} {s : t_S} (h_s : BK s) : t_pq (f_X6_readOfComponents x1 x2 s) (fun y => BK y) := by
  unfold f_X6_readOfComponents
  exact pc_if (fun _ => pc_if (fun _ => pc_bd (bk_f_X6_readCall h_s) (fun r2 h_r2 => pc_some h_r2)) (fun _ => pc_if (fun _ => pc_bd (bk_f_X6_link h_s) (fun r3 h_r3 => pc_if (fun _ => (bk_k_X6_readOfComponents_64 h_r3)) (fun _ => pc_bd (bk_f_X2_fail h_r3) (fun r4 h_r4 => (bk_k_X6_readOfComponents_64 h_r4))))) (fun _ => pc_if (fun _ => bk_st (BK.set h_s (fun y => absurd y (by omega))) (fun s1 h_s1 => pc_bd (bk_f_X6_readExp h_s1) (fun r5 h_r5 => pc_bd (bk_f_X2_need h_r5) (fun r6 h_r6 => pc_bd (bk_f_X6_readCall h_r6) (fun r7 h_r7 => pc_some h_r7))))) (fun _ => bk_st (BK.set h_s (fun y => absurd y (by omega))) (fun s2 h_s2 => pc_bd (bk_f_X6_readExp h_s2) (fun r8 h_r8 => pc_bd (bk_f_X2_need h_r8) (fun r9 h_r9 => pc_bd (bk_f_X6_takePort h_r9) (fun r10 h_r10 => bk_st (BK.set h_r10 (fun y => absurd y (by omega))) (fun s3 h_s3 => pc_bd (bk_f_X2_need h_s3) (fun r11 h_r11 => pc_bd (bk_f_X6_readExp h_r11) (fun r12 h_r12 => pc_bd (bk_f_X2_need h_r12) (fun r13 h_r13 => pc_bd (bk_f_X6_takePort h_r13) (fun r14 h_r14 => bk_st (BK.set h_r14 (fun y => absurd y (by omega))) (fun s4 h_s4 => pc_bd (bk_f_X0_emit h_s4) (fun r15 h_r15 => pc_some h_r15))))))))))))))) (fun _ => pc_none)
theorem bk_k_X6_readStatement_98 {rc : RT_X6_readAlts} {l1 : Int32} {l3 : Int32} {l4 : Int32} {l5 : Nat} {s : t_S} (hrc : BKB_X6_readAlts rc) (h_s : BK s) : t_pq (k_X6_readStatement_98 rc l1 l3 l4 l5 s) (fun y => BK y.2) := by
  unfold k_X6_readStatement_98
  exact pc_if (fun _ => pc_bd (bk_f_X6_readPlain h_s) (fun r1 h_r1 => (bk_k_X6_readStatement_315 hrc h_r1))) (fun _ => pc_if (fun _ => pc_bd (bk_f_X6_readAssignment h_s) (fun r2 h_r2 => pc_some h_r2)) (fun _ => pc_if (fun _ => pc_bd (bk_f_X6_readExp h_s) (fun r3 h_r3 => pc_if (fun z1 => pc_if (fun _ => bk_st (BK.set h_r3 (fun y => absurd y (bk_oka1 z1))) (fun s1 h_s1 => pc_bd (hrc.2.1 _ _ _ h_s1) (fun r6 h_r6 => pc_if (fun _ => bk_st (BK.set h_r6 (fun y => absurd y (bk_oka1 z1))) (fun s2 h_s2 => pc_bd (bk_f_X2_take h_s2) (fun r8 h_r8 => pc_if (fun _ => pc_some h_r8) (fun _ => pc_bd (hrc.2.1 _ _ _ h_r8) (fun r9 h_r9 => pc_if (fun _ => bk_st (BK.set h_r9 (fun y => absurd y (bk_oka1 z1))) (fun s3 h_s3 => pc_some h_s3)) (fun _ => pc_none)))))) (fun _ => pc_none)))) (fun _ => pc_none)) (fun _ => pc_none))) (fun _ => pc_if (fun _ => pc_bd (bk_f_X6_readExp h_s) (fun r11 h_r11 => pc_if (fun z2 => pc_if (fun _ => bk_st (BK.set h_r11 (fun y => absurd y (bk_oka1 z2))) (fun s4 h_s4 => pc_bd (hrc.2.1 _ _ _ h_s4) (fun r14 h_r14 => pc_if (fun _ => bk_st (BK.set h_r14 (fun y => absurd y (bk_oka1 z2))) (fun s5 h_s5 => pc_some h_s5)) (fun _ => pc_none)))) (fun _ => pc_none)) (fun _ => pc_none))) (fun _ => pc_if (fun _ => pc_bd (bk_f_X6_readPlain h_s) (fun r16 h_r16 => (bk_k_X6_readStatement_315 hrc h_r16))) (fun _ => pc_if (fun _ => pc_bd (bk_f_X6_readPlain h_s) (fun r17 h_r17 => (bk_k_X6_readStatement_315 hrc h_r17))) (fun _ => pc_if (fun _ => pc_bd (bk_f_X6_readPlain h_s) (fun r18 h_r18 => (bk_k_X6_readStatement_315 hrc h_r18))) (fun _ => pc_if (fun _ => pc_bd (bk_f_X6_readPlain h_s) (fun r19 h_r19 => (bk_k_X6_readStatement_315 hrc h_r19))) (fun _ => pc_if (fun _ => pc_bd (bk_f_X6_readPlain h_s) (fun r20 h_r20 => (bk_k_X6_readStatement_315 hrc h_r20))) (fun _ => pc_if (fun _ => pc_bd (hrc.1 _ _ _ h_s) (fun r21 h_r21 => pc_if (fun z3 => pc_if (fun _ => bk_st (BK.set h_r21 (fun y => absurd y (bk_oka1 z3))) (fun s6 h_s6 => pc_some h_s6)) (fun _ => pc_none)) (fun _ => pc_none))) (fun _ => pc_if (fun _ => pc_bd (bk_f_X6_readEvent h_s) (fun r24 h_r24 => (bk_k_X6_readStatement_315 hrc h_r24))) (fun _ => pc_if (fun _ => pc_bd (bk_f_X6_readEvent h_s) (fun r25 h_r25 => (bk_k_X6_readStatement_315 hrc h_r25))) (fun _ => pc_if (fun _ => pc_bd (bk_f_X6_readEvent h_s) (fun r26 h_r26 => (bk_k_X6_readStatement_315 hrc h_r26))) (fun _ => pc_if (fun _ => pc_bd (bk_f_X6_readPlain h_s) (fun r27 h_r27 => (bk_k_X6_readStatement_315 hrc h_r27))) (fun _ => pc_if (fun _ => pc_bd (bk_f_X6_readPlain h_s) (fun r28 h_r28 => (bk_k_X6_readStatement_315 hrc h_r28))) (fun _ => pc_if (fun _ => pc_bd (bk_f_X6_readOfComponents h_s) (fun r29 h_r29 => (bk_k_X6_readStatement_315 hrc h_r29))) (fun _ => pc_if (fun _ => pc_bd (bk_f_X6_readOfComponents h_s) (fun r30 h_r30 => (bk_k_X6_readStatement_315 hrc h_r30))) (fun _ => pc_if (fun _ => pc_bd (bk_f_X6_readOfComponents h_s) (fun r31 h_r31 => (bk_k_X6_readStatement_315 hrc h_r31))) (fun _ => pc_if (fun _ => pc_bd (bk_f_X6_readPlain h_s) (fun r32 h_r32 => (bk_k_X6_readStatement_315 hrc h_r32))) (fun _ => pc_bd (bk_f_X6_readOfComponents h_s) (fun r33 h_r33 => (bk_k_X6_readStatement_315 hrc h_r33)))))))))))))))))))))
theorem bk_k_X6_readStatement_44 {rc : RT_X6_readAlts} {l1 : Int32} {l2 : Int32} {l3 : Int32} {s : t_S} (hrc : BKB_X6_readAlts rc) (h_s : BK s) : t_pq (k_X6_readStatement_44 rc l1 l2 l3 s) (fun y => BK y.2) := by
  unfold k_X6_readStatement_44
  exact pc_if (fun _ => pc_bd (bk_f_X5_addStep h_s) (fun r1 h_r1 => pc_if (fun _ => pc_if (fun _ => (bk_k_X6_readStatement_98 hrc h_r1)) (fun _ => pc_if (fun _ => pc_bd (bk_f_X2_advance h_r1) (fun r4 h_r4 => (bk_k_X6_readStatement_98 hrc h_r4))) (fun _ => (bk_k_X6_readStatement_98 hrc h_r1)))) (fun _ => pc_none))) (fun _ => pc_some h_s)
theorem bk_k_X6_readStatement_23 {rc : RT_X6_readAlts} {l1 : Int32} {l2 : Int32} {l3 : Int32} {s : t_S} (hrc : BKB_X6_readAlts rc) (h_s : BK s) : t_pq (k_X6_readStatement_23 rc l1 l2 l3 s) (fun y => BK y.2) := by
  unfold k_X6_readStatement_23
  exact pc_if (fun _ => (bk_k_X6_readStatement_44 hrc h_s)) (fun _ => pc_bd (bk_f_X2_fail h_s) (fun r1 h_r1 => (bk_k_X6_readStatement_44 hrc h_r1)))
theorem bk_m_X6_readStatement {rc : RT_X6_readAlts} {x1 : Int32} {x2 : Int32} {s : t_S} (hrc : BKB_X6_readAlts rc) (h_s : BK s) : t_pq (m_X6_readStatement rc x1 x2 s) (fun y => BK y.2) := by
  unfold m_X6_readStatement
  exact pc_if (fun _ => pc_bd (bk_f_X2_fail h_s) (fun r2 h_r2 => (bk_k_X6_readStatement_23 hrc h_r2))) (fun _ => (bk_k_X6_readStatement_23 hrc h_s))
theorem BKB_X6_readAlts_R : ∀ n, BKB_X6_readAlts (R_X6_readAlts n) := by
  intro n
  induction n with
  | zero => exact ⟨fun _ _ _ _ => pc_none, fun _ _ _ _ => pc_none, fun _ _ _ _ _ => pc_none, fun _ _ _ _ => pc_none, fun _ _ _ _ => pc_none⟩
  | succ n ih => exact ⟨fun _ _ _ h => bk_m_X6_readAlts ih h, fun _ _ _ h => bk_m_X6_readBlock ih h, fun _ _ _ _ h => bk_m_X6_readBraces ih h, fun _ _ _ h => bk_m_X6_readBranch ih h, fun _ _ _ h => bk_m_X6_readStatement ih h⟩
theorem bk_f_X6_readAlts {x1 : Int32} {x2 : Int32} {s : t_S} (h_s : BK s) : t_pq (f_X6_readAlts x1 x2 s) (fun y => BK y.2) := by
  unfold f_X6_readAlts
  exact ((BKB_X6_readAlts_R 100).1 _ _ _ h_s)
theorem bk_k_X6_readUnitItem_205 {k0 : Int32} {k1 : Int32} {s : t_S} (h_s : BK s) : t_pq (k_X6_readUnitItem_205 k0 k1 s) (fun y => BK y) := by
  unfold k_X6_readUnitItem_205
  exact pc_if (fun _ => bk_st (BK.set h_s (fun y => absurd y (by decide))) (fun s1 h_s1 => bk_st (BK.set h_s1 (fun y => absurd y (by decide))) (fun s2 h_s2 => bk_st (BK.set h_s2 (fun y => absurd y (by decide))) (fun s3 h_s3 => pc_some h_s3)))) (fun _ => pc_none)
theorem bk_f_X6_readBlock {x1 : Int32} {x2 : Int32} {s : t_S} (h_s : BK s) : t_pq (f_X6_readBlock x1 x2 s) (fun y => BK y.2) := by
  unfold f_X6_readBlock
  exact ((BKB_X6_readAlts_R 100).2.1 _ _ _ h_s)
theorem bk_k_X6_readUnitItem_165 {l1 : Int32} {s : t_S} (h_s : BK s) : t_pq (k_X6_readUnitItem_165 l1 s) (fun y => BK y) := by
  unfold k_X6_readUnitItem_165
  exact pc_bd (bk_f_X2_need h_s) (fun r1 h_r1 => pc_if (fun _ => pc_bd (bk_f_X6_readAlts h_r1) (fun r3 h_r3 => (bk_k_X6_readUnitItem_205 h_r3))) (fun _ => pc_bd (bk_f_X6_readBlock h_r1) (fun r2 h_r2 => (bk_k_X6_readUnitItem_205 h_r2))))
theorem bk_k_X6_readParameters_2 {l1 : Int32} {s : t_S} (h_s : BK s) : t_pq (k_X6_readParameters_2 l1 s) (fun z => Sum.elim (fun y => BK y.2) (fun y => BK y) z) := by
  unfold k_X6_readParameters_2
  exact pc_if (fun _ => pc_mp (pc_some h_s)) (fun _ => pc_bd (bk_f_X6_takePlace h_s) (fun r1 h_r1 => pc_if (fun _ => pc_if (fun _ => bk_st (BK.set h_r1 (fun y => absurd y (by decide))) (fun s1 h_s1 => pc_if (fun _ => bk_st (BK.set h_s1 (fun y => absurd y (by decide))) (fun s2 h_s2 => pc_bd (bk_f_X2_take h_s2) (fun r4 h_r4 => pc_if (fun _ => pc_mp (pc_some h_r4)) (fun _ => pc_some h_r4)))) (fun _ => pc_none))) (fun _ => pc_none)) (fun _ => pc_mp (pc_some h_r1))))
theorem bk_b_X6_readParameters_2 {x : Int32 × t_S} (h : BK x.2) : t_pq (b_X6_readParameters_2 x) (fun z => Sum.elim (fun y => BK y.2) (fun y => BK y) z) := bk_k_X6_readParameters_2 h
theorem bk_f_X6_readParameters {s : t_S} (h_s : BK s) : t_pq (f_X6_readParameters s) (fun y => BK y) := by
  unfold f_X6_readParameters
  exact pc_lp (fun x h => bk_b_X6_readParameters_2 h) h_s
theorem bk_k_X6_readUnitItem_122 {l1 : Int32} {k0 : Int32} {s : t_S} (h_s : BK s) : t_pq (k_X6_readUnitItem_122 l1 k0 s) (fun y => BK y) := by
  unfold k_X6_readUnitItem_122
  exact bk_st (BK.set h_s (fun y => absurd y (by decide))) (fun s1 h_s1 => pc_bd (bk_f_X6_link h_s1) (fun r1 h_r1 => pc_bd (bk_f_X2_need h_r1) (fun r2 h_r2 => pc_if (fun _ => (bk_k_X6_readUnitItem_165 h_r2)) (fun _ => pc_if (fun _ => (bk_k_X6_readUnitItem_165 h_r2)) (fun _ => pc_bd (bk_f_X6_readParameters h_r2) (fun r3 h_r3 => (bk_k_X6_readUnitItem_165 h_r3)))))))
theorem bk_k_X6_readUnitItem_121 {l1 : Int32} {s : t_S} (h_s : BK s) : t_pq (k_X6_readUnitItem_121 l1 s) (fun y => BK y) := by
  unfold k_X6_readUnitItem_121
  exact (bk_k_X6_readUnitItem_122 h_s)
theorem bk_k_X6_readUnitItem_97 {l1 : Int32} {k0 : Int32} {s : t_S} (h_s : BK s) : t_pq (k_X6_readUnitItem_97 l1 k0 s) (fun y => BK y) := by
  unfold k_X6_readUnitItem_97
  exact pc_if (fun _ => (bk_k_X6_readUnitItem_121 h_s)) (fun _ => pc_if (fun _ => (bk_k_X6_readUnitItem_121 h_s)) (fun _ => (bk_k_X6_readUnitItem_122 h_s)))
theorem bk_f_X6_readUnitItem {x1 : Int32} {s : t_S} (h_s : BK s) : t_pq (f_X6_readUnitItem x1 s) (fun y => BK y) := by
  unfold f_X6_readUnitItem
  exact pc_bd (bk_f_X2_advance h_s) (fun r1 h_r1 => pc_bd (bk_f_X6_takeName h_r1) (fun r2 h_r2 => pc_if (fun _ => pc_some h_r2) (fun _ => bk_st (BK.set h_r2 (fun y => absurd y (by decide))) (fun s1 h_s1 => pc_bd (bk_f_X5_addUnit h_s1) (fun r3 h_r3 => pc_bd (bk_f_X2_advance h_r3) (fun r4 h_r4 => pc_bd (bk_f_X2_need h_r4) (fun r5 h_r5 => pc_if (fun _ => pc_if (fun _ => (bk_k_X6_readUnitItem_97 h_r5)) (fun _ => pc_none)) (fun _ => (bk_k_X6_readUnitItem_97 h_r5)))))))))
theorem bk_mIt {s : t_S} (h : BK s) : t_pq (mIt s) BK := by
  unfold mIt
  exact pc_if (fun _ => bk_f_X2_fail h) (fun _ => pc_if (fun _ => bk_f_X6_readTypeItem h) (fun _ => pc_if (fun _ => bk_f_X6_readTemplateItem h) (fun _ => pc_if (fun _ => bk_f_X6_readComponentItem h) (fun _ => pc_if (fun _ => bk_f_X6_readUnitItem h) (fun _ => pc_if (fun _ => bk_f_X6_readUnitItem h) (fun _ => bk_f_X6_readUnitItem h))))))
