/-! Level 2: exps worked out: the class's RECORD out of its parts. -/
theorem nW_m {K : Nat → Nat} : ∀ d i, nW K i ≤ nW K (i + d) := by
  intro d
  induction d with
  | zero => intro i; exact Nat.le_refl _
  | succ d ih =>
    intro i
    have := ih i
    have e : nW K (i + (d + 1)) = (if K (i + d) = 4 then nW K (i + d) else nW K (i + d) + 1) := rfl
    rw [e]
    split <;> omega
theorem nF_st {K : Nat → Nat} : ∀ d i l, l < nW K i → nF K (i + d) l = nF K i l := by
  intro d
  induction d with
  | zero => intro i l _; rfl
  | succ d ih =>
    intro i l h
    have := nW_m (K := K) d i
    rw [show i + (d + 1) = i + d + 1 by omega, nF_s (by omega), ih i l h]
section
variable {r1 cs : t_S} {D a H S i v b w : Nat} {N M A K X T : Nat → Nat}
/-- where the next field's cells begin -/
def jR (K N : Nat → Nat) (v i : Nat) : Nat := sm (fun l => 1 + N (nF K v l)) (nW K i)
theorem jR_o (h : K i = 4) : jR K N v (i + 1) = jR K N v i := by
  unfold jR
  rw [show nW K (i + 1) = nW K i by show (if K i = 4 then _ else _) = _; rw [if_pos h]]
theorem jR_n (h : K i ≠ 4) (hi : i < v) : jR K N v (i + 1) = jR K N v i + (1 + N i) := by
  unfold jR
  have e : nF K v (nW K i) = i := by
    have w1 : nW K (i + 1) = nW K i + 1 := by show (if K i = 4 then _ else _) = _; rw [if_neg h]
    have := nF_st (K := K) (v - (i + 1)) (i + 1) (nW K i) (by omega)
    rw [show i + 1 + (v - (i + 1)) = v by omega] at this
    rw [this, nF_n h]
  rw [show nW K (i + 1) = nW K i + 1 by show (if K i = 4 then _ else _) = _; rw [if_neg h], sm_s, e]
theorem jR_m {d : Nat} (h : i + d ≤ v) : jR K N v i ≤ jR K N v (i + d) := by
  unfold jR
  have := nW_m (K := K) d i
  have q := sm_mono (f := fun l => 1 + N (nF K v l)) (nW K (i + d) - nW K i) (nW K i)
  rw [show nW K i + (nW K (i + d) - nW K i) = nW K (i + d) by omega] at q
  exact q
/-- fields so far, behind a head in array 340 -/
def RG (c c0 : Nat → Int64) (a m : Nat) (K N A X : Nat → Nat) (v : Nat) : Prop := ∀ l, l < m → vl_c (X (nF K v l) + 66) 1 9 (c (1 + sm (fun l => 1 + N (nF K v l)) l)) ∧ ∀ d, d < N (nF K v l) → c (1 + sm (fun l => 1 + N (nF K v l)) l + 1 + d) = c0 (a + A (nF K v l) + d)
theorem mr_133 {s1 : t_S} {Q : t_S → Prop} (TT : TV D a H S v N M A cs r1) (hv : v ≤ 16) (hD : D < 3150) (ha : a + 2000 ≤ 48000) (hb : b + v ≤ 16000) (hX : ∀ j, j < v → X j < 7934) (hK : ∀ i, i < v → ∃ t, vl_c t (N i) (K i) (cs.2.1 338 (a + A i))) (hN : ∀ i, i < v → cs.1 336 (b + i) = nI (66 + X i)) (f0 : l2_fr (fun b j => b = 340) cs s1) (hJ : 1 + jR K N v v ≤ 120) (fin : ∀ s, RG (s.2.1 340) (cs.2.1 338) a (nW K v) K N A X v → s.2.1 340 0 = s1.2.1 340 0 → l2_fr (fun b j => b = 340) cs s → t_hk (((f_X8_sortFields 340 (0 : Int32) 341 s).bind (fun r1 => if t_ix (nI D) 3201 = true then (if t_cpok (0 : Int32) (r1.1 339 ((nI D).toNatClampNeg)) (nI (1 + jR K N v v)) 240 48000 = true then t_let (t_cpJ r1 340 338 (0 : Int32) (r1.1 339 ((nI D).toNatClampNeg)) (nI (1 + jR K N v v))) (fun s1 => if t_ix ((nI D) + (1 : Int32)) 3201 = true then t_let (t_setI s1 339 (((nI D) + (1 : Int32)).toNatClampNeg) ((s1.1 339 ((nI D).toNatClampNeg)) + (nI (1 + jR K N v v)))) (fun s2 => t_let (t_setI s2 334 7 ((nI D) + (1 : Int32))) (fun s3 => some (s3))) else none) else none) else none))) Q) : t_hk (t_loop (b_X0_makeRecord_133) t_N (nI b, nI D, nI (1 + jR K N v v), 1, nI D, s1)) Q := by
  obtain ⟨⟨A0, TA⟩, T39, ⟨T7, T12⟩, _⟩ := id TT
  have At := TT.lt
  have J0 : jR K N v 0 = 0 := rfl
  refine l2_lp (fun m z => ∃ i s, i + m = v ∧ z = (nI b, nI D, nI (1 + jR K N v v), nI (1 + jR K N v i), nI (D + i), s) ∧ RG (s.2.1 340) (cs.2.1 338) a (nW K i) K N A X v ∧ s.2.1 340 0 = s1.2.1 340 0 ∧ l2_fr (fun b j => b = 340) cs s) ?_ (m := v) (Nat.lt_trans (show v < 1000000000 by omega) l2_N) ⟨0, s1, by omega, by rw [J0]; rfl, fun l hl => absurd hl (by unfold nW; omega), rfl, f0⟩
  rintro m z ⟨i, s, hi, rfl, R, e0, fr⟩
  show t_hk (k_X0_makeRecord_133 (nI b) (nI D) (nI (1 + jR K N v v)) (nI (1 + jR K N v i)) (nI (D + i)) s) _
  unfold k_X0_makeRecord_133
  have s7 : s.1 334 7 = nI (D + v) := by rw [(fr 334 7 (by decide)).1]; exact T7
  rw [s7]
  by_cases d : i = v
  · subst d
    exact l2_ck (nI_le (Nat.le_refl _) (by omega)) (l2_mp (fin s R e0 fr))
  · have iv : i < v := by omega
    have le := TT.le (v - i) i (by omega)
    rw [show i + (v - i) = v by omega] at le
    have le2 := TT.le (v - (i + 1)) (i + 1) (by omega)
    rw [show i + 1 + (v - (i + 1)) = v by omega] at le2
    have s39 : ∀ q, q ≤ v → s.1 339 (D + q) = nI (a + A q) := fun q hq => by rw [(fr 339 (D + q) (show ¬ 339 = 340 by decide)).1]; exact T39 q hq
    obtain ⟨t, ht⟩ := hK i iv
    have s38 : ∀ q, s.2.1 338 q = cs.2.1 338 q := fun q => (fr 338 q (show ¬ 338 = 340 by decide)).2.1
    have s36 : s.1 336 (b + i) = nI (66 + X i) := by rw [(fr 336 (b + i) (show ¬ 336 = 340 by decide)).1]; exact hN i iv
    have kb := ht.2.2
    have q4 : nI (K i) = (4 : Int32) ↔ K i = 4 := nI_eq (b := 4) (by omega) (by decide)
    obtain ⟨t1, t2, _⟩ := TA i iv
    refine l2_no (nI_ge (by omega) (by omega)) (l2_ck (l2_ix (by omega) (by decide)) ?_)
    rw [nI_clamp (n := D + i) (by omega), s39 i (by omega)]
    refine l2_ck (l2_ix (by omega) (by decide)) ?_
    rw [nI_clamp (n := a + A i) (by omega), s38, vl_kind ht]
    by_cases e : K i = 4
    · refine l2_ck (q4.mpr e) ?_
      unfold k_X0_makeRecord_248
      have w1 : nW K (i + 1) = nW K i := by show (if K i = 4 then _ else _) = _; rw [if_pos e]
      have j1 := jR_o (N := N) (v := v) e
      rw [nI_1, show D + i + 1 = D + (i + 1) by omega, ← j1]
      exact l2_sm ⟨m - 1, by omega, i + 1, s, by omega, rfl, by rw [w1]; exact R, e0, fr⟩
    · refine l2_no (fun y => e (q4.mp y)) ?_
      have w1 : nW K (i + 1) = nW K i + 1 := by show (if K i = 4 then _ else _) = _; rw [if_neg e]
      have j1 := jR_n (N := N) e iv
      have j2 := jR_m (K := K) (N := N) (v := v) (i := i + 1) (d := v - (i + 1)) (by omega)
      rw [show i + 1 + (v - (i + 1)) = v by omega] at j2
      have xi := hX i iv
      have fe : nF K v (nW K i) = i := by
        have := nF_st (K := K) (v - (i + 1)) (i + 1) (nW K i) (by omega)
        rw [show i + 1 + (v - (i + 1)) = v by omega] at this
        rw [this, nF_n e]
      have sb : nI b + nI (D + i) - nI D = nI (b + i) := by
        rw [nI_add, show b + (D + i) = D + (b + i) by omega]; exact vr_len
      rw [sb]
      refine l2_ck (l2_ix (by omega) (by decide)) (l2_ck (l2_ix (by omega) (by decide)) (l2_lt ?_))
      rw [nI_clamp (n := 1 + jR K N v i) (by omega), nI_clamp (n := b + i) (by omega), s36]
      have hc : vl_c ((X i : Int) + 66) 1 9 (f_X8_plainCell (9 : Int32) (nI (66 + X i)).toInt64 s) := by
        have := vl_plain (t := ((66 + X i : Nat) : Int)) (x := (nI (66 + X i)).toInt64) (k := 9) (nI_lT (by omega)) (by omega) (by decide) (s := s) (y := 9) rfl
        rw [show ((66 + X i : Nat) : Int) = (X i : Int) + 66 by omega] at this
        exact this
      generalize f_X8_plainCell (9 : Int32) (nI (66 + X i)).toInt64 s = x at *
      have f1 : l2_fr (fun q j => q = 340 ∧ j = 1 + jR K N v i) s (t_setJ s 340 (1 + jR K N v i) x) := l2_fr.setJ ⟨rfl, rfl⟩
      have v1 : (t_setJ s 340 (1 + jR K N v i) x).2.1 340 (1 + jR K N v i) = x := by rw [l2_jJ, l2_upif, if_pos rfl]
      have i1 : (t_setJ s 340 (1 + jR K N v i) x).1 = s.1 := l2_jI
      generalize t_setJ s 340 (1 + jR K N v i) x = s4 at *
      rw [nI_1 (D + i)]
      refine l2_ck (l2_ix (by omega) (by decide)) ?_
      have sN : nI (a + A (i + 1)) - nI (a + A i) = nI (N i) := by
        rw [t1, ← Nat.add_assoc]; exact vr_len
      rw [nI_clamp (n := D + i + 1) (by omega), i1, s39 i (by omega), show D + i + 1 = D + (i + 1) by omega, s39 (i + 1) (by omega), sN, nI_1 (1 + jR K N v i)]
      refine l2_ck (cp_ok (by omega) (by omega) (by omega) (by omega) (by omega)) (l2_lt ?_)
      obtain ⟨p1, p2, p3⟩ := cp_at (s := s4) (a := 338) (b := 340) (x := a + A i) (y := 1 + jR K N v i + 1) (m := N i) (by omega) (by omega) (by omega)
      generalize t_cpJ s4 338 340 (nI (a + A i)) (nI (1 + jR K N v i + 1)) (nI (N i)) = s5 at *
      unfold k_X0_makeRecord_248
      have sM : (1 : Int32) + nI (a + A (i + 1)) - nI (a + A i) = nI (1 + N i) := by
        rw [show (1 : Int32) = nI 1 from rfl, nI_add, t1, show 1 + (a + (A i + N i)) = (a + A i) + (1 + N i) by omega]; exact vr_len
      rw [p1, i1, s39 i (by omega), s39 (i + 1) (by omega), sM, nI_add, nI_1, show 1 + jR K N v i + (1 + N i) = 1 + jR K N v (i + 1) by omega, show D + i + 1 = D + (i + 1) by omega]
      have fA : l2_fr (fun q j => q = 340 ∧ 1 + jR K N v i ≤ j) s s5 := (f1.mono (fun b j y => by omega)).trans (p3.mono (fun b j y => by omega))
      refine l2_sm ⟨m - 1, by omega, i + 1, s5, by omega, rfl, fun l hl => ?_, by rw [(fA 340 0 (by omega)).2.1]; exact e0, fr.trans (fA.mono (fun b j y => y.1))⟩
      rw [w1] at hl
      by_cases c : l = nW K i
      · subst c
        rw [fe]
        refine ⟨?_, fun d hd => ?_⟩
        · show vl_c _ 1 9 (s5.2.1 340 (1 + jR K N v i))
          rw [(p3 340 _ (by omega)).2.1, v1]; exact hc
        · show s5.2.1 340 (1 + jR K N v i + 1 + d) = _
          rw [p2 d hd, (f1 338 _ (by omega)).2.1, s38]
      · obtain ⟨g1, g2⟩ := R l (by omega)
        have lt : sm (fun l => 1 + N (nF K v l)) (l + 1) ≤ jR K N v i := by
          have q := sm_mono (f := fun l => 1 + N (nF K v l)) (nW K i - (l + 1)) (l + 1)
          rw [show l + 1 + (nW K i - (l + 1)) = nW K i by omega] at q
          exact q
        rw [sm_s] at lt
        refine ⟨by rw [(fA 340 _ (by omega)).2.1]; exact g1, fun d hd => by rw [(fA 340 _ (by omega)).2.1]; exact g2 d hd⟩
end
