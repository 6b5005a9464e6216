/-! Level 2: exps worked out: the class's RECORD, its fields in order. -/
section
variable {r1 cs s : t_S} {D a H S i v b : Nat} {N M A K X T : Nat → Nat}
theorem mr_end (TT : TV D a H S v N M A cs r1) (hv : v ≤ 16) (hD : D < 3150) (ha : a + 2000 ≤ 48000) (hX : ∀ j, j < v → X j < 7934) (hK : ∀ i, i < v → ∃ t, vl_c t (N i) (K i) (cs.2.1 338 (a + A i))) (hT : SE (fun l => X (nF K v l)) (nW K v) T) (hJ : 1 + jR K N v v ≤ 120) (R : RG (s.2.1 340) (cs.2.1 338) a (nW K v) K N A X v) (h0 : vl_c (nW K v) (1 + jR K N v v) 6 (s.2.1 340 0)) (fr : l2_fr (fun b j => b = 340) cs s) : t_hk (((f_X8_sortFields 340 (0 : Int32) 341 s).bind (fun r1 => if t_ix (nI D) 3201 = true then (if t_cpok (0 : Int32) (r1.1 339 ((nI D).toNatClampNeg)) (nI (1 + jR K N v v)) 240 48000 = true then t_let (t_cpJ r1 340 338 (0 : Int32) (r1.1 339 ((nI D).toNatClampNeg)) (nI (1 + jR K N v v))) (fun s1 => if t_ix ((nI D) + (1 : Int32)) 3201 = true then t_let (t_setI s1 339 (((nI D) + (1 : Int32)).toNatClampNeg) ((s1.1 339 ((nI D).toNatClampNeg)) + (nI (1 + jR K N v v)))) (fun s2 => t_let (t_setI s2 334 7 ((nI D) + (1 : Int32))) (fun s3 => some (s3))) else none) else none) else none))) (fun c' => c'.1 334 7 = nI (D + 1) ∧ c'.1 339 (D + 1) = nI (a + (1 + jR K N v v)) ∧ vl_c (nW K v) (1 + jR K N v v) 6 (c'.2.1 338 a) ∧ (∀ i, i < nW K v → vl_c (X (nF K v (T i)) + 66) 1 9 (c'.2.1 338 (a + 1 + sm (fun q => 1 + N (nF K v (T q))) i)) ∧ ∀ d, d < N (nF K v (T i)) → c'.2.1 338 (a + 1 + sm (fun q => 1 + N (nF K v (T q))) i + 1 + d) = cs.2.1 338 (a + A (nF K v (T i)) + d)) ∧ l2_fr (fun b j => b = 340 ∨ b = 341 ∨ (b = 338 ∧ a ≤ j) ∨ (b = 339 ∧ j = D + 1) ∨ (b = 334 ∧ j = 7)) cs c') := by
  obtain ⟨⟨A0, TA⟩, T39, ⟨T7, T12⟩, _⟩ := id TT
  have wl := nW_le (K := K) v
  have t0 : cs.1 339 D = nI a := by
    have := T39 0 (by omega)
    rw [A0] at this
    exact this
  have Fv : ∀ l, l < nW K v → nF K v l < v := fun l hl => (nF_at v l hl).1
  have RF' : RF (s.2.1 340) (nW K v) (fun l => X (nF K v l)) (fun l => N (nF K v l)) := fun l hl => by
    obtain ⟨g1, g2⟩ := R l hl
    have pos := (TA (nF K v l) (Fv l hl)).2.2.pos
    obtain ⟨t, ht⟩ := hK (nF K v l) (Fv l hl)
    refine ⟨g1, t, K (nF K v l), ?_⟩
    have := g2 0 pos.1
    rw [Nat.add_zero, Nat.add_zero] at this
    show vl_c t (N (nF K v l)) _ (s.2.1 340 (1 + sm (fun q => 1 + N (nF K v q)) l + 1))
    rw [this]; exact ht
  have sums : sm (fun q => 1 + N (nF K v (T q))) (nW K v) = jR K N v v := se_sum (f := fun q => 1 + N (nF K v q)) (nW K v) T hT
  refine l2_bd _ (sof_all (n := 1 + jR K N v v) hT (by omega) (fun l hl => hX _ (Fv l hl)) RF' (by unfold jR at hJ; exact hJ) h0) (fun s6 h6 => ?_)
  obtain ⟨c1, c2, c3⟩ := h6
  have f6 : l2_fr (fun b j => b = 340 ∨ b = 341) cs s6 := (fr.mono (fun b j y => Or.inl y)).trans c3
  have e39 : s6.1 339 D = nI a := by rw [(f6 339 D (by omega)).1]; exact t0
  refine l2_ck (l2_ix (by omega) (by decide)) ?_
  rw [nI_clamp (n := D) (by omega), e39]
  refine l2_ck (cp_ok (x := 0) (by omega) (by omega) (by omega) (by omega) (by omega)) (l2_lt ?_)
  obtain ⟨p1, p2, p3⟩ := cp_at (s := s6) (a := 340) (b := 338) (x := 0) (y := a) (m := 1 + jR K N v v) (by omega) (by omega) (by omega)
  have p1 : (t_cpJ s6 340 338 (0 : Int32) (nI a) (nI (1 + jR K N v v))).1 = s6.1 := p1
  have p2 : ∀ d, d < 1 + jR K N v v → (t_cpJ s6 340 338 (0 : Int32) (nI a) (nI (1 + jR K N v v))).2.1 338 (a + d) = s6.2.1 340 (0 + d) := p2
  have p3 : l2_fr _ s6 (t_cpJ s6 340 338 (0 : Int32) (nI a) (nI (1 + jR K N v v))) := p3
  generalize t_cpJ s6 340 338 (0 : Int32) (nI a) (nI (1 + jR K N v v)) = s7 at *
  rw [nI_1, p1, e39, nI_add]
  refine l2_ck (l2_ix (by omega) (by decide)) (l2_lt (l2_lt (l2_sm ?_)))
  rw [nI_clamp (n := D + 1) (by omega)]
  have Ob : ∀ i, i < nW K v → sm (fun q => 1 + N (nF K v (T q))) i + (1 + N (nF K v (T i))) ≤ jR K N v v := fun i hi => by
    have := sm_mono (f := fun q => 1 + N (nF K v (T q))) (nW K v - (i + 1)) (i + 1)
    rw [show i + 1 + (nW K v - (i + 1)) = nW K v by omega, sums, sm_s] at this
    exact this
  refine ⟨?_, ?_, ?_, fun i hi => ?_, ?_⟩
  · rw [l2_g, if_pos rfl]
  · rw [l2_sO (by decide), l2_g, if_pos rfl]
  · show vl_c _ _ _ (s7.2.1 338 a)
    have := p2 0 (by omega)
    rw [Nat.add_zero, Nat.add_zero] at this
    rw [this, c2]; exact h0
  · have ob := Ob i hi
    have cp := c1 i hi
    obtain ⟨g1, g2⟩ := R (T i) (hT.1 i hi)
    refine ⟨?_, fun d hd => ?_⟩
    · show vl_c _ 1 9 (s7.2.1 338 (a + 1 + sm (fun q => 1 + N (nF K v (T q))) i))
      have q := cp 0 (by omega)
      rw [Nat.add_zero, Nat.add_zero] at q
      rw [show a + 1 + sm (fun q => 1 + N (nF K v (T q))) i = a + (1 + sm (fun q => 1 + N (nF K v (T q))) i) by omega, p2 _ (by omega), Nat.zero_add, q]
      exact g1
    · show s7.2.1 338 (a + 1 + sm (fun q => 1 + N (nF K v (T q))) i + 1 + d) = _
      have q := cp (1 + d) (by omega)
      rw [show a + 1 + sm (fun q => 1 + N (nF K v (T q))) i + 1 + d = a + (1 + sm (fun q => 1 + N (nF K v (T q))) i + (1 + d)) by omega, p2 _ (by omega), Nat.zero_add, q, ← g2 d hd]
      show s.2.1 340 (1 + sm (fun l => 1 + N (nF K v l)) (T i) + (1 + d)) = _
      rw [Nat.add_assoc (1 + sm (fun l => 1 + N (nF K v l)) (T i)) 1 d]
  · exact (f6.mono (fun b j y => by omega)).trans ((p3.mono (fun b j y => by omega)).trans ((l2_fr.set (by omega)).trans (l2_fr.set (by omega))))
/-- the class's RECORD: how many fields, how heavy -/
theorem mr_37 {Q : t_S → Prop} (TT : TV D a H S v N M A cs r1) (hv : v ≤ 16) (hD : D < 3150) (ha : a + 2000 ≤ 48000) (hK : ∀ i, i < v → ∃ t, vl_c t (N i) (K i) (cs.2.1 338 (a + A i))) (f1 : 1 + jR K N v v ≤ 120 → t_hk (t_loop (b_X0_makeRecord_133) t_N (nI b, nI D, nI (1 + jR K N v v), 1, nI D, t_setJ cs 340 0 (f_X8_cell (6 : Int32) (nI (1 + jR K N v v)) (nI (nW K v)).toInt64 cs))) Q) (f2 : ¬ 1 + jR K N v v ≤ 120 → Q (t_setI cs 334 12 3)) : t_hk (f_X0_makeRecord (nI v) (nI b) cs) Q := by
  obtain ⟨⟨A0, TA⟩, T39, ⟨T7, T12⟩, _⟩ := id TT
  have At := TT.lt
  have Jb : ∀ i, i ≤ v → jR K N v i ≤ 121 * i := fun i => by
    induction i with
    | zero => intro _; exact Nat.le_refl _
    | succ i ih =>
      intro hi
      have q := ih (by omega)
      have n1 := (TA i (by omega)).2.1
      by_cases e : K i = 4
      · rw [jR_o e]; omega
      · rw [jR_n e (by omega)]; omega
  have sb : nI (D + v) - nI v = nI D := by rw [Nat.add_comm]; exact vr_len
  unfold f_X0_makeRecord
  rw [if_neg (nI_pos (by omega)), T7, if_neg (nI_nlt (by omega) (by omega)), show f_X0_hasRoom (1 : Int32) cs = some (1, cs) from cs_room (x := 1) T7 (T39 v (Nat.le_refl _)) (by omega) (by omega), l2_bs, if_neg (show ¬ (1 : Int32) = 0 by decide)]
  show t_hk (t_loop (b_X0_makeRecord_37) t_N (nI b, cs.1 334 7 - nI v, 0, 1, cs.1 334 7 - nI v, cs)) Q
  rw [T7, sb]
  refine l2_lp (fun m z => ∃ i, i + m = v ∧ z = (nI b, nI D, nI (nW K i), nI (1 + jR K N v i), nI (D + i), cs)) ?_ (m := v) (Nat.lt_trans (show v < 1000000000 by omega) l2_N) ⟨0, by omega, rfl⟩
  rintro m z ⟨i, hi, rfl⟩
  show t_hk (k_X0_makeRecord_37 (nI b) (nI D) (nI (nW K i)) (nI (1 + jR K N v i)) (nI (D + i)) cs) _
  unfold k_X0_makeRecord_37
  have jb := Jb i (by omega)
  have wl := nW_le (K := K) i
  rw [T7]
  by_cases d : i = v
  · subst d
    refine l2_ck (nI_le (Nat.le_refl _) (by omega)) (l2_mp ?_)
    by_cases c : 1 + jR K N i i ≤ 120
    · exact l2_ck (nI_le (b := 120) c (by decide)) (l2_lt (f1 c))
    · exact l2_no (show ¬ nI (1 + jR K N i i) ≤ (120 : Int32) from nI_ge (a := 120) (by omega) (by omega)) (l2_lt (l2_sm (f2 c)))
  · have iv : i < v := by omega
    have le := TT.le (v - i) i (by omega)
    rw [show i + (v - i) = v by omega] at le
    obtain ⟨t, ht⟩ := hK i iv
    have kb := ht.2.2
    have q4 : nI (K i) = (4 : Int32) ↔ K i = 4 := nI_eq (b := 4) (by omega) (by decide)
    obtain ⟨t1, t2, _⟩ := TA i iv
    refine l2_no (nI_ge (by omega) (by omega)) (l2_ck (l2_ix (by omega) (by decide)) ?_)
    rw [nI_clamp (n := D + i) (by omega), T39 i (by omega)]
    refine l2_ck (l2_ix (by omega) (by decide)) ?_
    rw [nI_clamp (n := a + A i) (by omega), vl_kind ht]
    unfold k_X0_makeRecord_92
    by_cases e : K i = 4
    · refine l2_ck (q4.mpr e) ?_
      have w1 : nW K (i + 1) = nW K i := by show (if K i = 4 then _ else _) = _; rw [if_pos e]
      rw [nI_1, show D + i + 1 = D + (i + 1) by omega, ← w1, ← jR_o (N := N) (v := v) e]
      exact l2_sm ⟨m - 1, by omega, i + 1, by omega, by rw [w1, jR_o e]⟩
    · refine l2_no (fun y => e (q4.mp y)) ?_
      have w1 : nW K (i + 1) = nW K i + 1 := by show (if K i = 4 then _ else _) = _; rw [if_neg e]
      have j1 := jR_n (N := N) e iv
      rw [nI_1 (D + i)]
      refine l2_ck (l2_ix (by omega) (by decide)) ?_
      have sM : (1 : Int32) + nI (a + A (i + 1)) - nI (a + A i) = nI (1 + N i) := by
        rw [show (1 : Int32) = nI 1 from rfl, nI_add, t1, show 1 + (a + (A i + N i)) = (a + A i) + (1 + N i) by omega]; exact vr_len
      rw [nI_clamp (n := D + i + 1) (by omega), show D + i + 1 = D + (i + 1) by omega, T39 (i + 1) (by omega), sM, nI_add, nI_1]
      exact l2_sm ⟨m - 1, by omega, i + 1, by omega, by rw [w1, j1, Nat.add_assoc]⟩
end
