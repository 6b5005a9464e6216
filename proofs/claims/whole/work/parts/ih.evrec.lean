/-! Level 2: exps worked out: a RECORD out of its parts, both sides. -/
theorem sm_1 {f : Nat → Nat} : ∀ m, sm (fun l => 1 + f l) m = m + sm f m := by
  intro m
  induction m with
  | zero => rfl
  | succ m ih => rw [sm_s, sm_s, ih]; omega
section
variable {r1 cs s : t_S} {D a H S i v b n w : Nat} {N M A K X T G AD P E Y : Nat → Nat} {cc R c2 : Nat → Int64} {rc : RT_X13_behindFirst}
/-- a RECORD -/
theorem mr_rec (e0 : R 0 = lN 6) (e1 : R 1 = lN w) (nm : ∀ l, l < w → R (2 + l) = lN (Y l)) (m : MR cc R (2 + w) w AD P N) (P0 : P 0 = 0) (hd : vl_c w (1 + sm (fun q => 1 + N q) w) 6 (c2 a)) (h120 : 1 + sm (fun q => 1 + N q) w ≤ 120) (hY : ∀ l, l < w → Y l < 7934) (up : ∀ l, l + 1 < w → Y l < Y (l + 1)) (cp : ∀ j, j < w → vl_c (Y j + 66) 1 9 (c2 (a + 1 + sm (fun q => 1 + N q) j)) ∧ ∀ d, d < N j → c2 (a + 1 + sm (fun q => 1 + N q) j + 1 + d) = cc (AD j + d)) : VW c2 R 120 a 0 (1 + sm (fun q => 1 + N q) w) (2 + w + P w) := by
  refine ⟨⟨by omega, h120, by omega⟩, w, 6, hd, e0, Or.inr (Or.inr (Or.inr (Or.inr (Or.inr (Or.inr ⟨w, sm (fun q => 1 + N q), P, Y, rfl, rfl, e1, by omega, rfl, P0, by omega, by omega, fun j hj => ?_⟩)))))⟩
  obtain ⟨⟨q1, q2⟩, q3, q4⟩ := m j hj
  have pp := q4.pos
  have s1 : sm (fun q => 1 + N q) (j + 1) = sm (fun q => 1 + N q) j + (1 + N j) := rfl
  have s2 := sm_mono (f := fun q => 1 + N q) (w - (j + 1)) (j + 1)
  rw [show j + 1 + (w - (j + 1)) = w by omega] at s2
  obtain ⟨c1, c3⟩ := cp j hj
  refine ⟨⟨by omega, by omega, by omega, by omega⟩, ⟨hY j hj, up j, c1, by rw [Nat.zero_add]; exact nm j hj⟩, by rw [Nat.zero_add]; exact q3, ?_⟩
  rw [Nat.zero_add, s1, show sm (fun q => 1 + N q) j + (1 + N j) - sm (fun q => 1 + N q) j - 1 = N j by omega]
  exact VW.copy _ _ _ _ _ _ _ (VW.dep _ _ _ _ _ q4 119 (by omega)) (fun d hd => c3 d hd) (fun _ _ => rfl)
theorem k81_1 (h97 : r1.1 950 97 = 0) : k_X13_rowOf_81 rc (nI n) (nI H) (nI v) (nI 1) r1 = (f_X13_recordRow (nI n) (nI H) (nI v) r1).bind (fun y => k_X13_rowOf_218 rc (nI H) y.2) := by
  have q : k_X13_rowOf_136 rc (nI n) (nI H) (nI v) (nI 1) r1 = (f_X13_recordRow (nI n) (nI H) (nI v) r1).bind (fun y => k_X13_rowOf_218 rc (nI H) y.2) := by
    unfold k_X13_rowOf_136
    rw [if_pos h97, if_neg (by decide)]
  unfold k_X13_rowOf_81
  have nN := l2_N
  cases h : k_X13_rowOf_136 rc (nI n) (nI H) (nI v) (nI 1) r1 with
  | none =>
    have e : b_X13_rowOf_84 rc (nI n, nI H, nI v, nI 1, 0, r1) = none := by
      show k_X13_rowOf_84 rc (nI n) (nI H) (nI v) (nI 1) 0 r1 = none
      unfold k_X13_rowOf_84
      rw [h, if_neg (show ¬ nI 1 = (0 : Int32) by decide), ite_self]
      rfl
    rw [← q, h, show t_N = (t_N - 1) + 1 by omega]
    unfold t_loop
    rw [e]
  | some z =>
    rw [← q, h, show t_N = (t_N - 1) + 1 by omega]
    refine l2_lpR ?_
    show k_X13_rowOf_84 rc (nI n) (nI H) (nI v) (nI 1) 0 r1 = _
    unfold k_X13_rowOf_84
    rw [h, if_neg (show ¬ nI 1 = (0 : Int32) by decide), ite_self]
    rfl
theorem uo_mkrec (TT : TV D a H S v N M A cs r1) (hv : v ≤ 16) (hH : H < 750) (hD : D < 3150) (ha : a + 2000 ≤ 48000) (hb : b + v ≤ 16000) (hn : n < 13000) (hX : ∀ j, j < v → X j < 7934) (hDf : ∀ j j', j < v → j' < v → j ≠ j' → X j ≠ X j') (hN : ∀ i, i < v → cs.1 336 (b + i) = nI (66 + X i)) (h3 : ∀ s' : t_S, l2_fr (fun b _ => b = 1007 ∨ b = 1009) r1 s' → ch_R s' n v G ∧ ∀ j, j < v → s'.2.1 957 (G j) = lN (X j)) : UO D a H cs r1 (f_X0_makeRecord (nI v) (nI b) cs) (k_X13_rowOf_81 rc (nI n) (nI H) (nI v) (nI 1) r1) := by
  obtain ⟨⟨A0, TA⟩, T39, ⟨T7, T12⟩, T98, T97, T103⟩ := id TT
  have lt := TT.lt
  obtain ⟨K, hK⟩ : ∃ K : Nat → Nat, ∀ i, i < v → (∃ t, vl_c t (N i) (K i) (cs.2.1 338 (a + A i))) ∧ r1.2.1 1006 (260 * (40 + (H + i))) = lN (K i) ∧ K i ≤ 8 := by
    refine ⟨fun i => (r1.2.1 1006 (260 * (40 + (H + i)))).toInt.toNat, fun i hi => ?_⟩
    obtain ⟨t, k, hd, k8, p0, _⟩ := (TA i hi).2.2.hd1
    have : (r1.2.1 1006 (260 * (40 + (H + i)))).toInt.toNat = k := by rw [p0, pk_lT (by omega)]; rfl
    show (∃ t, vl_c t (N i) ((r1.2.1 1006 (260 * (40 + (H + i)))).toInt.toNat) (cs.2.1 338 (a + A i))) ∧ r1.2.1 1006 (260 * (40 + (H + i))) = lN ((r1.2.1 1006 (260 * (40 + (H + i)))).toInt.toNat) ∧ (r1.2.1 1006 (260 * (40 + (H + i)))).toInt.toNat ≤ 8
    rw [this]
    exact ⟨⟨t, hd⟩, p0, k8⟩
  have wl := nW_le (K := K) v
  rw [k81_1 T97]
  -- the reference's row
  obtain ⟨y, ey, T, P, hT, P0, PS, R, y0, y1, yn, fy⟩ := rr_row (Q := fun y => ∃ T P : Nat → Nat, SE (fun l => X (nF K v l)) (nW K v) T ∧ P 0 = 0 ∧ (∀ l, P (l + 1) = P l + M (nF K v (T l))) ∧ MR (cs.2.1 338) (y.2.2.1 1007) (2 + nW K v) (nW K v) (fun l => a + A (nF K v (T l))) P (fun l => N (nF K v (T l))) ∧ y.2.2.1 1007 0 = lN 6 ∧ y.2.2.1 1007 1 = lN (nW K v) ∧ (∀ l, l < nW K v → y.2.2.1 1007 (2 + l) = lN (X (nF K v (T l)))) ∧ l2_fr (fun b j => b = 1007 ∨ b = 1009) r1 y.2) (AD := fun j => a + A j) (N := N) (M := M) (K := K) (G := G) (X := X) (cc := cs.2.1 338) (s := r1) (H := H) hn hv (by omega) hX hDf h3 (fun i hi => (hK i hi).2) (fun j hj => (TA j hj).2.2) (fun y T P h1 h2 h3 h4 h5 h6 h7 h8 => ⟨T, P, h1, h2, h3, h4, h5, h6, h7, h8⟩)
  rw [ey, l2_bs]
  have Fv : ∀ l, l < nW K v → nF K v (T l) < v := fun l hl => (nF_at v (T l) (hT.1 l hl)).1
  have sums : sm (fun q => 1 + N (nF K v (T q))) (nW K v) = jR K N v v := se_sum (f := fun q => 1 + N (nF K v q)) (nW K v) T hT
  have s1 := sm_1 (f := fun q => N (nF K v (T q))) (nW K v)
  have Pb : ∀ l, l ≤ nW K v → P l ≤ 240 * l := fun l => by
    induction l with
    | zero => intro _; omega
    | succ l ih =>
      intro hl
      have q := ih (by omega)
      have V := (TA (nF K v (T l)) (Fv l (by omega))).2.2
      have p1 := V.pos
      have p2 := V.m2
      rw [PS]; omega
  have Pw := Pb (nW K v) (Nat.le_refl _)
  have Sb : ∀ l, l ≤ nW K v → sm (fun q => N (nF K v (T q))) l ≤ 120 * l := fun l => by
    induction l with
    | zero => intro _; exact Nat.le_refl _
    | succ l ih =>
      intro hl
      have q := ih (by omega)
      have V := (TA (nF K v (T l)) (Fv l (by omega))).2.1
      rw [sm_s]; omega
  have Sw := Sb (nW K v) (Nat.le_refl _)
  unfold k_X13_rowOf_218
  rw [t_let]
  have fz : l2_fr (oWr H) r1 (t_setI y.2 950 98 (nI H)) := (fy.mono (fun b j q => by unfold oWr; omega)).trans (l2_fr.set (Or.inl ⟨rfl, Or.inr rfl⟩))
  have z98 : (t_setI y.2 950 98 (nI H)).1 950 98 = nI H := by rw [l2_g, if_pos rfl]
  have z97 : (t_setI y.2 950 98 (nI H)).1 950 97 = 0 := by rw [l2_g, if_neg (by decide), (fy 950 97 (by omega)).1]; exact T97
  have zJ : (t_setI y.2 950 98 (nI H)).2.1 = y.2.2.1 := rfl
  generalize t_setI y.2 950 98 (nI H) = ry at *
  rw [← zJ] at R y0 y1 yn
  by_cases hJ : 1 + jR K N v v ≤ 120
  · have h0 : vl_c (nW K v) (1 + jR K N v v) 6 (f_X8_cell (6 : Int32) (nI (1 + jR K N v v)) (nI (nW K v)).toInt64 cs) := vl_cell (nI_lT (by omega)) (by omega) (by omega) (by decide) rfl rfl
    obtain ⟨c2, x1, x2, x3, x4, x5, x6⟩ := mr_37 (b := b) (Q := fun c' => c'.1 334 7 = nI (D + 1) ∧ c'.1 339 (D + 1) = nI (a + (1 + jR K N v v)) ∧ vl_c (nW K v) (1 + jR K N v v) 6 (c'.2.1 338 a) ∧ (∀ i, i < nW K v → vl_c (X (nF K v (T i)) + 66) 1 9 (c'.2.1 338 (a + 1 + sm (fun q => 1 + N (nF K v (T q))) i)) ∧ ∀ d, d < N (nF K v (T i)) → c'.2.1 338 (a + 1 + sm (fun q => 1 + N (nF K v (T q))) i + 1 + d) = cs.2.1 338 (a + A (nF K v (T i)) + d)) ∧ l2_fr (fun b j => b = 340 ∨ b = 341 ∨ (b = 338 ∧ a ≤ j) ∨ (b = 339 ∧ j = D + 1) ∨ (b = 334 ∧ j = 7)) cs c') TT hv hD ha (fun i hi => (hK i hi).1) (fun hJ => by
      have f0 : l2_fr (fun b j => b = 340) cs (t_setJ cs 340 0 (f_X8_cell (6 : Int32) (nI (1 + jR K N v v)) (nI (nW K v)).toInt64 cs)) := l2_fr.setJ rfl
      have v0 : (t_setJ cs 340 0 (f_X8_cell (6 : Int32) (nI (1 + jR K N v v)) (nI (nW K v)).toInt64 cs)).2.1 340 0 = f_X8_cell (6 : Int32) (nI (1 + jR K N v v)) (nI (nW K v)).toInt64 cs := by rw [l2_jJ, l2_upif, if_pos rfl]
      exact mr_133 TT hv hD ha hb hX (fun i hi => (hK i hi).1) hN f0 hJ (fun s RGs e0 fr => mr_end TT hv hD ha hX (fun i hi => (hK i hi).1) hT hJ RGs (by rw [e0, v0]; exact h0) fr)) (fun no => absurd hJ no)
    have V4 : VW (c2.2.1 338) (ry.2.1 1007) 120 a 0 (1 + sm (fun q => 1 + N (nF K v (T q))) (nW K v)) (2 + nW K v + P (nW K v)) := mr_rec (Y := fun l => X (nF K v (T l))) y0 y1 yn R P0 (by rw [sums]; exact x4) (by rw [sums]; exact hJ) (fun l hl => hX _ (Fv l hl)) (fun l hl => hT.2.1 l (l + 1) (by omega) hl) x5
    have mm := V4.m2
    obtain ⟨r2, o1, o2, o3, o4⟩ := rs_pushMade z98 (by omega) V4 (by decide) (by rw [sums] at mm; omega)
    refine ⟨c2, r2, x1, by rw [o1, l2_bs], x6.mono (fun b j q => by unfold oWc; omega), fz.trans (o4.mono (fun b j q => by unfold oWr; rw [sums] at mm; omega)), Or.inl ⟨_, _, VW.copy _ _ _ _ _ _ _ V4 (fun _ _ => rfl) (fun d hd => by rw [o3 d hd, Nat.zero_add]), by rw [x3, sums], x2, ?_, o2, ?_⟩⟩
    · rw [(x6 334 12 (by omega)).1]; exact T12
    · rw [(o4 950 97 (by omega)).1]; exact z97
  · obtain ⟨c2, x1, rfl⟩ := mr_37 (b := b) (Q := fun c' => c' = t_setI cs 334 12 3) TT hv hD ha (fun i hi => (hK i hi).1) (fun yes => absurd yes hJ) (fun _ => rfl)
    have W := mr_w (h := 2 + nW K v) (k := 6) (S := sm (fun q => N (nF K v (T q)))) (Or.inl rfl) y0 y1 (by omega) rfl R P0 rfl (fun j _ => rfl) (by omega) (by omega)
    have e : vr_c 6 (nW K v) = 1 + nW K v := by unfold vr_c; rw [if_neg (by decide), if_pos rfl]
    rw [e] at W
    rw [sums] at s1
    obtain ⟨r2, o1, o2, o3⟩ := rs_heavy W (by omega) (by omega) z97
    exact ⟨_, r2, x1, by rw [o1, l2_bs], l2_fr.set (Or.inl ⟨rfl, Or.inr rfl⟩), fz.trans (o3.mono (fun b j q => by unfold oWr; omega)), Or.inr ⟨3, by decide, by decide, by rw [l2_g, if_pos rfl]; rfl, o2⟩⟩
end
