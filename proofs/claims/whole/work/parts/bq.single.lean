/-! Level 2: bases on both sides with all that is ahead and behind: their end. -/
section
variable {P : pc_S} {E : en_S} {EB PB IB u q m t e p l w o s i dd v u1 n : Nat} {l1 l2 : Int32} {K A : Nat → Nat} {c0 r0 c1 r1 c r : t_S} {rc : RT_X6_readBase} {rR : RT_X13_base}
/-- the class behind a fault, at lower marks of what waits -/
theorem xF.lowW {f p0 t2 e2 p2 l2' w2 o2 w' : Nat} (h : xF f p0 t2 e2 p2 l2' w2 o2 w' c1 c) (g : l2_fr (xWc t e p l w o) c0 c1) (ht : t ≤ t2) (he : e ≤ e2) (hp : p ≤ p2) (hl : l ≤ l2') (ho : o ≤ o2) (hw : w ≤ w2) (hx : xw e w w2 c1) : xF f p0 t e p l w o w' c0 c := by
  obtain ⟨a1, a2, ⟨e', a3, a4, a5⟩, ⟨o', a6, a7, a8⟩, a9, a10, a11, a12⟩ := h
  refine ⟨a1, g.trans (a2.mono (fun b j y => y.sub ht he hp hl hw ho)), ⟨e', by omega, a4, a5⟩, ⟨o', by omega, a7, a8⟩, a9, by omega, a11, fun i b d q => ?_⟩
  by_cases z : i < w2
  · have e1 : c.1 854 (2 * i) = c1.1 854 (2 * i) := (a2 854 _ (by unfold xWc; omega)).1
    have e2 : c.1 854 (2 * i + 1) = c1.1 854 (2 * i + 1) := (a2 854 _ (by unfold xWc; omega)).1
    rw [e1] at q
    rw [e2]
    exact hx i b z q
  · obtain ⟨j, j1, j2, j3⟩ := a12 i (by omega) d q
    exact ⟨j, by omega, j2, j3⟩
theorem pr_H.xw (H : pr_H P E u q m t e p l w o s i dd c0 r0 v K A u1 c r) : xw e w (w + v) c := by
  obtain ⟨_, _, _, _, _, _, _, hj⟩ := H
  intro i h1 h2 h3
  obtain ⟨⟨a1, a2, a3, a4⟩, _⟩ := hj (i - w) (by omega)
  rw [show w + (i - w) = i by omega] at a3
  rw [a3] at h3
  have kb : 64 ≤ K (i - w) ∧ K (i - w) ≤ 67 := by rcases a1 with ⟨z1, z2, _⟩ | ⟨z1, _⟩ <;> omega
  rcases h3 with h3 | h3
  · have := (nI_eq (b := 16) (by omega) (by decide)).mp h3; omega
  · have := (nI_eq (b := 17) (by omega) (by decide)).mp h3; omega
/-- what waits is let go, one behind the other -/
theorem se_pops {u' q' m' t' e' p' l' s' i' : Nat} {r' : t_S} (Y : xp P E u' 0 0 q' m' t' e' p' l' (w + v) o s' i' dd c r') (he : e' + v ≤ 15999) (hw : w + v ≤ 3000) (hee : e ≤ e') (hm : m + v ≤ m') (hX : XR (wn_R E c r' l l') (an_R E c r' l l') (tn_R E c r' l l') (sn_R c) c r' p' s' (m' - (m + v)) 0 0 (20 * dd) e e' t t' (m + v) m' n) (hj : ∀ j, j < v → pr_1 c r' (w + j) (m + j) (K j) (A j) ∧ r'.1 959 (m + j) = (if j + 1 < v then nI (m + j + 1) else nI n)) : t_hk (t_loop (b_X6_readOne_313 rc) t_N (nI w, c)) (fun c' => xp P E u' 0 0 q' m' t' (e' + v) p' l' w o s' i' dd c' r' ∧ l2_fr (fun b j => (b = 845 ∧ j = 7) ∨ (b = 334 ∧ j = 2) ∨ ((b = 335 ∨ b = 336) ∧ e' ≤ j)) c c' ∧ XR (wn_R E c' r' l l') (an_R E c' r' l l') (tn_R E c' r' l l') (sn_R c') c' r' p' s' (m' - m) 0 0 (20 * dd) e (e' + v) t t' m m' (if v = 0 then n else m)) := by
  refine l2_lp (fun j z => ∃ c2, z = (nI w, c2) ∧ j ≤ v ∧ xp P E u' 0 0 q' m' t' (e' + (v - j)) p' l' (w + j) o s' i' dd c2 r' ∧ l2_fr (fun b j => (b = 845 ∧ j = 7) ∨ (b = 334 ∧ j = 2) ∨ ((b = 335 ∨ b = 336) ∧ e' ≤ j)) c c2 ∧ XR (wn_R E c2 r' l l') (an_R E c2 r' l l') (tn_R E c2 r' l l') (sn_R c2) c2 r' p' s' (m' - (m + j)) 0 0 (20 * dd) e (e' + (v - j)) t t' (m + j) m' (if j = v then n else m + j)) ?_ (m := v) (Nat.lt_trans (show v < 1000000000 by omega) l2_N) ⟨c, rfl, Nat.le_refl _, by rw [Nat.sub_self]; exact Y, l2_fr.rf, by rw [Nat.sub_self, if_pos rfl]; exact hX⟩
  rintro j z ⟨c2, rfl, j1, X2, g2, X3⟩
  show t_hk (k_X6_readOne_313 rc (nI w) c2) _
  unfold k_X6_readOne_313
  have e7 : c2.1 845 7 = nI (w + j) := X2.2.2.2.2.2.2.1
  rw [e7]
  by_cases z : j = 0
  · subst z
    refine l2_ck (nI_le (Nat.le_refl _) (by omega)) (l2_mp (l2_sm ⟨?_, g2, ?_⟩))
    · exact X2
    · by_cases z2 : v = 0
      · subst z2; exact X3
      · rw [if_neg (fun y => z2 y.symm)] at X3
        rw [if_neg z2]
        exact X3
  · obtain ⟨k, rfl⟩ : ∃ k, j = k + 1 := ⟨j - 1, by omega⟩
    refine l2_no (nI_ge (by omega) (by omega)) ?_
    rw [show w + (k + 1) = w + k + 1 by omega, nI_pred]
    have g3 : l2_fr (fun b j => b = 845 ∧ j = 7) c2 (t_setI c2 845 7 (nI (w + k))) := l2_fr.set ⟨rfl, rfl⟩
    have v7 : (t_setI c2 845 7 (nI (w + k))).1 845 7 = nI (w + k) := by simp only [l2_gI, reduceIte]
    refine l2_lt ?_
    rw [v7, show (2 : Int32) * nI (w + k) = nI (2 * (w + k)) from pk_mul 2 _, nI_1]
    refine l2_ck (l2_ix (by omega) (by decide)) (l2_ck (l2_ix (by omega) (by decide)) ?_)
    rw [nI_clamp (n := 2 * (w + k)) (by omega), nI_clamp (n := 2 * (w + k) + 1) (by omega)]
    generalize t_setI c2 845 7 (nI (w + k)) = c3 at *
    obtain ⟨⟨a1, a2, a3, a4⟩, a5⟩ := hj k (by omega)
    rw [(g3 854 _ (by omega)).1, (g3 854 _ (by omega)).1, (g2 854 _ (by omega)).1, (g2 854 _ (by omega)).1, a3, a4]
    refine l2_bd _ (em_emit (s := c3) (e := e' + (v - (k + 1))) (nI (K k - 54)) (nI (A k)) (by rw [(g3 334 2 (by omega)).1]; exact X2.2.2.2.1) (by omega)) (fun y hy => ?_)
    obtain ⟨y0, c4⟩ := y
    obtain ⟨_, y2, y3, y4, y5⟩ := hy
    have y2 : l2_fr (fun b j => (b = 334 ∧ j = 2) ∨ ((b = 335 ∨ b = 336) ∧ j = e' + (v - (k + 1)))) c3 c4 := y2
    have y3 : c4.1 334 2 = nI (e' + (v - (k + 1)) + 1) := y3
    have y4 : c4.1 335 (e' + (v - (k + 1))) = nI (K k - 54) := y4
    have y5 : c4.1 336 (e' + (v - (k + 1))) = nI (A k) := y5
    have ee : e' + (v - (k + 1)) + 1 = e' + (v - k) := by omega
    have g24 : l2_fr (fun b j => (b = 845 ∧ j = 7) ∨ (b = 334 ∧ j = 2) ∨ ((b = 335 ∨ b = 336) ∧ j = e' + (v - (k + 1)))) c2 c4 := (g3.mono (fun b j y => Or.inl y)).trans (y2.mono (fun b j y => Or.inr y))
    have nf : l2_fr (fun _ _ => False) r' r' := l2_fr.rf
    obtain ⟨n1, n2, n3, n4⟩ := X3.at
    refine l2_sm ⟨k, by omega, c4, rfl, by omega, ?_, g2.trans (g24.mono (fun b j y => by omega)), ?_⟩
    · obtain ⟨x1, x2, x3, x4, x5, x6, x7, x8, x9, x10, x11⟩ := X2
      refine ⟨x1.fr g24 nf (fun j => by omega) (fun b i _ _ => by omega) (fun b i _ _ => by omega) (by omega) (fun j _ y => y) (fun b i _ _ y => y), x2.fr g24 nf (fun j _ _ => by omega) (fun b i _ _ => by omega) ⟨fun y => y, fun y => y⟩, ?_, by rw [y3, ee], ?_, ?_, ?_, ?_, x9, x10, x11⟩
      · rw [(g24 353 9 (by omega)).1]; exact x3
      · rw [(g24 334 4 (by omega)).1]; exact x5
      · rw [(g24 846 6 (by omega)).1]; exact x6
      · rw [(y2 845 7 (by omega)).1]; exact v7
      · rw [(g24 845 9 (by omega)).1]; exact x8
    · rw [if_neg (show ¬ k = v by omega), show m' - (m + k) = (m' - (m + (k + 1))) + 1 by omega, ← ee]
      refine ⟨by omega, n2, Nat.le_refl _, by omega, Or.inl ⟨⟨rfl, X3.rk⟩, Or.inr (Or.inr (Or.inl ⟨rfl, by omega, K k, K k - 54, A k, (if k + 1 = v then n else m + (k + 1)), ?_, a2, ?_, ?_, ?_⟩))⟩⟩
      · rcases a1 with ⟨z1, z2, z3⟩ | ⟨z1, z2, z3, z4⟩
        · exact Or.inr (Or.inl ⟨z1, z2, rfl, z3⟩)
        · exact Or.inr (Or.inr ⟨z1, by omega, z2, z3, z4⟩)
      · rw [show e' + (v - (k + 1)) + 1 - 1 = e' + (v - (k + 1)) by omega]
        exact ⟨y4, y5⟩
      · rw [a5]
        by_cases z2 : k + 1 < v
        · rw [if_pos z2, if_neg (by omega)]; rfl
        · rw [if_neg z2, if_pos (by omega)]
      · rw [show e' + (v - (k + 1)) + 1 - 1 = e' + (v - (k + 1)) by omega, if_neg (show ¬ K k = 62 from by rcases a1 with ⟨z1, _⟩ | ⟨z1, _⟩ <;> omega)]
        exact X3.own g24 nf (Nat.le_refl _) (Nat.le_refl _) (Nat.le_refl _) ⟨Nat.le_refl _, Nat.le_refl _⟩ (fun b j y => by omega) (fun b j y => y.elim)
/-- .. and the reference's last node hangs -/
theorem se_end (hb : xb P EB PB IB u q t e p l w o s i dd) (hL : pr_l m v l1 l2) (H : pr_H P E u q m t e p l w o s i dd c0 r0 v K A u1 c1 r1) (G : xG P E 0 0 (20 * dd) u1 (q + v) (m + v) t e p l (w + v) o s i dd c1 r1 n c r) : t_h2 (t_loop (b_X6_readOne_313 rc) t_N (nI w, c)) (k_X13_single_295 rR l1 l2 (nI n) r) (bO_R P E u q m t e p l w o s i dd c0 r0) := by
  obtain ⟨u', q', m', t', e', p', l', s', i', G1, G2, X, G3, G4, G5, G6, G7, _⟩ := G
  obtain ⟨Y, h1, h2, h3, F1, F2, D0, hj⟩ := H
  have G1' := G1
  unfold xk at G1'
  obtain ⟨n1, n2, n3, n4⟩ := G5.at
  have ple := X.1.ple
  obtain ⟨ml, _, _, _⟩ := X.1.mle (by decide)
  have hb' := hb
  unfold xb at hb'
  -- the reference
  obtain ⟨r', e1, f1, f2⟩ : ∃ r', k_X13_single_295 rR l1 l2 (nI n) r = some (nI (if v = 0 then n else m), r') ∧ l2_fr (fun b j => b = 959 ∧ 0 < v ∧ j = m + v - 1) r r' ∧ (0 < v → r'.1 959 (m + v - 1) = nI n) := by
    unfold k_X13_single_295 k_X13_single_307
    rcases hL with ⟨v0, rfl, rfl⟩ | ⟨v0, rfl, rfl⟩
    · refine ⟨r, ?_, l2_fr.rf, fun z => by omega⟩
      rw [if_pos ch_m1, if_neg (by decide), if_pos v0]
    · refine ⟨t_setI r 959 (m + v - 1) (nI n), ?_, l2_fr.set ⟨rfl, v0, rfl⟩, fun _ => by simp only [l2_gI, reduceIte]⟩
      rw [if_neg (nI_pos (by omega)), if_pos (l2_ix (by omega) (by decide)), nI_clamp (n := m + v - 1) (by omega)]
      show (if (0 : Int32) ≤ nI m then some (nI m, t_setI r 959 (m + v - 1) (nI n)) else some (nI n, t_setI r 959 (m + v - 1) (nI n))) = _
      rw [if_pos (nI_pos' (by omega)), if_neg (by omega)]
  rw [e1]
  have nc : l2_fr (fun _ _ => False) c c := l2_fr.rf
  have X' := X.own nc f1 (fun b j y => y.elim) (fun b j y => by omega)
  have G5' := G5.own nc f1 (Nat.le_refl _) (Nat.le_refl _) (Nat.le_refl _) ⟨Nat.le_refl _, Nat.le_refl _⟩ (fun b j y => y.elim) (fun b j y => by omega)
  refine h2_doneR (l2_imp (se_pops (K := K) (A := A) X' (by omega) (by omega) (by omega) (by omega) G5' (fun j y => ?_)) (fun c' hc => ?_))
  · obtain ⟨b1, b2, b3⟩ := hj j y
    refine ⟨(b1.fr G3 G4 (by unfold xWc; omega) (by unfold xWr; omega)).fr nc f1 ⟨fun z => z, fun z => z⟩ (by omega), ?_⟩
    by_cases z : j + 1 < v
    · rw [if_pos z, (f1 959 _ (by omega)).1, (G4 959 _ (by unfold xWr; omega)).1, b2, if_pos z]
    · rw [if_neg z, show m + j = m + v - 1 by omega]
      exact f2 (by omega)
  · obtain ⟨X2, g, XX⟩ := hc
    refine bO_ok (u' := u') (q' := q') (m' := m') (t' := t') (e' := e' + v) (p' := p') (l' := l') (s' := s') (i' := i') ?_ (by omega) X2 (F1.trans ((G3.mono (fun b j y => y.sub (Nat.le_refl _) (Nat.le_refl _) (Nat.le_refl _) (Nat.le_refl _) (by omega) (Nat.le_refl _))).trans (g.mono (fun b j y => ?_)))) ((F2.trans (G4.mono (fun b j y => y.sub (by omega) (Nat.le_refl _)))).trans (f1.mono (fun b j y => Or.inr (Or.inr (Or.inl ⟨by omega, by omega, by omega⟩))))) XX ?_ ?_
    · unfold xk
      omega
    · rcases y with ⟨rfl, rfl⟩ | ⟨rfl, rfl⟩ | ⟨y, z⟩
      · exact xWc.i845 (by decide)
      · exact xWc.i334 (Or.inl rfl)
      · exact xWc.iop y (by omega)
    · refine (D0.trans G6 ⟨Nat.le_refl _, by omega⟩ ⟨Nat.le_refl _, by omega⟩ ⟨by omega, by omega⟩ (fun b a y1 y2 y3 => (G3 b a (by unfold xWc; omega)).1) (fun k y1 y2 => ?_)).own g f1 (fun b j y => by omega) (fun b j y => by omega)
      have q1 : ∀ b, (955 ≤ b ∧ b ≤ 962) ∨ b = 1003 → r.1 b k = r1.1 b k ∧ r.2.1 b k = r1.2.1 b k := fun b z => ⟨(G4 b k (by unfold xWr; omega)).1, (G4 b k (by unfold xWr; omega)).2.1⟩
      exact ⟨(q1 955 (by decide)).1, (q1 956 (by decide)).1, (q1 962 (by decide)).1, (q1 1003 (by decide)).1, (q1 957 (by decide)).2, (q1 958 (by decide)).2, fun _ => (q1 961 (by decide)).1⟩
    · rw [(f1 960 _ (by omega)).1]
      by_cases z : v = 0
      · rw [if_pos z]; exact G7
      · rw [if_neg z, (G4 960 m (by unfold xWr; omega)).1]
        exact (hj 0 (by omega)).2.2
end
