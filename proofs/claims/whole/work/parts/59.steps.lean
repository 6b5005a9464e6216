/-! Level 2: both sides go on by one token. -/
/-- both sides at the same token -/
def jt_A (c r : t_S) (B : Nat → Nat) (L W : Nat) (V sl : Nat → Nat) (H : Nat → Int64) (T : Nat → Int32) (n u : Nat) : Prop := lc_A c B L W V sl H T n u ∧ lr_A r B L u ∧ rw_I W H T ∧ ts_A c r B L W H T (tk_P B L u)
/-- both sides behind the same fault -/
def jt_F (c r : t_S) (f p : Nat) : Prop := lc_F c f p ∧ lr_F r f p
theorem jt_A.of {c r : t_S} {B : Nat → Nat} {L W n u : Nat} {V sl : Nat → Nat} {H : Nat → Int64} {T : Nat → Int32} (hc : lc_A c B L W V sl H T n u) (hr : lr_A r B L u) (hR : rw_I W H T) : jt_A c r B L W V sl H T n u := ⟨hc, hr, hR, ts_of hc hr hR⟩
theorem jt_adv {c r : t_S} {B : Nat → Nat} {L W n u : Nat} {V sl : Nat → Nat} {H : Nat → Int64} {T : Nat → Int32} (h : jt_A c r B L W V sl H T n u) : t_hk (f_X2_advance c) (fun c' => l2_fr la_W c c' ∧ t_hk (f_X13_next r) (fun r' => l2_fr rn_W r r' ∧ ((∃ v, u ≤ v ∧ jt_A c' r' B L W V sl H T n v) ∨ (∃ p, jt_F c' r' 1 p ∧ r'.1 950 5 = 0)))) := by
  obtain ⟨hc, hr, hR, ht⟩ := h
  refine l2_imp (lc_adv hc) (fun c' x => ⟨x.1, l2_imp (lr_adv hr) (fun r' y => ⟨y.1, ?_⟩)⟩)
  obtain ⟨xf, x⟩ := x
  obtain ⟨yf, y⟩ := y
  obtain ⟨cT, cI, ⟨a1, a2, a3, a4, a5, a6⟩, cu, c7, c8, c9, c10, c11, c5⟩ := hc
  rcases x with ⟨x1, x2⟩ | ⟨x1, x2, x3⟩ | ⟨x1, x2, x3⟩
  · have e : n - 1 = u := by omega
    rw [e] at a6
    have pL : L ≤ tk_P B L u := by
      rcases a6 with z | z
      · exact z.1
      · exact absurd z.2.2 c5
    rcases y with ⟨y1, y2⟩ | ⟨y1, _⟩ | ⟨y1, _⟩
    · rw [x2]
      exact Or.inl ⟨u, Nat.le_refl _, jt_A.of ⟨cT, cI, ⟨a1, a2, a3, a4, a5, by rw [e]; exact a6⟩, cu, c7, c8, c9, c10, c11, c5⟩ y2 hR⟩
    · omega
    · omega
  · have pL := (a5 u x1).1
    rcases y with ⟨y1, y2⟩ | ⟨y1, y2, y3⟩ | ⟨y1, y2, y3, y4, y5⟩
    · omega
    · exact Or.inl ⟨u + 1, by omega, jt_A.of x3 y3 hR⟩
    · exfalso
      have ok : tk_ok B L W H T (tk_P B L (u + 1)) (c.1 3 (u + 1)) (c.2.1 5 (u + 1)) := by
        by_cases z : u + 1 + 1 < n
        · exact (a5 (u + 1) z).2.1
        · have e : n - 1 = u + 1 := by omega
          rw [e] at a6
          rcases a6 with z | z
          · omega
          · exact z.2.1
      exact x2 (ok.bad.mpr y3)
  · have pL := (a5 u x1).1
    have bad : tk_P B L (u + 1) < L ∧ ¬ tk_v B L (tk_P B L (u + 1)) := by
      by_cases z : u + 1 + 1 < n
      · exact absurd x2 (a5 (u + 1) z).2.2
      · have e : n - 1 = u + 1 := by omega
        rw [e] at a6
        rcases a6 with z | z
        · rw [z.2] at x2
          exact absurd x2 (by decide)
        · exact ⟨z.1, z.2.1.bad.mp z.2.2⟩
    rcases y with ⟨y1, y2⟩ | ⟨y1, y2, y3⟩ | ⟨y1, y2, y3, y4, y5⟩
    · omega
    · rcases y2 with y2 | y2
      · omega
      · exact absurd y2 bad.2
    · exact Or.inr ⟨_, ⟨x3, y4⟩, y5⟩
/-- the class's fault: the place is the token's -/
theorem lc_fail {s : t_S} {B : Nat → Nat} {L W n u f : Nat} {V sl : Nat → Nat} {H : Nat → Int64} {T : Nat → Int32} (h : lc_A s B L W V sl H T n u) (hf : 0 < f ∧ f < 100) : t_hk (f_X2_fail (nI f) s) (fun s' => l2_fr la_W s s' ∧ lc_F s' f (tk_P B L u)) := by
  obtain ⟨cT, cI, cA, cu, c7, c8, c9, c10, c11, c5⟩ := h
  unfold f_X2_fail
  refine l2_ck c11 (l2_lt ?_)
  have e : (t_setI s 1 11 (nI f)).1 1 9 = nI (tk_P B L u) := by
    simp only [l2_g, Nat.reduceEqDiff, reduceIte]
    exact c9
  rw [e]
  refine l2_lt (l2_lt (l2_sm ⟨((l2_fr.set ⟨rfl, by omega⟩).trans (l2_fr.set ⟨rfl, by omega⟩)).trans (l2_fr.set ⟨rfl, by omega⟩), hf.1, hf.2, ?_, ?_, ?_⟩))
  · simp only [l2_g, Nat.reduceEqDiff, reduceIte]
  · simp only [l2_g, Nat.reduceEqDiff, reduceIte]
  · simp only [l2_g, reduceIte]
theorem lr_fail {s : t_S} {B : Nat → Nat} {L u f : Nat} (h : lr_A s B L u) (hf : 0 < f ∧ f < 100) : t_hk (f_X13_fail (nI f) (s.1 950 6) s) (fun s' => l2_fr rn_W s s' ∧ lr_F s' f (tk_P B L u)) := by
  obtain ⟨rT, r2, r6, rle, rr⟩ := h
  rw [r6]
  refine l2_of (rs_fail r2) ⟨(l2_fr.set ⟨rfl, by omega, by omega⟩).trans (l2_fr.set ⟨rfl, by omega, by omega⟩), hf.1, hf.2, ?_, ?_⟩
  · simp only [l2_g, Nat.reduceEqDiff, reduceIte]
  · simp only [l2_g, reduceIte]
/-- behind a fault nothing moves -/
theorem lc_stay {s : t_S} {f p : Nat} (h : lc_F s f p) : f_X2_advance s = some s ∧ ∀ x, f_X2_fail x s = some s := by
  obtain ⟨h1, h2, h3, h4, h5⟩ := h
  have ne : s.1 1 11 ≠ 0 := by
    rw [h3]
    exact nI_ne0 h1 (by omega)
  refine ⟨?_, fun x => ?_⟩
  · unfold f_X2_advance
    rw [if_neg ne]
  · unfold f_X2_fail
    rw [if_neg ne]
theorem lr_stay {s : t_S} {f p : Nat} (h : lr_F s f p) : f_X13_next s = some (t_setI s 950 5 0) ∧ ∀ x y, f_X13_fail x y s = some s := by
  obtain ⟨h1, h2, h3, h4⟩ := h
  have ne : s.1 950 2 ≠ 0 := by
    rw [h3]
    exact nI_ne0 h1 (by omega)
  refine ⟨?_, fun x y => rs_nofail ne⟩
  unfold f_X13_next
  rw [if_neg ne]
  rfl
