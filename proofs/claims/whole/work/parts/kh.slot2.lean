/-! Level 2: a slot's fact, seen from later on; the leaf that it is. -/
def SL2 (t n : Nat) (c r : t_S) (a nh pc : Nat) : Prop := ∃ (cc : Nat → Int64) (pp pe nn mm : Nat), r.1 1026 n = nI pe ∧ pe + mm ≤ pc ∧ VW cc (r.2.1 1027) 120 pp pe nn mm ∧ (bit2 (c.2.1 361 t) (c.2.1 362 t) 0 ↔ r.2.1 1027 pe = lN 4) ∧ ∀ v t' k' n', v < nh → vl_c t' n' k' (c.2.1 338 (a + v)) → v + n' ≤ nh → (bit2 (c.2.1 361 t) (c.2.1 362 t) (v + 1) ↔ ∀ d, d < nn → cc (pp + d) = c.2.1 338 (a + v + d))
section
variable {c r c2 r2 : t_S} {t n a nh p pc pc2 m E τ mh : Nat}
theorem SLq.two (h : SLq t n c r a nh p pc) : SL2 t n c r a nh pc := by
  obtain ⟨cc, pp, pe, nn, mm, h1, h2, h3, h4, h5⟩ := h
  exact ⟨cc, pp, pe, nn, mm, h1, h2, h3, h4, fun v _ _ _ hv _ _ => h5 v hv⟩
theorem SL2.later (h : SL2 t n c r a nh pc) (e1 : c2.2.1 361 t = c.2.1 361 t) (e2 : c2.2.1 362 t = c.2.1 362 t) (e3 : ∀ d, d < nh → c2.2.1 338 (a + d) = c.2.1 338 (a + d)) (e4 : r2.1 1026 n = r.1 1026 n) (e5 : ∀ j, j < pc → r2.2.1 1027 j = r.2.1 1027 j) (e6 : pc ≤ pc2) : SL2 t n c2 r2 a nh pc2 := by
  obtain ⟨cc, pp, pe, nn, mm, h1, h2, h3, h4, h5⟩ := h
  have m0 := h3.pos
  refine ⟨cc, pp, pe, nn, mm, e4.trans h1, by omega, VW.copy _ _ _ _ _ _ _ h3 (fun _ _ => rfl) (fun d _ => e5 _ (by omega)), by rw [e1, e2, e5 pe (by omega)]; exact h4, fun v t' k' n' hv hc hn => ?_⟩
  rw [e3 v hv] at hc
  rw [e1, e2, h5 v t' k' n' hv hc hn]
  obtain ⟨tb, kb, vb, -⟩ := VW.hd h3
  have sz : cc pp = c.2.1 338 (a + v) → nn = n' := fun y => by
    rw [y] at vb
    have s1 := (vk_of vb).2
    have s2 := (vk_of hc).2
    omega
  constructor
  · intro y d hd
    have := sz (y 0 m0.1)
    rw [y d hd, show a + v + d = a + (v + d) by omega, e3 _ (by omega)]
  · intro y d hd
    have y0 := y 0 m0.1
    rw [Nat.add_zero, Nat.add_zero, e3 v hv] at y0
    have := sz y0
    rw [y d hd, show a + v + d = a + (v + d) by omega, e3 _ (by omega)]
theorem SL2.leaf (h : SL2 t n c r a nh pc) (C : CC c r 338 a p E τ) (A : PA (c.2.1 338) (r.2.1 1006) a p nh mh E) (pb : p + 260 ≤ 626600) (hp : pc ≤ 370000) (ht : t < 6100) (hn : n < 13000) (hk : r.1 955 n = 38) (h17 : c.1 354 t = 17) : ∃ S, LfC c r 338 a p E t S ∧ LfR r p E n S := by
  obtain ⟨cc, pp, pe, nn, mm, h1, h2, h3, h4, h5⟩ := h
  have m0 := h3.pos
  have pr : ∀ x, x ≤ E → wq (r.2.1 1006) p x < p + 250 := fun x hx => by have := A.qe x hx; have := A.m2; omega
  refine ⟨sL r pe mm, lfc_same (cc := cc) (f := 120) (pp := pp) (nn := nn) C pr A.pd ht (VW.vr _ _ _ _ _ h3) h17 h4 (fun x hx => ?_), lfr_slot (cc := cc) (f := 120) (pp := pp) (nn := nn) C pb pr A.pd hn hk h1 (VW.vr _ _ _ _ _ h3) (by decide) (by omega) m0.2.2⟩
  obtain ⟨f, n', m', t', k', ⟨_, V⟩, hc, ⟨_, z, _, z2, _, z4⟩, -⟩ := A.pd x hx
  have w := A.wb x hx
  have e := A.we z z2
  have g := h5 (wv (c.2.1 338) a x - a) t' k' n' (by omega) (by rw [show a + (wv (c.2.1 338) a x - a) = wv (c.2.1 338) a x by omega]; exact hc) (by omega)
  rw [show a + (wv (c.2.1 338) a x - a) = wv (c.2.1 338) a x by omega] at g
  exact g
end
