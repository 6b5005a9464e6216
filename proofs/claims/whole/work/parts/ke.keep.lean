/-! Level 2: the class keeps a VALUE for a templ's node: marks, while what is held lies below. -/
def ksW (t b j : Nat) : Prop := (b = 334 ∧ (j = 7 ∨ j = 13)) ∨ ((b = 361 ∨ b = 362) ∧ j = t)
section
variable {c0 c : t_S} {cnt i t D a b n no : Nat} {ti to : Int} {ki ko : Nat}
theorem ks_go {s : t_S} (ht : t < 6100) (h7 : s.1 334 7 = nI (D + 2)) (h14 : s.1 334 14 = 0) (hD : D + 2 < 3201) (ha : s.1 339 D = nI a) (hb : s.1 339 (D + 1) = nI b) (hc : vl_c ti n ki (s.2.1 338 a)) (ho : vl_c to no ko (s.2.1 338 b)) (n0 : 0 < n ∧ n ≤ 120) (m0 : 0 < no ∧ no ≤ 120) (la : a + 240 ≤ 48000) (lb : b + 240 ≤ 48000) : ∃ s', f_X0_keepSame (nI t) s = some s' ∧ l2_fr (ksW t) s s' ∧ s'.1 334 7 = nI (D + 1) ∧ (bit2 (s'.2.1 361 t) (s'.2.1 362 t) 0 ↔ ko = 4) ∧ ∀ v, v < n → (bit2 (s'.2.1 361 t) (s'.2.1 362 t) (v + 1) ↔ ∀ d, d < no → s.2.1 338 (b + d) = s.2.1 338 (a + v + d)) := by
  obtain ⟨s', a1, a2, a3, a4⟩ := mk_go (s := s) (t := t) (i := a) (o := b) ht hc ho n0 m0 la lb
  have e7 : s'.1 334 7 = nI (D + 2) := by rw [(a2 334 7 (fun y => by unfold mkW at y; omega)).1, h7]
  refine ⟨t_setI s' 334 7 (nI (D + 1)), ?_, (a2.mono (fun b j w => Or.inr w)).trans (l2_fr.set (Or.inl ⟨rfl, Or.inl rfl⟩)), by rw [l2_g, if_pos rfl], a3, a4⟩
  have d1 : nI (D + 2) - (1 : Int32) = nI (D + 1) := nI_dif (b := 1) (by omega)
  have d2 : nI (D + 2) - (2 : Int32) = nI D := nI_dif (b := 2) (by omega)
  unfold f_X0_keepSame k_X0_keepSame_117
  rw [h7, d1, if_pos (l2_ix (by omega) (by decide)), if_pos (l2_ix hD (by decide)), if_pos h14, if_neg (show ¬ nI (D + 2) ≤ (1 : Int32) from nI_ge (a := 1) (by omega) (by omega)), d2, if_pos (l2_ix (by omega) (by decide)), nI_clamp (n := D + 1) (by omega), nI_clamp (n := D) (by omega), ha, hb, a1, l2_bs, t_let, e7, d1]
theorem ks_turn (f : l2_fr (eZc c0) c0 c) (h2 : c0.1 334 2 = nI cnt) (hc : cnt ≤ 16000) (hi : i < cnt) (ho : px_o c0 i 34 (nI t)) (h12 : c.1 334 12 = 0) (h14 : c0.1 334 14 = 0) (ht : t < 6100) (h7 : c.1 334 7 = nI (D + 2)) (hD : D + 2 < 3201) (ha : c.1 339 D = nI a) (hb : c.1 339 (D + 1) = nI b) (hva : vl_c ti n ki (c.2.1 338 a)) (hvb : vl_c to no ko (c.2.1 338 b)) (n0 : 0 < n ∧ n ≤ 120) (m0 : 0 < no ∧ no ≤ 120) (la : a + 240 ≤ 48000) (lb : b + 240 ≤ 48000) : ∃ c', b_X0_work_12 (nI i, c) = some (.inl (nI (i + 1), c')) ∧ l2_fr (ksW t) c c' ∧ c'.1 334 7 = nI (D + 1) ∧ (bit2 (c'.2.1 361 t) (c'.2.1 362 t) 0 ↔ ko = 4) ∧ ∀ v, v < n → (bit2 (c'.2.1 361 t) (c'.2.1 362 t) (v + 1) ↔ ∀ d, d < no → c.2.1 338 (b + d) = c.2.1 338 (a + v + d)) := by
  have w := cw_turn f h2 hc hi ho (by decide) (by decide) h12
  rw [if_pos (by decide), if_pos (by decide), if_pos (by decide), if_pos (by decide), if_neg (by decide)] at w
  have f1 : l2_fr (fun b j => b = 334 ∧ j = 13) c (t_setI c 334 13 (nI i)) := l2_fr.set ⟨rfl, rfl⟩
  have e36 : c.1 336 i = nI t := ((ez_c (b := 336) (j := i) f (by omega)).1).trans ho.2
  have e14 : c.1 334 14 = 0 := ((ez_c (b := 334) (j := 14) f (by omega)).1).trans h14
  generalize t_setI c 334 13 (nI i) = cs at w f1
  have e : ∀ b j, ¬ (b = 334 ∧ j = 13) → cs.1 b j = c.1 b j ∧ cs.2.1 b j = c.2.1 b j := fun b j h => ⟨(f1 b j h).1, (f1 b j h).2.1⟩
  have e38 : ∀ q, cs.2.1 338 q = c.2.1 338 q := fun q => (e 338 q (by omega)).2
  obtain ⟨c', b1, b2, b3, b4, b5⟩ := ks_go (s := cs) (t := t) (D := D) (a := a) (b := b) ht (((e 334 7 (by omega)).1).trans h7) (((e 334 14 (by omega)).1).trans e14) hD (((e 339 D (by omega)).1).trans ha) (((e 339 (D + 1) (by omega)).1).trans hb) (by rw [e38]; exact hva) (by rw [e38]; exact hvb) n0 m0 la lb
  simp only [e38] at b5
  refine ⟨c', ?_, (f1.mono (fun b j w => Or.inl ⟨w.1, Or.inr w.2⟩)).trans b2, b3, b4, b5⟩
  rw [w]
  have g : f_X0_gather (nI 34) (nI i) cs = some c' := by
    unfold f_X0_gather
    rw [show (nI 34).toInt = 34 by decide, if_neg (by decide), if_neg (by decide), if_neg (by decide), if_neg (by decide), if_neg (by decide), if_pos rfl, if_pos (l2_ix (by omega) (by decide)), nI_clamp (n := i) (by omega), (e 336 i (by omega)).1, e36, b1, l2_bs]
  rw [g, l2_bs]
end
