/-! Level 2: exps worked out: { .. }. -/
section
variable {κ : KPP} {c0 r0 : t_S} {Kc : t_S → t_S → Prop} {Kr : Nat → Nat → t_S → t_S → Prop} {c r c1 r1 c' r' cs : t_S} {D a H S i j k g n v rr e0 e1 m0 m1 cnt : Nat} {E X Mm pe : Nat → Nat}
/-- the names behind a RECORD's operation: nothing is done -/
theorem no_33 (h2 : c0.1 334 2 = nI cnt) (hc : cnt ≤ 16000) (he : e1 ≤ cnt) (hv : v ≤ e1) (z : l2_fr (eZc c0) c0 c1) (h12 : c1.1 334 12 = 0) (ho : ∀ j, j < v → ∃ x, px_o c0 (e1 - v + j) 33 x) : ∀ j, j ≤ v → ∃ c', l2_tn b_X0_work_12 j (nI (e1 - v), c1) (nI (e1 - v + j), c') ∧ l2_fr (fun b j => b = 334 ∧ j = 13) c1 c' := by
  intro j
  induction j with
  | zero => intro _; exact ⟨c1, l2_tn.nil, l2_fr.rf⟩
  | succ j ih =>
    intro hj
    obtain ⟨c', t, f⟩ := ih (by omega)
    obtain ⟨x, hx⟩ := ho j (by omega)
    have z' : l2_fr (eZc c0) c0 c' := z.trans (f.mono (fun b j y => by unfold eZc eWc; omega))
    have tt := cw_turn z' h2 hc (i := e1 - v + j) (by omega) hx (by decide) (by decide) (by rw [(f 334 12 (by omega)).1]; exact h12)
    rw [if_pos (by decide), if_pos (by decide), if_pos (by decide), if_pos (by decide), if_neg (by decide)] at tt
    have ga : ∀ s, f_X0_gather (nI 33) (nI (e1 - v + j)) s = some s := fun s => by
      unfold f_X0_gather
      rw [if_neg (by decide), if_neg (by decide), if_neg (by decide), if_neg (by decide), if_pos (by decide)]
    rw [ga, l2_bs] at tt
    exact ⟨_, by rw [show e1 - v + (j + 1) = e1 - v + j + 1 by omega]; exact t.trans (l2_tn.one tt), f.trans (l2_fr.set ⟨rfl, rfl⟩)⟩
theorem ev_rec (hK : EK Kc Kr) (hr : rr ≤ 360) (h2 : c0.1 334 2 = nI cnt) (hc : cnt ≤ 16000) (hi : e1 ≤ cnt) (hv : v ≤ 16) (hn : n < 13000) (hk : r0.1 955 n = 59) (h0 : e0 + v < e1) (hE : px_B v e0 (e1 - 1 - v) E) (hM : px_B v (m0 + 1) m1 Mm) (hm : m0 < m1) (ho : px_o c0 (e1 - 1 - v) 32 (nI v)) (ch : ch_R r0 n v Mm) (hD : ∀ i j, i < j → j < v → X i ≠ X j) (hf : ∀ j, j < v → X j < 7934 ∧ px_o c0 (e1 - v + j) 33 (nI (66 + X j)) ∧ r0.2.1 957 (Mm j) = lN (X j) ∧ r0.1 959 (Mm j) = nI (pe j)) (hp : ∀ j, j < v → EVp κ c0 r0 Kc Kr g (rr + 15) (E j) (E (j + 1)) (Mm j + 1) (Mm (j + 1)) (pe j)) : EVp κ c0 r0 Kc Kr (g + 3) rr e0 e1 m0 m1 n := by
  refine ev_row (o := 32) (F := some) (K := 59) (l4 := 1) (G := Mm) (pe := pe) (mA := fun j => Mm j + 1) (mB := fun j => Mm (j + 1)) (eE := e1 - 1 - v) (Or.inr ⟨rfl, rfl⟩) hK hr hv hn hk hm hE.1 hE.2.1 (by omega) (by omega) (fun j hj => ⟨(hE.2.2 j hj).1, (hE.2.2 j hj).2.1⟩) ch (fun j hj => ⟨hp j hj, by have := hM.2.2 j hj; show Mm (j + 1) - (Mm j + 1) ≤ _; omega, Or.inr ⟨rfl, (hf j hj).2.2.2⟩⟩) (fun c1 r1 D a H S N M A z1 z2 T b1 b2 b3 => ?_)
  have f1 : l2_fr (fun b j => b = 334 ∧ j = 13) c1 (t_setI c1 334 13 (nI (e1 - 1 - v))) := l2_fr.set ⟨rfl, rfl⟩
  have v13 : (t_setI c1 334 13 (nI (e1 - 1 - v))).1 334 13 = nI (e1 - 1 - v) := by rw [l2_g, if_pos rfl]
  have t := cw_turn z1 h2 hc (i := e1 - 1 - v) (by omega) ho (by decide) (by decide) T.2.2.1.2
  rw [if_pos (by decide), if_pos (by decide), if_pos (by decide), if_pos (by decide), if_neg (by decide)] at t
  generalize t_setI c1 334 13 (nI (e1 - 1 - v)) = cs at *
  have zz : l2_fr (eZc c0) c0 cs := z1.trans (f1.mono (fun b j y => by unfold eZc eWc; omega))
  have e36 : cs.1 336 (e1 - 1 - v) = nI v := by rw [(ez_c (b := 336) (j := e1 - 1 - v) zz (by omega)).1]; exact ho.2
  have ga : f_X0_gather (nI 32) (nI (e1 - 1 - v)) cs = f_X0_makeRecord (nI v) (nI (e1 - v)) cs := by
    unfold f_X0_gather
    rw [if_neg (by decide), if_neg (by decide), if_neg (by decide), if_pos (by decide), if_pos (l2_ix (by omega) (by decide)), nI_clamp (n := e1 - 1 - v) (by omega), e36, bso, nI_1, show e1 - 1 - v + 1 = e1 - v by omega]
  have U := uo_mkrec (rc := R_X13_behindFirst (g + 1)) (n := n) (X := X) (G := Mm) (b := e1 - v) (T.c13 f1) hv b1 b2 b3 (by omega) hn (fun j hj => (hf j hj).1) (fun j j' h h' ne => by
    by_cases q : j < j'
    · exact hD j j' q h'
    · exact fun y => hD j' j (by omega) h y.symm) (fun i hi' => by rw [(ez_c (b := 336) (j := e1 - v + i) zz (by omega)).1]; exact (hf i hi').2.1.2) (fun s' fs => by
    have zs : ∀ b q, 955 ≤ b → b ≤ 1005 → s'.1 b q = r0.1 b q ∧ s'.2.1 b q = r0.2.1 b q := fun b q y1 y2 => by
      have e := ez_r (b := b) (j := q) z2 (by omega)
      rw [(fs b q (by omega)).1, (fs b q (by omega)).2.1]
      exact ⟨e.1, e.2.1⟩
    refine ⟨⟨by rw [(zs 959 n (by decide) (by decide)).1]; exact ch.1, fun j hj => ?_⟩, fun j hj => by rw [(zs 957 _ (by decide) (by decide)).2]; exact (hf j hj).2.2.1⟩
    obtain ⟨q1, q2, q3, q4⟩ := ch.2 j hj
    exact ⟨q1, q2, by rw [(zs 960 _ (by decide) (by decide)).1]; exact q3, q4⟩)
  obtain ⟨c2, r2, q1, q2, q3, q4⟩ := U.fin (c0 := c0) (Kc := Kc) (Kr := Kr) hK f1 v13 T.2.2.2.2.2 T.2.2.2.2.1
  rw [ga, q1, l2_bs, show e1 - 1 - v + 1 = e1 - v by omega] at t
  rcases q4 with q4 | q4
  · have z3 : l2_fr (eZc c0) c0 c2 := z1.trans (q3.1.mono (fun b j y => y.z))
    obtain ⟨⟨nn, kk, V, e39⟩, ⟨e7, e12⟩, e98⟩ := q4
    obtain ⟨c3, t3, f3⟩ := no_33 h2 hc hi (by omega) z3 e12 (fun j hj => ⟨_, (hf j hj).2.1⟩) v (Nat.le_refl _)
    rw [show e1 - v + v = e1 by omega] at t3
    refine ⟨c3, r2, e1, 1 + v, ⟨by omega, by omega, Nat.le_refl _, (l2_tn.one t).trans t3⟩, q2, q3.trans hK (Ef.of (D := D) (a := a) (H := H) (S := S) (x := e1 - v) (y := e1) hK f3 (l2_fr.rf (W := fun _ _ => False)) (fun b j y => ⟨by unfold eWc; omega, by unfold eBc; omega⟩) (fun b j y => y.elim)) (Nat.le_refl _) (Nat.le_refl _) (Nat.le_refl _) (Nat.le_refl _), Or.inl ⟨rfl, ⟨nn, kk, VW.copy _ _ _ _ _ _ _ V (fun d _ => (f3 338 _ (by omega)).2.1) (fun _ _ => rfl), by rw [(f3 339 _ (by omega)).1]; exact e39⟩, ⟨by rw [(f3 334 7 (by omega)).1]; exact e7, by rw [(f3 334 12 (by omega)).1]; exact e12⟩, e98⟩⟩
  · exact ⟨c2, r2, e1 - v, 1, ⟨by omega, by omega, by omega, l2_tn.one t⟩, q2, q3.w hK (by omega) (by omega), Or.inr (q4.w (Nat.le_refl _) (by omega))⟩
end
/-- records are no hypothesis any more -/
theorem ev_hr {WN AN TN : Nat → Nat → Prop} {SN : Nat → Nat → Prop} {κ : KPP} {c0 r0 : t_S} {Kc : t_S → t_S → Prop} {Kr : Nat → Nat → t_S → t_S → Prop} {Z Y : Nat → Prop} {p1 s1 cnt nc f : Nat} (hK : EK Kc Kr) (h2 : c0.1 334 2 = nI nc) (hcN : cnt ≤ nc) (hc : nc ≤ 16000) : EvI WN AN TN SN κ c0 r0 Kc Kr Z Y p1 s1 cnt f → ∀ (lv : Int32) (rr e0 e1 t0 t1 m0 m1 n g : Nat), rr ≤ 360 → 3 * mu rr + 10 + κ.g ≤ g → e1 ≤ cnt → m1 ≤ 13000 → m0 ≤ n → n < m1 → xr_rec WN AN TN SN c0 r0 p1 s1 f lv rr e0 e1 t0 t1 m0 m1 n → DJ Z Y t0 t1 m0 m1 → EVp κ c0 r0 Kc Kr g rr e0 e1 m0 m1 n := by
  intro ih lv rr e0 e1 t0 t1 m0 m1 n g hr hg he hm h3 h4 h dj
  obtain ⟨a1, a2, v, E, T, M, X, N, b1, b2, b3, b4, b5, b6, b7, b8, b9⟩ := h
  obtain ⟨g, rfl⟩ : ∃ y, g = y + 3 := ⟨g - 3, by omega⟩
  have mu15 := mu_15 hr
  exact ev_rec (X := X) (pe := N) hK hr h2 hc (by omega) b1 (by omega) a2 b2 b3 (a1 ▸ b5) (by omega) b6 b7 b8 (fun j hj => by
    obtain ⟨x1, x2, x3, x4, x5, x6, x7⟩ := b9 j hj
    exact ⟨x1, x2, x5, x6⟩) (fun j hj => by
    obtain ⟨x1, x2, x3, x4, x5, x6, x7⟩ := b9 j hj
    exact ih _ _ _ _ _ _ _ _ _ g x7 (dj.sub (b4.2.2 j hj).2.2 (b4.2.2 j hj).2.1 (by have := (b5.2.2 j hj).2.2; omega) (b5.2.2 j hj).2.1) (by omega) (by have := (b3.2.2 j hj).2.1; omega) (by have := (b5.2.2 j hj).2.1; omega))
