/-! Level 2: exps worked out: [ .. ]. -/
section
variable {κ : KPP} {c0 r0 : t_S} {Kc : t_S → t_S → Prop} {Kr : Nat → Nat → t_S → t_S → Prop} {c r c1 r1 c' r' cs : t_S} {D a H S i j k g n nn m v rr e0 e1 m0 m1 cnt st l4 : Nat} {N M A K E G Mm pe : Nat → Nat} {rc : RT_X13_behindFirst}
theorem TV.c13 (T : TV D a H S v N M A c r) (f1 : l2_fr (fun b j => b = 334 ∧ j = 13) c c1) : TV D a H S v N M A c1 r := by
  obtain ⟨⟨A0, TA⟩, T39, ⟨T7, T12⟩, T98⟩ := T
  refine ⟨⟨A0, fun i hi => ?_⟩, fun i hi => by rw [(f1 339 _ (by omega)).1]; exact T39 i hi, ⟨by rw [(f1 334 7 (by omega)).1]; exact T7, by rw [(f1 334 12 (by omega)).1]; exact T12⟩, T98⟩
  obtain ⟨t1, t2, t3⟩ := TA i hi
  exact ⟨t1, t2, VW.copy _ _ _ _ _ _ _ t3 (fun d _ => (f1 338 _ (by omega)).2.1) (fun _ _ => rfl)⟩
/-- an ERROR in a part: nothing more -/
theorem kb_81 (h : r1.1 950 97 ≠ 0) (hk : 0 < k) (hk2 : k < 100) : k_X13_rowOf_81 rc (nI n) (nI H) (nI k) (nI l4) r1 = some r1 := by
  have q : k_X13_rowOf_136 rc (nI n) (nI H) (nI k) (nI l4) r1 = some r1 := by
    unfold k_X13_rowOf_136
    rw [if_neg h]
  unfold k_X13_rowOf_81
  have nN := l2_N
  rw [show t_N = (t_N - 1) + 1 by omega]
  refine l2_lpR ?_
  show k_X13_rowOf_84 rc (nI n) (nI H) (nI k) (nI l4) 0 r1 = _
  unfold k_X13_rowOf_84
  rw [if_neg (show ¬ nI k ≤ (0 : Int32) from nI_ge (a := 0) hk (by omega)), q, if_neg h, ite_self]
  rfl
theorem b33_end (h : nxG v G k = -1 ∨ r1.1 950 97 ≠ 0) {r2 : t_S} (h2 : k_X13_rowOf_81 rc (nI n) (nI H) (nI k) (nI l4) r1 = some r2) (hG : ∀ j, j < v → G j < 13000) : b_X13_rowOf_33 rc (nI n, nI H, nI k, nI l4, nxG v G k, r1) = some (.inr r2) := by
  show k_X13_rowOf_33 rc (nI n) (nI H) (nI k) (nI l4) (nxG v G k) r1 = _
  unfold k_X13_rowOf_33
  rw [h2]
  by_cases e : nxG v G k = -1
  · rw [e, if_pos (by decide)]
    rfl
  · have ne := h.resolve_left e
    have q : nxG v G k = nI (G k) ∧ k < v := by
      unfold nxG at e ⊢
      by_cases y : k < v
      · rw [if_pos y]; exact ⟨rfl, y⟩
      · rw [if_neg y] at e; exact absurd rfl e
    rw [q.1, if_neg (nI_pos (by have := hG k q.2; omega)), if_neg ne]
    rfl
/-- [ .. ] or { .. }: the node, once its parts and what is done with them are known -/
theorem ev_row {o K : Nat} {F : t_S → Option t_S} (hKK : (K = 60 ∧ l4 = 0) ∨ (K = 59 ∧ l4 = 1)) (hK : EK Kc Kr) (hr : rr ≤ 360) (hv : v ≤ 16) (hn : n < 13000) (hk : r0.1 955 n = nI K) (hm : m0 < m1) {eE : Nat} (hE0 : E 0 = e0) (hEv : E v = eE) (he : e0 ≤ eE) (he2 : eE ≤ e1) (hE : ∀ j, j < v → E j ≤ E (j + 1) ∧ E (j + 1) ≤ eE) (ch : ch_R r0 n v G) {mA mB : Nat → Nat} (hp : ∀ j, j < v → EVp κ c0 r0 Kc Kr g (rr + 15) (E j) (E (j + 1)) (mA j) (mB j) (pe j) ∧ mB j - mA j ≤ m1 - m0 ∧ ((l4 = 0 ∧ pe j = G j) ∨ (l4 = 1 ∧ r0.1 959 (G j) = nI (pe j)))) (op : ∀ c1 r1 D a H S N M A, l2_fr (eZc c0) c0 c1 → l2_fr eZr r0 r1 → TV D a H S v N M A c1 r1 → H < 750 → D < 3150 → a + 2000 ≤ 48000 → ∃ c2 r2 i u, (u ≤ e1 - eE ∧ eE ≤ i ∧ i ≤ e1 ∧ l2_tn b_X0_work_12 u (nI eE, c1) (nI i, c2)) ∧ k_X13_rowOf_81 (R_X13_behindFirst (g + 1)) (nI n) (nI H) (nI v) (nI l4) r1 = some r2 ∧ Ef c0 Kc (Kr eE e1) D a H S c1 r1 c2 r2 ∧ ((i = e1 ∧ Eg D a H S c2 r2) ∨ Eb eE e1 S c2 r2)) : EVp κ c0 r0 Kc Kr (g + 3) rr e0 e1 m0 m1 n := by
  intro c r D a H S hI hv0 hS
  obtain ⟨b1, b2, b3⟩ := hI.bd2 hr
  have rk : r.1 955 n = nI K := ((ez_r (b := 955) (j := n) hI.1.2 (by omega)).1).trans hk
  have r9 : r.1 959 n = nxG v G 0 := by
    rw [(ez_r (b := 959) (j := n) hI.1.2 (by omega)).1, ch.1]
    rfl
  have h98 := hI.2.2.1.1
  have Gl : ∀ j, j < v → G j < 13000 := fun j hj => (ch.2 j hj).1
  have L : ∀ r2 u y, u ≤ 100 → l2_tn (b_X13_rowOf_33 (R_X13_behindFirst (g + 1))) u (nI n, nI H, 0, nI l4, nxG v G 0, r) y → b_X13_rowOf_33 (R_X13_behindFirst (g + 1)) y = some (.inr r2) → (R_X13_behindFirst (g + 3)).2.1 (nI n) r = some r2 := fun r2 u y hu ht hy => by
    have lp := l2_tnR ht (by omega) hy
    have q : (R_X13_behindFirst (g + 2)).2.2.2.2.2.1 (nI n) r = some r2 := by
      show m_X13_rowOf (R_X13_behindFirst (g + 1)) (nI n) r = some r2
      unfold m_X13_rowOf k_X13_rowOf_23
      rw [if_pos (l2_ix hn (by decide)), nI_clamp (n := n) (by omega), rk, h98, r9]
      rcases hKK with ⟨e, l0⟩ | ⟨e, l0⟩
      · rw [e, if_neg (by decide), if_pos (l2_ix hn (by decide))]
        rw [l0] at lp
        exact lp
      · rw [e, if_pos (show nI 59 = (59 : Int32) from rfl), if_pos (l2_ix hn (by decide))]
        rw [l0] at lp
        exact lp
    show m_X13_leaf (R_X13_behindFirst (g + 2)) (nI n) r = some r2
    unfold m_X13_leaf
    rw [if_pos hI.2.2.1.2.1, if_pos (l2_ix hn (by decide)), nI_clamp (n := n) (by omega), rk]
    rcases hKK with ⟨e, _⟩ | ⟨e, _⟩
    · rw [e, if_neg (by decide), if_neg (by decide), if_neg (by decide), if_neg (by decide), if_neg (by decide), if_neg (by decide), if_neg (by decide), if_neg (by decide), if_neg (by decide), if_neg (by decide), if_neg (by decide), q, l2_bs]
    · rw [e, if_neg (by decide), if_neg (by decide), if_neg (by decide), if_neg (by decide), if_neg (by decide), if_neg (by decide), if_neg (by decide), if_neg (by decide), if_neg (by decide), if_neg (by decide), if_pos (by decide), q, l2_bs]
  have lf : ∀ r2, (R_X13_behindFirst (g + 3)).2.1 (nI n) r = some r2 → Rw (g + 3) m0 m1 n S r r2 := fun r2 q => Rw.leaf (K := K) hn rk (Or.inl (by omega)) (by omega) q
  obtain ⟨c1, r1, F1, O⟩ := pt_go (sz := m1 - m0) (mA := mA) (mB := mB) (pe := pe) hK hr hv hn hE0 (fun j hj => (hE j hj).1) ch (by omega) hp hI hv0 hS v (Nat.le_refl _)
  have z := hI.z F1
  rcases O with ⟨N, M, A, u, u1, u2, u3, u4, T⟩ | ⟨i, u, k, u1, u2, u3, u4, u5, u6, u7, B⟩
  · rw [hEv] at u1 u3
    obtain ⟨c2, r2, i2, w, ⟨w1, x1, x2, w2⟩, w3, w4, w5⟩ := op c1 r1 D a H S N M A z.1 z.2 T b1 b2 b3
    have e33 := b33_end (rc := R_X13_behindFirst (g + 1)) (v := v) (G := G) (k := v) (n := n) (H := H) (l4 := l4) (r1 := r1) (Or.inl (if_neg (by omega))) w3 Gl
    refine ⟨c2, r2, i2, u + w, ⟨by omega, by omega, x2, u3.trans w2⟩, F1.trans hK w4 (Nat.le_refl _) (Nat.le_refl _) (Nat.le_refl _) (Nat.le_refl _), ?_, lf r2 (L r2 v _ (by omega) u4 e33)⟩
    rcases w5 with w5 | w5
    · exact Or.inl w5
    · exact Or.inr (w5.w he (Nat.le_refl _))
  · rw [hEv] at u1 u3 B
    have B' := B
    obtain ⟨er, st, q1, q2, q3, q4, q5, q6, q7⟩ := B
    have ne : r1.1 950 97 ≠ 0 := by rw [q3]; exact nI_ne0 (by omega) (by omega)
    have e33 := b33_end (rc := R_X13_behindFirst (g + 1)) (v := v) (G := G) (k := k) (n := n) (H := H) (l4 := l4) (r1 := r1) (Or.inr ne) (kb_81 ne u4 (by omega)) Gl
    exact ⟨c1, r1, i, u, ⟨by omega, u2, by omega, u6⟩, F1.w hK (Nat.le_refl _) (by omega), Or.inr (B'.w (Nat.le_refl _) he2), lf r1 (L r1 k _ (by omega) u7 e33)⟩
/-- [ .. ] -/
theorem ev_list (hK : EK Kc Kr) (hr : rr ≤ 360) (h2 : c0.1 334 2 = nI cnt) (hc : cnt ≤ 16000) (hi : e1 - 1 < cnt) (hv : v ≤ 12) (hn : n < 13000) (hk : r0.1 955 n = 60) (h0 : e0 < e1) (hE : px_B v e0 (e1 - 1) E) (hM : px_B v (m0 + 1) m1 Mm) (hm : m0 < m1) (ho : px_o c0 (e1 - 1) 31 (nI v)) (ch : ch_R r0 n v G) (hp : ∀ j, j < v → EVp κ c0 r0 Kc Kr g (rr + 15) (E j) (E (j + 1)) (Mm j) (Mm (j + 1)) (G j)) : EVp κ c0 r0 Kc Kr (g + 3) rr e0 e1 m0 m1 n := by
  refine ev_row (o := 31) (F := some) (K := 60) (l4 := 0) (pe := G) (mA := Mm) (mB := fun j => Mm (j + 1)) (eE := e1 - 1) (Or.inl ⟨rfl, rfl⟩) hK hr (by omega) hn hk hm hE.1 hE.2.1 (by omega) (by omega) (fun j hj => ⟨(hE.2.2 j hj).1, (hE.2.2 j hj).2.1⟩) ch (fun j hj => ⟨hp j hj, by have := hM.2.2 j hj; show Mm (j + 1) - Mm j ≤ _; omega, Or.inl ⟨rfl, rfl⟩⟩) (fun c1 r1 D a H S N M A z1 z2 T b1 b2 b3 => ?_)
  have f1 : l2_fr (fun b j => b = 334 ∧ j = 13) c1 (t_setI c1 334 13 (nI (e1 - 1))) := l2_fr.set ⟨rfl, rfl⟩
  have v13 : (t_setI c1 334 13 (nI (e1 - 1))).1 334 13 = nI (e1 - 1) := by rw [l2_g, if_pos rfl]
  have t := cw_turn z1 h2 hc hi ho (by decide) (by decide) T.2.2.1.2
  rw [if_pos (by decide), if_pos (by decide), if_pos (by decide), if_pos (by decide), if_neg (by decide)] at t
  generalize t_setI c1 334 13 (nI (e1 - 1)) = cs at *
  have zz : l2_fr (eZc c0) c0 cs := z1.trans (f1.mono (fun b j y => by unfold eZc eWc; omega))
  have e36 : cs.1 336 (e1 - 1) = nI v := by rw [(ez_c (b := 336) (j := e1 - 1) zz (by omega)).1]; exact ho.2
  have ga : f_X0_gather (nI 31) (nI (e1 - 1)) cs = f_X0_makeList (nI v) cs := by
    unfold f_X0_gather
    rw [if_neg (by decide), if_neg (by decide), if_pos (by decide), if_pos (l2_ix (by omega) (by decide)), nI_clamp (n := e1 - 1) (by omega), e36, bso]
  have U := uo_mklist (rc := R_X13_behindFirst (g + 1)) (n := n) (T.c13 f1) (by omega) b1 b2 b3
  obtain ⟨c2, r2, q1, q2, q3, q4⟩ := U.fin (c0 := c0) (Kc := Kc) (Kr := Kr) hK f1 v13 T.2.2.2.2.2 T.2.2.2.2.1
  rw [ga, q1, l2_bs, show e1 - 1 + 1 = e1 by omega] at t
  exact ⟨c2, r2, e1, 1, ⟨by omega, by omega, Nat.le_refl _, l2_tn.one t⟩, q2, q3.w hK (Nat.le_refl _) (by omega), q4.imp (fun y => ⟨rfl, y⟩) (fun y => y.w (Nat.le_refl _) (by omega))⟩
end
