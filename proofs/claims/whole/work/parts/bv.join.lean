/-! Level 2: exps on both sides: two sides and their operator. -/
section
variable {P : pc_S} {E : en_S} {u q m t e p l w o s i dd u' q' m' t' e' p' l' s' i' u5 e5 u6 q6 m6 t6 e6 p6 l6 s6 i6 n n2 x g b : Nat} {c r c2 ra c5 r4 c2' r5 c3 r6 : t_S}
theorem lv_join {rx : Nat} (hr : rx ≤ 360 ∧ 15 ≤ rx % 20) (G1 : xk P u q t e p l s i u' q' t' e' p' l' s' i') (G2 : m < m') (G3 : l2_fr (xWc t e p l w o) c c2) (G4 : l2_fr (xWr m s) r ra) (G5 : XR (wn_R E c2 ra l l') (an_R E c2 ra l l') (tn_R E c2 ra l l') (sn_R c2) c2 ra p' s' (m' - m) 0 0 rx e e' t t' m m' n) (G6 : xD E c c2 ra l l' i i' m m')
    (hp5 : pc_p P u' + 1 ≤ pc_p P u5) (hc5 : pc_c P u' ≤ pc_c P u5) (hu5 : u' < u5) (he5 : (x ≠ 16 ∧ x ≠ 17 ∧ e5 = e') ∨ ((x = 16 ∨ x = 17) ∧ e5 = e' + 1 ∧ ∃ op, px_log g op ∧ c5.1 335 e' = nI op))
    (f25 : l2_fr (fun b j => la_W b j ∨ (b = 845 ∧ (j = 7 ∨ j = 10)) ∨ (b = 854 ∧ (j = 2 * w ∨ j = 2 * w + 1)) ∨ (b = 334 ∧ j = 2) ∨ ((b = 335 ∨ b = 336) ∧ j = e')) c2 c5) (fra : l2_fr (fun b j => rn_W b j ∨ xn_W m' b j ∨ ((b = 957 ∨ b = 959) ∧ j = m')) ra r4)
    (k55 : r4.1 955 m' = 70) (k57 : r4.2.1 957 m' = lN g) (k59 : r4.1 959 m' = nI n) (k60 : r4.1 960 m' = -1)
    (H1 : xk P u5 (q' + 1) t' e5 p' l' s' i' u6 q6 t6 e6 p6 l6 s6 i6) (H2 : m' + 1 < m6) (H3 : l2_fr (xWc t' e5 p' l' (w + 1) o) c5 c2') (H4 : l2_fr (xWr (m' + 1) s') r4 r5) (H5 : XR (wn_R E c2' r5 l' l6) (an_R E c2' r5 l' l6) (tn_R E c2' r5 l' l6) (sn_R c2') c2' r5 p6 s6 (m6 - (m' + 1)) 0 0 (rx + 1) e5 e6 t' t6 (m' + 1) m6 n2) (H6 : xD E c5 c2' r5 l' l6 i' i6 (m' + 1) m6)
    (hpop : (x ≠ 16 ∧ x ≠ 17 ∧ (∃ op, px_two g op ∧ px_o c3 e6 op 0) ∧ l2_fr (fun b j => (b = 845 ∧ j = 7) ∨ (b = 334 ∧ j = 2) ∨ ((b = 335 ∨ b = 336) ∧ j = e6)) c2' c3) ∨ ((x = 16 ∨ x = 17) ∧ c3.1 336 e' = nI (e6 + 1) ∧ px_o c3 e6 30 0 ∧ l2_fr (fun b j => (b = 845 ∧ j = 7) ∨ (b = 334 ∧ j = 2) ∨ ((b = 335 ∨ b = 336) ∧ j = e6) ∨ (b = 336 ∧ j = e')) c2' c3)) (f56 : l2_fr (fun b j => b = 960 ∧ j = n) r5 r6) (k6 : r6.1 960 n = nI n2)
    (X : xp P E u6 0 0 q6 m6 t6 (e6 + 1) p6 l6 w o s6 i6 dd c3 r6) : xG P E 0 0 rx u q m t e p l w o s i dd c r m' c3 r6 := by
  have G1' := G1
  unfold xk at G1'
  have H1' := H1
  unfold xk at H1'
  obtain ⟨n1, n2', n3, n4⟩ := G5.at
  obtain ⟨o1, o2, o3, o4⟩ := H5.at
  have fpop : l2_fr (fun b j => (b = 845 ∧ j = 7) ∨ (b = 334 ∧ j = 2) ∨ ((b = 335 ∨ b = 336) ∧ j = e6) ∨ (b = 336 ∧ j = e' ∧ e5 = e' + 1)) c2' c3 := by
    rcases hpop with ⟨_, _, _, f⟩ | ⟨z, _, _, f⟩
    · exact f.mono (fun b j y => by omega)
    · have : e5 = e' + 1 := by omega
      exact f.mono (fun b j y => by omega)
  have e5b : e' ≤ e5 ∧ e5 ≤ e' + 1 := by omega
  have gc : l2_fr (fun b j => la_W b j ∨ (b = 845 ∧ (j = 7 ∨ j = 10)) ∨ (b = 854 ∧ (j = 2 * w ∨ j = 2 * w + 1)) ∨ (b = 334 ∧ j = 2) ∨ ((b = 335 ∨ b = 336) ∧ e' ≤ j) ∨ xWc t' e5 p' l' (w + 1) o b j) c2 c3 := ((f25.mono (fun b j y => by
    rcases y with y | y | y | y | y
    · exact Or.inl y
    · exact Or.inr (Or.inl y)
    · exact Or.inr (Or.inr (Or.inl y))
    · exact Or.inr (Or.inr (Or.inr (Or.inl y)))
    · exact Or.inr (Or.inr (Or.inr (Or.inr (Or.inl ⟨y.1, by omega⟩)))))).trans (H3.mono (fun b j y => Or.inr (Or.inr (Or.inr (Or.inr (Or.inr y))))))).trans (fpop.mono (fun b j y => by
    rcases y with y | y | y | y
    · exact Or.inr (Or.inl ⟨y.1, Or.inl y.2⟩)
    · exact Or.inr (Or.inr (Or.inr (Or.inl y)))
    · exact Or.inr (Or.inr (Or.inr (Or.inr (Or.inl ⟨y.1, by omega⟩))))
    · exact Or.inr (Or.inr (Or.inr (Or.inr (Or.inl ⟨Or.inr y.1, by omega⟩))))))
  have gr : l2_fr (fun b j => rn_W b j ∨ xn_W m' b j ∨ ((b = 957 ∨ b = 959) ∧ j = m') ∨ xWr (m' + 1) s' b j ∨ (b = 960 ∧ j = n)) ra r6 := ((fra.mono (fun b j y => by
    rcases y with y | y | y
    · exact Or.inl y
    · exact Or.inr (Or.inl y)
    · exact Or.inr (Or.inr (Or.inl y)))).trans (H4.mono (fun b j y => Or.inr (Or.inr (Or.inr (Or.inl y)))))).trans (f56.mono (fun b j y => Or.inr (Or.inr (Or.inr (Or.inr y)))))
  have gr4 : l2_fr (fun b j => xWr (m' + 1) s' b j ∨ (b = 960 ∧ j = n)) r4 r6 := (H4.mono (fun b j y => Or.inl y)).trans (f56.mono (fun b j y => Or.inr y))
  have q4 : ∀ b, (955 ≤ b ∧ b ≤ 962) ∨ b = 1003 → r6.1 b m' = r4.1 b m' ∧ r6.2.1 b m' = r4.2.1 b m' := fun b z => ⟨(gr4 b m' (by unfold xWr; omega)).1, (gr4 b m' (by unfold xWr; omega)).2.1⟩
  have D1 : xD E c2 c5 r4 l' l' i' i' m' (m' + 1) := xD.plain (K := 70) k55 (by decide) (by decide) (f25 846 7 (by unfold la_W; omega)).1 (f25 846 8 (by unfold la_W; omega)).1 (fun y => by omega)
  have D2 : xD E c c5 r4 l l' i i' m (m' + 1) := G6.trans D1 (by omega) (by omega) (by omega) (fun b a y1 y2 y3 => (f25 b a (by unfold la_W; omega)).1) (fun k y1 y2 => by
      have q1 : ∀ b, (955 ≤ b ∧ b ≤ 962) ∨ b = 1003 → r4.1 b k = ra.1 b k ∧ r4.2.1 b k = ra.2.1 b k := fun b z => ⟨(fra b k (by unfold xn_W rn_W; omega)).1, (fra b k (by unfold xn_W rn_W; omega)).2.1⟩
      exact ⟨(q1 955 (by decide)).1, (q1 956 (by decide)).1, (q1 962 (by decide)).1, (q1 1003 (by decide)).1, (q1 957 (by decide)).2, (q1 958 (by decide)).2, fun _ => (q1 961 (by decide)).1⟩)
  have D3 : xD E c c2' r5 l l6 i i6 m m6 := D2.trans H6 (by omega) (by omega) (by omega) (fun b a y1 y2 y3 => (H3 b a (by unfold xWc; omega)).1) (fun k y1 y2 => by
      have q1 : ∀ b, (955 ≤ b ∧ b ≤ 962) ∨ b = 1003 → r5.1 b k = r4.1 b k ∧ r5.2.1 b k = r4.2.1 b k := fun b z => ⟨(H4 b k (by unfold xWr; omega)).1, (H4 b k (by unfold xWr; omega)).2.1⟩
      exact ⟨(q1 955 (by decide)).1, (q1 956 (by decide)).1, (q1 962 (by decide)).1, (q1 1003 (by decide)).1, (q1 957 (by decide)).2, (q1 958 (by decide)).2, fun _ => (q1 961 (by decide)).1⟩)
  have XL : XR (wn_R E c3 r6 l l6) (an_R E c3 r6 l l6) (tn_R E c3 r6 l l6) (sn_R c3) c3 r6 p6 s6 (m6 - m - 1) 0 0 rx e e' t t' m m' n := G5.own gc gr (by omega) (by omega) (by omega) ⟨Nat.le_refl _, by omega⟩ (fun b j y => by unfold la_W xWc at y; omega) (fun b j y => by unfold rn_W xn_W xWr at y; omega)
  have XRr : XR (wn_R E c3 r6 l l6) (an_R E c3 r6 l l6) (tn_R E c3 r6 l l6) (sn_R c3) c3 r6 p6 s6 (m6 - m - 1) 0 0 (rx + 1 + (15 - rx % 20)) e5 e6 t' t6 (m' + 1) m6 n2 := by
    rw [show rx + 1 + (15 - rx % 20) = rx + 1 by omega]
    exact H5.own fpop f56 (Nat.le_refl _) (Nat.le_refl _) (by omega) ⟨by omega, Nat.le_refl _⟩ (fun b j y => by omega) (fun b j y => by omega)
  refine ⟨u6, q6, m6, t6, e6 + 1, p6, l6, s6, i6, ?_, by omega, X, G3.trans (gc.mono (fun b j y => ?_)), G4.trans (gr.mono (fun b j y => ?_)), ?_, D3.own fpop f56 (fun b j y => by omega) (fun b j y => by omega), ?_, fun y => absurd rfl y⟩
  · unfold xk
    omega
  · rcases y with y | ⟨rfl, y⟩ | ⟨rfl, y⟩ | ⟨rfl, rfl⟩ | ⟨y, z⟩ | y
    · exact x_la y
    · exact xWc.i845 (by omega)
    · exact xWc.iwt (by omega)
    · exact xWc.i334 (Or.inl rfl)
    · exact xWc.iop y (by omega)
    · exact y.sub (by omega) (by omega) (by omega) (by omega) (by omega) (Nat.le_refl _)
  · rcases y with y | y | ⟨y, rfl⟩ | y | ⟨rfl, rfl⟩
    · exact x_rn y
    · exact (xn_r y).sub (by omega) (Nat.le_refl _)
    · exact Or.inr (Or.inr (Or.inl ⟨by omega, by omega, by omega⟩))
    · exact y.sub (by omega) (by omega)
    · exact Or.inr (Or.inr (Or.inl ⟨by decide, by decide, by omega⟩))
  · rw [show m6 - m = (m6 - m - 1) + 1 by omega]
    refine ⟨by omega, by omega, by omega, by omega, Or.inl ⟨⟨rfl, hr.1⟩, Or.inr (Or.inr (Or.inr (Or.inr (Or.inl ⟨by omega, e', t', n, n2, by omega, by rw [(q4 959 (by decide)).1]; exact k59, k6, XL, ?_⟩))))⟩⟩
    have h55 : r6.1 955 m' = 70 := by rw [(q4 955 (by decide)).1]; exact k55
    have h57 : r6.2.1 957 m' = lN g := by rw [(q4 957 (by decide)).2]; exact k57
    rw [show e6 + 1 - 1 = e6 by omega]
    rcases hpop with ⟨x1, x2, ⟨op, z1, z2⟩, _⟩ | ⟨x1, z1, z2, _⟩
    · have ee : e5 = e' := by omega
      subst ee
      exact Or.inr (Or.inl ⟨h55, g, op, z1, h57, z2, XRr⟩)
    · have ee : e5 = e' + 1 := by omega
      obtain ⟨op, v1, v2⟩ : ∃ op, px_log g op ∧ c5.1 335 e' = nI op := by
        rcases he5 with ⟨a1, a2, _⟩ | ⟨_, _, a⟩
        · omega
        · exact a
      subst ee
      refine Or.inr (Or.inr ⟨h55, g, op, v1, h57, ⟨?_, z1⟩, z2, XRr⟩)
      rw [(fpop 335 e' (by omega)).1, (H3 335 e' (by unfold xWc; omega)).1]
      exact v2
  · rw [(q4 960 (by decide)).1]; exact k60
end
