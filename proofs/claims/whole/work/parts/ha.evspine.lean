/-! Level 2: exps worked out: what is done with a first part that lies on the stack. -/
section
variable {κ : KPP} {c0 r0 : t_S} {Kc : t_S → t_S → Prop} {Kr : Nat → Nat → t_S → t_S → Prop} {c r c' r' : t_S} {D a H S rr e0 e1 i g n m0 m1 cnt o K : Nat} {x : Int32}
/-- one operation on the top VALUE, on both sides -/
def StU (c0 r0 : t_S) (Kc : t_S → t_S → Prop) (Kr : Nat → Nat → t_S → t_S → Prop) (F : t_S → Option t_S) (rr e1 : Nat) : Prop := ∀ c1 r1 D a H S, l2_fr (eZc c0) c0 c1 → l2_fr eZr r0 r1 → Eg D a H S c1 r1 → c1.1 339 D = nI a → (H < 790 ∧ D < 3200 ∧ a + 240 ≤ 48000) → (H < 750 ∧ D < 3150 ∧ a + 2000 ≤ 48000) → ∃ c2 r2, b_X0_work_12 (nI (e1 - 1), c1) = some (.inl (nI e1, c2)) ∧ F r1 = some r2 ∧ Ef c0 Kc (Kr (e1 - 1) e1) D a H S c1 r1 c2 r2 ∧ (Eg D a H S c2 r2 ∨ Eb (e1 - 1) e1 S c2 r2)
theorem Ein.bd2 (hE : Ein κ c0 r0 rr D a H S c r) (hr : rr ≤ 360) : H < 750 ∧ D < 3150 ∧ a + 2000 ≤ 48000 := by
  obtain ⟨_, _, _, h1, h2, h3⟩ := hE
  omega
theorem Eb.w {e0' e1' : Nat} (h : Eb e0' e1' S c' r') (h0 : e0 ≤ e0') (h1 : e1' ≤ e1) : Eb e0 e1 S c' r' := by
  obtain ⟨er, st, b1, b2, b3, b4, b5, b6, b7⟩ := h
  exact ⟨er, st, b1, b2, b3, b4, by omega, by omega, b7⟩
/-- S changed behind an ERROR, or none -/
theorem Eb.s {S' : Nat} (h : Eb e0 e1 S' c' r') : Eb e0 e1 S c' (t_setI r' 950 103 (nI S)) := by
  obtain ⟨er, st, b1, b2, b3, b4, b5, b6, b7⟩ := h
  exact ⟨er, st, b1, b2, by rw [l2_g, if_neg (by decide)]; exact b3, b4, b5, b6, by rw [l2_g, if_pos rfl]⟩
theorem Eg.s {S' : Nat} (h : Eg D a H S' c' r') : Eg D a H S c' (t_setI r' 950 103 (nI S)) := by
  obtain ⟨⟨n, m, V, e⟩, b, h98, h97, _⟩ := h
  exact ⟨⟨n, m, VW.copy _ _ _ _ _ _ _ V (fun _ _ => rfl) (fun _ _ => rfl), e⟩, b, by rw [l2_g, if_neg (by decide)]; exact h98, by rw [l2_g, if_neg (by decide)]; exact h97, by rw [l2_g, if_pos rfl]⟩
theorem ev_spine (hK : EK Kc Kr) (hr : rr ≤ 360) (hn : n < 13000) (hk : r0.1 955 n = nI K) (hK1 : (64 ≤ K ∧ K ≤ 70) ∨ K = 72) {b a0 a1 e1' : Nat} (h9 : r0.1 959 n = nI b) (hsz : a1 - a0 < m1 - m0) (hb : EVp κ c0 r0 Kc Kr g rr e0 e1' a0 a1 b) (he : e0 ≤ e1') (he2 : (e1' = e1 ∧ ∀ r1, (R_X13_behindFirst g).1 (nI n) r1 = some r1) ∨ (e1' = e1 - 1 ∧ 0 < e1 ∧ StU c0 r0 Kc Kr (fun r1 => (R_X13_behindFirst g).1 (nI n) r1) rr e1)) : EVp κ c0 r0 Kc Kr g rr e0 e1 m0 m1 n := by
  intro c r D a H S hE hv hS
  obtain ⟨b1, b2, b3⟩ := hE.bd hr
  obtain ⟨rp, hrp⟩ : ∃ rp, rp = t_setI (t_setI r 1008 S (nI n)) 950 103 (nI (S + 1)) := ⟨_, rfl⟩
  have fp : l2_fr (fun b j => (b = 1008 ∧ j = S) ∨ (b = 950 ∧ j = 103)) r rp := by rw [hrp]; exact (l2_fr.set (Or.inl ⟨rfl, rfl⟩)).trans (l2_fr.set (Or.inr ⟨rfl, rfl⟩))
  have p103 : rp.1 950 103 = nI (S + 1) := by rw [hrp, l2_g, if_pos rfl]
  have p8 : rp.1 1008 S = nI n := by rw [hrp, l2_sO (by decide), l2_g, if_pos rfl]
  have hEp : Ein κ c0 r0 rr D a H (S + 1) c rp := by
    obtain ⟨⟨q1, q2⟩, q3, ⟨q4, q5, q6⟩, q7⟩ := hE
    refine ⟨⟨q1, q2.trans (fp.mono (fun b j y => by unfold eZr eWr; omega))⟩, q3, ⟨?_, ?_, p103⟩, q7⟩
    · rw [(fp 950 98 (by omega)).1]; exact q4
    · rw [(fp 950 97 (by omega)).1]; exact q5
  have Fp : Ef c0 Kc (Kr e0 e0) D a H S c r c rp := Ef.of (h97 := fun _ => hE.2.2.1.2.1) hK (l2_fr.rf (W := fun _ _ => False)) fp (fun b j y => y.elim) (fun b j y => ⟨by unfold eWr; omega, by unfold eBr; omega⟩)
  obtain ⟨c1, r1, j, u, ⟨u1, u2, u3, u4⟩, F, O, W⟩ := hb c rp D a H (S + 1) hEp (hv.ef hK Fp) (by omega)
  have f8 : r1.1 1008 S = nI n := by rw [(F.2.1 1008 S (by unfold eWr; omega)).1]; exact p8
  have z := hEp.z F
  have Fs : Ef c0 Kc (Kr e1' e1') D a H S c1 r1 c1 (t_setI r1 950 103 (nI S)) := Ef.of hK (l2_fr.rf (W := fun _ _ => False)) (l2_fr.set (W := fun b j => b = 950 ∧ j = 103) ⟨rfl, rfl⟩) (fun b j y => y.elim) (fun b j y => ⟨by unfold eWr; omega, by unfold eBr; omega⟩)
  have F1 : Ef c0 Kc (Kr e0 e1') D a H S c r c1 (t_setI r1 950 103 (nI S)) := (Fp.trans hK F (Nat.le_refl _) (Nat.le_refl _) (Nat.le_refl _) (by omega) : Ef c0 Kc (Kr e0 e1') D a H S c r c1 r1).trans hK Fs (Nat.le_refl _) (Nat.le_refl _) (Nat.le_refl _) (Nat.le_refl _)
  have rk : r.1 955 n = nI K := ((ez_r (b := 955) (j := n) hE.1.2 (by omega)).1).trans hk
  have r9 : r.1 959 n = nI b := ((ez_r (b := 959) (j := n) hE.1.2 (by omega)).1).trans h9
  rw [hrp] at W
  rcases O with ⟨rfl, G⟩ | B
  · have G' := Eg.s (S := S) G
    have e97 : r1.1 950 97 = 0 := G.2.2.2.1
    have e103 : r1.1 950 103 = nI (S + 1) := G.2.2.2.2
    rcases he2 with ⟨rfl, hid⟩ | ⟨rfl, ep, St⟩
    · exact ⟨c1, _, j, u, ⟨u1, he, Nat.le_refl _, u4⟩, F1, Or.inl ⟨rfl, G'⟩, Rw.spine hn rk hK1 r9 hE.2.2.1.2.2 (hE.s13 hS) hsz W e103 f8 (Or.inr ⟨e97, hid _⟩)⟩
    · have a39 : c1.1 339 D = nI a := by rw [(F.1 339 D (by unfold eWc; omega)).1]; exact hE.2.1.2.1
      obtain ⟨c2, r2, s1, s2, s3, s4⟩ := St c1 _ D a H S z.1 (z.2.trans (l2_fr.set (by unfold eZr eWr; omega))) G' a39 ⟨b1, b2, b3⟩ (hE.bd2 hr)
      refine ⟨c2, r2, e1, u + 1, ⟨by omega, by omega, Nat.le_refl _, u4.trans (l2_tn.one s1)⟩, F1.trans hK s3 (Nat.le_refl _) (Nat.le_refl _) (Nat.le_refl _) (Nat.le_refl _), ?_, Rw.spine hn rk hK1 r9 hE.2.2.1.2.2 (hE.s13 hS) hsz W e103 f8 (Or.inr ⟨e97, s2⟩)⟩
      rcases s4 with s4 | s4
      · exact Or.inl ⟨rfl, s4⟩
      · exact Or.inr (s4.w (by omega) (Nat.le_refl _))
  · have B' := Eb.s (S := S) B
    obtain ⟨er, st, q1, q2, q3, q4, q5, q6, q7⟩ := B
    have ne : r1.1 950 97 ≠ 0 := by rw [q3]; exact nI_ne0 (by omega) (by omega)
    refine ⟨c1, _, j, u, ⟨?_, u2, ?_, u4⟩, F1.w hK (Nat.le_refl _) ?_, Or.inr (B'.w (Nat.le_refl _) ?_), Rw.spine hn rk hK1 r9 hE.2.2.1.2.2 (hE.s13 hS) hsz W q7 f8 (Or.inl ⟨ne, rfl⟩)⟩
    · rcases he2 with ⟨rfl, _⟩ | ⟨rfl, _⟩ <;> omega
    · rcases he2 with ⟨rfl, _⟩ | ⟨rfl, _⟩ <;> omega
    · rcases he2 with ⟨rfl, _⟩ | ⟨rfl, _⟩ <;> omega
    · rcases he2 with ⟨rfl, _⟩ | ⟨rfl, _⟩ <;> omega
end
