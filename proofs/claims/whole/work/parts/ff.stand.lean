/-! Level 2: what settling and the check stand on, from a module read. -/
section
variable {P : pc_S} {nt : Nat → Nat} {a g : Nat} {k : Nat → Nat} {c0 c r s : t_S}
theorem xD_rf {x y : Nat} : xD_r r r x y := fun _ _ _ => ⟨rfl, rfl, rfl, rfl, rfl, rfl, fun _ => rfl⟩
theorem mS_rf {x y : Nat} : mS_r r r x y := fun _ _ _ _ _ _ _ => rfl
theorem mK_rf {x y : Nat} : mK x y r r := mK.of (W := fun _ _ => False) l2_fr.rf (fun _ _ _ => id)
theorem sQ_of (h : mR P nt a g k c0 c r) (hM : MK (pc_V P) c) (z : ∀ x, 66 + x < pc_W P → c0.1 7 (66 + x) = 0) (fs : l2_fr (su_W (nt 3)) c s) (ko : ∀ f, f < nt 3 → ko_R nt r f (s.1 438 f)) : sQ (pc_W P) nt a (k 3) (k 4) (k 5) (k 6) (k 7) (k 2) (k 9) s r := by
  have J := h.1.1
  obtain ⟨m1, _, q3, _⟩ := J.mle (by decide)
  have e := h.1.2.2.1
  have le := h.1.2.2.2.2.2
  have l6 : k 6 ≤ 6000 := Nat.le_trans le.2.2.1 J.cle.1
  have cs : ∀ b j, ¬ su_W (nt 3) b j → s.1 b j = c.1 b j := fun b j y => (fs b j y).1
  have c4 : ∀ b j, b ≠ 1 → b ≠ 438 → s.1 b j = c.1 b j := fun b j y1 y2 => cs b j (by unfold su_W; omega)
  have rf : l2_fr (fun _ _ => False) r r := l2_fr.rf
  have hN : nt_R (pc_W P) nt s r := h.1.2.1.fr fs rf (fun i => by unfold su_W; omega) ⟨by unfold su_W; omega, by unfold su_W; omega, by unfold su_W; omega, by unfold su_W; omega⟩ ⟨fun y => y, fun y => y, fun y => y, fun y => y⟩ (fun b i y => fun y => y)
  have hc : ∀ l, mL_c c s l := fun l b e' b1 b2 _ => c4 b e' (by omega) (by omega)
  obtain ⟨_, _, hkd, hun, hst, ⟨hb1, hb2, _, _, hb5, hb6⟩, hcp⟩ := h.2
  have cpc : cp_c (su_W (nt 3)) (k 3) (k 4) (k 5) (k 6) := fun b j w => by unfold su_W at w; exact ⟨by omega, by omega, by omega, by omega⟩
  have cpr : cp_r (fun _ _ => False) (k 2) (k 7) := fun b j w => w.elim
  refine ⟨⟨hN, ko, hM.1.fr fs (fun j => by unfold su_W; omega), fun j hj => ?_⟩, fun x hx => ?_, fun x hx => ?_, fun ln hl => ?_, SP.fr hM.2.2.1 (fs.mono (fun b j y => by unfold su_W at y; unfold sa_W; omega)), ?_, ⟨?_, l6, ?_, by omega, ?_, by omega, ?_, by omega, ?_, by omega, le.2.2.2.2.2.2.2.2⟩, fun x X hx hX h7 => ?_, fun X hX hW => ?_, fun ln hl h8 => ?_⟩
  · obtain ⟨v0, v1, v2, A, B, D, hcw, _⟩ := hkd j hj
    exact ⟨v0, v1, v2, A, B, D, hcw.fr fs rf (fun b j b1 b2 => by unfold su_W; omega) (fun _ _ _ _ _ => id)⟩
  · exact (hb2 x (Nat.zero_le _) hx).fr (hc (k 6)) hx xD_rf mS_rf mK_rf (Nat.le_refl _) (Nat.le_refl _) ⟨Nat.le_refl _, Nat.le_refl _⟩ ⟨Nat.le_refl _, Nat.le_refl _⟩ (fun _ _ _ y y1 y2 y3 => absurd ⟨y1, y2⟩ y3)
  · exact (hb1 x (Nat.zero_le _) hx).fr (m := 0) (m' := k 2) (hc (k 6)) xD_rf mS_rf mK_rf (Nat.zero_le _) hx (Nat.le_refl _) (Nat.le_refl _) ⟨Nat.le_refl _, Nat.le_refl _⟩ ⟨Nat.le_refl _, Nat.le_refl _⟩ (fun y y1 y2 y3 => absurd ⟨y1, y2⟩ y3)
  · exact (hst ln hl).fr fs rf cpc cpr mK_rf (Nat.le_refl _) (Nat.le_refl _) ⟨Nat.le_refl _, Nat.le_refl _, Nat.le_refl _, Nat.le_refl _, Nat.le_refl _, Nat.le_refl _⟩ (Nat.le_refl _) (fun j => c4 _ j (by omega) (by omega)) (fun _ _ _ => rfl) (fun f td cnt _ _ _ _ _ => c4 443 _ (by decide) (by decide))
  · have E8 : s.1 848 = c.1 848 := funext (fun j => c4 848 j (by decide) (by decide))
    have E9 : s.1 849 = c.1 849 := funext (fun j => c4 849 j (by decide) (by decide))
    have E1 : s.1 851 = c.1 851 := funext (fun j => c4 851 j (by decide) (by decide))
    have E2 : s.1 852 = c.1 852 := funext (fun j => c4 852 j (by decide) (by decide))
    unfold mCP
    rw [E8, E9, E1, E2]
    exact hcp.1
  · rw [c4 846 6 (by decide) (by decide)]; exact e.2.2.2.2.2.1
  · rw [c4 316 8 (by decide) (by decide)]; exact e.1
  · rw [c4 353 9 (by decide) (by decide)]; exact e.2.2.1
  · rw [c4 334 2 (by decide) (by decide)]; exact e.2.2.2.1
  · exact (hN.1 2 (by decide)).2.1
  · rw [c4 850 x (by decide) (by decide)] at hX
    exact hM.wd J.f0.1 e.2.2.2.2.2.1 (by omega) hx hX h7
  · rw [c4 7 (66 + X) (by decide) (by decide)]
    have h5 := hb5 X hX
    have z0 := z X hW
    refine ⟨fun y ⟨j, j1, j2, j3⟩ => h5.mpr (Or.inr ⟨j, Nat.zero_le _, j1, j2, j3⟩) y, fun y => Classical.byContradiction (fun q => ?_)⟩
    rcases h5.mp q with w | ⟨j, _, j1, j2, j3⟩
    · exact w z0
    · exact y ⟨j, j1, j2, j3⟩
  · obtain ⟨j, _, j1, j2⟩ := hb6 ln (Nat.zero_le _) hl h8
    exact ⟨j, j1, j2⟩
theorem sK_of (h : mR P nt a g k c0 c r) : sK nt (k 2) (k 9) r := by
  have N := h.1.2.1
  obtain ⟨_, e24, _, _⟩ := h.1.1.mle (by decide)
  exact ⟨e24, h.1.2.2.2.2.1.2.2, (N.1 0 (by decide)).2.2, (N.1 1 (by decide)).2.2, (N.1 2 (by decide)).2.2, (N.1 3 (by decide)).2.2⟩
theorem sX_of (h : mR P nt a g k c0 c r) (hM : MK (pc_V P) c) (hI : IL 2 0 r) (fs : l2_fr (su_W (nt 3)) c s) : sX nt s r (k 6) (k 9) := by
  have e6 : c.1 846 6 = nI (k 6) := h.1.2.2.1.2.2.2.2.2.1
  have l6 : k 6 ≤ 6000 := Nat.le_trans h.1.2.2.2.2.2.2.2.1 h.1.1.cle.1
  have e81 : r.1 950 81 = nI (k 9) := h.1.2.2.2.2.1.2.2
  have st4 : k 9 ≤ 400 := h.1.2.2.2.2.2.2.2.2.2.2.2.2.2
  have c4 : ∀ b j, b ≠ 1 → b ≠ 438 → s.1 b j = c.1 b j := fun b j y1 y2 => (fs b j (by unfold su_W; omega)).1
  refine ⟨fun ln hl h0 => hI.1 ln (by rw [e81, nI_toInt (by omega)]; omega) h0, fun e he h9 => ?_, fun f hf => ?_⟩
  · rw [c4 849 e (by decide) (by decide)] at h9
    obtain ⟨n, n1, n2, _, n4⟩ := hM.2.2.2.1.1 e (by rw [e6, nI_toInt (by omega)]; omega) h9
    exact ⟨n, by rw [c4 852 e (by decide) (by decide)]; exact n1, n2, by rw [c4 (445 + n) 7 (by omega) (by omega)]; exact n4⟩
  · obtain ⟨so, pn, n, Y, pl, e, lo, hi, L, fst, x1, ⟨x2, x3, x4⟩, ⟨x5, x6, _⟩, _⟩ := h.2.2.2.2.1 f hf
    exact ⟨⟨so, x1, by rw [c4 437 f (by decide) (by decide)]; exact x2, x4⟩, by rw [c4 439 f (by decide) (by decide), x5, x6]⟩
theorem vT_of (h : mR P nt a g k c0 c r) (fs : l2_fr (su_W (nt 3)) c s) : vT nt s r (k 6) := by
  have c4 : ∀ e b, 848 ≤ b → b ≤ 853 → s.1 b e = c.1 b e := fun e b y1 y2 => (fs b e (by unfold su_W; omega)).1
  refine ⟨fun i hi => ?_, fun f hf => ?_⟩
  · obtain ⟨v0, v1, v2, A, B, D, hcw, hv⟩ := h.2.2.2.1 i hi
    refine ⟨v2, hcw.1.2.2, hcw.2.2.2.1.2, fun j hj => ?_⟩
    obtain ⟨_, _, _, _, _, _, _, _, _, _, _, _, _, _, _, _, _, _, _, _, _, h7⟩ := hv j hj
    exact h7.imp id (fun ⟨X, pl, e', q1, q2, q3, q4, q5⟩ => ⟨X, pl, e', q1, q2, q3, q4.fr (c4 e'), q5⟩)
  · obtain ⟨so, pn, n, Y, pl, e, lo, hi, L, fst, x1, _, _, ⟨y1, y2, y3, y4, y5, y6⟩, _⟩ := h.2.2.2.2.1 f hf
    exact ⟨Y, pl, e, y1, y2, y3, y4.fr (c4 e), y5, y6⟩
end
