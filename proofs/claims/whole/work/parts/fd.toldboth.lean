/-! Level 2: what is told late, both sides to their ends, given a templ's depth in the reference. -/
section
variable {W a t e p l sg m st N n : Nat} {nt T0 T1 : Nat → Nat} {F : (Nat → Nat) → Nat → Nat} {z s s' r r' : t_S} {S T : Nat → Int32 → Prop} {Q : t_S → Prop} {Wc : Nat → Nat → Prop}
theorem dpF.any (H : dpF n T0 T1 s) (hn : n ≤ 60) (f : l2_fr Wc s s') (hW : ∀ b j, Wc b j → b = 846 ∨ (364 ≤ b ∧ b < 424 ∧ j = 6)) : dpF n T0 T1 s' ∧ dpV s' T0 T1 = dpV s T0 T1 := by
  have c : ∀ b j, ¬ (b = 846 ∨ (364 ≤ b ∧ b < 424 ∧ j = 6)) → s'.1 b j = s.1 b j := fun b j y => (f b j (fun w => y (hW b j w))).1
  have e8 : ∀ t, s'.1 358 t = s.1 358 t := fun t => c 358 t (by omega)
  have e4 : ∀ t, s'.1 354 t = s.1 354 t := fun t => c 354 t (by omega)
  have e7 : ∀ t, s'.1 357 t = s.1 357 t := fun t => c 357 t (by omega)
  have ev : ∀ D, vv s' D = vv s D := fun D => funext (fun t => by unfold vv; rw [e8, e4, e7])
  refine ⟨fun u hu => ?_, funext (fun D => funext (fun u => by unfold dpV; rw [ev]))⟩
  obtain ⟨h1, ⟨h2, h3⟩, h4, h5⟩ := H u hu
  refine ⟨h1, ⟨by rw [c (364 + u) 3 (by omega)]; exact h2, by rw [c (364 + u) 4 (by omega)]; exact h3⟩, by rw [e8]; exact h4, fun t t1 t2 => ?_⟩
  rw [e8, e4, e7]
  exact h5 t t1 t2
/-- the class: rings and depths -/
theorem cs_all (n60 : nt 0 ≤ 60) (n61 : nt 1 ≤ 60) (e13 : s.1 316 13 = nI (nt 0)) (e11 : s.1 353 11 = nI (nt 1)) (T : tyF nt s r) (H : dpF (nt 1) T0 T1 s) (hp : ∀ i, i < nt 1 → s.1 (364 + i) 1 = r.1 969 i) (L : ls_R (s.1 846 7) (s.1 846 8) S) : t_hk (f_X3_settleTold s) (fun s2 => l2_fr (fun b j => lf_W b j ∨ (364 ≤ b ∧ b < 424 ∧ j = 6)) s s2 ∧ ls_R (s2.1 846 7) (s2.1 846 8) (fun a b => (S a b ∨ (a = 7 ∧ ∃ x, x < nt 0 ∧ rg_R nt r x ∧ b = r.1 966 x)) ∨ (a = 7 ∧ ∃ x, x < nt 1 ∧ 60 < kR (dpV s T0 T1) (nt 1) 64 x ∧ b = r.1 969 x))) := by
  refine cs_7 n60 e13 T L (fun s2 f2 L2 => ?_)
  obtain ⟨H2, eV⟩ := H.any n61 f2 (fun b j w => Or.inl w.1)
  refine l2_bd _ (ms_all H2 n61 ((f2 353 11 (by unfold lf_W; omega)).1.trans e11)) (fun s3 h3 => ?_)
  obtain ⟨f3, J, J62, hJ, hD⟩ := h3
  rw [eV] at hJ hD
  have c3 : ∀ b j, ¬ (364 ≤ b ∧ b < 424 ∧ j = 6) → s3.1 b j = s2.1 b j := fun b j y => (f3 b j y).1
  refine l2_imp (cs_8 (r := r) (d := kC (dpV s T0 T1) (nt 1) J) n61 ((c3 353 11 (by omega)).trans ((f2 353 11 (by unfold lf_W; omega)).1.trans e11)) (fun i hi => ⟨?_, (hD i hi).2, ?_⟩) (by rw [c3 846 7 (by omega), c3 846 8 (by omega)]; exact L2)) (fun s4 h4 => ⟨?_, h4.2.iff (fun a b => or_congr Iff.rfl (and_congr Iff.rfl ⟨fun ⟨x, x1, x2, x3⟩ => ⟨x, x1, (kC.same (dpV.F H) J62 hJ x1).mp x2, x3⟩, fun ⟨x, x1, x2, x3⟩ => ⟨x, x1, (kC.same (dpV.F H) J62 hJ x1).mpr x2, x3⟩⟩))⟩)
  · have := (hD i hi).1
    omega
  · rw [c3 (364 + i) 1 (by omega), (f2 (364 + i) 1 (by unfold lf_W; omega)).1]
    exact hp i hi
  · exact ((f2.mono (fun b j y => Or.inl y)).trans (f3.mono (fun b j y => Or.inr y))).trans (h4.1.mono (fun b j y => Or.inl y))
/-- the reference's check, whole, but for its telling -/
theorem ca_fin (Q0 : sQ W nt a t e p l sg m st s r) (C : sK nt m st r) (G : sX nt s r l st) (V : vT nt s r l) (T : tyF nt z r) (Hd : ∀ r2, l2_fr ck_W r r2 → rdH (nt 1) F r2) (go : ∀ r3, l2_fr (fun b j => ck_W b j ∨ b = 1005) r r3 → ls_R (r3.1 950 88) (r3.1 950 89) (fun a b => S7 nt s r m l st (nt 0) a b ∨ (a = 7 ∧ ∃ x, x < nt 1 ∧ 60 < kR F (nt 1) 64 x ∧ b = r.1 969 x)) → t_hk (if (r3.1 950 88) = (0 : Int32) then (some (r3)) else ((f_X13_fail (r3.1 950 88) (r3.1 950 89) r3).bind (fun r1 => some (r1)))) Q) : t_hk (f_X13_checkAll r) Q := by
  have n61 : nt 1 ≤ 60 := nt_60 Q0 (by decide)
  refine ca_all Q0 C G V (fun r2 f L => ca_7 Q0 C T f L (fun r3 f3 L3 => l2_bd _ (fd_all n61 (C.fr f3).2.2.2.1 (Hd r3 f3)) (fun r4 h4 => ?_)))
  obtain ⟨f4, hD⟩ := h4
  have c4 : ∀ b j, b ≠ 1005 → r4.1 b j = r3.1 b j := fun b j y => (f4 b j y).1
  refine ca_8 (d := kR F (nt 1) 64) n61 ((c4 950 44 (by decide)).trans (C.fr f3).2.2.2.1) (fun i hi => ⟨?_, (hD i hi).2⟩) (S := S7 nt s r m l st (nt 0)) (by rw [c4 950 88 (by decide), c4 950 89 (by decide)]; exact L3) (fun r5 f5 L5 => go r5 ?_ (L5.iff (fun a b => or_congr Iff.rfl (and_congr Iff.rfl ⟨fun ⟨x, x1, x2, x3⟩ => ⟨x, x1, x2, ?_⟩, fun ⟨x, x1, x2, x3⟩ => ⟨x, x1, x2, ?_⟩⟩))))
  · have := (hD i hi).1
    omega
  · exact ((f3.mono (fun b j y => Or.inl y)).trans (f4.mono (fun b j y => Or.inr y))).trans (f5.mono (fun b j y => Or.inl (lg_ck y)))
  · rw [x3, c4 969 x (by decide)]
    exact ck_c f3 (by decide) (by decide)
  · rw [x3, c4 969 x (by decide)]
    exact (ck_c f3 (by decide) (by decide)).symm
end
