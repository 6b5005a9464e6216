/-! Level 2: told templates are settled by the class: all of them. -/
/-- told templates: where each lies on both sides -/
structure ToldT (WN AN TN SN : Nat → Nat → Prop) (cs r0 : t_S) (wS : Nat → Nat) (p1 s1 P0 cnt n1 : Nat) (F T0 T1 A0 A1 M0 M1 N : Nat → Nat) : Prop where
  n60 : n1 ≤ 60
  e11 : cs.1 353 11 = nI n1
  tr : ∀ u, u < n1 → XR WN AN TN SN cs r0 p1 s1 (F u) 1 1 15 (A0 u) (A1 u) (T0 u) (T1 u) (M0 u) (M1 u) (N u)
  ea : ∀ u, u < n1 → cs.1 335 (A1 u) = 0 ∧ A1 u < cnt ∧ cs.1 (364 + u) 2 = nI (A0 u)
  tm : ∀ u, u < n1 → T1 u ≤ 6000 ∧ M1 u ≤ 13000 ∧ ∀ k, M0 u ≤ k → k < M1 u → ¬ TB r0 k
  od : ∀ u v, u < v → v < n1 → T1 u ≤ T0 v
  sn : ∀ t k, SN t k → cs.1 354 t = 17 ∧ cs.2.1 362 t = 0
  bud : P0 + sm (fun u => wS (A1 u) - wS (A0 u)) n1 ≤ 26000
def saW (cs : t_S) (n1 : Nat) (T0 T1 : Nat → Nat) (P0 b j : Nat) : Prop := eBc b j ∨ (b = 334 ∧ (j = 4 ∨ j = 14)) ∨ (b = 337 ∧ P0 ≤ j) ∨ ((b = 354 ∨ b = 357 ∨ b = 362) ∧ (∃ u, u < n1 ∧ T0 u ≤ j ∧ j < T1 u) ∧ cs.1 354 j = 17)
section
variable {WN AN TN SN : Nat → Nat → Prop} {cs r0 s s' : t_S} {RM : t_S → Prop} {wS : Nat → Nat} {p1 s1 P0 cnt n1 i τ pp b : Nat} {F T0 T1 A0 A1 M0 M1 N : Nat → Nat}
theorem anew_f : l2_fr (fun x j => (x = 334 ∧ (j = 7 ∨ j = 12 ∨ j = 13)) ∨ (x = 339 ∧ j = 0)) s (anew b s) := by
  unfold anew
  exact (((l2_fr.set (Or.inl ⟨rfl, by omega⟩)).trans (l2_fr.set (Or.inr ⟨rfl, rfl⟩))).trans (l2_fr.set (Or.inl ⟨rfl, by omega⟩))).trans (l2_fr.set (Or.inl ⟨rfl, by omega⟩))
theorem anew_e : (anew b s).1 334 7 = 0 ∧ (anew b s).1 339 0 = 0 ∧ (anew b s).1 334 12 = 0 := by
  unfold anew
  exact ⟨by rw [l2_g, if_neg (by decide), l2_g, if_neg (by decide), l2_sO (by decide), l2_g, if_pos rfl], by rw [l2_sO (by decide), l2_sO (by decide), l2_g, if_pos rfl], by rw [l2_g, if_neg (by decide), l2_g, if_pos rfl]⟩
theorem FS.same {ME PE t m : Nat} {r : t_S} (h : FS RM r ME PE s t m) (e1 : ∀ b, b = 354 ∨ b = 357 ∨ b = 362 → s'.1 b t = s.1 b t ∧ s'.2.1 b t = s.2.1 b t) (e2 : ∀ j, s'.2.1 337 j = s.2.1 337 j) : FS RM r ME PE s' t m := by
  obtain ⟨er, pp, M1, n', a1, a2, a3, a4, a5, a6⟩ := h
  have ep : s'.2.1 337 = s.2.1 337 := funext e2
  refine ⟨er, pp, M1, n', a1, a2, a3, a4, by rw [ep]; exact a5, ?_⟩
  rw [(e1 354 (by omega)).1, (e1 357 (by omega)).1, (e1 362 (by omega)).2, ep]
  exact a6
/-- templates below i are settled -/
def LI (WN AN TN : Nat → Nat → Prop) (cs r0 : t_S) (RM : t_S → Prop) (wS : Nat → Nat) (p1 s1 P0 n1 : Nat) (F T0 T1 A0 A1 M0 M1 N : Nat → Nat) (i : Nat) (s : t_S) : Prop := ∃ τ pp : Nat, (∀ b, SI cs (anew b s) τ 6100 P0 pp) ∧ (∀ u, i ≤ u → u < n1 → τ ≤ T0 u) ∧ pp ≤ P0 + sm (fun u => wS (A1 u) - wS (A0 u)) i ∧ (∀ u, u < i → T1 u ≤ τ ∧ XR WN AN TN (FS RM r0 (M1 u) pp s) cs r0 p1 s1 (F u) 1 1 15 (A0 u) (A1 u) (T0 u) (T1 u) (M0 u) (M1 u) (N u)) ∧ l2_fr (saW cs n1 T0 T1 P0) cs s
theorem sm_le2 {f : Nat → Nat} : ∀ n i, i ≤ n → sm f i ≤ sm f n := by
  intro n
  induction n with
  | zero => intro i hi; rw [show i = 0 by omega]; exact Nat.le_refl _
  | succ n ih =>
    intro i hi
    by_cases c : i = n + 1
    · rw [c]; exact Nat.le_refl _
    · exact Nat.le_trans (ih i (by omega)) (Nat.le_add_right _ _)
theorem sal_one (H : StH WN cs r0 RM wS p1 s1 P0 cnt) (T : ToldT WN AN TN SN cs r0 wS p1 s1 P0 cnt n1 F T0 T1 A0 A1 M0 M1 N) (hi : i < n1) (L : LI WN AN TN cs r0 RM wS p1 s1 P0 n1 F T0 T1 A0 A1 M0 M1 N i s) : ∃ s', b_X10_settle_10 (nI i, s) = some (.inl (nI (i + 1), s')) ∧ LI WN AN TN cs r0 RM wS p1 s1 P0 n1 F T0 T1 A0 A1 M0 M1 N (i + 1) s' := by
  obtain ⟨τ, pp, S, h2, h3, h4, h5⟩ := L
  have n60 := T.n60
  obtain ⟨ea1, ea2, ea3⟩ := T.ea i hi
  obtain ⟨tm1, tm2, tm3⟩ := T.tm i hi
  have x := T.tr i hi
  obtain ⟨y1, y2, y3, y4⟩ := x.at
  have hc := H.hc
  have bud := T.bud
  have sl := sm_le2 (f := fun u => wS (A1 u) - wS (A0 u)) n1 (i + 1) (by omega)
  have si : sm (fun u => wS (A1 u) - wS (A0 u)) (i + 1) = sm (fun u => wS (A1 u) - wS (A0 u)) i + (wS (A1 i) - wS (A0 i)) := rfl
  have wm := H.wm _ _ y1
  have tτ := h2 i (Nat.le_refl _) hi
  obtain ⟨y, w1, τ', pp', S', f', p1', p2', F'⟩ := st_tree H T.sn (Nat.le_refl 6100) tm2 (F i) 1 1 15 (A0 i) (A1 i) (T0 i) (T1 i) (M0 i) (M1 i) (N i) x (Or.inl rfl) (show T1 i ≤ 6100 by omega) (Nat.le_refl _) ea2 tm3 (anew (A0 i) s) 0 pp (fun q => ∃ pa pb : Nat, SI cs q (T1 i) 6100 P0 pb ∧ l2_fr (seW cs (T0 i) (T1 i) pp) (anew (A0 i) s) q ∧ pp ≤ pb ∧ pb + wS (A0 i) ≤ pp + wS (A1 i) ∧ XR WN AN TN (FS RM r0 (M1 i) pb q) cs r0 p1 s1 (F i) 1 1 15 (A0 i) (A1 i) (T0 i) (T1 i) (M0 i) (M1 i) (N i)) ((S (A0 i)).up tτ) (by omega) (by omega) (fun q k' pb S' f' g1 g2 hF k1 k2 => ⟨q, SW.fin (by omega) (by rw [(S'.op _).1]; exact ea1) S'.st.2.2, 0, pb, S', f', g1, g2, hF⟩)
  have nN := l2_N
  have so : f_X10_settleOne (nI (A0 i)) s = some y := by
    unfold f_X10_settleOne
    rw [show t_N = (t_N - 1) + 1 by omega]
    exact SW.start (k := 0) (by omega) (by decide) w1 (by omega)
  have fa : l2_fr (fun x j => (x = 334 ∧ (j = 7 ∨ j = 12 ∨ j = 13)) ∨ (x = 339 ∧ j = 0)) s (anew (A0 i) s) := anew_f
  have e11 : s.1 353 11 = nI n1 := by rw [(h5 353 11 (by unfold saW eBc; omega)).1]; exact T.e11
  have e64 : s.1 (364 + i) 2 = nI (A0 i) := by rw [(h5 (364 + i) 2 (by unfold saW eBc; omega)).1]; exact ea3
  refine ⟨y, ?_, T1 i, pp', fun b => ?_, fun u u1 u2 => T.od i u (by omega) u2, by omega, fun u hu => ?_, ?_⟩
  · show k_X10_settle_10 (nI i) s = _
    unfold k_X10_settle_10
    rw [e11, if_neg (nI_ge hi (by omega)), if_pos (l2_ix (by omega) (by decide)), nI_clamp (n := i) (by omega), Nat.one_mul, show ((2 : Int32).toNatClampNeg) = 2 from rfl, e64, so, l2_bs, nI_1]
  · have fb : l2_fr (fun x j => (x = 334 ∧ (j = 7 ∨ j = 12 ∨ j = 13)) ∨ (x = 339 ∧ j = 0)) y (anew b y) := anew_f
    exact S'.next (fb.mono (fun x j z => Or.inl (by
      rcases z with z | z
      · exact Or.inl z
      · exact Or.inr (Or.inr (Or.inl z.1))))) (Nat.le_refl _) (by rw [(fb 334 4 (by omega)).1]; exact S'.pp) (Nat.le_refl _) anew_e
  · by_cases c : u = i
    · rw [c]; exact ⟨Nat.le_refl _, F'⟩
    · obtain ⟨z1, z2⟩ := h4 u (by omega)
      have := T.od u i (by omega) hi
      refine ⟨by omega, z2.snx (fun t m t1 t2 _ _ hF => ?_)⟩
      have hF2 : FS RM r0 (M1 u) pp (anew (A0 i) s) t m := hF.same (fun b hb => ⟨(fa b t (by omega)).1, (fa b t (by omega)).2.1⟩) (fun j => (fa 337 j (by omega)).2.1)
      exact hF2.later f' (Or.inl (by omega)) p1'
  · refine h5.trans ((fa.mono (fun x j z => Or.inl (by
      rcases z with z | z
      · exact Or.inl z
      · exact Or.inr (Or.inr (Or.inl z.1))))).trans (f'.mono (fun x j z => ?_)))
    have pl := (S (A0 i)).pl.2
    unfold seW at z
    rcases z with z | z | z | z
    · exact Or.inl z
    · exact Or.inr (Or.inl ⟨z.1, Or.inl z.2⟩)
    · exact Or.inr (Or.inr (Or.inl ⟨z.1, by omega⟩))
    · exact Or.inr (Or.inr (Or.inr ⟨z.1, ⟨i, hi, z.2.1, z.2.2.1⟩, z.2.2.2⟩))
theorem sal_all (H : StH WN cs r0 RM wS p1 s1 P0 cnt) (T : ToldT WN AN TN SN cs r0 wS p1 s1 P0 cnt n1 F T0 T1 A0 A1 M0 M1 N) (L : LI WN AN TN cs r0 RM wS p1 s1 P0 n1 F T0 T1 A0 A1 M0 M1 N 0 s) : ∀ i, i ≤ n1 → ∃ s', l2_tn b_X10_settle_10 i (0, s) (nI i, s') ∧ LI WN AN TN cs r0 RM wS p1 s1 P0 n1 F T0 T1 A0 A1 M0 M1 N i s' := by
  intro i
  induction i with
  | zero => intro _; exact ⟨s, l2_tn.nil, L⟩
  | succ i ih =>
    intro hi
    obtain ⟨s1, t1, L1⟩ := ih (by omega)
    obtain ⟨s2, t2, L2⟩ := sal_one H T (by omega) L1
    exact ⟨s2, t1.trans (l2_tn.one t2), L2⟩
/-- before the first -/
theorem LI.first (H : StH WN cs r0 RM wS p1 s1 P0 cnt) (T : ToldT WN AN TN SN cs r0 wS p1 s1 P0 cnt n1 F T0 T1 A0 A1 M0 M1 N) (h4 : cs.1 334 4 = nI P0) : LI WN AN TN cs r0 RM wS p1 s1 P0 n1 F T0 T1 A0 A1 M0 M1 N 0 (t_setI cs 334 14 1) := by
  have f : l2_fr (fun x j => x = 334 ∧ j = 14) cs (t_setI cs 334 14 1) := l2_fr.set ⟨rfl, rfl⟩
  have e14 : (t_setI cs 334 14 1).1 334 14 = 1 := by rw [l2_g, if_pos rfl]
  generalize t_setI cs 334 14 1 = s at *
  refine ⟨0, P0, fun b => ?_, fun u _ _ => Nat.zero_le _, Nat.le_add_right _ _, fun u hu => absurd hu (Nat.not_lt_zero _), f.mono (fun x j z => Or.inr (Or.inl ⟨z.1, Or.inr z.2⟩))⟩
  have fb : l2_fr (fun x j => (x = 334 ∧ (j = 7 ∨ j = 12 ∨ j = 13)) ∨ (x = 339 ∧ j = 0)) s (anew b s) := anew_f
  have g : ∀ x j, ¬ (x = 334 ∧ (j = 7 ∨ j = 12 ∨ j = 13 ∨ j = 14)) → ¬ (x = 339 ∧ j = 0) → (anew b s).1 x j = cs.1 x j ∧ (anew b s).2.1 x j = cs.2.1 x j := fun x j z1 z2 => by
    rw [(fb x j (by omega)).1, (fb x j (by omega)).2.1, (f x j (by omega)).1, (f x j (by omega)).2.1]
    exact ⟨rfl, rfl⟩
  exact ⟨fun j => ⟨(g 335 j (by omega) (by omega)).1, (g 336 j (by omega) (by omega)).1⟩, (g 334 2 (by omega) (by omega)).1, fun x j _ _ _ _ => g x j (by omega) (by omega), ⟨fun j _ => (g 337 j (by omega) (by omega)).2, Nat.le_refl _⟩, ((g 334 4 (by omega) (by omega)).1).trans h4, ((fb 334 14 (by omega)).1).trans e14, anew_e⟩
end
