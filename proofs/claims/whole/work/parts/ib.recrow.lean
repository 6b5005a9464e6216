/-! Level 2: exps worked out: the reference's row of a RECORD. -/
section
variable {s r1 : t_S} {n v H i m : Nat} {G X K T N M AD : Nat → Nat} {cc : Nat → Int64}
theorem MR.fr {R R' : Nat → Int64} {h v : Nat} {AD P N : Nat → Nat} (m : MR cc R h v AD P N) (e : ∀ j, h ≤ j → R' j = R j) : MR cc R' h v AD P N := fun j hj => by
  obtain ⟨q1, q2, q3⟩ := m j hj
  exact ⟨q1, by rw [e _ (by omega)]; exact q2, VW.copy _ _ _ _ _ _ _ q3 (fun _ _ => rfl) (fun d _ => e _ (by omega))⟩
theorem rr_150 {w : Nat} {e P : Nat → Nat} {Q : Int32 × t_S → Prop} (hn : n < 13000) (hv : v ≤ 16) (hw : w ≤ v) (hH : H + v < 790) (he : ∀ l, l < w → e l < v) (h3 : ∀ s' : t_S, l2_fr (fun b _ => b = 1007) s s' → ch_R s' n v G ∧ ∀ j, j < v → s'.2.1 957 (G j) = lN (X j)) (h9 : ∀ l, l < w → s.1 1009 l = nI (e l)) (hp : ∀ j, j < v → K j ≠ 4 → s.2.1 1006 (260 * (40 + (H + j))) ≠ lN 4 ∧ VW cc (s.2.1 1006) 120 (AD j) (260 * (40 + (H + j))) (N j) (M j)) (hk : ∀ l, l < w → K (e l) ≠ 4) (P0 : P 0 = 0) (PS : ∀ l, P (l + 1) = P l + M (e l)) (hb : 2 + w + P w ≤ 8600) (fin : ∀ y : Int32 × t_S, MR cc (y.2.2.1 1007) (2 + w) w (fun l => AD (e l)) P (fun l => N (e l)) → (∀ l, l < w → y.2.2.1 1007 (2 + l) = lN (X (e l))) → l2_fr (fun b j => b = 1007 ∧ 2 ≤ j) s y.2 → Q y) : t_hk (t_loop (b_X13_recordRow_150) t_N (nI n, nI H, nI w, nI (2 + w), 0, s)) Q := by
  have pv : ∀ d j, P j ≤ P (j + d) := fun d => by
    induction d with
    | zero => intro j; exact Nat.le_refl _
    | succ d ih =>
      intro j
      have a1 := ih j
      have a2 := PS (j + d)
      rw [show j + (d + 1) = j + d + 1 by omega]; omega
  refine l2_lp (fun k z => ∃ l s', l + k = w ∧ z = (nI n, nI H, nI w, nI (2 + w + P l), nI l, s') ∧ MR cc (s'.2.1 1007) (2 + w) l (fun l => AD (e l)) P (fun l => N (e l)) ∧ (∀ q, q < l → s'.2.1 1007 (2 + q) = lN (X (e q))) ∧ l2_fr (fun b j => b = 1007 ∧ 2 ≤ j) s s') ?_ (m := w) (Nat.lt_trans (show w < 1000000000 by omega) l2_N) ⟨0, s, by omega, by rw [P0]; rfl, fun j hj => by omega, fun q hq => by omega, l2_fr.rf⟩
  rintro k z ⟨l, s', hl, rfl, R, g, fr⟩
  show t_hk (k_X13_recordRow_150 (nI n) (nI H) (nI w) (nI (2 + w + P l)) (nI l) s') _
  unfold k_X13_recordRow_150
  by_cases d : l = w
  · subst d
    exact l2_ck (nI_le (Nat.le_refl _) (by omega)) (l2_mp (l2_sm (fin _ R g fr)))
  · have lw : l < w := by omega
    have el := he l lw
    obtain ⟨ch, e957⟩ := h3 s' (fr.mono (fun b j y => y.1))
    have e9 : s'.1 1009 l = nI (e l) := by rw [(fr 1009 l (by omega)).1]; exact h9 l lw
    have gl := (ch.2 (e l) el).1
    refine l2_no (nI_ge lw (by omega)) (l2_ck (l2_ix (by omega) (by decide)) ?_)
    rw [nI_clamp (n := l) (by omega), e9, pt_at hn (by omega) ch el, l2_bs, show (2 : Int32) = nI 2 from rfl, nI_add]
    refine l2_ck (l2_ix gl (by decide)) (l2_ck (l2_ix (by omega) (by decide)) (l2_lt ?_))
    rw [nI_clamp (n := G (e l)) (by omega), nI_clamp (n := 2 + l) (by omega), e957 _ el]
    have f1 : l2_fr (fun b j => b = 1007 ∧ j = 2 + l) s' (t_setJ s' 1007 (2 + l) (lN (X (e l)))) := l2_fr.setJ ⟨rfl, rfl⟩
    have v1 : (t_setJ s' 1007 (2 + l) (lN (X (e l)))).2.1 1007 (2 + l) = lN (X (e l)) := by rw [l2_jJ, l2_upif, if_pos rfl]
    generalize t_setJ s' 1007 (2 + l) (lN (X (e l))) = s2 at *
    have e92 : s2.1 1009 l = nI (e l) := by rw [(f1 1009 l (by omega)).1]; exact e9
    have e6 : ∀ q, s2.2.1 1006 q = s.2.1 1006 q := fun q => by rw [(f1 1006 q (by omega)).2.1, (fr 1006 q (by omega)).2.1]
    obtain ⟨h4, V⟩ := hp (e l) el (hk l lw)
    have V' : VW cc (s2.2.1 1006) 120 (AD (e l)) (260 * (40 + (H + e l))) (N (e l)) (M (e l)) := VW.copy _ _ _ _ _ _ _ V (fun _ _ => rfl) (fun d _ => e6 _)
    have m2 := V.m2
    have pp := V.pos
    have le := pv (w - (l + 1)) (l + 1)
    rw [show l + 1 + (w - (l + 1)) = w by omega] at le
    have R2 : MR cc (s2.2.1 1007) (2 + w) l (fun l => AD (e l)) P (fun l => N (e l)) := R.fr (fun j hj => (f1 1007 j (by omega)).2.1)
    rw [e92, show (40 : Int32) = nI 40 from rfl, nI_add, nI_add, show (260 : Int32) = nI 260 from rfl, pk_mul, show 40 + H + e l = 40 + (H + e l) by omega]
    refine l2_bd _ (mr_step R2 V' (PS l) (by rw [e6]; exact h4) (by omega) (by omega)) (fun y hy => ?_)
    obtain ⟨y1, y2, y3⟩ := hy
    rw [y1, nI_1]
    refine l2_sm ⟨k - 1, by omega, l + 1, y.2, by omega, rfl, y2, fun q hq => ?_, fr.trans ((f1.mono (fun b j y => by omega)).trans (y3.mono (fun b j y => by omega)))⟩
    rw [(y3 1007 (2 + q) (by omega)).2.1]
    by_cases c : q = l
    · rw [c]; exact v1
    · rw [(f1 1007 (2 + q) (by omega)).2.1]; exact g q (by omega)
/-- the reference's row: its fields in order of their names -/
theorem rr_row {Q : Int32 × t_S → Prop} (hn : n < 13000) (hv : v ≤ 16) (hH : H + v < 790) (hX : ∀ j, j < v → X j < 7934) (hD : ∀ j j', j < v → j' < v → j ≠ j' → X j ≠ X j') (h3 : ∀ s' : t_S, l2_fr (fun b _ => b = 1007 ∨ b = 1009) s s' → ch_R s' n v G ∧ ∀ j, j < v → s'.2.1 957 (G j) = lN (X j)) (hk : ∀ i, i < v → s.2.1 1006 (260 * (40 + (H + i))) = lN (K i) ∧ K i ≤ 8) (hp : ∀ j, j < v → VW cc (s.2.1 1006) 120 (AD j) (260 * (40 + (H + j))) (N j) (M j)) (fin : ∀ (y : Int32 × t_S) (T P : Nat → Nat), SE (fun l => X (nF K v l)) (nW K v) T → P 0 = 0 → (∀ l, P (l + 1) = P l + M (nF K v (T l))) → MR cc (y.2.2.1 1007) (2 + nW K v) (nW K v) (fun l => AD (nF K v (T l))) P (fun l => N (nF K v (T l))) → y.2.2.1 1007 0 = lN 6 → y.2.2.1 1007 1 = lN (nW K v) → (∀ l, l < nW K v → y.2.2.1 1007 (2 + l) = lN (X (nF K v (T l)))) → l2_fr (fun b j => b = 1007 ∨ b = 1009) s y.2 → Q y) : t_hk (f_X13_recordRow (nI n) (nI H) (nI v) s) Q := by
  unfold f_X13_recordRow
  refine l2_lp (fun k z => ∃ i s' T, i + k = v ∧ z = (nI n, nI H, nI v, nI (nW K i), nI i, s') ∧ SE (fun l => X (nF K i l)) (nW K i) T ∧ (∀ j, j < nW K i → s'.1 1009 j = nI (nF K i (T j))) ∧ l2_fr (fun b _ => b = 1009) s s') ?_ (m := v) (Nat.lt_trans (show v < 1000000000 by omega) l2_N) ⟨0, s, fun _ => 0, by omega, rfl, ⟨fun i hi => absurd hi (by unfold nW; omega), fun i j _ hj => absurd hj (by unfold nW; omega), fun l hl => absurd hl (by unfold nW; omega)⟩, fun j hj => absurd hj (by unfold nW; omega), l2_fr.rf⟩
  rintro k z ⟨i, s', T, hi, rfl, hT, g, fr⟩
  show t_hk (k_X13_recordRow_6 (nI n) (nI H) (nI v) (nI (nW K i)) (nI i) s') _
  unfold k_X13_recordRow_6
  have wl := nW_le (K := K) i
  by_cases d : i = v
  · subst d
    refine l2_ck (nI_le (Nat.le_refl _) (by omega)) (l2_mp (l2_lt (l2_lt ?_)))
    rw [nI_l (n := nW K i) (by omega), show (2 : Int32) = nI 2 from rfl, nI_add, show (0 : Int32).toNatClampNeg = 0 from rfl, show (1 : Int32).toNatClampNeg = 1 from rfl]
    obtain ⟨s3, hs3⟩ : ∃ s3, s3 = t_setJ (t_setJ s' 1007 0 (6 : Int64)) 1007 1 (lN (nW K i)) := ⟨_, rfl⟩
    rw [← hs3]
    have f3 : l2_fr (fun b j => b = 1007 ∧ j < 2) s' s3 := by
      rw [hs3]; exact (l2_fr.setJ ⟨rfl, by decide⟩).trans (l2_fr.setJ ⟨rfl, by decide⟩)
    have a0 : s3.2.1 1007 0 = lN 6 := by rw [hs3, l2_jJ, l2_upif, if_neg (by decide), l2_jJ, l2_upif, if_pos rfl]; rfl
    have a1 : s3.2.1 1007 1 = lN (nW K i) := by rw [hs3, l2_jJ, l2_upif, if_pos rfl]
    obtain ⟨P, P0, PS⟩ : ∃ P : Nat → Nat, P 0 = 0 ∧ ∀ l, P (l + 1) = P l + M (nF K i (T l)) := ⟨fun q => Nat.rec 0 (fun l y => y + M (nF K i (T l))) q, rfl, fun _ => rfl⟩
    have eb : ∀ l, l < nW K i → nF K i (T l) < i := fun l hl => (nF_at i (T l) (hT.1 l hl)).1
    have Pb : ∀ l, l ≤ nW K i → P l ≤ 240 * l := fun l => by
      induction l with
      | zero => intro _; omega
      | succ l ih =>
        intro hl
        have q := ih (by omega)
        have V := hp (nF K i (T l)) (eb l (by omega))
        have p1 := V.pos
        have p2 := V.m2
        rw [PS]; omega
    have Pw := Pb (nW K i) (Nat.le_refl _)
    have fA : l2_fr (fun b j => b = 1007 ∨ b = 1009) s s3 := (fr.mono (fun b j y => Or.inr y)).trans (f3.mono (fun b j y => Or.inl y.1))
    have e6 : ∀ q, s3.2.1 1006 q = s.2.1 1006 q := fun q => (fA 1006 q (by omega)).2.1
    refine rr_150 (s := s3) (v := i) (w := nW K i) (e := fun l => nF K i (T l)) (K := K) (AD := AD) (N := N) (M := M) (X := X) (G := G) (cc := cc) hn hv wl hH eb (fun s4 f4 => h3 s4 (fA.trans (f4.mono (fun b j y => Or.inl y)))) (fun l hl => by rw [(f3 1009 l (by omega)).1]; exact g l hl) (fun j hj kj => ⟨by rw [e6, (hk j hj).1]; exact fun z => kj (lN_inj (by have := (hk j hj).2; omega) (by decide) z), VW.copy _ _ _ _ _ _ _ (hp j hj) (fun _ _ => rfl) (fun d _ => e6 _)⟩) (fun l hl => (nF_at i (T l) (hT.1 l hl)).2) P0 PS (by omega) (fun y R names f4 => ?_)
    exact fin y T P hT P0 PS R (by rw [(f4 1007 0 (by omega)).2.1]; exact a0) (by rw [(f4 1007 1 (by omega)).2.1]; exact a1) names (fA.trans (f4.mono (fun b j y => Or.inl y.1)))
  · have iv : i < v := by omega
    obtain ⟨k1, k2⟩ := hk i iv
    refine l2_no (nI_ge iv (by omega)) ?_
    rw [show (40 : Int32) = nI 40 from rfl, nI_add, nI_add, show (260 : Int32) = nI 260 from rfl, pk_mul, show 40 + H + i = 40 + (H + i) by omega]
    refine l2_ck (l2_ix (by omega) (by decide)) ?_
    rw [nI_clamp (n := 260 * (40 + (H + i))) (by omega), (fr 1006 _ (show ¬ 1006 = 1009 by decide)).2.1, k1]
    have z4 : lg_cmp (lN (K i)) (4 : Int64) = 0 ↔ K i = 4 := by
      have : lg_cmp (lN (K i)) (lN 4) = 0 ↔ K i = 4 := by
        rw [l2_cmp0]
        exact ⟨fun q => lN_inj (by omega) (by omega) q, fun q => by rw [q]⟩
      exact this
    by_cases e : K i = 4
    · refine l2_ck (z4.mpr e) ?_
      unfold k_X13_recordRow_117
      have w1 : nW K (i + 1) = nW K i := by show (if K i = 4 then _ else _) = _; rw [if_pos e]
      rw [nI_1, ← w1]
      rw [← w1] at hT g
      have en : ∀ l, l < nW K (i + 1) → nF K (i + 1) l = nF K i l := fun l hl => nF_s (by rw [← w1]; exact hl)
      exact l2_sm ⟨k - 1, by omega, i + 1, s', T, by omega, rfl, hT.eq (fun l hl => by rw [en l hl]), fun j hj => by rw [g j hj, en _ (hT.1 j hj)], fr⟩
    · obtain ⟨ch, e957⟩ := h3 s' (fr.mono (fun b j y => Or.inr y))
      have gl := (ch.2 i iv).1
      refine l2_no (fun y => e (z4.mp y)) ?_
      rw [pt_at hn (by omega) ch iv, l2_bs]
      refine l2_ck (l2_ix gl (by decide)) ?_
      rw [nI_clamp (n := G i) (by omega), e957 i iv]
      refine ri_53 (s := s') (G := G) (X := X) (K := K) (T := T) hn hv hX hD iv e (fun s4 f4 => h3 s4 ((fr.trans f4).mono (fun b j y => Or.inr y))) hT g (fun s4 T' hT' h9 f4 => ?_)
      exact ⟨k - 1, by omega, i + 1, s4, T', by omega, rfl, hT', h9, fr.trans f4⟩
end
