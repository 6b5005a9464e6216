/-! Level 2: exps worked out: fields in order of their names; the reference's way. -/
/-- how many of the first i are not OMIT; which one is the l-th of them -/
def nW (K : Nat → Nat) : Nat → Nat
  | 0 => 0
  | i + 1 => if K i = 4 then nW K i else nW K i + 1
def nF (K : Nat → Nat) : Nat → Nat → Nat
  | 0, _ => 0
  | i + 1, l => if l = nW K i ∧ K i ≠ 4 then i else nF K i l
theorem nW_le {K : Nat → Nat} : ∀ i, nW K i ≤ i := by
  intro i
  induction i with
  | zero => exact Nat.le_refl _
  | succ i ih => unfold nW; split <;> omega
theorem nF_at {K : Nat → Nat} : ∀ i l, l < nW K i → nF K i l < i ∧ K (nF K i l) ≠ 4 := by
  intro i
  induction i with
  | zero => intro l h; exact absurd h (by unfold nW; omega)
  | succ i ih =>
    intro l h
    unfold nW at h
    unfold nF
    by_cases c : K i = 4
    · rw [if_pos c] at h
      rw [if_neg (fun y => y.2 c)]
      obtain ⟨a, b⟩ := ih l h
      exact ⟨by omega, b⟩
    · rw [if_neg c] at h
      by_cases e : l = nW K i
      · rw [if_pos ⟨e, c⟩]; exact ⟨by omega, c⟩
      · rw [if_neg (fun y => e y.1)]
        obtain ⟨a, b⟩ := ih l (by omega)
        exact ⟨by omega, b⟩
theorem nF_s {K : Nat → Nat} {i l : Nat} (h : l < nW K i) : nF K (i + 1) l = nF K i l := by
  show (if l = nW K i ∧ K i ≠ 4 then i else nF K i l) = _
  rw [if_neg (by omega)]
theorem nF_n {K : Nat → Nat} {i : Nat} (h : K i ≠ 4) : nF K (i + 1) (nW K i) = i := by
  show (if nW K i = nW K i ∧ K i ≠ 4 then i else nF K i (nW K i)) = _
  rw [if_pos ⟨rfl, h⟩]
theorem nF_up {K : Nat → Nat} : ∀ i l l', l < l' → l' < nW K i → nF K i l < nF K i l' := by
  intro i
  induction i with
  | zero => intro l l' _ h; exact absurd h (by unfold nW; omega)
  | succ i ih =>
    intro l l' h h'
    by_cases c : K i = 4
    · have w : nW K (i + 1) = nW K i := by show (if K i = 4 then _ else _) = _; rw [if_pos c]
      rw [w] at h'
      rw [nF_s (by omega), nF_s h']
      exact ih l l' h h'
    · have w : nW K (i + 1) = nW K i + 1 := by show (if K i = 4 then _ else _) = _; rw [if_neg c]
      rw [w] at h'
      by_cases e : l' = nW K i
      · subst e
        rw [nF_s h, nF_n c]
        exact (nF_at i l h).1
      · rw [nF_s (by omega), nF_s (by omega)]
        exact ih l l' h (by omega)
/-- T tells 0 .. m-1 in rising order of Z -/
def SE (Z : Nat → Nat) (m : Nat) (T : Nat → Nat) : Prop := (∀ i, i < m → T i < m) ∧ (∀ i j, i < j → j < m → Z (T i) < Z (T j)) ∧ ∀ l, l < m → ∃ i, i < m ∧ T i = l
def insT (T : Nat → Nat) (p m : Nat) (i : Nat) : Nat := if i < p then T i else if i = p then m else T (i - 1)
theorem se_ins {Z T : Nat → Nat} {m p : Nat} (h : SE Z m T) (hp : p ≤ m) (h1 : ∀ i, i < p → Z (T i) < Z m) (h2 : ∀ i, p ≤ i → i < m → Z m < Z (T i)) : SE Z (m + 1) (insT T p m) := by
  obtain ⟨a, b, d⟩ := h
  have e1 : ∀ i, i < p → insT T p m i = T i := fun i hi => if_pos hi
  have e2 : insT T p m p = m := by unfold insT; rw [if_neg (by omega), if_pos rfl]
  have e3 : ∀ i, p < i → insT T p m i = T (i - 1) := fun i hi => by unfold insT; rw [if_neg (by omega), if_neg (by omega)]
  refine ⟨fun i hi => ?_, fun i j hij hj => ?_, fun l hl => ?_⟩
  · by_cases c : i < p
    · rw [e1 i c]; have := a i (by omega); omega
    · by_cases c2 : i = p
      · rw [c2, e2]; omega
      · rw [e3 i (by omega)]; have := a (i - 1) (by omega); omega
  · by_cases c : j < p
    · rw [e1 i (by omega), e1 j c]; exact b i j hij (by omega)
    · by_cases c2 : j = p
      · rw [c2, e2, e1 i (by omega)]; exact h1 i (by omega)
      · rw [e3 j (by omega)]
        by_cases c3 : i < p
        · rw [e1 i c3]; exact b i (j - 1) (by omega) (by omega)
        · by_cases c4 : i = p
          · rw [c4, e2]; exact h2 (j - 1) (by omega) (by omega)
          · rw [e3 i (by omega)]; exact b (i - 1) (j - 1) (by omega) (by omega)
  · by_cases c : l = m
    · exact ⟨p, by omega, by rw [e2, c]⟩
    · obtain ⟨i, hi, q⟩ := d l (by omega)
      by_cases c2 : i < p
      · exact ⟨i, by omega, by rw [e1 i c2, q]⟩
      · exact ⟨i + 1, by omega, by rw [e3 (i + 1) (by omega), Nat.add_sub_cancel, q]⟩
theorem SE.eq {Z Z' T : Nat → Nat} {m : Nat} (h : SE Z m T) (e : ∀ l, l < m → Z' l = Z l) : SE Z' m T := ⟨h.1, fun i j hij hj => by rw [e _ (h.1 i (by omega)), e _ (h.1 j hj)]; exact h.2.1 i j hij hj, h.2.2⟩
section
variable {s r1 : t_S} {n v H i m : Nat} {G X K T : Nat → Nat}
/-- the i-th child -/
theorem pt_at (hn : n < 13000) (hv : v ≤ 100) (ch : ch_R s n v G) (hi : i < v) : f_X13_part (nI n) (nI i) s = some (nI (G i)) := by
  unfold f_X13_part
  rw [if_pos (l2_ix hn (by decide)), nI_clamp (n := n) (by omega)]
  have sr := l2_srch (b := b_X13_part_10 s) (Y := fun j => (nI i, nxG v G j, nI j)) (j := i) (r := nI (G i)) (by omega) (fun j hj => ?_) ?_
  · have e : s.1 959 n = nxG v G 0 := ch.1
    rw [e]
    exact sr
  · obtain ⟨c1, _, c3, _⟩ := ch.2 j (by omega)
    show k_X13_part_10 (nI i) (nxG v G j) (nI j) s = _
    unfold k_X13_part_10
    have e : nxG v G j = nI (G j) := if_pos (by omega)
    rw [if_neg (nI_ge hj (by omega)), e, if_neg (nI_pos (by omega)), if_pos (l2_ix c1 (by decide)), nI_clamp (n := G j) (by omega), c3, nI_1]
    rfl
  · show k_X13_part_10 (nI i) (nxG v G i) (nI i) s = _
    unfold k_X13_part_10
    rw [if_pos (nI_le (Nat.le_refl _) (by omega))]
    show some (Sum.inr (nxG v G i)) = _
    rw [show nxG v G i = nI (G i) from if_pos hi]
/-- one more field comes into its place -/
theorem ri_53 {Q : ((Int32 × Int32 × Int32 × Int32 × Int32 × t_S) ⊕ (Int32 × t_S)) → Prop} (hn : n < 13000) (hv : v ≤ 16) (hX : ∀ j, j < v → X j < 7934) (hD : ∀ j j', j < v → j' < v → j ≠ j' → X j ≠ X j') (hi : i < v) (ki : K i ≠ 4) (h3 : ∀ s' : t_S, l2_fr (fun b _ => b = 1009) s s' → ch_R s' n v G ∧ ∀ j, j < v → s'.2.1 957 (G j) = lN (X j)) (hT : SE (fun l => X (nF K i l)) (nW K i) T) (h9 : ∀ j, j < nW K i → s.1 1009 j = nI (nF K i (T j))) (fin : ∀ s' T', SE (fun l => X (nF K (i + 1) l)) (nW K (i + 1)) T' → (∀ j, j < nW K (i + 1) → s'.1 1009 j = nI (nF K (i + 1) (T' j))) → l2_fr (fun b _ => b = 1009) s s' → Q (.inl (nI n, nI H, nI v, nI (nW K (i + 1)), nI (i + 1), s'))) : t_hk (t_loop (b_X13_recordRow_53) t_N (nI n, nI H, nI v, nI (nW K i), nI i, nI (nW K i), lN (X i), s)) Q := by
  obtain ⟨w, hw⟩ : ∃ w, w = nW K i := ⟨_, rfl⟩
  have wl := nW_le (K := K) i
  have w1 : nW K (i + 1) = w + 1 := by show (if K i = 4 then _ else _) = _; rw [if_neg ki, hw]
  rw [← hw] at wl hT h9 ⊢
  have FT : ∀ j, j < w → nF K i (T j) < i := fun j hj => (nF_at i (T j) (by rw [← hw]; exact hT.1 j hj)).1
  refine l2_lp (fun k z => ∃ p s', p = k ∧ p ≤ w ∧ z = (nI n, nI H, nI v, nI w, nI i, nI p, lN (X i), s') ∧ (∀ j, j < p → s'.1 1009 j = nI (nF K i (T j))) ∧ (∀ j, p ≤ j → j < w → s'.1 1009 (j + 1) = nI (nF K i (T j)) ∧ X i < X (nF K i (T j))) ∧ l2_fr (fun b _ => b = 1009) s s') ?_ (m := w) (Nat.lt_trans (show w < 1000000000 by omega) l2_N) ⟨w, s, rfl, Nat.le_refl _, rfl, h9, fun j h1 h2 => by omega, l2_fr.rf⟩
  rintro k z ⟨p, s', rfl, pw, rfl, g1, g2, fr⟩
  show t_hk (k_X13_recordRow_53 (nI n) (nI H) (nI v) (nI w) (nI i) (nI p) (lN (X i)) s') _
  unfold k_X13_recordRow_53
  obtain ⟨ch, e957⟩ := h3 s' fr
  have put : (∀ j, j < p → X (nF K i (T j)) < X i) → t_hk ((k_X13_recordRow_105 (nI n) (nI H) (nI v) (nI w) (nI i) (nI p) s')) Q := fun low => by
    unfold k_X13_recordRow_105 k_X13_recordRow_117
    refine l2_ck (l2_ix (by omega) (by decide)) (l2_lt ?_)
    rw [nI_clamp (n := p) (by omega), nI_1, nI_1, ← w1]
    have Zn : ∀ l, l < w → X (nF K (i + 1) l) = X (nF K i l) := fun l hl => by rw [nF_s (by rw [← hw]; exact hl)]
    have Zw : nF K (i + 1) w = i := by rw [hw]; exact nF_n ki
    have S' := se_ins (p := p) (hT.eq (Z' := fun l => X (nF K (i + 1) l)) Zn) pw (fun j hj => by
      show X (nF K (i + 1) (T j)) < X (nF K (i + 1) w)
      rw [Zn _ (hT.1 j (by omega)), Zw]; exact low j hj) (fun j h1 h2 => by
      show X (nF K (i + 1) w) < X (nF K (i + 1) (T j))
      rw [Zn _ (hT.1 j h2), Zw]; exact (g2 j h1 h2).2)
    refine l2_sm (fin _ (insT T p w) (by rw [w1]; exact S') (fun j hj => ?_) (fr.trans (l2_fr.set rfl)))
    rw [w1] at hj
    unfold insT
    by_cases c : j < p
    · rw [if_pos c, l2_g, if_neg (by omega), g1 j c, nF_s (by rw [← hw]; exact hT.1 j (by omega))]
    · by_cases c2 : j = p
      · rw [if_neg c, if_pos c2, Zw, c2, l2_g, if_pos rfl]
      · have := (g2 (j - 1) (by omega) (by omega)).1
        rw [show j - 1 + 1 = j by omega] at this
        rw [if_neg c, if_neg c2, l2_g, if_neg (by omega), this, nF_s (by rw [← hw]; exact hT.1 (j - 1) (by omega))]
  by_cases p0 : p = 0
  · subst p0
    exact l2_ck (nI_le (b := 0) (Nat.le_refl _) (by decide)) (l2_mp (put (fun j hj => by omega)))
  · refine l2_no (show ¬ nI p ≤ (0 : Int32) from nI_ge (a := 0) (by omega) (by omega)) ?_
    have fl := FT (p - 1) (by omega)
    rw [sy_m1n (by omega)]
    refine l2_ck (l2_ix (by omega) (by decide)) ?_
    rw [nI_clamp (n := p - 1) (by omega), g1 (p - 1) (by omega), pt_at hn (by omega) ch (by omega), l2_bs]
    have gl := (ch.2 (nF K i (T (p - 1))) (by omega)).1
    refine l2_ck (l2_ix gl (by decide)) ?_
    rw [nI_clamp (n := G (nF K i (T (p - 1)))) (by omega), e957 _ (by omega)]
    have xa := hX (nF K i (T (p - 1))) (by omega)
    have xb := hX i hi
    have cmp : lg_cmp (lN (X (nF K i (T (p - 1))))) (lN (X i)) ≤ 0 ↔ X (nF K i (T (p - 1))) ≤ X i := by
      rw [cmp_le, pk_lT (by omega), pk_lT (by omega)]
      omega
    by_cases c : X (nF K i (T (p - 1))) ≤ X i
    · refine l2_ck (cmp.mpr c) (l2_mp (put (fun j hj => ?_)))
      have ne := hD (nF K i (T (p - 1))) i (by omega) hi (by omega)
      by_cases e : j = p - 1
      · rw [e]; omega
      · have q : X (nF K i (T j)) < X (nF K i (T (p - 1))) := hT.2.1 j (p - 1) (by omega) (by omega)
        omega
    · refine l2_no (fun y => c (cmp.mp y)) (l2_ck (l2_ix (by omega) (by decide)) (l2_lt ?_))
      rw [nI_clamp (n := p) (by omega)]
      have sb : nI p + (-1) = nI (p - 1) := by rw [sy_m1, sy_m1n (by omega)]
      refine l2_sm ⟨p - 1, by omega, p - 1, _, rfl, by omega, by rw [sb], fun j hj => ?_, fun j h1 h2 => ?_, fr.trans (l2_fr.set rfl)⟩
      · rw [l2_g, if_neg (by omega)]; exact g1 j (by omega)
      · by_cases e : j = p - 1
        · subst e
          rw [show p - 1 + 1 = p by omega, l2_g, if_pos rfl]
          exact ⟨rfl, by omega⟩
        · rw [l2_g, if_neg (by omega)]
          exact g2 j (by omega) h2
end
