/-! Level 2: systems, the search of pairs. P: the pairs in the order in which the reference reaches them; A: behind which one; B: by which act; S: which are seen. -/
def sy_ct (P : Nat → Nat) : Nat → Nat
  | 0 => 0
  | p + 1 => sy_ct P p + (if 256 ≤ P p then 1 else 0)
theorem sy_ct_up {P : Nat → Nat} {c v : Nat} : ∀ p, p ≤ c → sy_ct (va_up P c v) p = sy_ct P p
  | 0, _ => rfl
  | p + 1, h => by
    show sy_ct (va_up P c v) p + (if 256 ≤ va_up P c v p then 1 else 0) = sy_ct P p + (if 256 ≤ P p then 1 else 0)
    rw [sy_ct_up p (by omega), mj_up_ne _ _ (by omega)]
theorem sy_ct_le {P : Nat → Nat} {p : Nat} : ∀ q, p ≤ q → sy_ct P p ≤ sy_ct P q
  | 0, h => by rw [show p = 0 by omega]; exact Nat.le_refl _
  | q + 1, h => by
    by_cases e : p = q + 1
    · rw [e]; exact Nat.le_refl _
    · have := sy_ct_le (P := P) (p := p) q (by omega)
      show _ ≤ sy_ct P q + (if 256 ≤ P q then 1 else 0)
      omega
theorem sy_ct_id {P : Nat → Nat} : ∀ p, sy_ct P p ≤ p
  | 0 => Nat.le_refl _
  | p + 1 => by
    have := sy_ct_id (P := P) p
    show sy_ct P p + (if 256 ≤ P p then 1 else 0) ≤ p + 1
    split <;> omega
theorem sy_ct_hi {P : Nat → Nat} {p : Nat} (h : 256 ≤ P p) : sy_ct P (p + 1) = sy_ct P p + 1 := by
  show sy_ct P p + (if 256 ≤ P p then 1 else 0) = _
  rw [if_pos h]
theorem sy_ct_lo {P : Nat → Nat} {p : Nat} (h : ¬ 256 ≤ P p) : sy_ct P (p + 1) = sy_ct P p := by
  show sy_ct P p + (if 256 ≤ P p then 1 else 0) = _
  rw [if_neg h]
  rfl
def sy_cn (S : Nat → Nat) : Nat → Nat
  | 0 => 0
  | n + 1 => sy_cn S n + S n
theorem sy_cn_le {S : Nat → Nat} : ∀ n, (∀ v, v < n → S v ≤ 1) → sy_cn S n ≤ n
  | 0, _ => Nat.le_refl _
  | n + 1, h => by
    have h1 := sy_cn_le n (fun v hv => h v (by omega))
    have h2 := h n (by omega)
    show sy_cn S n + S n ≤ n + 1
    omega
theorem sy_cn_u0 {S : Nat → Nat} {v : Nat} : ∀ n, n ≤ v → sy_cn (va_up S v 1) n = sy_cn S n
  | 0, _ => rfl
  | n + 1, h => by
    show sy_cn (va_up S v 1) n + va_up S v 1 n = sy_cn S n + S n
    rw [sy_cn_u0 n (by omega), mj_up_ne _ _ (by omega)]
theorem sy_cn_up {S : Nat → Nat} {v : Nat} (h0 : S v = 0) : ∀ n, v < n → sy_cn (va_up S v 1) n = sy_cn S n + 1
  | 0, h => by omega
  | n + 1, h => by
    show sy_cn (va_up S v 1) n + va_up S v 1 n = sy_cn S n + S n + 1
    by_cases e : v = n
    · subst e
      rw [sy_cn_u0 v (Nat.le_refl _), mj_up_eq, h0]
    · rw [sy_cn_up h0 n (by omega), mj_up_ne _ _ (by omega)]
      omega
def l2_fr (W : Nat → Nat → Prop) (s s' : t_S) : Prop := ∀ b j, ¬ W b j → s'.1 b j = s.1 b j ∧ s'.2.1 b j = s.2.1 b j ∧ s'.2.2 b j = s.2.2 b j
theorem l2_fr.rf {W : Nat → Nat → Prop} {s : t_S} : l2_fr W s s := fun _ _ _ => ⟨rfl, rfl, rfl⟩
theorem l2_fr.trans {W : Nat → Nat → Prop} {s s' s2 : t_S} (h : l2_fr W s s') (h2 : l2_fr W s' s2) : l2_fr W s s2 := fun b j n => ⟨(h2 b j n).1.trans (h b j n).1, (h2 b j n).2.1.trans (h b j n).2.1, (h2 b j n).2.2.trans (h b j n).2.2⟩
theorem l2_fr.mono {W V : Nat → Nat → Prop} {s s' : t_S} (h : l2_fr W s s') (q : ∀ b j, W b j → V b j) : l2_fr V s s' := fun b j n => h b j (fun w => n (q b j w))
theorem l2_fr.set {W : Nat → Nat → Prop} {s : t_S} {a k : Nat} {v : Int32} (w : W a k) : l2_fr W s (t_setI s a k v) := by
  intro b j n
  refine ⟨?_, rfl, rfl⟩
  show va_up s.1 a (va_up (s.1 a) k v) b j = _
  by_cases e : b = a
  · subst e
    rw [mj_up_eq]
    exact mj_up_ne _ _ (fun z => n (by rw [z]; exact w))
  · rw [mj_up_ne _ _ e]
def sy_Wr (b j : Nat) : Prop := (b = 950 ∧ j = 183) ∨ (1060 ≤ b ∧ b ≤ 1064)
def sy_Wc (b _j : Nat) : Prop := b = 946 ∨ b = 948 ∨ b = 949
def sy_RI (F : Nat → Nat → Int32) (c : Nat) (P A B S : Nat → Nat) : Prop := 0 < c ∧ P 0 = 257 ∧ F 1061 0 = -1 ∧ c = sy_cn S 65536 ∧ (∀ p, p < c → F 1063 p = nI (P p) ∧ P p < 65536 ∧ S (P p) = 1) ∧ (∀ p, 0 < p → p < c → F 1061 p = nI (A p) ∧ A p < p ∧ F 1062 p = nI (B p) ∧ B p ≤ 8 ∧ (256 ≤ P p → 256 ≤ P (A p))) ∧ (∀ v, v < 65536 → F 1064 v = nI (S v) ∧ S v ≤ 1)
def sy_C2 (F : Nat → Nat → Int32) (c : Nat) (P A B : Nat → Nat) : Prop := F 948 257 = -1 ∧ ∀ p, 0 < p → p < c → 256 ≤ P p → F 948 (P p) = nI (1 + (P (A p) * 16 + B p))
def sy_CI (F : Nat → Nat → Int32) (c : Nat) (P A B S : Nat → Nat) : Prop := (∀ p, p < c → 256 ≤ P p → F 949 (sy_ct P p) = nI (P p)) ∧ sy_C2 F c P A B ∧ (∀ v, 256 ≤ v → v < 65536 → (F 948 v = 0 ↔ S v = 0))
theorem sy_RI.lt {F : Nat → Nat → Int32} {c : Nat} {P A B S : Nat → Nat} (h : sy_RI F c P A B S) {v : Nat} (hv : v < 65536) (h0 : S v = 0) : c < 65536 := by
  obtain ⟨_, _, _, hc, _, _, hS⟩ := h
  have h1 := sy_cn_up h0 65536 hv
  have h2 := sy_cn_le (S := va_up S v 1) 65536 (fun w hw => by
    by_cases e : w = v
    · rw [e, mj_up_eq]; exact Nat.le_refl _
    · rw [mj_up_ne _ _ e]; exact (hS w hw).2)
  omega
theorem sy_RI.le {F : Nat → Nat → Int32} {c : Nat} {P A B S : Nat → Nat} (h : sy_RI F c P A B S) : c ≤ 65536 := by
  obtain ⟨_, _, _, hc, _, _, hS⟩ := h
  rw [hc]
  exact sy_cn_le 65536 (fun v hv => (hS v hv).2)
theorem sy_RI.push {F F' : Nat → Nat → Int32} {c : Nat} {P A B S : Nat → Nat} (h : sy_RI F c P A B S) {v q a : Nat} (hv : v < 65536) (h0 : S v = 0) (hq : q < c) (ha : a ≤ 8) (hh : 256 ≤ v → 256 ≤ P q) (e1 : F' 1061 = va_up (F 1061) c (nI q)) (e2 : F' 1062 = va_up (F 1062) c (nI a)) (e3 : F' 1063 = va_up (F 1063) c (nI v)) (e4 : F' 1064 = va_up (F 1064) v 1) : sy_RI F' (c + 1) (va_up P c v) (va_up A c q) (va_up B c a) (va_up S v 1) := by
  obtain ⟨g0, g1, g2, g3, g4, g5, g6⟩ := h
  refine ⟨by omega, ?_, ?_, ?_, ?_, ?_, ?_⟩
  · rw [mj_up_ne _ _ (by omega)]; exact g1
  · rw [e1, mj_up_ne _ _ (by omega)]; exact g2
  · rw [sy_cn_up h0 65536 hv, ← g3]
  · intro p hp
    rw [e3]
    by_cases e : p = c
    · subst e
      rw [mj_up_eq, mj_up_eq, mj_up_eq]
      exact ⟨rfl, hv, rfl⟩
    · obtain ⟨k1, k2, k3⟩ := g4 p (by omega)
      rw [mj_up_ne _ _ e, mj_up_ne _ _ e]
      refine ⟨k1, k2, ?_⟩
      by_cases z : P p = v
      · rw [z, mj_up_eq]
      · rw [mj_up_ne _ _ z]; exact k3
  · intro p hp hpc
    rw [e1, e2]
    by_cases e : p = c
    · subst e
      rw [mj_up_eq, mj_up_eq, mj_up_eq, mj_up_eq, mj_up_eq, mj_up_ne _ _ (by omega : q ≠ p)]
      exact ⟨rfl, hq, rfl, ha, hh⟩
    · obtain ⟨k1, k2, k3, k4, k5⟩ := g5 p hp (by omega)
      rw [mj_up_ne _ _ e, mj_up_ne _ _ e, mj_up_ne _ _ e, mj_up_ne _ _ e, mj_up_ne _ _ e, mj_up_ne _ _ (by omega : A p ≠ c)]
      exact ⟨k1, k2, k3, k4, k5⟩
  · intro w hw
    rw [e4]
    by_cases e : w = v
    · rw [e, mj_up_eq, mj_up_eq]; exact ⟨rfl, Nat.le_refl _⟩
    · rw [mj_up_ne _ _ e, mj_up_ne _ _ e]; exact g6 w hw
theorem sy_CI.low {F G : Nat → Nat → Int32} {c : Nat} {P A B S : Nat → Nat} (r : sy_RI G c P A B S) (h : sy_CI F c P A B S) {v q a : Nat} (hv : v < 256) : sy_CI F (c + 1) (va_up P c v) (va_up A c q) (va_up B c a) (va_up S v 1) ∧ sy_ct (va_up P c v) (c + 1) = sy_ct P c := by
  obtain ⟨h1, ⟨h2, h3⟩, h4⟩ := h
  have hlt : ∀ p, p < c + 1 → 256 ≤ va_up P c v p → p < c := by
    intro p hp hh
    by_cases e : p = c
    · subst e
      rw [mj_up_eq] at hh
      omega
    · omega
  refine ⟨⟨?_, ⟨h2, ?_⟩, ?_⟩, ?_⟩
  · intro p hp hh
    have hp := hlt p hp hh
    rw [mj_up_ne _ _ (by omega)] at hh ⊢
    rw [sy_ct_up p (by omega)]
    exact h1 p hp hh
  · intro p h0 hp hh
    have hp := hlt p hp hh
    have ha := (r.2.2.2.2.2.1 p h0 hp).2.1
    rw [mj_up_ne _ _ (by omega)] at hh ⊢
    rw [mj_up_ne _ _ (by omega : p ≠ c), mj_up_ne _ _ (by omega : p ≠ c), mj_up_ne _ _ (by omega : A p ≠ c)]
    exact h3 p h0 hp hh
  · intro w hw hw2
    rw [mj_up_ne _ _ (by omega)]
    exact h4 w hw hw2
  · rw [sy_ct_lo (by rw [mj_up_eq]; omega), sy_ct_up c (Nat.le_refl _)]
theorem sy_CI.high {F F' G : Nat → Nat → Int32} {c : Nat} {P A B S : Nat → Nat} (r : sy_RI G c P A B S) (h : sy_CI F c P A B S) {v q a : Nat} (hv : 256 ≤ v) (hv2 : v < 65536) (h0 : S v = 0) (hq : q < c) (ha : a ≤ 8) (e1 : F' 948 = va_up (F 948) v (nI (1 + (P q * 16 + a)))) (e2 : F' 949 = va_up (F 949) (sy_ct P c) (nI v)) : sy_CI F' (c + 1) (va_up P c v) (va_up A c q) (va_up B c a) (va_up S v 1) ∧ sy_ct (va_up P c v) (c + 1) = sy_ct P c + 1 := by
  obtain ⟨h1, ⟨h2, h3⟩, h4⟩ := h
  obtain ⟨r0, r1, r2, r3, r4, r5, r6⟩ := r
  have hP : ∀ p, p < c → P p ≠ v := by
    intro p hp e
    have := (r4 p hp).2.2
    rw [e, h0] at this
    cases this
  refine ⟨⟨?_, ⟨?_, ?_⟩, ?_⟩, ?_⟩
  · intro p hp hh
    rw [e2, sy_ct_up p (by omega)]
    by_cases e : p = c
    · subst e
      rw [mj_up_eq, mj_up_eq]
    · rw [mj_up_ne _ _ e] at hh ⊢
      have g1 := sy_ct_hi hh
      have g2 := sy_ct_le (P := P) (p := p + 1) c (by omega)
      rw [mj_up_ne _ _ (by omega)]
      exact h1 p (by omega) hh
  · rw [e1, mj_up_ne _ _ (by
      have := hP 0 (by omega)
      omega)]
    exact h2
  · intro p hp0 hp hh
    rw [e1]
    by_cases e : p = c
    · subst e
      rw [mj_up_eq, mj_up_eq, mj_up_eq, mj_up_eq, mj_up_ne _ _ (by omega : q ≠ p)]
    · rw [mj_up_ne _ _ e] at hh ⊢
      have g := (r5 p hp0 (by omega)).2.1
      rw [mj_up_ne _ _ (hP p (by omega)), mj_up_ne _ _ e, mj_up_ne _ _ e, mj_up_ne _ _ (by omega : A p ≠ c)]
      exact h3 p hp0 (by omega) hh
  · intro w hw hw2
    rw [e1]
    by_cases e : w = v
    · subst e
      rw [mj_up_eq, mj_up_eq]
      have g := (r4 q hq).2.1
      exact ⟨fun z => absurd ((l2_z (by omega)).mp z) (by omega), fun z => absurd z (by decide)⟩
    · rw [mj_up_ne _ _ e, mj_up_ne _ _ e]
      exact h4 w hw hw2
  · rw [sy_ct_hi (by rw [mj_up_eq]; omega), sy_ct_up c (Nat.le_refl _)]
/-- a turn of the reference's inner loop behind its tests: nothing new, or a pair more -/
theorem sy_step {s : t_S} {c : Nat} {P A B S : Nat → Nat} (h : sy_RI s.1 c P A B S) {l1 l2 l5 l6 : Int32} {q a x y : Nat} (hx : x < 256) (hy : y < 256) (hq : q < c) (ha : a ≤ 8) (hh : x ≠ 0 → 256 ≤ P q) :
    ((y = 0 ∨ S (256 * x + y) = 1) ∧ k_X13_conforms_176 l1 l2 (nI c) (nI q) l5 l6 (nI a) (nI x) (nI y) s = some (.inl (l1, l2, nI c, nI q, l5, l6, nI (a + 1), s))) ∨
    (y ≠ 0 ∧ S (256 * x + y) = 0 ∧ ∃ s', k_X13_conforms_176 l1 l2 (nI c) (nI q) l5 l6 (nI a) (nI x) (nI y) s = some (.inl (l1, l2, nI (c + 1), nI q, l5, l6, nI (a + 1), s')) ∧ sy_RI s'.1 (c + 1) (va_up P c (256 * x + y)) (va_up A c q) (va_up B c a) (va_up S (256 * x + y) 1) ∧ l2_fr sy_Wr s s' ∧ s'.1 950 = s.1 950) := by
  have hc := h.le
  have hS := h.2.2.2.2.2.2 (256 * x + y) (by omega)
  unfold k_X13_conforms_176 k_X13_conforms_237
  have e1 : (256 : Int32) * nI x + nI y = nI (256 * x + y) := by rw [show (256 : Int32) = nI 256 from rfl, pk_mul, nI_add]
  rw [e1, nI_1, nI_clamp (by omega), hS.1, if_pos (l2_ix (by omega) (by decide))]
  by_cases hy0 : y = 0
  · refine Or.inl ⟨Or.inl hy0, ?_⟩
    rw [if_pos (by rw [hy0]; rfl)]
  rw [if_neg (fun z => hy0 ((l2_z (by omega)).mp z))]
  by_cases hs : S (256 * x + y) = 0
  · refine Or.inr ⟨hy0, hs, ?_⟩
    rw [if_pos (by rw [hs]; rfl)]
    have hlt := h.lt (v := 256 * x + y) (by omega) hs
    simp only [t_let]
    rw [if_pos (l2_ix (by omega) (by decide)), nI_clamp (by omega), nI_1]
    refine ⟨_, rfl, h.push (v := 256 * x + y) (by omega) hs hq ha (fun z => hh (by omega)) ?_ ?_ ?_ ?_, ?_, ?_⟩
    · rw [l2_sO (by decide), l2_sI, l2_sO (by decide), l2_sO (by decide)]
    · rw [l2_sI, l2_sO (by decide), l2_sO (by decide), l2_sO (by decide)]
    · rw [l2_sO (by decide), l2_sO (by decide), l2_sI, l2_sO (by decide)]
    · rw [l2_sO (by decide), l2_sO (by decide), l2_sO (by decide), l2_sI]
    · exact (((l2_fr.set (Or.inr (by omega))).trans (l2_fr.set (Or.inr (by omega)))).trans (l2_fr.set (Or.inr (by omega)))).trans (l2_fr.set (Or.inr (by omega)))
    · rw [l2_sO (by decide), l2_sO (by decide), l2_sO (by decide), l2_sO (by decide)]
  · refine Or.inl ⟨Or.inr (by omega), ?_⟩
    rw [if_neg (fun z => hs ((l2_z (by omega)).mp z))]
