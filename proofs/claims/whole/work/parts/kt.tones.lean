/-! Level 2: a templ's tones on both sides: leaves, names, = ( ). -/
structure EvH (TN : Nat → Nat → Prop) (SN : Nat → Nat → Prop) (κ : KPP) (c0 r0 : t_S) (P : Nat → Int64) (TS : Nat → Nat → Nat → Prop) (wt : Nat → Nat) (NT NS : Nat → Prop) (p1 s1 ce cnt mN hb sb gT : Nat) : Prop where
  h2 : c0.1 334 2 = nI cnt
  hcnt : cnt ≤ 16000
  hce : ce ≤ cnt
  h14 : c0.1 334 14 = 0
  cl : Cl κ c0 P TS wt
  sn : ∀ t k, SN t k → c0.1 354 t = 17
  tn : ∀ t n, TN t n → TNK c0 r0 P TS wt NT NS hb sb gT t n
  nts : ∀ n, NT n → ∀ u pp, ¬ TS u n pp
  ns : ∀ n K : Nat, n < mN → r0.1 955 n = nI K → 20 ≤ K → K ≤ 41 → NS n
  ntN : ∀ n, NT n → n < mN
  mN : mN ≤ 13000
  kb : κ.k + 345 ≤ hb ∧ κ.s ≤ sb
  gk : gT ≤ κ.g
  p1 : p1 ≤ 26000
  s1 : s1 ≤ 24300
section
variable {WN AN TN : Nat → Nat → Prop} {SN : Nat → Nat → Prop} {κ : KPP} {c0 r0 : t_S} {P : Nat → Int64} {TS : Nat → Nat → Nat → Prop} {wt : Nat → Nat} {NT NS : Nat → Prop} {Z Y : Nat → Prop} {p1 s1 ce cnt mN hb sb gT g rr e0 e1 t m t1 m1 l : Nat}
theorem q34_s34 (c : t_S) (e : Nat) : q34 c (e + 1) ≤ q34 c e + 1 := by
  by_cases z : c.1 335 e = 34
  · rw [q34_s z]; exact Nat.le_refl _
  · rw [q34_n z]; exact Nat.le_succ _
theorem ch_own {r : t_S} {n v : Nat} {M : Nat → Nat} (h : ch_R r n v M) (hv : v ≤ 16) : ch_R r n v (gn r n) := by
  obtain ⟨_, hg⟩ := ch_gn h hv
  refine ⟨?_, fun j hj => ?_⟩
  · rw [h.1]
    by_cases z : 0 < v
    · rw [if_pos z, if_pos z, hg 0 z]
    · rw [if_neg z, if_neg z]
  · obtain ⟨a, b, d, e⟩ := h.2 j hj
    rw [hg j hj]
    refine ⟨a, b, ?_, fun z => by rw [hg (j + 1) z]; exact e z⟩
    rw [d]
    by_cases z : j + 1 < v
    · rw [if_pos z, if_pos z, hg _ z]
    · rw [if_neg z, if_neg z]
theorem ch_ez {r' : t_S} (z : l2_fr eZr r0 r') {n v : Nat} {M : Nat → Nat} (h : ch_R r0 n v M) : ch_R r' n v M := ⟨((ez_r (b := 959) (j := n) z (by omega)).1).trans h.1, fun j hj => by
  obtain ⟨a, b, d, e⟩ := h.2 j hj
  exact ⟨a, b, ((ez_r (b := 960) (j := M j) z (by omega)).1).trans d, e⟩⟩
theorem tc_ez {c' : t_S} (z : l2_fr (eZc c0) c0 c') {v : Nat} {F : Nat → Nat} (h : tc_R c0 t v F) : tc_R c' t v F := ⟨((ez_c (b := 355) (j := t) z (by omega)).1).trans h.1, fun j hj => ((ez_c (b := 356) (j := F j) z (by omega)).1).trans (h.2 j hj)⟩
theorem pxT_ez {c' r' : t_S} {p n : Nat} (z1 : l2_fr (eZc c0) c0 c') (z2 : l2_fr eZr r0 r') (h : px_T c0 r0 p1 s1 p n) : px_T c' r' p1 s1 p n := by
  have a : c'.2.1 337 = c0.2.1 337 := funext (fun j => (ez_c (b := 337) (j := j) z1 (by omega)).2.1)
  have b : r'.2.1 957 = r0.2.1 957 := funext (fun j => (ez_r (b := 957) (j := j) z2 (by omega)).2.1)
  have d : r'.2.1 958 = r0.2.1 958 := funext (fun j => (ez_r (b := 958) (j := j) z2 (by omega)).2.1)
  have e : r'.1 963 = r0.1 963 := funext (fun j => (ez_r (b := 963) (j := j) z2 (by omega)).1)
  unfold px_T at *
  rw [a, b, d, e]
  exact h
/-- what a leaf means -/
theorem tmt_leaf (hp1 : p1 ≤ 26000) (hs1 : s1 ≤ 24300) (hp : (r0.1 955 m = 20 ∧ c0.1 354 t = 1) ∨ (r0.1 955 m = 21 ∧ c0.1 354 t = 2) ∨ (r0.1 955 m = 27 ∧ c0.1 354 t = 5) ∨ ((r0.1 955 m = 22 ∨ r0.1 955 m = 23) ∧ c0.1 354 t = 3 ∧ c0.2.1 361 t = r0.2.1 957 m ∧ c0.2.1 362 t = r0.2.1 958 m) ∨ ((r0.1 955 m = 24 ∨ r0.1 955 m = 25) ∧ c0.1 354 t = 4 ∧ ∃ p : Nat, p < p1 ∧ c0.1 357 t = nI p ∧ vl_c (if r0.1 955 m = 24 then 1 else 0) 1 1 (c0.2.1 337 p)) ∨ (((r0.1 955 m = 26 ∧ c0.1 354 t = 4) ∨ (r0.1 955 m = 35 ∧ c0.1 354 t = 14)) ∧ ∃ p : Nat, c0.1 357 t = nI p ∧ px_T c0 r0 p1 s1 p m)) {c' r' : t_S} {pc a nh p mh E τ : Nat} (L : LtC c0 r0 P TS c' r' pc a nh p mh E τ) (ht : t < 6100) (hm : m < 13000) (R R2 : Nat → Nat → Prop) : TMt c' r' 338 a p E R R2 t m ∧ (c0.1 354 t = 2 ↔ r0.1 955 m = 21) ∧ c0.1 354 t ≠ 18 ∧ ∃ K : Nat, r0.1 955 m = nI K ∧ 20 ≤ K ∧ K ≤ 41 := by
  have pr := L.pr
  obtain ⟨_, _, _, ⟨z1, z2⟩, A, pb, _, C⟩ := L
  have pd := A.pd
  have k5 : r'.1 955 m = r0.1 955 m := (ez_r (b := 955) (j := m) z2 (by omega)).1
  have k7 : r'.2.1 957 m = r0.2.1 957 m := (ez_r (b := 957) (j := m) z2 (by omega)).2.1
  have k8 : r'.2.1 958 m = r0.2.1 958 m := (ez_r (b := 958) (j := m) z2 (by omega)).2.1
  have q4 : c'.1 354 t = c0.1 354 t := (ez_c (b := 354) (j := t) z1 (by omega)).1
  have q7 : c'.1 357 t = c0.1 357 t := (ez_c (b := 357) (j := t) z1 (by omega)).1
  have pool : ∀ j, c'.2.1 337 j = c0.2.1 337 j := fun j => (ez_c (b := 337) (j := j) z1 (by omega)).2.1
  have fin : ∀ (K : Nat), r0.1 955 m = nI K → (20 ≤ K ∧ K ≤ 27 ∨ K = 35) → (∃ S, LfC c' r' 338 a p E t S ∧ LfR r' p E m S) → TMt c' r' 338 a p E R R2 t m ∧ ∃ K : Nat, r0.1 955 m = nI K ∧ 20 ≤ K ∧ K ≤ 41 := fun K hK hk ⟨S, s1, s2⟩ => ⟨Or.inl ⟨S, s1, s2, fun y => by
      have : K = 28 := (nI_eq (b := 28) (by omega) (by decide)).mp (hK.symm.trans (k5.symm.trans y))
      omega, K, k5.trans hK, by omega, by omega, by omega, by omega, by omega, by omega, by omega, by omega, by omega, by omega, by omega⟩, K, hK, by omega, by omega⟩
  have n2 : ∀ K : Nat, r0.1 955 m = nI K → K < 100 → (r0.1 955 m = 21 ↔ K = 21) := fun K hK hk => by
    rw [hK]; exact nI_eq (b := 21) (by omega) (by decide)
  have t2 : ∀ K : Nat, c0.1 354 t = nI K → K < 100 → (c0.1 354 t = 2 ↔ K = 2) ∧ (c0.1 354 t = 18 ↔ K = 18) := fun K hK hk => by
    rw [hK]; exact ⟨nI_eq (b := 2) (by omega) (by decide), nI_eq (b := 18) (by omega) (by decide)⟩
  have put : ∀ (K Cc : Nat), r0.1 955 m = nI K → (20 ≤ K ∧ K ≤ 27 ∨ K = 35) → c0.1 354 t = nI Cc → (Cc = 2 ↔ K = 21) → Cc < 18 → (∃ S, LfC c' r' 338 a p E t S ∧ LfR r' p E m S) → TMt c' r' 338 a p E R R2 t m ∧ (c0.1 354 t = 2 ↔ r0.1 955 m = 21) ∧ c0.1 354 t ≠ 18 ∧ ∃ K : Nat, r0.1 955 m = nI K ∧ 20 ≤ K ∧ K ≤ 41 := fun K Cc hK hk hC h21 h18 hs => by
    obtain ⟨y1, y2⟩ := fin K hK hk hs
    refine ⟨y1, ?_, fun y => by have := (t2 Cc hC (by omega)).2.mp y; omega, y2⟩
    rw [(t2 Cc hC (by omega)).1, n2 K hK (by omega)]
    exact h21
  rcases hp with ⟨b1, b2⟩ | ⟨b1, b2⟩ | ⟨b1, b2⟩ | ⟨b1, b2, b3, b4⟩ | ⟨b1, b2, q, b3, b4, b5⟩ | ⟨b1, q, b2, b3⟩
  · exact put 20 1 b1 (by omega) b2 (by omega) (by omega) ⟨_, lf_any C pb pr hm ht (k5.trans b1) (q4.trans b2)⟩
  · exact put 21 2 b1 (by omega) b2 (by omega) (by omega) ⟨_, lf_all C pb pr hm ht (k5.trans b1) (q4.trans b2)⟩
  · exact put 27 5 b1 (by omega) b2 (by omega) (by omega) ⟨_, lf_omit C pb pr hm ht (k5.trans b1) (q4.trans b2)⟩
  · have f61 : ∀ b, b = 361 ∨ b = 362 → c'.2.1 b t = c0.2.1 b t := fun b hb => (z1 b t (fun y => by
      unfold eZc eWc at y
      have : c0.1 354 t = 17 := by
        rcases y with (y | y | y | y | y | y | y | y | y | y) | y <;> first | exact y.2 | (exfalso; omega)
      rw [b2] at this
      exact absurd this (by decide))).2.1
    rcases b1 with b1 | b1
    · exact put 22 3 b1 (by omega) b2 (by omega) (by omega) (lf_range (K := 22) C pb pr pd hm ht (Or.inl rfl) (k5.trans b1) (q4.trans b2) (by rw [f61 361 (Or.inl rfl), k7]; exact b3) (by rw [f61 362 (Or.inr rfl), k8]; exact b4))
    · exact put 23 3 b1 (by omega) b2 (by omega) (by omega) (lf_range (K := 23) C pb pr pd hm ht (Or.inr rfl) (k5.trans b1) (q4.trans b2) (by rw [f61 361 (Or.inl rfl), k7]; exact b3) (by rw [f61 362 (Or.inr rfl), k8]; exact b4))
  · have pq : q < 26000 := by omega
    rcases b1 with b1 | b1
    · rw [if_pos b1] at b5
      exact put 24 4 b1 (by omega) b2 (by omega) (by omega) (lf_tru (K := 24) C pb pr pd hm ht (Or.inl rfl) (k5.trans b1) (q4.trans b2) pq (q7.trans b4) (by rw [pool]; exact b5))
    · rw [if_neg (by rw [b1]; decide)] at b5
      exact put 25 4 b1 (by omega) b2 (by omega) (by omega) (lf_tru (K := 25) C pb pr pd hm ht (Or.inr rfl) (k5.trans b1) (q4.trans b2) pq (q7.trans b4) (by rw [pool]; exact b5))
  · obtain ⟨v, s0, B, hT⟩ := (pxT_ez z1 z2 b3).pT hp1 hs1
    rcases b1 with ⟨b1, b4⟩ | ⟨b1, b4⟩
    · exact put 26 4 b1 (by omega) b4 (by omega) (by omega) ⟨_, lfc_text C pb pr pd ht (q4.trans b4) (q7.trans b2) hT, lfr_text C pb pr pd hm (k5.trans b1) hT⟩
    · exact put 35 14 b1 (by omega) b4 (by omega) (by omega) ⟨_, lf_pat C pb pr pd hm ht (k5.trans b1) (q4.trans b4) (q7.trans b2) hT⟩
/-- a word that names no template -/
theorem ev_28w (H : EvH TN SN κ c0 r0 P TS wt NT NS p1 s1 ce cnt mN hb sb gT) (hi : e0 < cnt) (ho : px_o c0 e0 35 (nI t)) (ht : t < 6100) (hm : m < 13000) (hk : r0.1 955 m = 28) (hrr : rr ≤ 360) (h6 : c0.1 354 t = 6) {y : Int32} (hf : ∀ r, l2_fr eZr r0 r → fU r m = some y) (hy : y < 0) : EVt κ c0 r0 P TS wt Z Y (g + 2) rr e0 (e0 + 1) m m1 m (fun _ _ _ _ _ _ => True) := by
  intro c r D a Hh S nh mh pc hE hV ha hS h138 h135 hpot hTld hI
  obtain ⟨z1, z2⟩ := hE.1
  have qq := q34_up (c := c0) (show e0 ≤ e0 + 1 by omega)
  have wo : ∀ s, (∀ b j, b ≠ 334 → s.1 b j = c.1 b j) → f_X10_wrongOf (nI t) s = some (nI 0) := fun s hs => by
    have e54 : s.1 354 t = 6 := (hs 354 t (by decide)).trans (((ez_c (b := 354) (j := t) z1 (by omega)).1).trans h6)
    unfold f_X10_wrongOf
    rw [if_pos (l2_ix ht (by decide)), nI_clamp (n := t) (by omega), if_neg (by rw [e54]; decide)]
    rfl
  obtain ⟨c', t1, t2, t3, t4⟩ := wr_turn (w := 0) z1 H.h2 H.hcnt hi ho hE.2.1.2.2 H.h14 wo
  have F : Ef c0 (KcZ Z) (KrZ c0 P TS wt Y e0 (e0 + 1)) (D + 1) (a + nh) (Hh + 1) S c r c' r := Ef.of EK_Z t2 (l2_fr.rf (W := fun _ _ => False)) (fun b j y => ⟨by unfold eWc; omega, by unfold eBc; omega⟩) (fun b j y => y.elim)
  refine ⟨c', r, e0 + 1, 1, ⟨by omega, by omega, Nat.le_refl _, l2_tn.one t1⟩, F, Or.inl ⟨rfl, ⟨⟨((t2 334 7 (by omega)).1).trans hE.2.1.1, ((t2 339 (D + 1) (by omega)).1).trans hE.2.1.2.1, t3⟩, hE.2.2.1.1, hE.2.2.1.2.1, hE.2.2.1.2.2⟩, pc, h135, ?_, trivial⟩, ?_⟩
  · have := q34_s34 c0 e0
    omega
  · have e55 : r.1 955 m = 28 := ((ez_r (b := 955) (j := m) z2 (by omega)).1).trans hk
    have fu : f_X13_find 967 (0 : Int32) (r.1 950 44) ((r.2.1 957 m).toInt32) r = some y := hf r z2
    show m_X13_prepare (R_X13_behindFirst (g + 1)) (nI m) r = some r
    unfold m_X13_prepare
    rw [if_pos hE.2.2.1.2.1, if_pos (l2_ix hm (by decide)), nI_clamp (n := m) (by omega), e55, if_neg (by decide), if_pos rfl, fu, l2_bs, if_pos hy]
end
