/-! Level 2: the class holds a part against a templ: what it has found out already, one node. -/
structure CC (c r : t_S) (a i p E τ : Nat) : Prop where
  ar : a ≠ 424 ∧ a ≠ 426 ∧ a ≠ 427 ∧ a ≠ 353
  ok : t_oka a 2 (t_ln a) = true
  ln : t_ln a < 1000000000
  rf : c.2.2 353 14 = a
  bs : c.1 353 15 = nI i
  tn : c.1 353 13 = nI τ ∧ τ < 2 ^ 30
  eb : 0 < E ∧ E ≤ 129
  wb : ∀ x, x < E → i ≤ wv (c.2.1 a) i x ∧ wv (c.2.1 a) i x < i + 120
  we : ∀ x, x ≤ E → wu (c.2.1 a) i x ≤ t_ln a
  wi : ∀ x x', x < E → x' < E → wv (c.2.1 a) i x = wv (c.2.1 a) i x' → x = x'
/-- a part or nothing, as the class tells it -/
def VQ (c r : t_S) (a i p E : Nat) (o : Option Nat) (k : Nat) : Prop := (o = none ∧ k = 0) ∨ ∃ x, x < E ∧ o = some (wq (r.2.1 1006) p x) ∧ k = wv (c.2.1 a) i x - i + 1 ∧ r.2.1 1006 (wq (r.2.1 1006) p x) ≠ lN 4
def MemC (c r : t_S) (a i p E τ : Nat) (s : t_S) : Prop := (∀ j, j < 7320 → ∃ e : Nat, s.1 424 j = nI e ∧ e < 2 * τ + 2) ∧ ∀ u o k, u < 60 → VQ c r a i p E o k → (s.1 424 (122 * u + k)) >>> ((1 : Int32) &&& 31) = nI τ → ((s.1 424 (122 * u + k)) &&& (1 : Int32) = 0 ↔ ¬ Mn r p E (r.1 968 u).toNatClampNeg o)
/-- what is to be shown of a templ: class -/
def CQ (c r : t_S) (a i p E τ g t n : Nat) (dp : Nat) : Prop := ∀ s o k, VQ c r a i p E o k → l2_fr cmW c s → MemC c r a i p E τ s → ∃ s', (R_X10_behindPerm g).2.1 (nI t) (nI k - 1) (nI dp) s = some (bZ (Mn r p E n o), s') ∧ l2_fr cmW c s' ∧ MemC c r a i p E τ s' ∧ ∀ j, j < 12 * dp → s'.1 426 j = s.1 426 j
/-- .. of a tone -/
def CT (c r : t_S) (a i p E τ g t : Nat) (dp : Nat) (Q : Option Nat → Prop) : Prop := ∀ s o k, VQ c r a i p E o k → l2_fr cmW c s → MemC c r a i p E τ s → ∃ s', k_X10_matches_61 (R_X10_behindPerm g) (nI t) (nI k - 1) (nI dp) s = some (bZ (Q o), s') ∧ l2_fr cmW c s' ∧ MemC c r a i p E τ s' ∧ ∀ j, j < 12 * dp → s'.1 426 j = s.1 426 j
section
variable {c r s : t_S} {a i p E τ : Nat} {n t g k dp : Nat} {o : Option Nat}
theorem cm_fr {b j : Nat} (h : l2_fr cmW c s) (hb : b ≠ 424 ∧ b ≠ 426 ∧ b ≠ 427 ∧ (b = 353 → j ≠ 20)) : s.1 b j = c.1 b j ∧ s.2.1 b j = c.2.1 b j ∧ s.2.2 b j = c.2.2 b j := ⟨(h b j (by unfold cmW; omega)).1, (h b j (by unfold cmW; omega)).2.1, (h b j (by unfold cmW; omega)).2.2⟩
theorem CC.fa (C : CC c r a i p E τ) (fr : l2_fr cmW c s) : s.2.2 353 14 = a ∧ s.1 353 15 = nI i ∧ s.1 353 13 = nI τ ∧ ∀ j, s.2.1 a j = c.2.1 a j := ⟨((cm_fr fr (by omega)).2.2).trans C.rf, ((cm_fr fr (by omega)).1).trans C.bs, ((cm_fr fr (by omega)).1).trans C.tn.1, fun j => (cm_fr fr (by have := C.ar; omega)).2.1⟩
theorem VQ.nn {q : Nat} (h : VQ c r a i p E (some q) k) : ∃ x, x < E ∧ q = wq (r.2.1 1006) p x ∧ k = wv (c.2.1 a) i x - i + 1 ∧ r.2.1 1006 q ≠ lN 4 := by
  rcases h with ⟨h, _⟩ | ⟨x, h1, h2, h3, h4⟩
  · exact no_sn h
  · injection h2 with h2
    exact ⟨x, h1, h2, h3, by rw [h2]; exact h4⟩
theorem VQ.no : VQ c r a i p E none 0 := Or.inl ⟨rfl, rfl⟩
theorem VQ.k0 (h : VQ c r a i p E none k) : k = 0 := by
  rcases h with ⟨_, h⟩ | ⟨x, _, h, _⟩
  · exact h
  · exact no_ns h
theorem VQ.mk {x : Nat} (hx : x < E) (h4 : r.2.1 1006 (wq (r.2.1 1006) p x) ≠ lN 4) : VQ c r a i p E (some (wq (r.2.1 1006) p x)) (wv (c.2.1 a) i x - i + 1) := Or.inr ⟨x, hx, rfl, rfl, h4⟩
theorem VQ.bd (C : CC c r a i p E τ) (h : VQ c r a i p E o k) : k ≤ 120 := by
  rcases h with ⟨_, h⟩ | ⟨x, hx, _, h, _⟩
  · omega
  · have := C.wb x hx
    omega
theorem VQ.one (C : CC c r a i p E τ) {o' : Option Nat} (h : VQ c r a i p E o k) (g : VQ c r a i p E o' k) : o = o' := by
  rcases h with ⟨rfl, h⟩ | ⟨x, hx, rfl, h, _⟩
  · rcases g with ⟨rfl, _⟩ | ⟨x, _, _, g, _⟩
    · rfl
    · omega
  · rcases g with ⟨rfl, g⟩ | ⟨x', hx', rfl, g, _⟩
    · omega
    · have h1 := C.wb x hx
      have h2 := C.wb x' hx'
      rw [C.wi x x' hx hx' (by omega)]
theorem nI_pm (k : Nat) : nI (k + 1) - 1 = nI k := nI_pred k
/-- one node, once its tone is known -/
theorem cq_plain (C : CC c r a i p E τ) (ht : t < 6100) {b : Nat} (hb : b ≤ 1) (h60 : c.1 360 t = nI b) (h59 : c.1 359 t = 0) {Q : Option Nat → Prop} (hun : ∀ o, Mn r p E n o ↔ (o = none ∧ b = 1) ∨ Q o) (hd : dp ≤ 100) (hT : CT c r a i p E τ g t dp Q) : CQ c r a i p E τ (g + 1) t n dp := by
  intro s o k hV fr hm
  have f60 : s.1 360 t = nI b := ((cm_fr fr (by omega)).1).trans h60
  have f59 : s.1 359 t = 0 := ((cm_fr fr (by omega)).1).trans h59
  obtain ⟨s', h1, h2, h3, h4⟩ := hT s o k hV fr hm
  show ∃ s', m_X10_matches (R_X10_behindPerm g) (nI t) (nI k - 1) (nI dp) s = _ ∧ _
  unfold m_X10_matches k_X10_matches_23
  rw [if_pos (show nI dp ≤ (100 : Int32) from nI_le (b := 100) hd (by decide))]
  simp only [if_pos (l2_ix (j := t) (n := 6100) ht (by decide)), nI_clamp (n := t) (show t < 2 ^ 31 by omega), f60, f59]
  have kb := hV.bd C
  cases o with
  | none =>
    have k0 := hV.k0
    subst k0
    rw [if_neg (show ¬ (0 : Int32) ≤ nI 0 - 1 by decide)]
    by_cases e : b = 1
    · rw [if_neg (by rw [e]; decide), bZ_t ((hun none).mpr (Or.inl ⟨rfl, e⟩))]
      exact ⟨s, rfl, fr, hm, fun _ _ => rfl⟩
    · obtain rfl : b = 0 := by omega
      rw [if_pos (show nI 0 = (0 : Int32) from rfl), if_pos True.intro, bZ_i ((hun none).trans ⟨fun z => z.resolve_left (fun w => e w.2), Or.inr⟩)]
      exact ⟨s', h1, h2, h3, h4⟩
  | some q =>
    obtain ⟨x, _, _, hk, _⟩ := hV.nn
    obtain ⟨k', rfl⟩ : ∃ k', k = k' + 1 := ⟨k - 1, by omega⟩
    rw [nI_pm, if_pos (nI_pos' (by omega)), if_pos True.intro, bZ_i ((hun (some q)).trans ⟨fun z => z.resolve_left (fun w => no_sn w.1), Or.inr⟩)]
    rw [nI_pm] at h1
    exact ⟨s', h1, h2, h3, h4⟩
theorem hl_c {lo hi : Nat} {w : Int64} {t : Int} {n K : Nat} (hlo : lo ≤ 40) (hhi : hi ≤ 40) (hc : vl_c t n K w) : f_X10_hasLength (nI (1 + 256 * lo + 65536 * hi)) w s = bZ ((K = 2 ∨ K = 8) ∧ (lo : Int) ≤ t ∧ t ≤ hi) := by
  have td : (f_X8_told w s).toInt = t := vl_told hc
  have k2 : nI K = (2 : Int32) ↔ K = 2 := nI_eq (b := 2) (by have := hc.2.2; omega) (by decide)
  have k8 : nI K = (8 : Int32) ↔ K = 8 := nI_eq (b := 8) (by have := hc.2.2; omega) (by decide)
  have a1 : ∀ z : Nat, z ≤ 40 → ((nI z) &&& (255 : Int32)) = nI z := by decide +kernel
  have sh : ((nI (1 + 256 * lo + 65536 * hi) >>> ((8 : Int32) &&& 31)) &&& (255 : Int32)) = nI lo := by
    rw [pk_shrN (by omega) _ 8 (by decide), show (1 + 256 * lo + 65536 * hi) / 2 ^ 8 = lo + 256 * hi by omega]
    rw [show (255 : Int32) = nI 255 from rfl, fa_and]
    congr 1
    have := Nat.and_two_pow_sub_one_eq_mod (lo + 256 * hi) 8
    rw [show (255 : Nat) = 2 ^ 8 - 1 from rfl, this]
    omega
  have sh2 : ((nI (1 + 256 * lo + 65536 * hi) >>> ((16 : Int32) &&& 31)) &&& (255 : Int32)) = nI hi := by
    rw [pk_shrN (by omega) _ 16 (by decide), show (1 + 256 * lo + 65536 * hi) / 2 ^ 16 = hi by omega]
    exact a1 hi hhi
  have K22 : k_X10_hasLength_22 (nI (1 + 256 * lo + 65536 * hi)) (f_X8_told w s) s = bZ ((lo : Int) ≤ t ∧ t ≤ hi) := by
    unfold k_X10_hasLength_22
    rw [sh, sh2, nI_lo (by omega), nI_lo (by omega)]
    by_cases c1 : t < lo
    · rw [if_pos (t_cmp_lt.mpr (by rw [td, pk_lT (by omega)]; exact c1)), bZ_f (by omega)]
    · rw [if_neg (fun z => c1 (by have := t_cmp_lt.mp z; rw [td, pk_lT (by omega)] at this; exact this))]
      by_cases c2 : (hi : Int) < t
      · rw [if_pos (t_cmp_gt.mpr (by rw [td, pk_lT (by omega)]; exact c2)), bZ_f (by omega)]
      · rw [if_neg (fun z => c2 (by have := t_cmp_gt.mp z; rw [td, pk_lT (by omega)] at this; exact this)), bZ_t (by omega)]
  unfold f_X10_hasLength
  rw [vl_kind hc, K22]
  by_cases c2 : K = 2
  · rw [if_pos (k2.mpr c2), bZ_i]
    exact ⟨fun z => ⟨Or.inl c2, z⟩, fun z => z.2⟩
  · rw [if_neg (fun z => c2 (k2.mp z))]
    by_cases c8 : K = 8
    · rw [if_pos (k8.mpr c8), bZ_i]
      exact ⟨fun z => ⟨Or.inr c8, z⟩, fun z => z.2⟩
    · rw [if_neg (fun z => c8 (k8.mp z)), bZ_f (fun z => z.1.elim c2 c8)]
end
