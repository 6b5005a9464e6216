/-! Level 2: what a type is behind names, on both sides; numbers in ranges. -/
section
variable {T a m n k v : Nat} {R : Nat → Nat → Prop} {s : t_S} {F G X O : Nat → Nat}
theorem mt_named (h : MT T a m R s) {ρ : Nat → Nat} (hρ : ∀ v u w, v < T → s.1 326 v = nI u → s.1 317 u = 8 → s.1 321 u = nI w → w < T → ρ w < ρ v) : ∀ d v i, ρ v ≤ d → i + d ≤ 60 → v < T → ∃ t n' k' u1 u2, t < T ∧ s.1 326 t = nI n' ∧ R n' k' ∧ s.1 317 n' ≠ 8 ∧ (u1 ≤ d ∧ l2_tn (b_X11_lastNamed_4 s) u1 (nI v, nI i) (nI t, nI (i + u1)) ∧ b_X11_lastNamed_4 s (nI t, nI (i + u1)) = some (.inr (nI t))) ∧ (u2 ≤ d ∧ ∀ u', s.1 965 v = nI u' → u' < 13000 → l2_tn (b_X13_meant_2 s) u2 (nI u') (nI k') ∧ b_X13_meant_2 s (nI k') = some (.inr (nI k'))) := by
  intro d
  induction d with
  | zero =>
    intro v i h1 h2 hv
    obtain ⟨u, u', e1, e2, q⟩ := h.2.2.1 v hv
    obtain ⟨n1, k1, K, x1, x2, x3⟩ := h.2.1 u u' q
    have a3 := h.1.1
    have m3 := h.1.2.1
    have T6 := h.1.2.2.1
    have no : s.1 317 u ≠ 8 := fun z => by
      rcases x3 with ⟨rfl, _⟩ | rfl | ⟨rfl, _⟩ | ⟨rfl, _⟩ | ⟨rfl | rfl, _⟩ | ⟨rfl, _⟩ | ⟨rfl, w, X, w1, w2, _⟩
      · exact absurd (x1.symm.trans z) (by decide)
      · exact absurd (x1.symm.trans z) (by decide)
      · exact absurd (x1.symm.trans z) (by decide)
      · exact absurd (x1.symm.trans z) (by decide)
      · exact absurd (x1.symm.trans z) (by decide)
      · exact absurd (x1.symm.trans z) (by decide)
      · exact absurd (x1.symm.trans z) (by decide)
      · have := hρ v u w hv e1 z w2 w1
        omega
    have no' : s.1 955 u' ≠ 8 := fun z => no (x1.trans (x2.symm.trans z))
    refine ⟨v, u, u', 0, 0, hv, e1, q, no, ⟨by omega, l2_tn.nil, ?_⟩, by omega, fun w hw hw2 => ?_⟩
    · show k_X11_lastNamed_4 (nI v) (nI i) s = _
      unfold k_X11_lastNamed_4
      by_cases z : 60 ≤ i
      · rw [if_pos (show (60 : Int32) ≤ nI i from nI_le (a := 60) z (by omega))]; rfl
      · rw [if_neg (show ¬ (60 : Int32) ≤ nI i from nI_ge (b := 60) (by omega) (by decide)), if_pos (l2_ix (by omega) (by decide)), nI_clamp (n := v) (by omega), e1, if_pos (l2_ix (by omega) (by decide)), nI_clamp (n := u) (by omega), if_neg no]; rfl
    · have ew : w = u' := (nI_eq (by omega) (by omega)).mp (hw.symm.trans e2)
      subst ew
      refine ⟨l2_tn.nil, ?_⟩
      show k_X13_meant_2 (nI w) s = _
      unfold k_X13_meant_2
      rw [if_pos (l2_ix (by omega) (by decide)), nI_clamp (n := w) (by omega), if_neg no']; rfl
  | succ d ih =>
    intro v i h1 h2 hv
    obtain ⟨u, u', e1, e2, q⟩ := h.2.2.1 v hv
    obtain ⟨n1, k1, K, x1, x2, x3⟩ := h.2.1 u u' q
    have a3 := h.1.1
    have m3 := h.1.2.1
    have T6 := h.1.2.2.1
    by_cases z : s.1 317 u = 8
    · have z' : s.1 955 u' = 8 := x2.trans (x1.symm.trans z)
      have K8 : K ≤ 8 := by
        rcases x3 with ⟨rfl, _⟩ | rfl | ⟨rfl, _⟩ | ⟨rfl, _⟩ | ⟨rfl | rfl, _⟩ | ⟨rfl, _⟩ | ⟨rfl, _⟩ <;> decide
      have eK : K = 8 := (nI_eq (b := 8) (by omega) (by decide)).mp (x1.symm.trans z)
      subst eK
      obtain ⟨w, X, w1, w2, w3, w4, w5⟩ : ∃ v X : Nat, v < T ∧ s.1 321 u = nI v ∧ X < 7934 ∧ s.2.1 957 u' = lN X ∧ f_X13_find 964 0 (nI T) (nI X) s = some (nI v) := by
        rcases x3 with ⟨y, _⟩ | y | ⟨y, _⟩ | ⟨y, _⟩ | ⟨y | y, _⟩ | ⟨y, _⟩ | ⟨_, y⟩
        · omega
        · omega
        · omega
        · omega
        · omega
        · omega
        · omega
        · exact y
      have lt := hρ v u w hv e1 z w2 w1
      obtain ⟨t, n', k', u1, u2, y1, y2, y3, y4, ⟨y5, y6, y7⟩, y8, y9⟩ := ih w (i + 1) (by omega) (by omega) w1
      obtain ⟨nu, nu', f1, f2, fq⟩ := h.2.2.1 w w1
      obtain ⟨fn, fk, _⟩ := h.2.1 nu nu' fq
      obtain ⟨y10, y11⟩ := y9 nu' f2 (by omega)
      refine ⟨t, n', k', 1 + u1, 1 + u2, y1, y2, y3, y4, ⟨?_, ?_, ?_⟩, ?_, fun w' hw hw2 => ⟨?_, y11⟩⟩
      · omega
      · have st : b_X11_lastNamed_4 s (nI v, nI i) = some (.inl (nI w, nI (i + 1))) := by
          show k_X11_lastNamed_4 (nI v) (nI i) s = _
          unfold k_X11_lastNamed_4
          rw [if_neg (show ¬ (60 : Int32) ≤ nI i from nI_ge (b := 60) (by omega) (by decide)), if_pos (l2_ix (by omega) (by decide)), nI_clamp (n := v) (by omega), e1, if_pos (l2_ix (by omega) (by decide)), nI_clamp (n := u) (by omega), if_pos z, w2, nI_1]
        have q := (l2_tn.one st).trans y6
        rw [show i + (1 + u1) = i + 1 + u1 by omega]
        exact q
      · rw [show i + (1 + u1) = i + 1 + u1 by omega]
        exact y7
      · omega
      · have ew : w' = u' := (nI_eq (by omega) (by omega)).mp (hw.symm.trans e2)
        subst ew
        refine (l2_tn.one ?_).trans y10
        show k_X13_meant_2 (nI w') s = _
        unfold k_X13_meant_2
        rw [if_pos (l2_ix (by omega) (by decide)), nI_clamp (n := w') (by omega), if_pos z', w4, lN_i, h.1.2.2.2.2, w5, l2_bs, if_pos (l2_ix (by omega) (by decide)), nI_clamp (n := w) (by omega), f2]
    · have z' : s.1 955 u' ≠ 8 := fun y => z (x1.trans (x2.symm.trans y))
      refine ⟨v, u, u', 0, 0, hv, e1, q, z, ⟨by omega, l2_tn.nil, ?_⟩, by omega, fun w hw hw2 => ?_⟩
      · show k_X11_lastNamed_4 (nI v) (nI i) s = _
        unfold k_X11_lastNamed_4
        by_cases z2 : 60 ≤ i
        · rw [if_pos (show (60 : Int32) ≤ nI i from nI_le (a := 60) z2 (by omega))]; rfl
        · rw [if_neg (show ¬ (60 : Int32) ≤ nI i from nI_ge (b := 60) (by omega) (by decide)), if_pos (l2_ix (by omega) (by decide)), nI_clamp (n := v) (by omega), e1, if_pos (l2_ix (by omega) (by decide)), nI_clamp (n := u) (by omega), if_neg z]; rfl
      · have ew : w = u' := (nI_eq (by omega) (by omega)).mp (hw.symm.trans e2)
        subst ew
        refine ⟨l2_tn.nil, ?_⟩
        show k_X13_meant_2 (nI w) s = _
        unfold k_X13_meant_2
        rw [if_pos (l2_ix (by omega) (by decide)), nI_clamp (n := w) (by omega), if_neg z']; rfl
end
