/-! Level 2: the reference holds a part against a templ: what it has found out already, one node. -/
theorem nI_dif {a b : Nat} (h : b ≤ a) : nI a - nI b = nI (a - b) := by
  obtain ⟨d, rfl⟩ : ∃ d, a = b + d := ⟨a - b, by omega⟩
  rw [vr_len, Nat.add_sub_cancel_left]
theorem i_half {s b : Nat} (hs : s < 2 ^ 30) (hb : b ≤ 1) : ((2 : Int32) * nI s + nI b) / (2 : Int32) = nI s ∧ ((2 : Int32) * nI s + nI b) - ((2 : Int32) * nI s + nI b) / (2 : Int32) * (2 : Int32) = nI b := by
  have e : (2 : Int32) * nI s + nI b = nI (2 * s + b) := by rw [show (2 : Int32) = nI 2 from rfl, pk_mul, nI_add]
  have d : nI (2 * s + b) / (2 : Int32) = nI s := by
    apply Int32.toInt_inj.mp
    rw [Int32.toInt_div]
    rw [nI_toInt (by omega), nI_toInt (by omega), show (2 : Int32).toInt = 2 from rfl]
    have : ((2 * s + b : Nat) : Int).tdiv 2 = s := by rw [Int.tdiv_eq_ediv_of_nonneg (by omega)]; omega
    rw [this]
    have d := Int.bmod_def (s : Int) (2 ^ 32)
    simp only [Nat.reducePow] at d ⊢
    omega
  rw [e, d]
  refine ⟨rfl, ?_⟩
  apply Int32.toInt_inj.mp
  rw [show nI s * (2 : Int32) = nI (s * 2) from by rw [show (2 : Int32) = nI 2 from rfl, pk_mul], Int32.toInt_sub, nI_toInt (by omega), nI_toInt (by omega), nI_toInt (by omega)]
  have d := Int.bmod_def (((2 * s + b : Nat) : Int) - ((s * 2 : Nat) : Int)) (2 ^ 32)
  simp only [Nat.reducePow] at d ⊢
  omega
structure RC (r : t_S) (p E σ : Nat) (ti : Nat → Nat) (NS : Nat → Prop) : Prop where
  st : r.1 950 137 = nI σ ∧ σ < 2 ^ 30
  mb : r.1 950 141 = nI p
  pb : p + 260 ≤ 626600
  pr : ∀ x, x < E → p ≤ wq (r.2.1 1006) p x ∧ wq (r.2.1 1006) p x < p + 250 ∧ r.1 1029 (wq (r.2.1 1006) p x - p) = nI (x + 1)
  eb : 0 < E ∧ E ≤ 129
  ix : ∀ n, NS n → n < 13000 ∧ r.1 962 n = nI (ti n) ∧ ti n < 4404
  inj : ∀ n n', NS n → NS n' → ti n = ti n' → n = n'
  wi : ∀ x x', x < E → x' < E → wq (r.2.1 1006) p x = wq (r.2.1 1006) p x' → x = x'
/-- a part or nothing, as the reference tells it: its place, its number -/
def PQ (r : t_S) (p E : Nat) (o : Option Nat) (y : Int32) (num : Nat) : Prop := (o = none ∧ ((y = -1 ∧ num = 0) ∨ (y = nI p ∧ r.2.1 1006 p = lN 4 ∧ num = 1))) ∨ ∃ x, x < E ∧ o = some (wq (r.2.1 1006) p x) ∧ y = nI (wq (r.2.1 1006) p x) ∧ num = x + 1 ∧ r.2.1 1006 (wq (r.2.1 1006) p x) ≠ lN 4
def MemR (r : t_S) (p E σ : Nat) (ti : Nat → Nat) (NS : Nat → Prop) (s : t_S) : Prop := (∀ j, j < 577000 → -2 ≤ (s.1 1028 j).toInt ∧ (s.1 1028 j).toInt < 2 * (σ : Int) + 2) ∧ ∀ n o y num, NS n → PQ r p E o y num → s.1 1028 (131 * ti n + num) / 2 = nI σ → (s.1 1028 (131 * ti n + num) - s.1 1028 (131 * ti n + num) / 2 * 2 = 1 ↔ Mn r p E n o)
section
variable {r s : t_S} {p E σ : Nat} {ti : Nat → Nat} {NS : Nat → Prop} {n g num : Nat} {o : Option Nat} {y : Int32}
theorem PQ.bd (h : PQ r p E o y num) (hE : E ≤ 129) : num ≤ 129 := by
  rcases h with ⟨_, ⟨_, h⟩ | ⟨_, _, h⟩⟩ | ⟨x, h1, _, _, h, _⟩ <;> omega
theorem PQ.one {o' : Option Nat} {y' : Int32} (h : PQ r p E o y num) (g : PQ r p E o' y' num) : o = o' := by
  rcases h with ⟨rfl, ⟨_, h⟩ | ⟨_, h4, h⟩⟩ | ⟨x, h1, rfl, _, h, h4⟩
  · rcases g with ⟨rfl, _⟩ | ⟨x, _, _, _, g, _⟩
    · rfl
    · omega
  · rcases g with ⟨rfl, _⟩ | ⟨x, _, _, _, g, g4⟩
    · rfl
    · obtain rfl : x = 0 := by omega
      exact absurd h4 g4
  · rcases g with ⟨rfl, ⟨_, g⟩ | ⟨_, g4, g⟩⟩ | ⟨x', _, rfl, _, g, _⟩
    · omega
    · obtain rfl : x = 0 := by omega
      exact absurd g4 h4
    · obtain rfl : x = x' := by omega
      rfl
theorem MemR.set (C : RC r p E σ ti NS) (h : MemR r p E σ ti NS s) (hN : NS n) (hP : PQ r p E o y num) {b : Nat} (hb : b ≤ 1) (hv : b = 1 ↔ Mn r p E n o) : MemR r p E σ ti NS (t_setI s 1028 (131 * ti n + num) (2 * nI σ + nI b)) := by
  refine ⟨fun j hj => ?_, fun n' o' y' num' hN' hP' he => ?_⟩
  · rw [l2_g]
    by_cases e : j = 131 * ti n + num
    · have s30 := C.st.2
      rw [if_pos e, show (2 : Int32) = nI 2 from rfl, pk_mul, nI_add, nI_toInt (by omega)]
      omega
    · rw [if_neg e]
      exact h.1 j hj
  have b1 := hP.bd C.eb.2
  have b2 := hP'.bd C.eb.2
  rw [l2_g] at he ⊢
  by_cases c : 131 * ti n' + num' = 131 * ti n + num
  · have e1 : ti n' = ti n := by omega
    have e2 : num' = num := by omega
    have e3 := C.inj _ _ hN' hN e1
    subst e2 e3
    have e4 := hP'.one hP
    subst e4
    rw [if_pos rfl, (i_half C.st.2 hb).2, ← hv]
    exact nI_eq (b := 1) (by omega) (by decide)
  · rw [if_neg c] at he ⊢
    exact h.2 n' o' y' num' hN' hP' he
/-- one node, once its tone is known -/
theorem rm_match {Q : Prop} (C : RC r p E σ ti NS) (hN : NS n) (hP : PQ r p E o y num) (fr : l2_fr rmW r s) (hm : MemR r p E σ ti NS s) {b : Nat} (hb : b ≤ 1) (h61 : r.1 961 n = nI b) (hun : Mn r p E n o ↔ (o = none ∧ r.1 961 n = 1) ∨ Q) (hT : ¬ (o = none ∧ r.1 961 n = 1) → ∃ s', (if r.1 955 n = 41 then (R_X13_assign g).2.1 (nI n) y s else if o = none then (R_X13_assign g).2.2.2.2.2.1 (nI n) s else (R_X13_assign g).2.2.2.2.2.2.2 (nI n) y s) = some (bZ Q, s') ∧ l2_fr rmW r s' ∧ MemR r p E σ ti NS s') : ∃ s', (R_X13_assign (g + 1)).2.2.2.2.1 (nI n) y s = some (bZ (Mn r p E n o), s') ∧ l2_fr rmW r s' ∧ MemR r p E σ ti NS s' := by
  obtain ⟨n13, e62, tib⟩ := C.ix n hN
  have nb := hP.bd C.eb.2
  have fs : ∀ b j, ¬ rmW b j → s.1 b j = r.1 b j := fun b j w => (fr b j w).1
  have f6 : ∀ j, s.2.1 1006 j = r.2.1 1006 j := fun j => (fr 1006 j (by unfold rmW; omega)).2.1
  have s62 : s.1 962 n = nI (ti n) := (fs 962 n (by unfold rmW; omega)).trans e62
  have s55 : s.1 955 n = r.1 955 n := fs 955 n (by unfold rmW; omega)
  have s61 : s.1 961 n = nI b := (fs 961 n (by unfold rmW; omega)).trans h61
  have s37 : s.1 950 137 = nI σ := (fs 950 137 (by unfold rmW; omega)).trans C.st.1
  -- the store
  have store : ∀ (s1 : t_S) (Q' : Prop), (Q' ↔ Mn r p E n o) → l2_fr rmW r s1 → MemR r p E σ ti NS s1 → ∃ s', k_X13_match_161 (R_X13_assign g) (nI (131 * ti n + num)) (bZ Q') s1 = some (bZ (Mn r p E n o), s') ∧ l2_fr rmW r s' ∧ MemR r p E σ ti NS s' := fun s1 Q' hq f1 m1 => by
    have e37 : s1.1 950 137 = nI σ := ((f1 950 137 (by unfold rmW; omega)).1).trans C.st.1
    unfold k_X13_match_161 k_X13_match_183
    rw [bZ_i hq, e37, nI_clamp (n := 131 * ti n + num) (by omega)]
    simp only [t_let, if_pos (l2_ix (j := 131 * ti n + num) (n := 577000) (by omega) (by decide))]
    by_cases c : Mn r p E n o
    · rw [bZ_t c, if_neg (show ¬ (1 : Int32) = 0 by decide), if_pos (show (1 : Int32) = 0 ∨ (1 : Int32) = 1 by decide)]
      exact ⟨_, rfl, f1.trans (l2_fr.set (Or.inl rfl)), m1.set C hN hP (b := 1) (by decide) ⟨fun _ => c, fun _ => rfl⟩⟩
    · rw [bZ_f c, if_pos rfl, if_pos (show (0 : Int32) = 0 ∨ (0 : Int32) = 1 by decide)]
      exact ⟨_, rfl, f1.trans (l2_fr.set (Or.inl rfl)), m1.set C hN hP (b := 0) (by decide) ⟨fun y => absurd y (by decide), fun y => absurd y c⟩⟩
  -- the tone
  have e113 : ∀ l5 : Int32, (l5 = 0 ↔ o ≠ none) → ¬ (o = none ∧ r.1 961 n = 1) → ∃ s', k_X13_match_113 (R_X13_assign g) (nI n) y (nI (131 * ti n + num)) l5 0 s = some (bZ (Mn r p E n o), s') ∧ l2_fr rmW r s' ∧ MemR r p E σ ti NS s' := fun l5 h5 no => by
    obtain ⟨s1, t1, t2, t3⟩ := hT no
    have hq : Q ↔ Mn r p E n o := by
      rw [hun]
      exact ⟨Or.inr, fun y => y.resolve_left no⟩
    obtain ⟨s', u1, u2, u3⟩ := store s1 Q hq t2 t3
    refine ⟨s', ?_, u2, u3⟩
    unfold k_X13_match_113 k_X13_match_159
    rw [if_pos rfl, if_pos (l2_ix n13 (by decide)), nI_clamp (n := n) (by omega), s55]
    by_cases c : r.1 955 n = 41
    · rw [if_pos c] at t1
      rw [if_pos c, t1, l2_bs]
      exact u1
    · rw [if_neg c] at t1
      rw [if_neg c]
      by_cases co : o = none
      · rw [if_pos co] at t1
        rw [if_neg (fun y => h5.mp y co), t1, l2_bs]
        exact u1
      · rw [if_neg co] at t1
        rw [if_pos (h5.mpr co), t1, l2_bs]
        exact u1
  have e19 : ∃ s', k_X13_match_19 (R_X13_assign g) (nI n) y (nI num) s = some (bZ (Mn r p E n o), s') ∧ l2_fr rmW r s' ∧ MemR r p E σ ti NS s' := by
    unfold k_X13_match_19
    rw [if_pos (l2_ix n13 (by decide)), nI_clamp (n := n) (by omega), s62, show (131 : Int32) = nI 131 from rfl, pk_mul, nI_add, if_pos (l2_ix (by omega) (by decide)), nI_clamp (n := 131 * ti n + num) (by omega), s37]
    by_cases hit : s.1 1028 (131 * ti n + num) / 2 = nI σ
    · rw [if_pos hit]
      have := hm.2 n o y num hN hP hit
      by_cases c : s.1 1028 (131 * ti n + num) - s.1 1028 (131 * ti n + num) / 2 * 2 = 1
      · rw [if_pos c, bZ_t (this.mp c)]
        exact ⟨s, rfl, fr, hm⟩
      · rw [if_neg c, bZ_f (fun z => c (this.mpr z))]
        exact ⟨s, rfl, fr, hm⟩
    · rw [if_neg hit]
      -- nothing there
      have omt : o = none → ∃ s', k_X13_match_86 (R_X13_assign g) (nI n) y (nI (131 * ti n + num)) s = some (bZ (Mn r p E n o), s') ∧ l2_fr rmW r s' ∧ MemR r p E σ ti NS s' := fun ho => by
        unfold k_X13_match_86 k_X13_match_91 k_X13_match_112
        rw [if_neg (show ¬ (1 : Int32) = 0 by decide), if_pos (l2_ix n13 (by decide)), nI_clamp (n := n) (by omega), s61]
        by_cases c : nI b = (1 : Int32)
        · rw [if_pos c]
          unfold k_X13_match_113
          rw [if_neg (show ¬ (1 : Int32) = 0 by decide)]
          have tr : Mn r p E n o := hun.mpr (Or.inl ⟨ho, h61.trans c⟩)
          have := store s (Mn r p E n o) Iff.rfl fr hm
          rw [bZ_t tr] at this ⊢
          exact this
        · rw [if_neg c]
          exact e113 1 ⟨fun y => absurd y (by decide), fun y => absurd ho y⟩ (fun z => c (h61.symm.trans z.2))
      rcases hP with ⟨ho, ⟨hy, _⟩ | ⟨hy, h4, _⟩⟩ | ⟨x, hx, ho, hy, _, h4⟩
      · rw [hy, if_pos (by decide), ← hy]
        exact omt ho
      · have pb := C.pb
        rw [hy, if_neg (nI_pos (by omega)), if_pos (l2_ix (by omega) (by decide)), nI_clamp (n := p) (by omega), f6, h4, if_pos (show lg_cmp (lN 4) (4 : Int64) = 0 from l2_cmp0.mpr rfl), ← hy]
        exact omt ho
      · have pb := C.pb
        obtain ⟨x1, x2, _⟩ := C.pr x hx
        rw [hy, if_neg (nI_pos (by omega)), if_pos (l2_ix (by omega) (by decide)), nI_clamp (n := wq (r.2.1 1006) p x) (by omega), f6, if_neg (show ¬ lg_cmp (r.2.1 1006 (wq (r.2.1 1006) p x)) (4 : Int64) = 0 from fun z => h4 (l2_cmp0.mp z)), ← hy]
        unfold k_X13_match_91 k_X13_match_112
        rw [if_pos rfl]
        exact e113 0 ⟨fun _ z => by rw [ho] at z; exact no_sn z, fun _ => rfl⟩ (fun z => by rw [ho] at z; exact no_sn z.1)
  show ∃ s', m_X13_match (R_X13_assign g) (nI n) y s = some (bZ (Mn r p E n o), s') ∧ _
  unfold m_X13_match
  have idx : ∀ x, x < E → y = nI (wq (r.2.1 1006) p x) → num = x + 1 → (if (0 : Int32) ≤ y then (if t_ix (y - (s.1 950 141)) 270 = true then k_X13_match_19 (R_X13_assign g) (nI n) y (s.1 1029 ((y - (s.1 950 141)).toNatClampNeg)) s else none) else k_X13_match_19 (R_X13_assign g) (nI n) y 0 s) = k_X13_match_19 (R_X13_assign g) (nI n) y (nI num) s := fun x hx hy hn => by
    have pb := C.pb
    obtain ⟨x1, x2, x3⟩ := C.pr x hx
    have s41 : s.1 950 141 = nI p := (fs 950 141 (by unfold rmW; omega)).trans C.mb
    rw [if_pos (by rw [hy]; exact nI_pos' (by omega)), hy, s41, nI_dif x1, if_pos (l2_ix (by omega) (by decide)), nI_clamp (n := wq (r.2.1 1006) p x - p) (by omega), fs 1029 _ (by unfold rmW; omega), x3, hn]
  rcases id hP with ⟨ho, ⟨hy, hn⟩ | ⟨hy, h4, hn⟩⟩ | ⟨x, hx, ho, hy, hn, h4⟩
  · rw [if_neg (by rw [hy]; decide)]
    rw [hn] at e19
    exact e19
  · rw [idx 0 C.eb.1 hy hn]
    exact e19
  · rw [idx x hx hy hn]
    exact e19
end
