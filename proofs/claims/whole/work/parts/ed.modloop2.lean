/-! Level 2: a module: its items one after another; the loop. -/
/-- cells of array 7 are 0 or 1; words of links are words of the text -/
theorem h2_pr {T U : Type} {a : Option T} {b : Option U} {Q : T → U → Prop} {R : U → Prop} (h : t_h2 a b Q) (g : t_pq b R) : t_h2 a b (fun x y => Q x y ∧ R y) := by
  obtain ⟨x, y, e1, e2, q⟩ := h
  exact ⟨x, y, e1, e2, q, g y e2⟩
def MK (V : Int32 → Prop) (s : t_S) : Prop := BK s ∧ TK V True s ∧ SA s ∧ VL 2 0 s ∧ NL 2 0 s ∧ LZ s ∧ TW (fun _ => False) (fun _ _ => False) s ∧ WO s
theorem mk_mIt {V : Int32 → Prop} {s : t_S} (h : MK V s) : t_pq (mIt s) (MK V) := fun y e => ⟨bk_mIt h.1 y e, tk_mIt h.2.1 y e, sa_mIt h.2.2.1 y e, vl_mIt h.2.2.2.1 y e, nl_mIt h.2.2.2.2.1 y e, lz_mIt h.2.2.2.2.2.1 y e, tw_mIt h.2.2.2.2.2.2.1 y e, wo_mIt h.2.2.2.2.2.2.2 y e⟩
section
variable {P : pc_S} {nt nt' : Nat → Nat} {a g a' g' i so cnt : Nat} {k k' : Nat → Nat} {c0 r0 c r c' r' : t_S} {Q : t_S → Int32 × t_S → Prop} {V : Int32 → Prop}
/-- between two turns -/
def mJ (V : Int32 → Prop) (P : pc_S) (c0 cs rs : t_S) (j : Nat) (x : Int32 × t_S) (y : t_S) : Prop := ∃ (cnt : Nat) (c r : t_S), x = (nI cnt, c) ∧ y = r ∧ l2_fr mo_Wc cs c ∧ l2_fr mo_Wr rs r ∧ (MK V c ∧ IL 2 0 r) ∧ ((∃ (nt : Nat → Nat) (a g : Nat) (k : Nat → Nat), mR P nt a g k c0 c r ∧ cnt ≤ k 0 ∧ j = 12010 - k 0) ∨ (pf P c r ∧ cnt ≤ 12001 ∧ j = 0))
theorem m_loop {cs rs : t_S} (hb : MK V cs ∧ IL 2 0 rs) (h : mR P nt a g k c0 cs rs ∨ pf P cs rs) (hE : ∀ (nt : Nat → Nat) (a g : Nat) (k : Nat → Nat) (c r : t_S), mR P nt a g k c0 c r → l2_fr mo_Wc cs c → l2_fr mo_Wr rs r → MK V c ∧ IL 2 0 r → c.1 1 8 = 4 → t_h2 (k_X6_readModule_191 c) (k_X13_module_125 r) Q) (hF : ∀ c r, pf P c r → l2_fr mo_Wc cs c → l2_fr mo_Wr rs r → MK V c ∧ IL 2 0 r → t_h2 (k_X6_readModule_191 c) (k_X13_module_125 r) Q) : t_h2 (t_loop b_X6_readModule_58 t_N (0, cs)) (t_loop b_X13_module_104 t_N rs) Q := by
  have start : ∃ j, j ≤ 12010 ∧ mJ V P c0 cs rs j (0, cs) rs := by
    rcases h with h | h
    · exact ⟨12010 - k 0, by omega, 0, cs, rs, rfl, rfl, l2_fr.rf, l2_fr.rf, hb, Or.inl ⟨nt, a, g, k, h, Nat.zero_le _, rfl⟩⟩
    · exact ⟨0, by omega, 0, cs, rs, rfl, rfl, l2_fr.rf, l2_fr.rf, hb, Or.inr ⟨h, by decide, rfl⟩⟩
  obtain ⟨j0, hj0, s0⟩ := start
  refine h2_lpN (fun j x y => mJ V P c0 cs rs j x y) ?_ (k := j0) (by omega) s0
  rintro j x y ⟨cnt, c, r1, rfl, hr, fc, fr, bk, h⟩
  rw [hr]
  clear hr
  revert h fr bk
  generalize r1 = r2
  intro fr bk h
  show t_h2 (k_X6_readModule_58 (nI cnt) c) (k_X13_module_104 r2) _
  rcases h with ⟨nt, a, g, k, h, hc, rfl⟩ | ⟨hp, hc, rfl⟩
  rotate_left
  · have hp' := hp
    obtain ⟨f, p, w3, w4⟩ := hp'
    unfold k_X6_readModule_58 k_X13_module_104
    rw [if_neg (show ¬ (12002 : Int32) ≤ nI cnt from nI_ge (b := 12002) (by omega) (by decide)), if_neg w3.ne, if_neg w4.ne, ite_self]
    exact h2_mp (hF c r2 hp fc fr bk)
  have J := h.1.1
  have hu := J.ule
  have n1 : ¬ (12002 : Int32) ≤ nI cnt := nI_ge (b := 12002) (by omega) (by decide)
  by_cases z : c.1 1 8 = 4
  · unfold k_X6_readModule_58 k_X13_module_104
    rw [if_neg n1, if_pos J.f0.1, if_pos z, if_pos (J.sort.2.2.2.1.mp z)]
    exact h2_mp (hE nt a g k c r2 h fc fr bk z)
  · rw [mIt_eq _ n1 J.f0.1 z]
    unfold k_X13_module_104
    rw [if_neg (fun y => z (J.sort.2.2.2.1.mpr y)), if_pos J.f0.2]
    refine h2_bb _ (h2_pr (h2_pq (mR_item h) (mk_mIt bk.1)) (in_f_X13_item bk.2)) (fun c' r' hq => ?_)
    obtain ⟨⟨⟨q1, q2, q3⟩, bk1⟩, bk2⟩ := hq
    have bk' : MK V c' ∧ IL 2 0 r' := ⟨bk1, bk2⟩
    unfold k_X6_readModule_185
    rw [nI_1]
    rcases q3 with ⟨nt', a', g', k', h', lt⟩ | hp
    · have hu' := h'.1.1.ule
      exact h2_sm ⟨12010 - k' 0, by omega, cnt + 1, c', r', rfl, rfl, fc.trans q1, fr.trans q2, bk', Or.inl ⟨nt', a', g', k', h', by omega, rfl⟩⟩
    · exact h2_sm ⟨0, by omega, cnt + 1, c', r', rfl, rfl, fc.trans q1, fr.trans q2, bk', Or.inr ⟨hp, by omega, rfl⟩⟩
end
