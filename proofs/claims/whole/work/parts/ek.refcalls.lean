/-! Level 2: the reference's check of a call. -/
section
variable {P : pc_S} {nt : Nat → Nat} {W X K f g ln w na : Nat} {G : Nat → Nat} {v kc : Int32} {S : Nat → Int32 → Prop} {r : t_S}
theorem pc_count (h : ch_R r w na G) (hw : w < 13000) (hv : na ≤ 1000) : f_X13_partCount (nI w) r = some (nI na) := by
  have k : t_hk (f_X13_partCount (nI w) r) (fun y => y = nI na) := by
    unfold f_X13_partCount
    rw [if_pos (l2_ix hw (by decide)), nI_clamp (n := w) (by omega)]
    refine l2_lp (fun u y => ∃ j, j + u = na ∧ y = (nI j, if j < na then nI (G j) else -1)) ?_ (m := na) (Nat.lt_trans (show na < 1000000000 by omega) l2_N) ⟨0, by omega, by rw [h.1]; rfl⟩
    rintro u y ⟨j, hj, rfl⟩
    show t_hk (k_X13_partCount_9 (nI j) (if j < na then nI (G j) else -1) r) _
    unfold k_X13_partCount_9
    by_cases z : j < na
    · obtain ⟨g1, g2, g3, g4⟩ := h.2 j z
      rw [if_pos z]
      refine l2_no (nI_pos (by omega)) (l2_ck (l2_ix g1 (by decide)) ?_)
      rw [nI_clamp (n := G j) (by omega), g3]
      exact l2_sm ⟨u - 1, by omega, j + 1, by omega, by rw [nI_1]⟩
    · rw [if_neg z]
      exact l2_ck (by decide) (l2_mp (l2_sm (show nI j = nI na by rw [show j = na by omega])))
  obtain ⟨y, e, q⟩ := k
  rw [e, q]
theorem co_unit (k : ko_R nt r f v) (hf : f < 40) (e55 : r.1 950 55 = nI (nt 2)) : f_X13_componentOf (2000 + nI f) r = some v := by
  obtain ⟨Y, y1, y2, y3, _⟩ := k
  unfold f_X13_componentOf
  rw [show (2000 : Int32) + nI f = nI (2000 + f) from nI_add 2000 f, if_neg (Int32.not_lt.mpr (show (2000 : Int32) ≤ nI (2000 + f) from nI_le (a := 2000) (by omega) (by omega))), if_neg (show ¬ (3000 : Int32) ≤ nI (2000 + f) from nI_ge (b := 3000) (by omega) (by decide)), show nI (2000 + f) - (2000 : Int32) = nI (2000 + f - 2000) from pk_sub (b := 2000) (by omega), show 2000 + f - 2000 = f by omega, if_pos (l2_ix hf (by decide)), nI_clamp (n := f) (by omega), y2, e55, y3]
  rfl
/-- the function called is the one meant: right sort, right component -/
def rK (nt : Nat → Nat) (r : t_S) (K : Nat) (v kc : Int32) : Prop := ∃ g, g < nt 3 ∧ v = nI g ∧ r.1 981 g = (if K = 6 ∨ K = 15 then 3 else 4) ∧ (K = 15 ∨ (¬ kc < 0 ∧ ko_R nt r g kc))
def rc_Q (nt : Nat → Nat) (r : t_S) (K ln na : Nat) (v kc : Int32) (S : Nat → Int32 → Prop) (r' : t_S) : Prop := l2_fr lg_W r r' ∧ ls_R (r'.1 950 88) (r'.1 950 89) (fun a b => S a b ∨ (b = r.1 992 ln ∧ ((a = 4 ∧ ¬ rK nt r K v kc) ∨ (a = 6 ∧ rK nt r K v kc ∧ ∃ g, g < nt 3 ∧ v = nI g ∧ r.1 985 g ≠ nI na))))
theorem rc_call (tR : to_R nt r 3 X v) (n40 : nt 3 ≤ 40) (e64 : r.1 950 64 = nI (nt 3)) (e55 : r.1 950 55 = nI (nt 2)) (hl : ln < 400) (h91 : r.1 991 ln = nI X) (h88 : r.1 988 ln = nI K) (hK : K < 30) (ko : ∀ g, g < nt 3 → ∃ u, ko_R nt r g u) (h95 : r.1 995 ln = nI w) (hw : w < 13000) (hc : ch_R r w na G) (hna : na ≤ 12) (L : ls_R (r.1 950 88) (r.1 950 89) S) : t_hk (f_X13_checkCall (nI ln) kc r) (rc_Q nt r K ln na v kc S) := by
  have il : t_ix (nI ln) 401 = true := l2_ix (by omega) (by decide)
  have cl : (nI ln).toNatClampNeg = ln := nI_clamp (by omega)
  have bad : ¬ rK nt r K v kc → t_hk (k_X13_checkCall_111 (nI ln) v 0 r) (rc_Q nt r K ln na v kc S) := fun no => by
    unfold k_X13_checkCall_111
    rw [if_pos rfl, if_pos il, cl]
    obtain ⟨r1, x1, x2, x3⟩ := ls_wrong (q := r.1 992 ln) L (k := 4) (by decide)
    rw [show (4 : Int32) = nI 4 from rfl, x1, l2_bs]
    exact l2_sm ⟨x2, x3.iff (fun a b => ⟨fun y => y.imp id (fun z => ⟨z.2, Or.inl ⟨z.1, no⟩⟩), fun y => y.imp id (fun z => ⟨z.2.elim (fun q => q.1) (fun q => absurd q.2.1 no), z.1⟩)⟩)⟩
  have good : ∀ g, g < nt 3 → v = nI g → rK nt r K v kc → t_hk (k_X13_checkCall_111 (nI ln) v 1 r) (rc_Q nt r K ln na v kc S) := fun g hg ev ok => by
    unfold k_X13_checkCall_111
    rw [if_neg (by decide), if_pos il, cl, h95, pc_count hc hw (by omega), l2_bs, ev, if_pos (l2_ix (show g < 40 by omega) (by decide)), nI_clamp (n := g) (by omega)]
    by_cases z : nI na = r.1 985 g
    · rw [if_pos z]
      refine l2_sm ⟨l2_fr.rf, L.iff (fun a b => ⟨Or.inl, fun y => y.elim id (fun q => ?_)⟩)⟩
      rcases q.2 with q | ⟨_, _, g', g1, g2, g3⟩
      · exact absurd ok (ev ▸ q.2)
      · have := (nI_eq (by omega) (by omega)).mp g2
        subst this
        exact absurd z.symm g3
    · rw [if_neg z]
      obtain ⟨r1, x1, x2, x3⟩ := ls_wrong (q := r.1 992 ln) L (k := 6) (by decide)
      rw [show (6 : Int32) = nI 6 from rfl, x1, l2_bs]
      refine l2_sm ⟨x2, x3.iff (fun a b => ⟨fun y => y.imp id (fun q => ⟨q.2, Or.inr ⟨q.1, ev ▸ ok, g, hg, rfl, fun y => z y.symm⟩⟩), fun y => y.imp id (fun q => ⟨q.2.elim (fun p => absurd (ev ▸ ok) p.2) (fun p => p.1), q.1⟩)⟩)⟩
  have k47 : ∀ k0 : Int32, k0 = (if K = 6 ∨ K = 15 then 3 else 4) → t_hk (k_X13_checkCall_47 (nI ln) kc v k0 r) (rc_Q nt r K ln na v kc S) := fun k0 hk => by
    unfold k_X13_checkCall_47 k_X13_checkCall_68
    rcases tR.2 with ⟨y, _⟩ | ⟨g, hg, y, _⟩
    · have no : ¬ rK nt r K v kc := fun ⟨g, g1, g2, _⟩ => by
        rw [g2] at y
        exact nI_pos (n := g) (by omega) (by rw [y]; decide)
      rw [if_pos (show v < 0 by rw [y]; decide)]
      unfold k_X13_checkCall_69
      rw [if_pos rfl]
      exact bad no
    have un : ∀ {g'}, g' < nt 3 → v = nI g' → g' = g := fun h1 h2 => (nI_eq (by omega) (by omega)).mp (h2.symm.trans y)
    rw [if_neg (show ¬ v < 0 by rw [y]; exact nI_pos (by omega)), if_pos (show t_ix v 40 = true by rw [y]; exact l2_ix (by omega) (by decide)), show v.toNatClampNeg = g by rw [y]; exact nI_clamp (by omega)]
    by_cases z : r.1 981 g = k0
    rotate_left
    · rw [if_neg z]
      unfold k_X13_checkCall_69
      rw [if_pos rfl]
      exact bad (fun ⟨g', g1, g2, g3, _⟩ => z (by rw [← un g1 g2, g3, hk]))
    rw [if_pos z]
    unfold k_X13_checkCall_69
    rw [if_neg (by decide), if_pos il, cl, h88]
    by_cases z2 : nI K = (15 : Int32)
    · have e15 : K = 15 := (nI_eq (b := 15) (by omega) (by decide)).mp z2
      rw [if_pos z2]
      exact good g hg y ⟨g, hg, y, z.trans hk, Or.inl e15⟩
    have n15 : K ≠ 15 := fun e => z2 (by rw [e]; rfl)
    rw [if_neg z2]
    unfold k_X13_checkCall_108 k_X13_checkCall_109
    by_cases z3 : kc < 0
    · rw [if_pos z3]
      exact bad (fun ⟨g', g1, g2, g3, g4⟩ => g4.elim n15 (fun q => q.1 z3))
    obtain ⟨u, hu⟩ := ko g hg
    rw [if_neg z3, y, co_unit hu (by omega) e55, l2_bs, ← y]
    by_cases z4 : u = kc
    · rw [if_pos z4]
      exact good g hg y ⟨g, hg, y, z.trans hk, Or.inr ⟨z3, z4 ▸ hu⟩⟩
    · rw [if_neg z4]
      exact bad (fun ⟨g', g1, g2, g3, g4⟩ => g4.elim n15 (fun q => z4 (hu.eq (un g1 g2 ▸ q.2))))
  unfold f_X13_checkCall k_X13_checkCall_42
  rw [if_pos il, cl, e64, h91, show f_X13_find 980 0 (nI (nt 3)) (nI X) r = some v from tR.1, l2_bs, h88]
  by_cases a : nI K = (6 : Int32)
  · have : K = 6 := (nI_eq (b := 6) (by omega) (by decide)).mp a
    rw [if_pos a]
    exact k47 3 (by rw [if_pos (Or.inl this)])
  · rw [if_neg a]
    by_cases b : nI K = (15 : Int32)
    · have : K = 15 := (nI_eq (b := 15) (by omega) (by decide)).mp b
      rw [if_pos b]
      exact k47 3 (by rw [if_pos (Or.inr this)])
    · rw [if_neg b]
      exact k47 4 (by rw [if_neg (fun y => y.elim (fun q => a (by rw [q]; rfl)) (fun q => b (by rw [q]; rfl)))])
end
