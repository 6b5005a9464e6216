/-! Level 2: the reference's check of a node. -/
/-- at place q a 4 just when U -/
def rN_Q (U : Prop) (q : Int32) (S : Nat → Int32 → Prop) (r r' : t_S) : Prop := l2_fr lg_W r r' ∧ ls_R (r'.1 950 88) (r'.1 950 89) (fun a b => S a b ∨ (b = q ∧ a = 4 ∧ U))
section
variable {X k : Nat} {nt : Nat → Nat} {U : Prop} {q v w : Int32} {S : Nat → Int32 → Prop} {r : t_S}
theorem rN_bad (L : ls_R (r.1 950 88) (r.1 950 89) S) (u : U) : t_hk ((f_X13_wrong 4 q r).bind (fun y => some y)) (rN_Q U q S r) := by
  obtain ⟨r1, x1, x2, x3⟩ := ls_wrong (q := q) L (k := 4) (by decide)
  rw [show (4 : Int32) = nI 4 from rfl, x1, l2_bs]
  exact l2_sm ⟨x2, x3.iff (fun a b => or_congr Iff.rfl ⟨fun y => ⟨y.2, y.1, u⟩, fun y => ⟨y.2.1, y.1⟩⟩)⟩
theorem rN_ok (L : ls_R (r.1 950 88) (r.1 950 89) S) (u : ¬ U) : t_hk (some r) (rN_Q U q S r) := l2_sm ⟨l2_fr.rf, L.iff (fun a b => ⟨Or.inl, fun y => y.elim id (fun z => absurd z.2.2 u)⟩)⟩
/-- a type's name -/
theorem rn_8 (tR : to_R nt r 0 X v) (n60 : nt 0 ≤ 60) (e40 : r.1 950 40 = nI (nt 0)) (hk : k < 13000) (h5 : r.1 955 k = nI 8) (h7 : (r.2.1 957 k).toInt32 = nI X) (h6 : r.1 956 k = q) (L : ls_R (r.1 950 88) (r.1 950 89) S) : t_hk (f_X13_checkNode (nI k) r) (rN_Q (un_R nt r 0 X) q S r) := by
  unfold f_X13_checkNode
  rw [if_pos (l2_ix hk (by decide)), nI_clamp (n := k) (by omega), h5, if_pos (show (nI 8).toInt = 8 by decide), e40, h7, show f_X13_find 964 0 (nI (nt 0)) (nI X) r = some v from tR.1, l2_bs, h6]
  by_cases z : v < 0
  · rw [if_neg (Int32.not_le.mpr z)]
    exact rN_bad L ((tR.un n60).mp z)
  · rw [if_pos (Int32.not_lt.mp z)]
    exact rN_ok L (fun y => z ((tR.un n60).mpr y))
/-- a templ's name, or a word of an enum -/
theorem rn_28 {m : Nat} (tR : to_R nt r 1 X v) (n60 : nt 1 ≤ 60) (e44 : r.1 950 44 = nI (nt 1)) (hm : m ≤ 13000) (e90 : r.1 950 90 = nI m) (hX : X < 7934) (hk : k < 13000) (h5 : r.1 955 k = nI 28) (h7 : (r.2.1 957 k).toInt32 = nI X) (h6 : r.1 956 k = q) (L : ls_R (r.1 950 88) (r.1 950 89) S) : t_hk (f_X13_checkNode (nI k) r) (rN_Q (un_R nt r 1 X ∧ ¬ ew_W m r X) q S r) := by
  unfold f_X13_checkNode
  rw [if_pos (l2_ix hk (by decide)), nI_clamp (n := k) (by omega), h5, if_neg (show ¬ (nI 28).toInt = 8 by decide), if_pos (show (nI 28).toInt = 28 by decide), e44, h7, show f_X13_find 967 0 (nI (nt 1)) (nI X) r = some v from tR.1, l2_bs, h6]
  by_cases z : v < 0
  · rw [if_neg (Int32.not_le.mpr z)]
    obtain ⟨w, e1, e2, e3⟩ := ew_is hm e90 hX
    rw [e1, l2_bs]
    by_cases y : w = 0
    · rw [if_pos y]
      exact rN_bad L ⟨(tR.un n60).mp z, fun x => by rw [e3.mpr x] at y; exact absurd y (by decide)⟩
    · rw [if_neg y]
      exact rN_ok L (fun x => x.2 (e3.mp (e2.resolve_left y)))
  · rw [if_pos (Int32.not_lt.mp z)]
    exact rN_ok L (fun y => z ((tR.un n60).mpr y.1))
end
