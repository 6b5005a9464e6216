/-! Level 2: the reference's check of a line's second word. -/
section
variable {X ln f K : Nat} {q v w z kc l2 : Int32} {U : Prop} {S : Nat → Int32 → Prop} {r : t_S}
/-- none, or a VAR's, or CONNECT's: nothing -/
theorem r442_none (hl : ln < 400) (h : r.1 993 ln < 0 ∨ r.1 988 ln = 1 ∨ r.1 988 ln = 16) : k_X13_checkLine_442 (nI ln) l2 r = some r := by
  unfold k_X13_checkLine_442
  rw [if_pos (l2_ix (show ln < 401 by omega) (by decide)), nI_clamp (n := ln) (by omega)]
  by_cases a : r.1 993 ln < 0
  · rw [if_pos a]
  · rw [if_neg a]
    by_cases b : r.1 988 ln = 1
    · rw [if_pos b]
    · rw [if_neg b, if_pos ((h.resolve_left a).resolve_left b)]
/-- a var -/
theorem r442_var (hl : ln < 400) (hX : X < 7934) (h1 : r.1 993 ln = nI X) (h8 : r.1 988 ln = nI K) (hK : K < 30 ∧ K ≠ 1 ∧ K ≠ 16) (hv : f_X13_varOf (nI X) (2000 + l2) (r.1 1002 ln) r = some z) (hz : 0 ≤ z ↔ ¬ U) (h4 : r.1 994 ln = q) (L : ls_R (r.1 950 88) (r.1 950 89) S) : t_hk (k_X13_checkLine_442 (nI ln) l2 r) (rN_Q U q S r) := by
  unfold k_X13_checkLine_442
  have n : ∀ x : Nat, x < 100 → K ≠ x → nI K ≠ nI x := fun x hx h y => h ((nI_eq (by omega) (by omega)).mp y)
  rw [if_pos (l2_ix (show ln < 401 by omega) (by decide)), nI_clamp (n := ln) (by omega), h1, if_neg (nI_pos (by omega)), h8, if_neg (show ¬ nI K = (1 : Int32) from n 1 (by decide) hK.2.1), if_neg (show ¬ nI K = (16 : Int32) from n 16 (by decide) hK.2.2), hv, l2_bs]
  by_cases y : 0 ≤ z
  · rw [if_pos y]
    exact rN_ok L (hz.mp y)
  · rw [if_neg y, h4]
    exact rN_bad L (Classical.byContradiction (fun x => y (hz.mpr x)))
end
