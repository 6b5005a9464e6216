/-! Level 2: met, the reference: an ERROR in the templ's exps. -/
section
variable {r r1 r2 : t_S} {rc : RT_X13_behindFirst} {n a b H p dep nd : Nat}
theorem rm_err (hp : rc.2.2.2.2.1 (nI nd) r1 = some r2) (h138 : r2.1 950 138 = nI (dep + 1)) (h97 : r2.1 950 97 ≠ 0) : restM rc (nI nd) (nI p) r1 = some (0, t_setI r2 950 138 (nI dep)) := by
  have e : (t_setI r2 950 138 (nI dep)).1 950 97 = r2.1 950 97 := by rw [l2_g, if_neg (by decide)]
  unfold restM
  rw [hp, l2_bs, t_let, h138, show nI (dep + 1) - (1 : Int32) = nI dep from nI_pred dep, e, if_neg h97]
theorem met_err {s' : t_S} {v : Int32} (hn : n < 13000) (ha : a < 13000) (h59 : r.1 959 n = nI a) (h60 : r.1 960 a = nI b) (h98 : r.1 950 98 = nI (H + 1)) (hp : p = 260 * (40 + H)) (hm : rc.2.2.1 (nI b) (nI p) r = some (v, s')) (h97 : s'.1 950 97 ≠ 0) : m_X13_met rc (nI n) r = some s' := by
  have top : f_X13_top r = nI p := by
    unfold f_X13_top
    rw [h98, show (40 : Int32) = nI 40 from rfl, nI_add, show (40 + (H + 1)) = (40 + H) + 1 by omega, nI_pred, show (260 : Int32) = nI 260 from rfl, pk_mul, hp]
  unfold m_X13_met
  rw [if_pos (l2_ix hn (by decide)), nI_clamp (n := n) (by omega), h59, if_pos (l2_ix ha (by decide)), nI_clamp (n := a) (by omega), h60, top, hm, l2_bs, if_neg h97]
/-- an ERROR ahead of it: KrZ of the whole -/
theorem kz_err {c0 : t_S} {P : Nat → Int64} {TS : Nat → Nat → Nat → Prop} {wt : Nat → Nat} {Y : Nat → Prop} {x y σ σ1 ρ ρ1 : Nat} {r' : t_S} (h138 : r.1 950 138 = nI dep) (hd : dep ≤ 20000) (K : KN σ r) (hσ : σ < 2 ^ 30) (R : KS2 ρ r) (b138 : r1.1 950 138 = nI (dep + 1)) (bK : KN σ1 r1) (bR : KS2 ρ1 r1) (b0 : dep = 0 → σ1 ≤ 1000000000) (b1 : dep ≠ 0 → σ1 = σ ∧ ρ1 = ρ ∧ l2_fr (fun b j => b = 950 ∧ j = 138) r r1) (b97 : r1.1 950 97 = r.1 950 97) (k : KrZ c0 P TS wt Y x y r1 r2) (q : q34 c0 (y + 1) = q34 c0 y) (hr : r' = t_setI r2 950 138 (nI dep)) : KrZ c0 P TS wt Y x (y + 1) r r' := by
  have f : l2_fr (fun b j => b = 950 ∧ j = 138) r2 r' := by rw [hr]; exact l2_fr.set ⟨rfl, rfl⟩
  exact kz_met h138 hd K hσ R b138 bK bR b0 b1 b97 k q (by rw [hr, l2_g, if_pos rfl]) (f 950 97 (by omega)).1 (fun σ2 h => ⟨σ2, h.same (f 950 137 (by omega)).1 (fun j => (f 1028 j (by omega)).1), by omega⟩) (fun b j h => ⟨(f b j (by omega)).1, (f b j (by omega)).2.1⟩)
end
