/-! Level 2: met keeps what the family K tells. -/
theorem q34_n {c : t_S} {i : Nat} (h : c.1 335 i ≠ 34) : q34 c (i + 1) = q34 c i := by
  unfold q34
  rw [sm_s]
  show _ + (if c.1 335 i = 34 then 1 else 0) = _
  rw [if_neg h, Nat.add_zero]
section
variable {c0 : t_S} {P : Nat → Int64} {TS : Nat → Nat → Nat → Prop} {wt : Nat → Nat} {Y : Nat → Prop} {x y dep σ σ1 ρ ρ1 : Nat} {r r1 r2 r' : t_S}
theorem kz_met (h138 : r.1 950 138 = nI dep) (hd : dep ≤ 20000) (K : KN σ r) (hσ : σ < 2 ^ 30) (R : KS2 ρ r) (b138 : r1.1 950 138 = nI (dep + 1)) (bK : KN σ1 r1) (bR : KS2 ρ1 r1) (b0 : dep = 0 → σ1 ≤ 1000000000) (b1 : dep ≠ 0 → σ1 = σ ∧ ρ1 = ρ ∧ l2_fr (fun b j => b = 950 ∧ j = 138) r r1) (b97 : r1.1 950 97 = r.1 950 97) (k : KrZ c0 P TS wt Y x y r1 r2) (q : q34 c0 (y + 1) = q34 c0 y) (e138 : r'.1 950 138 = nI dep) (e97 : r'.1 950 97 = r2.1 950 97) (eK : ∀ σ2, KN σ2 r2 → ∃ σ3, KN σ3 r' ∧ σ3 ≤ σ2 + 1) (ef : ∀ b j, (b = 950 ∧ (j = 133 ∨ j = 135)) ∨ b = 1026 ∨ b = 1027 ∨ b = 1030 → r'.1 b j = r2.1 b j ∧ r'.2.1 b j = r2.2.1 b j) : KrZ c0 P TS wt Y x (y + 1) r r' := by
  obtain ⟨k1, k2, k3, k4, k5⟩ := k
  have ne1 : r1.1 950 138 ≠ 0 := by rw [b138]; exact nI_ne0 (by omega) (by omega)
  have z : r.1 950 138 = 0 ↔ dep = 0 := by rw [h138]; exact nI_eq (b := 0) (by omega) (by decide)
  refine ⟨by omega, by rw [e138, h138], fun s hs => ⟨fun n m => ?_, fun n m m2 => ?_⟩, fun t ht => ?_, fun w => ?_⟩
  · have e : s = σ := (nI_eq (by omega) (by omega)).mp (hs.1.symm.trans K.1)
    have e1 := (b1 (fun w => n (z.mpr w))).1
    obtain ⟨σ2, p1, p2⟩ := (k3 σ1 bK).1 ne1 (by omega)
    obtain ⟨σ3, p3, p4⟩ := eK σ2 p1
    exact ⟨σ3, p3, by omega⟩
  · have e1 := b0 (z.mp n)
    obtain ⟨σ2, p1, p2⟩ := (k3 σ1 bK).1 ne1 (by omega)
    obtain ⟨σ3, p3, p4⟩ := eK σ2 p1
    exact ⟨σ3, p3, by omega⟩
  · obtain ⟨ρ2, p1, p2⟩ := k4 ρ1 bR
    refine ⟨ρ2, p1.same (ef 950 133 (by omega)).1 (fun j => (ef 1030 j (by omega)).1), fun n => ?_⟩
    obtain ⟨_, e2, _⟩ := b1 (fun w => n (z.mpr w))
    have e : t = ρ := (nI_eq (by have := ht.2.1; omega) (by have := R.2.1; omega)).mp (ht.1.symm.trans R.1)
    rw [p2 ne1, e2, e]
  · rw [e97] at w
    obtain ⟨w1, w2⟩ := k5 w
    refine ⟨by rw [← b97]; exact w1, fun n => ?_⟩
    obtain ⟨_, _, f⟩ := b1 (fun w => n (z.mpr w))
    obtain ⟨R1, R2, R3⟩ := w2 ne1
    have f' : ∀ b j, ¬ (b = 950 ∧ j = 138) → r1.1 b j = r.1 b j ∧ r1.2.1 b j = r.2.1 b j := fun b j h => ⟨(f b j h).1, (f b j h).2.1⟩
    have rm1 : rem wt r1 = rem wt r := rem_cg (f' 950 133 (by omega)).1 (fun u _ => (f' 1030 u (by omega)).1)
    have rm2 : rem wt r' = rem wt r2 := rem_cg (ef 950 133 (by omega)).1 (fun u _ => (ef 1030 u (by omega)).1)
    refine ⟨fun pc p1 p2 => ?_, fun n hn => ((ef 1026 n (by omega)).1.trans (R2 n hn)).trans (f' 1026 n (by omega)).1, fun u hu hs => ?_⟩
    · obtain ⟨pc1, t1, t2, t3, t4, t5⟩ := R1 pc (((f' 950 135 (by omega)).1).trans p1) (by rw [rm1]; omega)
      refine ⟨pc1, ((ef 950 135 (by omega)).1).trans t1, t2, by rw [rm2]; rw [rm1] at t3; omega, fun j hj => (((ef 1027 j (by omega)).2).trans (t4 j hj)).trans (f' 1027 j (by omega)).2, fun T u hu hs => ?_⟩
      have T1 : Tld P TS r1 := fun u hu hs n pp ht => by
        rw [(f' 1030 u (by omega)).1, (f' 950 133 (by omega)).1] at hs
        obtain ⟨g0, pe, nn, mm, f0, g1, g2, g3, g4, g5⟩ := T u hu hs n pp ht
        exact ⟨g0, pe, nn, mm, f0, g1, ((f' 1026 n (by omega)).1).trans g2, g3, by rw [(f' 950 135 (by omega)).1]; exact g4, VW.copy _ _ _ _ _ _ _ g5 (fun _ _ => rfl) (fun d _ => (f' 1027 _ (by omega)).2)⟩
      rw [(ef 1030 u (by omega)).1, (ef 950 133 (by omega)).1] at hs
      intro n pp ht
      obtain ⟨g0, pe, nn, mm, f0, g1, g2, g3, g4, g5⟩ := t5 T1 u hu hs n pp ht
      exact ⟨g0, pe, nn, mm, f0, g1, ((ef 1026 n (by omega)).1).trans g2, g3, by rw [(ef 950 135 (by omega)).1]; exact g4, VW.copy _ _ _ _ _ _ _ g5 (fun _ _ => rfl) (fun d _ => (ef 1027 _ (by omega)).2)⟩
    · rw [(ef 1030 u (by omega)).1, (ef 950 133 (by omega)).1]
      exact R3 u hu (by rw [(f' 1030 u (by omega)).1, (f' 950 133 (by omega)).1]; exact hs)
end
