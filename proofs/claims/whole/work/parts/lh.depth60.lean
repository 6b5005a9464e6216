/-! Level 2: depths of told templates, once none is too deep: a name within one is less deep. -/
section
variable {n : Nat} {T0 T1 : Nat → Nat} {s : t_S}
theorem dp_60 (H : dpF n T0 T1 s) (hn : n ≤ 60) (h : ∀ x, x < n → kR (dpV s T0 T1) n 64 x ≤ 60) : ∃ D : Nat → Nat, (∀ u, u < n → 1 ≤ D u ∧ D u ≤ 60) ∧ (∀ u t v l : Nat, u < n → T0 u ≤ t → t < T1 u → s.1 354 t = 7 → s.1 357 t = nI v → v < n → 1 ≤ l → l ≤ 40 → s.1 358 t = nI l → l + D v ≤ D u) ∧ ∀ u t l : Nat, u < n → T0 u ≤ t → t < T1 u → 1 ≤ l → l ≤ 40 → s.1 358 t = nI l → l ≤ D u := by
  have hF := dpV.F H
  have top : ∀ u, u < n → kC (dpV s T0 T1) n 62 u ≤ 60 := fun u hu => Nat.le_of_not_lt (fun y => absurd ((kC.same hF (Nat.le_refl 62) (Or.inl (Nat.le_refl 62)) hu).mp y) (Nat.not_lt.mpr (h u hu)))
  have one : ∀ j u, u < n → 1 ≤ kC (dpV s T0 T1) n j u := fun j => by
    induction j with
    | zero => intro u _; exact Nat.le_refl 1
    | succ j ih => intro u hu; exact Nat.le_trans (ih u hu) (kC.inc hu)
  have up : ∀ u, u < n → ∀ t, T0 u ≤ t → t < T1 u → vv s (kC (dpV s T0 T1) n 62) t ≤ kC (dpV s T0 T1) n 62 u := fun u hu t t0 t1 => by
    have g : ∀ x, x < n → gC (dpV s T0 T1) (kC (dpV s T0 T1) n 62) u x = kC (dpV s T0 T1) n 62 x := fun x hx => by
      rw [kC.mix (Nat.le_of_lt hu), kC.still hF (by decide) hx]
      split <;> rfl
    have nx := kC.nx (F := dpV s T0 T1) (j := 62) hu
    rw [kC.still hF (by decide) hu] at nx
    have m := (hF u hu).1 (kC (dpV s T0 T1) n 62) (gC (dpV s T0 T1) (kC (dpV s T0 T1) n 62) u) (fun x hx => Nat.le_of_eq (g x hx).symm)
    have tp := top u hu
    have at' := mxv.at (g := vv s (kC (dpV s T0 T1) n 62)) (t := T0 u) (k := T1 u - T0 u) (i := t - T0 u) (by omega)
    rw [show T0 u + (t - T0 u) = t by omega] at at'
    have dd : vv s (kC (dpV s T0 T1) n 62) t ≤ dpV s T0 T1 (kC (dpV s T0 T1) n 62) u := at'
    omega
  refine ⟨kC (dpV s T0 T1) n 62, fun u hu => ⟨one 62 u hu, top u hu⟩, fun u t v l hu t0 t1 e4 e7 hv l1 l2 e8 => ?_, fun u t l hu t0 t1 l1 l2 e8 => ?_⟩
  · have a := up u hu t t0 t1
    unfold vv at a
    rw [e8, e4, e7, if_pos (show (0 : Int32) < nI l from nI_lt (a := 0) (by omega) (by omega)), if_pos rfl, nI_clamp (by omega), nI_clamp (by omega)] at a
    exact a
  · have a := up u hu t t0 t1
    unfold vv at a
    rw [e8, if_pos (show (0 : Int32) < nI l from nI_lt (a := 0) (by omega) (by omega)), nI_clamp (by omega)] at a
    omega
end
