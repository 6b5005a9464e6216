/-! Level 2: an exp at any time of a run, told templates settled. -/
section
variable {WT AT TN : Nat → Nat → Prop} {c0 r0 : t_S} {RM : t_S → Prop} {ti : Nat → Nat} {p1 s1 n1 PE sb cnt mN m0 m1 : Nat} {F T0 T1 A0 A1 M0 M1 N D : Nat → Nat} {W : Nat → Int32}
theorem XB.of (T : TR WT AT TN c0 r0 RM p1 s1 n1 PE 395 sb F T0 T1 A0 A1 M0 M1 N D W) (h2 : c0.1 334 2 = nI cnt) (hcnt : cnt ≤ 16000) (h14 : c0.1 334 14 = 0) (hp1 : p1 ≤ 26000) (hs1 : s1 ≤ 24300) (hmN : mN ≤ 13000) (hsb : sb ≤ 13000) (hc : ∀ u, u < n1 → c0.1 (364 + u) 0 = nI (T0 u)) (hW : wtD n1 W c0) (hM : ∀ u, u < n1 → M1 u ≤ mN) (hm1 : m1 ≤ mN) (dis : ∀ v, v < n1 → M1 v ≤ m0 ∨ m1 ≤ M0 v) (ix : ∀ n K : Nat, n < mN → 20 ≤ K → K ≤ 41 → r0.1 955 n = nI K → r0.1 962 n = nI (ti n) ∧ ti n < 4404) (inj : ∀ n n', n < mN → n' < mN → ti n = ti n' → (∃ K : Nat, 20 ≤ K ∧ K ≤ 41 ∧ r0.1 955 n = nI K) → (∃ K : Nat, 20 ≤ K ∧ K ≤ 41 ∧ r0.1 955 n' = nI K) → n = n') : XB TN c0 r0 (TSx (fun _ => False) (TSi RM c0 r0 PE n1 M0 M1 D W)) (wtu c0 n1 A0 A1) (fun n => m0 ≤ n ∧ n < m1) ti p1 s1 cnt mN sb := by
  have out : ∀ n, m0 ≤ n ∧ n < m1 → ∀ v, v < n1 → ¬ (M0 v ≤ n ∧ n < M1 v) := fun n hn v hv z => by
    have := dis v hv
    omega
  exact ⟨h2, hcnt, h14, hp1, hs1, hmN, hsb, fun t n h => tnk_all T hp1 hs1 hc (fun u n K hu a b hk k1 k2 => ⟨by have := hM u hu; omega, K, k1, k2, hk⟩) hW out t n h, fun n hn u pp => told_nts T (fun n hn => ⟨by omega, out n hn⟩) n hn u pp, ix, inj⟩
end
