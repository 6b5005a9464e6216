/-! Level 2: an exp, whole, at any time of a run: both sides work it out alike. -/
/-- what working out an exp wants of the stamps, and keeps -/
def StK (c r : t_S) : Prop := (∃ τ, KM τ c) ∧ (∃ ρ, KS2 ρ r) ∧ (∃ σ, KN σ r ∧ σ < 2 ^ 30) ∧ r.1 950 138 = 0
/-- both sides of it -/
structure XB (TN : Nat → Nat → Prop) (c0 r0 : t_S) (TS : Nat → Nat → Nat → Prop) (wt : Nat → Nat) (NT : Nat → Prop) (ti : Nat → Nat) (p1 s1 cnt mN sb : Nat) : Prop where
  h2 : c0.1 334 2 = nI cnt
  hcnt : cnt ≤ 16000
  h14 : c0.1 334 14 = 0
  bp : p1 ≤ 26000
  bs : s1 ≤ 24300
  bm : mN ≤ 13000
  bb : sb ≤ 13000
  tn : ∀ t n, TN t n → TNK c0 r0 (c0.2.1 337) TS wt NT (fun n => n < mN ∧ ∃ K : Nat, 20 ≤ K ∧ K ≤ 41 ∧ r0.1 955 n = nI K) 395 sb 525 t n
  nts : ∀ n, NT n → ∀ u pp, ¬ TS u n pp
  ix : ∀ n K : Nat, n < mN → 20 ≤ K → K ≤ 41 → r0.1 955 n = nI K → r0.1 962 n = nI (ti n) ∧ ti n < 4404
  inj : ∀ n n', n < mN → n' < mN → ti n = ti n' → (∃ K : Nat, 20 ≤ K ∧ K ≤ 41 ∧ r0.1 955 n = nI K) → (∃ K : Nat, 20 ≤ K ∧ K ≤ 41 ∧ r0.1 955 n' = nI K) → n = n'
section
variable {WN AN TN SN : Nat → Nat → Prop} {c0 r0 : t_S} {TS : Nat → Nat → Nat → Prop} {wt : Nat → Nat} {NT : Nat → Prop} {ti : Nat → Nat} {p1 s1 cnt mN sb f rr e0 e1 t0 t1 m0 m1 n Dp a H S : Nat} {lv : Int32}
theorem exp_both (B : XB TN c0 r0 TS wt NT ti p1 s1 cnt mN sb) (hSN : ∀ t k, SN t k → c0.1 354 t = 17) (hNT : ∀ n, NT n ↔ m0 ≤ n ∧ n < m1) (hW : ∀ e n, WN e n → WV c0 r0 e n) (hA : ∀ e n, c0.1 335 e = 8 → AN e n → AV c0 r0 e n) (hN : EN c0 r0) (x : XR WN AN TN SN c0 r0 p1 s1 f 0 lv rr e0 e1 t0 t1 m0 m1 n) (hrr : 10 ≤ rr) (he : e1 < cnt) (hend : c0.1 335 e1 = 0) (ht : t1 ≤ 6100) (hm : m1 ≤ mN) (bud : sm wt 60 + q34 c0 e1 ≤ 1500 + q34 c0 e0) (h7 : c0.1 334 7 = nI Dp) (h39 : c0.1 339 Dp = nI a) (hD : Dp + 15 ≤ 2800 + rr) (ha : a + 1800 ≤ 4500 + 120 * rr) (h98 : r0.1 950 98 = nI H) (hH : H + 15 ≤ 50 + rr) (h97 : r0.1 950 97 = 0) (h103 : r0.1 950 103 = nI S) (hS : S + (m1 - m0) ≤ sb) (K : StK c0 r0) : ∃ c' r', f_X0_work (nI e0) c0 = some (c'.1 334 12, c') ∧ f_X13_work (nI n) r0 = some r' ∧ (l2_fr (eWc c0 a Dp) c0 c' ∧ l2_fr (eWr H S) r0 r') ∧ (∀ t, t < t0 ∨ t1 ≤ t → c'.2.1 361 t = c0.2.1 361 t ∧ c'.2.1 362 t = c0.2.1 362 t) ∧ StK c' r' ∧ (Eg Dp a H S c' r' ∨ Eb e0 e1 S c' r') := by
  have hcnt := B.hcnt
  have hmN := B.bm
  obtain ⟨x1, x2, x3, x4⟩ := x.at
  have Hh : EvH TN SN ⟨50, 525, sb, IZ c0 (c0.2.1 337) TS wt e1⟩ c0 r0 (c0.2.1 337) TS wt NT (fun n => n < mN ∧ ∃ K : Nat, 20 ≤ K ∧ K ≤ 41 ∧ r0.1 955 n = nI K) p1 s1 e1 cnt mN 395 sb 525 := by
    refine ⟨B.h2, hcnt, by omega, B.h14, cl_IZ (by omega), hSN, B.tn, B.nts, fun n K hn hk k1 k2 => ⟨hn, K, k1, k2, hk⟩, fun n hn => ?_, hmN, ⟨Nat.le_refl _, Nat.le_refl _⟩, Nat.le_refl _, B.bp, B.bs⟩
    have := (hNT n).mp hn
    omega
  have E := (ev_all Hh rfl (ti := ti) (fun n hn => by
    obtain ⟨h1, K, k1, k2, k3⟩ := hn
    exact ⟨by omega, B.ix n K h1 k1 k2 k3⟩) (fun n n' hn hn' e => B.inj n n' hn.1 hn'.1 e hn.2 hn'.2) hW hA hN f).1 (fun t => t < t0 ∨ t1 ≤ t) (fun _ => False) (fun n h => h.elim) lv rr e0 e1 t0 t1 m0 m1 n 999 x ⟨fun t a b z => ?_, fun n a b z => ?_⟩ ?_ (Nat.le_refl _) (by omega)
  rotate_left
  · rcases z with z | z
    · omega
    · omega
  · rcases z with z | z
    · exact z
    · exact z ((hNT n).mpr ⟨a, b⟩)
  · show 3 * mu rr + 10 + 525 ≤ 999
    unfold mu
    omega
  obtain ⟨⟨τ, kτ⟩, ⟨ρ, kρ⟩, ⟨σ, kσ, lσ⟩, h138⟩ := K
  obtain ⟨cs, hcs⟩ : ∃ cs, cs = t_setI (t_setI c0 334 12 0) 334 13 (nI e0) := ⟨_, rfl⟩
  have fs : l2_fr (fun b j => b = 334 ∧ (j = 12 ∨ j = 13)) c0 cs := by
    rw [hcs]
    exact (l2_fr.set ⟨rfl, Or.inl rfl⟩).trans (l2_fr.set ⟨rfl, Or.inr rfl⟩)
  have s12 : cs.1 334 12 = 0 := by rw [hcs, l2_g, if_neg (by decide), l2_g, if_pos rfl]
  have Ei : Ein ⟨50, 525, sb, IZ c0 (c0.2.1 337) TS wt e1⟩ c0 r0 rr Dp a H S cs r0 := ⟨⟨fs.mono (fun b j y => by unfold eZc eWc; omega), l2_fr.rf⟩, ⟨((fs 334 7 (by omega)).1).trans h7, ((fs 339 Dp (by omega)).1).trans h39, s12⟩, ⟨h98, h97, h103⟩, hD, ha, hH, show 50 ≤ 400 by decide, B.bb⟩
  have I0 : IZ c0 (c0.2.1 337) TS wt e1 e0 cs r0 := fun _ => ⟨by omega, ⟨τ, kτ.same (fs 353 13 (by omega)).1 (fun j => (fs 424 j (by omega)).1)⟩, ⟨ρ, kρ⟩, ⟨σ, kσ, lσ, fun y => absurd h138 y⟩, ⟨0, h138, Nat.zero_le _⟩, fun y => absurd h138 y⟩
  obtain ⟨c', r', i, u, ⟨u1, u2, u3, u4⟩, F, alt, w⟩ := ev_work E rfl Ei (Iv.of EK_Z I0) hS
  have nN := l2_N
  refine ⟨c', r', ?_, w, ⟨?_, F.2.1⟩, fun t h => ?_, ?_, alt.imp (fun y => y.2) (fun y => y)⟩
  · show t_loop b_X0_work_12 t_N (nI e0, t_setI (t_setI c0 334 12 0) 334 13 (nI e0)) = _
    rw [← hcs]
    refine l2_tnR u4 (by omega) (st_stop (by omega) ?_)
    rcases alt with ⟨e, _⟩ | ⟨er, st, q1, q2, _⟩
    · have zz := (Ei.z F).1
      rw [e, ((ez_c (b := 335) (j := e1) zz (by omega)).1).trans hend]
      exact Or.inl rfl
    · rw [q2]
      exact Or.inr (nI_ne0 (by omega) (by omega))
  · exact (fs.mono (fun b j y => by unfold eWc; omega)).trans F.1
  · have k := F.2.2.1.1 t h
    exact ⟨k.1.trans (fs 361 t (by omega)).2.1, k.2.trans (fs 362 t (by omega)).2.1⟩
  · obtain ⟨τ', kt⟩ := F.2.2.1.2 τ (kτ.same (fs 353 13 (by omega)).1 (fun j => (fs 424 j (by omega)).1))
    obtain ⟨q1, q2, q3, q4, _⟩ := F.2.2.2
    obtain ⟨ρ', kr, _⟩ := q4 ρ kρ
    obtain ⟨σ', ks, ls⟩ := (q3 σ kσ).2 h138 lσ (by omega)
    exact ⟨⟨τ', kt⟩, ⟨ρ', kr⟩, ⟨σ', ks, by omega⟩, q2.trans h138⟩
end
