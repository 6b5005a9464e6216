/-! Level 2: the reference prepares told templates: by depth. -/
section
variable {r0 c0 : t_S} {RM : t_S → Prop} {W : Nat → Int32} {n1 PE hb sb p1 s1 : Nat} {F T0 T1 A0 A1 M0 M1 N D : Nat → Nat} {WN AN TN : Nat → Nat → Prop}
theorem TPr.mono {P : Nat → Int64} {TS : Nat → Nat → Nat → Prop} {wt : Nat → Nat} {NT NT' : Nat → Prop} {g u w : Nat} (h : TPr c0 r0 P TS wt NT hb sb g u w) (hN : ∀ n, NT' n → NT n) : TPr c0 r0 P TS wt NT' hb sb g u w := fun r H S pc h1 h2 h3 h4 h5 h6 h7 h8 h9 h10 h11 => by
  obtain ⟨r', q1, q2, q3, q4⟩ := h r H S pc h1 h2 h3 h4 h5 h6 h7 h8 h9 h10 h11
  exact ⟨r', q1, q2, fun x => (q3 x).mono hN, q4⟩
/-- all told templates are prepared -/
theorem tpr_all (T : TR WN AN TN c0 r0 RM p1 s1 n1 PE hb sb F T0 T1 A0 A1 M0 M1 N D W) : ∀ d u, u < n1 → D u ≤ d → ∀ (B : Nat → Prop), (∀ v, B v → D u < D v) → ∀ w : Nat, w ≤ 7 → W u = nI w → ∀ g, 3 * D u + 342 ≤ g → TPr c0 r0 (c0.2.1 337) (TSx B (TSi RM c0 r0 PE n1 M0 M1 D W)) (wtu c0 n1 A0 A1) (YDd n1 M0 M1 D (D u)) hb sb g u w := by
  intro d
  induction d with
  | zero => intro u hu h; have := (T.d1 u hu).1; omega
  | succ d ih =>
    intro u hu hd B hB w w7 hw g hg
    have n60 := T.n60
    obtain ⟨d1, d60⟩ := T.d1 u hu
    obtain ⟨t6, m13, ntb⟩ := T.tm u hu
    have x := T.tr u hu
    obtain ⟨ya, yt, ym, yn⟩ := x.at
    -- what it stands on
    have PHu : PH TN (FS RM r0 (M1 u) PE c0) c0 r0 (c0.2.1 337) (TSx (fun v => B v ∨ v = u) (TSi RM c0 r0 PE n1 M0 M1 D W)) (wtu c0 n1 A0 A1) (OWu RM c0 r0 PE n1 M0 M1 u) (NMu r0 n1 M0 M1 D u) (fun n => ∀ v, v < n1 → D v < D u → ¬ (M0 v ≤ n ∧ n < M1 v)) RM hb sb (T0 u) (T1 u) (M0 u) (M1 u) n1 (D u) D W := by
      refine ⟨T.rm, T.hb3, m13, n60, T.sz u hu, fun t m h => FS.er h, fun m pp h => ?_, fun n v h => ⟨h.2.1, h.2.2.1, by have := h.2.2.2.1; omega⟩, fun t m h => (T.tnz t m h).imp (fun y => ⟨y.1, by
        obtain ⟨_, X, y', _, _, _, y1, y2⟩ := y
        exact ⟨y', y1, y2⟩⟩) (fun y => y), fun v hv hD => ?_, fun t m v l a b d => T.dp u t m v l hu a b d, fun t l a b => T.lv u t l hu a b, fun n a b v hv hD z => ?_, fun v m pp a b h => ?_, fun k a b y => ntb k a b ⟨61, y, by omega⟩⟩
      · obtain ⟨_, _, o3, o4, t, o5, o6, o7⟩ := h
        exact ⟨o3, FS.lit o5 T.pe o6 o4 o7⟩
      · obtain ⟨w', w7', hw'⟩ := T.w7 (D v) v hv (Nat.le_refl _)
        refine ⟨w', w7', hw', fun z => ⟨0, fun y => ?_, 1, Or.inr (Or.inl ⟨hv, by rw [hw']; exact nI_ne0 (by omega) (by omega), rfl⟩)⟩, fun g hg => (ih v hv (by omega) (fun v => B v ∨ v = u) (fun x hx => ?_) w' w7' hw' g hg).mono (fun n hn x hx hDx => hn x hx (by omega))⟩
        · rcases y with y | y
          · have := hB v y
            omega
          · rw [y] at hD
            omega
        · rcases hx with hx | hx
          · have := hB x hx
            omega
          · rw [hx]
            exact hD
      · have ne : u ≠ v := fun e => by rw [e] at hD; omega
        have := T.od u v hu hv ne
        omega
      · obtain ⟨_, k, h⟩ := h
        rcases TSd.own k v m pp h with y | ⟨v', y⟩
        · omega
        · by_cases c : v' = u
          · rw [c] at y; exact y
          · have z := y.2.1
            have := T.od v' u y.1 hu c
            omega
    -- the tree
    have tree := prt_tree PHu T.wo (F u) 1 1 15 (A0 u) (A1 u) (T0 u) (T1 u) (M0 u) (M1 u) (N u) x (Or.inl ⟨rfl, by decide⟩) (Nat.le_refl _) (Nat.le_refl _) (Nat.le_refl _) (by omega) (Nat.le_refl _) (Nat.le_refl _) g (YDd n1 M0 M1 D (D u)) (fun n hn => ⟨fun v hv hD => hn v hv (by omega), fun z => hn u hu (Nat.le_refl _) z⟩) (by omega)
    rw [T.wr u hu, hw] at tree
    intro r H S pc z0 h98 h97 h103 hH hS h138 h135 hpot hT hst
    obtain ⟨r1, hr1⟩ : ∃ r1, r1 = t_setI r 1030 u (r.1 950 133) := ⟨_, rfl⟩
    have f1 : l2_fr (fun b j => b = 1030 ∧ j = u) r r1 := by rw [hr1]; exact l2_fr.set ⟨rfl, rfl⟩
    have v1 : r1.1 1030 u = r1.1 950 133 := by rw [(f1 950 133 (by omega)).1, hr1, l2_g, if_pos rfl]
    have rm1 : rem (wtu c0 n1 A0 A1) r = rem (wtu c0 n1 A0 A1) r1 + wtu c0 n1 A0 A1 u := by rw [hr1]; exact rem_mark (by omega) hst
    have wu : wtu c0 n1 A0 A1 u = q34 c0 (A1 u) - q34 c0 (A0 u) := if_pos hu
    have qq := q34_up (c := c0) ya
    have c1 : ∀ j, r1.1 950 j = r.1 950 j := fun j => (f1 950 j (by omega)).1
    have T1' : Tld (c0.2.1 337) (TSx (fun v => B v ∨ v = u) (TSi RM c0 r0 PE n1 M0 M1 D W)) r1 := fun v hv hs n pp ht => by
      have nb : ¬ B v ∧ v ≠ u := ⟨fun y => ht.1 (Or.inl y), fun y => ht.1 (Or.inr y)⟩
      rw [(f1 1030 v (by omega)).1, c1 133] at hs
      obtain ⟨g0, pe, nn, mm, f, g1, g2, g3, g4, g5⟩ := hT v hv hs n pp ⟨nb.1, ht.2⟩
      exact ⟨g0, pe, nn, mm, f, g1, ((f1 1026 n (by omega)).1).trans g2, g3, by rw [c1 135]; exact g4, VW.copy _ _ _ _ _ _ _ g5 (fun _ _ => rfl) (fun q _ => (f1 1027 _ (by omega)).2.1)⟩
    obtain ⟨r', pr, F2, ⟨K2, N2⟩, e98, e103, e97, hQ⟩ := tree r1 H S pc (z0.trans (f1.mono (fun b j y => by unfold eZr eWr; omega))) ((c1 98).trans h98) ((c1 97).trans h97) ((c1 103).trans h103) hH hS (by rw [c1 138]; exact h138) ((c1 135).trans h135) (by omega) T1'
    refine ⟨r', ?_, (f1.mono (fun b j y => by unfold eWr; omega)).trans F2, fun x => ?_, e98, e103, e97, fun w0 => ?_⟩
    · rw [((ez_r (b := 968) (j := u) z0 (by omega)).1).trans (T.rt u hu), ← hr1]
      exact pr
    · refine ⟨Nat.le_refl _, K2.2.1.trans (c1 138), fun σ k => ⟨fun _ hs => ?_, fun n => absurd n h138⟩, fun ρ k => ?_, fun z => ⟨h97, fun _ => ?_⟩⟩
      · obtain ⟨σ', k1, k2⟩ := N2 σ (k.same (c1 137) (fun j => (f1 1028 j (by omega)).1)) (by omega)
        exact ⟨σ', k1, by omega⟩
      · obtain ⟨k1, k2, k3⟩ := k
        have kk : KS2 ρ r1 := ⟨(c1 133).trans k1, k2, fun v hv => by
          by_cases c : v = u
          · rw [c, v1, c1 133]
            exact ⟨ρ, k1, Nat.le_refl _⟩
          · rw [(f1 1030 v (by omega)).1]
            exact k3 v hv⟩
        obtain ⟨ρ', y1, y2⟩ := K2.2.2.2.1 ρ kk
        exact ⟨ρ', y1, fun n => y2 (by rw [c1 138]; exact n)⟩
      · have w0 : w = 0 := Classical.byContradiction (fun y => absurd (e97.symm.trans z) (nI_ne0 (by omega) (by omega)))
        have Q := hQ (by rw [w0]; rfl)
        obtain ⟨_, hR⟩ := K2.2.2.2.2 z
        obtain ⟨R1, R2, R3⟩ := hR (by rw [c1 138]; exact h138)
        refine ⟨fun pcx px py => ?_, fun n hn => (R2 n hn).trans (f1 1026 n (by omega)).1, fun v hv hs => R3 v hv ?_⟩
        · obtain ⟨pc', p1, p2, p3, p4, p5⟩ := R1 pcx ((c1 135).trans px) (by omega)
          refine ⟨pc', p1, p2, by omega, fun j hj => (p4 j hj).trans (f1 1027 j (by omega)).2.1, fun _ v hv hs n pp ht => ?_⟩
          by_cases c : v = u
          · subst c
            obtain ⟨nB, k, hk⟩ := ht
            cases k with
            | zero => exact hk.elim
            | succ k =>
              rcases hk with hk | ⟨_, hk, _⟩ | ⟨y, v', hk, ht2⟩
              · exact Q.1 n pp ⟨hk.2.1, hk⟩
              · rw [hw, w0] at hk
                exact absurd rfl hk
              · have st := Q.2 y v' hk.1.1 hk.1.2 hk
                have hlow := hk.2.2.2.2
                exact p5 T1' v' (by have := hk.2.2.2.1; omega) st n pp ⟨fun z => by
                  rcases z with z | z
                  · have := hB v' z
                    omega
                  · rw [z] at hlow
                    omega, k, ht2⟩
          · exact p5 T1' v hv hs n pp ⟨fun z => by
              rcases z with z | z
              · exact ht.1 z
              · exact c z, ht.2⟩
        · by_cases c : v = u
          · rw [c]; exact v1
          · rw [(f1 1030 v (by omega)).1, c1 133]; exact hs
    · obtain ⟨_, hR⟩ := K2.2.2.2.2 (by rw [e97, w0]; rfl)
      exact (hR (by rw [c1 138]; exact h138)).2.2 u (by omega) v1
end
