/-! Level 2: the reference prepares told templates: a whole tree. -/
/-- what one told template's tree stands on: nodes MA .. ME - 1, the class's TA .. TE - 1, its depth du -/
structure PH (TN SN : Nat → Nat → Prop) (c0 r0 : t_S) (P : Nat → Int64) (TS : Nat → Nat → Nat → Prop) (wt : Nat → Nat) (OW NM : Nat → Nat → Prop) (YD : Nat → Prop) (RM : t_S → Prop) (hb sb TA TE MA ME n1 du : Nat) (D : Nat → Nat) (W : Nat → Int32) : Prop where
  rm : ∀ r, l2_fr eZr r0 r → RM r
  hb3 : hb ≤ 395
  m13 : ME ≤ 13000
  n60 : n1 ≤ 60
  sz : sb + (ME - MA) ≤ 13000
  sn : ∀ t m, SN t m → ∃ er pp0 M1 n' : Nat, er ≤ 7 ∧ r0.1 959 m = nI n' ∧ n' < 13000 ∧ SVt P RM (m + 1) M1 n' er pp0 ∧ M1 ≤ ME ∧ c0.2.1 362 t = (nI er).toInt64
  ow : ∀ m pp, OW m pp → r0.1 955 m = 38 ∧ ∃ M1 n' : Nat, r0.1 959 m = nI n' ∧ n' < 13000 ∧ SVt P RM (m + 1) M1 n' 0 pp ∧ M1 ≤ ME
  nm : ∀ n v, NM n v → r0.1 955 n = 28 ∧ fU r0 n = some (nI v) ∧ v < 60
  tn : ∀ t m, TN t m → (c0.1 354 t = 6 ∧ ∃ y : Int32, (∀ r, l2_fr eZr r0 r → fU r m = some y) ∧ y < 0) ∨ (c0.1 354 t = 7 ∧ ∃ v : Nat, v < n1 ∧ c0.1 357 t = nI v ∧ ∀ r, l2_fr eZr r0 r → fU r m = some (nI v))
  sub : ∀ v, v < n1 → D v < du → ∃ w : Nat, w ≤ 7 ∧ W v = nI w ∧ (w ≠ 0 → ∃ pp, TS v 13000 pp) ∧ ∀ g, 3 * D v + 342 ≤ g → TPr c0 r0 P TS wt YD hb sb g v w
  dp : ∀ t m v l : Nat, TN t m → TA ≤ t → t < TE → c0.1 354 t = 7 → c0.1 357 t = nI v → v < n1 → 1 ≤ l → l ≤ 40 → c0.1 358 t = nI l → l + D v ≤ du
  lv : ∀ t l : Nat, TA ≤ t → t < TE → 1 ≤ l → l ≤ 40 → c0.1 358 t = nI l → l ≤ du
  yd : ∀ n, MA ≤ n → n < ME → YD n
  ts : ∀ u m pp, MA ≤ m → m < ME → TS u m pp → OW m pp
  tb : ∀ k, MA ≤ k → k < ME → r0.1 955 k ≠ 61
section
variable {WN AN TN SN : Nat → Nat → Prop} {c0 r0 : t_S} {P : Nat → Int64} {TS : Nat → Nat → Nat → Prop} {wt : Nat → Nat} {OW NM : Nat → Nat → Prop} {YD : Nat → Prop} {RM : t_S → Prop} {hb sb TA TE MA ME n1 du p1 s1 : Nat} {D : Nat → Nat} {W : Nat → Int32}
theorem prt_tree (H : PH TN SN c0 r0 P TS wt OW NM YD RM hb sb TA TE MA ME n1 du D W) (hW : ∀ e k, WN e k → ∃ o : Nat, 0 < o ∧ o < 34 ∧ c0.1 335 e = nI o) : ∀ f fl l rr e0 e1 t0 t1 m0 m1 n, XR WN AN TN SN c0 r0 p1 s1 f fl (nI l) rr e0 e1 t0 t1 m0 m1 n → ((fl = 1 ∧ 10 * l ≤ rr + 10) ∨ (fl = 2 ∧ 10 * l ≤ rr)) → 1 ≤ l → TA ≤ t0 → t1 ≤ TE → t1 ≤ 6100 → MA ≤ m0 → m1 ≤ ME → ∀ (g : Nat) (Y : Nat → Prop), (∀ n, Y n → YD n ∧ ¬ (m0 ≤ n ∧ n < m1)) → 3 * (du - l) + 345 ≤ g → PRt c0 r0 P TS wt OW NM Y hb sb g e0 e1 m0 m1 n (fwf c0 W e0 (e1 - e0)) := by
  intro f
  induction f with
  | zero => intro fl l rr e0 e1 t0 t1 m0 m1 n h; exact h.elim
  | succ f ih =>
    intro fl l rr e0 e1 t0 t1 m0 m1 n h hfl hl tA tE t61 mA mE' g Y hY hg
    have m13 := H.m13
    have sz := H.sz
    obtain ⟨h1, h2, h3, h4, h⟩ := h
    have nmv : ∀ n v, NM n v → v < 60 := fun n v y => (H.nm n v y).2.2
    have owY : ∀ x pp, OW x pp → m0 ≤ x → x < m1 → YD x := fun x pp _ a b => H.yd x (by omega) (by omega)
    -- a node that is neither = ( ) nor a name
    have nq : ∀ {k K : Nat}, r0.1 955 k = nI K → K < 100 → K ≠ 38 → K ≠ 28 → (∀ pp, ¬ OW k pp) ∧ ∀ v, ¬ NM k v := fun {k K} e a b d => ⟨fun pp y => by
      have := (nI_eq (b := 38) (by omega) (by decide)).mp (e.symm.trans (H.ow k pp y).1)
      omega, fun v y => by
      have := (nI_eq (b := 28) (by omega) (by decide)).mp (e.symm.trans (H.nm k v y).1)
      omega⟩
    -- one level down
    have dn : ∀ {fl' rg e0' e1' u0 u1 m0' m1' n'}, XR WN AN TN SN c0 r0 p1 s1 f fl' (nI (l + 1)) rg e0' e1' u0 u1 m0' m1' n' → (fl' = 1 ∨ fl' = 2) → l + 1 ≤ 40 → TA ≤ u0 → u1 ≤ TE → l + 1 ≤ du := fun hx h12 h40 a b => by
      obtain ⟨y1, y2⟩ := XR.root hx h12
      exact H.lv _ (l + 1) a (by omega) (by omega) h40 y2
    rcases h with ⟨⟨q, _⟩, _⟩ | ⟨⟨q, q2⟩, ht, mE, g1, g2, hw, h⟩ | ⟨⟨q, q2⟩, ht, rfl, a2, a3, a4, a5, a6, a7, v, E, T, M, G, b1, b2, b3, b4, b5, b6, b7, b8⟩
    · omega
    · have l40 : l + 1 ≤ 40 := by omega
      have lvt : c0.1 358 t0 = nI l := hw.1
      have ldu : l ≤ du := H.lv t0 l tA (by omega) hl (by omega) lvt
      -- the node without what stands behind it
      have core : ∀ (g' : Nat) (Y : Nat → Prop), (∀ n, Y n → YD n ∧ ¬ (m0 ≤ n ∧ n < mE)) → 3 * (du - l) + 344 ≤ g' → PRt c0 r0 P TS wt OW NM Y hb sb g' e0 e1 m0 mE m0 (fwf c0 W e0 (e1 - e0)) := fun g' Y hY hg' => by
        have owY : ∀ x pp, OW x pp → m0 ≤ x → x < mE → YD x := fun x pp _ a b => H.yd x (by omega) (by omega)
        obtain ⟨g2', rfl⟩ : ∃ g2, g' = g2 + 2 := ⟨g' - 2, by omega⟩
        rcases h with ⟨a1, a2, a3⟩ | ⟨a1, a2, a3, a4, n', a5, a6⟩ | ⟨a1, a2, X, n', a3, a4, a5, a6, a7, a8, a9⟩ | ⟨a1, a2, v, E, T, M, X, N, b1, b2, b3, b4, b5, b6, b7, b8⟩ | ⟨K, Cc, a1, a2, a3, a4, v, E, T, M, G, Wf, b1, b2, b3, b4, b5, b6, b7, b8⟩
        · rcases a3 with ⟨z, z2, z3⟩ | ⟨z, z2, z3, z4⟩
          · subst z
            obtain ⟨K, k1, k2, k3⟩ : ∃ K : Nat, r0.1 955 m0 = nI K ∧ 20 ≤ K ∧ K ≤ 41 ∧ K ≠ 38 ∧ K ≠ 28 := by
              rcases z3 with ⟨y, _⟩ | ⟨y, _⟩ | ⟨y, _⟩ | ⟨y | y, _⟩ | ⟨y | y, _⟩ | ⟨⟨y, _⟩ | ⟨y, _⟩, _⟩
              · exact ⟨20, y, by decide⟩
              · exact ⟨21, y, by decide⟩
              · exact ⟨27, y, by decide⟩
              · exact ⟨22, y, by decide⟩
              · exact ⟨23, y, by decide⟩
              · exact ⟨24, y, by decide⟩
              · exact ⟨25, y, by decide⟩
              · exact ⟨26, y, by decide⟩
              · exact ⟨35, y, by decide⟩
            rw [Nat.sub_self]
            exact prt_leaf (by omega) k1 ⟨by omega, k3.2.1, k3.2.2⟩ z2 hY owY nmv (by omega) (fun k x y => by
              rw [show k = m0 by omega]
              exact nq k1 (by omega) k3.2.1 k3.2.2)
          · subst z
            rw [show e0 + 1 - e0 = 1 by omega, fwf.one]
            subst a2
            have n38 : ∀ pp, ¬ OW m0 pp := fun pp y => by
              have := z2.symm.trans (H.ow m0 pp y).1
              exact absurd this (by decide)
            have fo : fwo c0 W e0 = if c0.1 354 t0 = 7 then W (c0.1 357 t0).toNatClampNeg else 0 := by
              unfold fwo
              rw [z3.1, if_neg (by decide), if_pos (by decide), z3.2, nI_clamp (n := t0) (by omega)]
            rcases H.tn t0 m0 z4 with ⟨y1, y, y2, y3⟩ | ⟨y1, v, y2, y3, y4⟩
            · rw [fo, if_neg (by rw [y1]; decide)]
              exact prt_none (by omega) z2 y2 y3 (by omega) ⟨n38, fun v x => by
                have e := (y2 r0 l2_fr.rf).symm.trans (H.nm m0 v x).2.1
                injection e with e
                rw [e] at y3
                exact absurd y3 (nI_pos (by have := nmv m0 v x; omega))⟩
            · have n60 := H.n60
              have dd := H.dp t0 m0 v l z4 tA (by omega) y1 y3 y2 hl (by omega) lvt
              obtain ⟨w, w7, wv, wb, wT⟩ := H.sub v y2 (by omega)
              rw [fo, if_pos y1, y3, nI_clamp (n := v) (by omega), wv]
              exact prt_name (by omega) z2 y4 (by omega) w7 wb (fun n hn => (hY n hn).1) (wT (g2' + 1) (by omega)) (by omega) ⟨n38, fun u x => by
                have e := (y4 r0 l2_fr.rf).symm.trans (H.nm m0 u x).2.1
                injection e with e
                have := nmv m0 u x
                exact ((nI_eq (by omega) (by omega)).mp e).symm⟩
        · have x := a6
          obtain ⟨y1, y2, y3, y4⟩ := x.at
          obtain ⟨er, pp0, M1, n2, s1', s2', n2s, s3', s4', s5'⟩ := H.sn _ _ a3
          have nm61 : ∀ k, m0 + 1 ≤ k → k < mE → r0.1 955 k ≠ 61 := fun k u1 u2 => H.tb k (by omega) (by omega)
          have k38 := XR.k38 _ _ _ _ _ _ _ _ _ _ x nm61
          have k28 := XR.k28 _ _ _ _ _ _ _ _ _ _ x nm61
          have opn := XR.opn hW _ _ _ _ _ _ _ _ _ _ x nm61
          have fe : fwf c0 W e0 (e1 - e0) = nI er := by
            rw [show e1 - e0 = (e1 - 1 - e0) + 1 by omega, fwf.app, if_pos (fwf.zero _ _ (fun i i0 i1 => by
              obtain ⟨o, o1, o2, o3⟩ := opn i i0 (by omega)
              exact fwo.exp o1 o2 o3)), fwf.one, show e0 + (e1 - 1 - e0) = e1 - 1 by omega]
            unfold fwo
            rw [a4.1, if_pos (by decide), a4.2, nI_clamp (n := t0) (by omega), s5', Int32.toInt32_toInt64]
          rw [fe]
          have qa := q34_up (c := c0) (show e0 ≤ e1 - 1 by omega)
          have qb : q34 c0 (e1 - 1 + 1) = q34 c0 (e1 - 1) + 1 := q34_s a4.1
          rw [show e1 - 1 + 1 = e1 by omega] at qb
          exact prt_slot (RM := RM) (n' := n2) (M1 := M1) H.rm (by omega) a2 s2' H.hb3 s1' s3' (by omega) (fun pp ho => by
            obtain ⟨_, M2, n3, o1, o3, o2, o4⟩ := H.ow m0 pp ho
            have e23 := (nI_eq (a := n3) (b := n2) (by omega) (by omega)).mp (o1.symm.trans s2')
            subst e23
            exact ⟨M2, o2, by omega⟩) (fun k u1 u2 => ⟨fun u3 pp y => k38 k (by omega) u2 (H.ow k pp y).1, fun v y => by
              by_cases c : k = m0
              · rw [c] at y
                exact absurd (a2.symm.trans (H.nm m0 v y).1) (by decide)
              · exact k28 k (by omega) u2 (H.nm k v y).1⟩) h1 (by omega) (fun y => (hY m0 y).2 ⟨Nat.le_refl _, by omega⟩) (fun u pp y => H.ts u m0 pp (by omega) (by omega) y) (by omega)
        · obtain ⟨y1, y2, y3, y4⟩ := a9.at
          rw [nI_1] at a9
          have ld := dn a9 (Or.inl rfl) l40 (by omega) tE
          exact prt_one (K := 30) (by omega) a1 (by decide) a7 (by omega) a8 h1 ⟨by omega, by omega, Nat.le_refl _⟩ hY owY nmv (fun k u1 u2 u3 => by
            rw [show k = m0 by omega]
            exact nq (K := 30) a1 (by decide) (by decide) (by decide)) (fun Y' hY' => ih _ _ _ _ _ _ _ _ _ _ a9 (by omega) (by omega) (by omega) tE t61 (by omega) (by omega) (g2' + 1) Y' hY' (by omega))
        · rw [← b2.2.1, ← fwf.parts b2 v (Nat.le_refl _), b2.2.1]
          have chain := b6.2
          have q0 : ∀ k, m0 ≤ k → k < mE → ¬ (m0 + 1 ≤ k ∧ k < mE) → (∀ pp, ¬ OW k pp) ∧ ∀ v, ¬ NM k v := fun k u1 u2 u3 => by
            rw [show k = m0 by omega]
            exact nq (K := 29) a1 (by decide) (by decide) (by decide)
          exact prt_node (K := 29) (G := M) (by omega) a1 (by decide) b6.1 b2 b4 (by omega) (fun j hj => ⟨(chain j hj).1, (chain j hj).2.2.1⟩) hY ⟨by omega, Nat.le_refl _⟩ owY nmv q0 (fun j hj Y' hY' => by
            obtain ⟨x1, x2, x3, x4, x5, x6, x7, x8, x9, x10, x11, x12⟩ := b8 j hj
            have bE := b2.2.2 j hj
            have bT := b3.2.2 j hj
            have bM := b4.2.2 j hj
            obtain ⟨y1, y2, y3, y4⟩ := x12.at
            rw [nI_1] at x12
            have ld := dn x12 (Or.inl rfl) l40 (by omega) (by omega)
            obtain ⟨g3, rfl⟩ : ∃ g3, g2' = g3 + 1 := ⟨g2' - 1, by omega⟩
            exact prt_one (K := 40) (ma := M j + 1) (mb := M (j + 1)) (by omega) x8 (by decide) x10 (by omega) x11 bE.1 ⟨by omega, by omega, Nat.le_refl _⟩ hY' (fun x pp _ a b => H.yd x (by omega) (by omega)) nmv (fun k u1 u2 u3 => by
              rw [show k = M j by omega]
              exact nq (K := 40) x8 (by decide) (by decide) (by decide)) (fun Y2 hY2 => ih _ _ _ _ _ _ _ _ _ _ x12 (by omega) (by omega) (by omega) (by omega) (by omega) (by omega) (by omega) (g3 + 1) Y2 hY2 (by omega)))
        · rw [← b3.2.1, ← fwf.parts b3 v (Nat.le_refl _), b3.2.1]
          have chain := b7.2
          have kk := row_KC a1
          have q0 : ∀ k, m0 ≤ k → k < mE → ¬ (m0 + 1 ≤ k ∧ k < mE) → (∀ pp, ¬ OW k pp) ∧ ∀ v, ¬ NM k v := fun k u1 u2 u3 => by
            rw [show k = m0 by omega]
            exact nq a3 (by omega) (by omega) (by omega)
          exact prt_node (G := G) (by omega) a3 ⟨by omega, by omega, by omega⟩ b7.1 b3 b5 (by omega) (fun j hj => ⟨(chain j hj).1, (chain j hj).2.2.1⟩) hY ⟨by omega, Nat.le_refl _⟩ owY nmv q0 (fun j hj Y' hY' => by
            obtain ⟨x1, x2⟩ := b8 j hj
            have bE := b3.2.2 j hj
            have bT := b4.2.2 j hj
            have bM := b5.2.2 j hj
            rw [nI_1] at x2
            have ld := dn x2 (by omega) l40 (by omega) (by omega)
            exact ih _ _ _ _ _ _ _ _ _ _ x2 (by omega) (by omega) (by omega) (by omega) (by omega) (by omega) (by omega) (g2' + 1) Y' hY' (by omega))
      obtain ⟨g3, rfl⟩ : ∃ g3, g = g3 + 2 := ⟨g - 2, by omega⟩
      obtain ⟨_, b, bb1, bb2, bb3, hww⟩ := hw
      rcases hww with ⟨_, rfl, rfl⟩ | ⟨rfl, w2, w3, w4, w5, w6, _⟩
      · exact core (g3 + 2) Y hY (by omega)
      · subst w2
        exact prt_one (K := 41) (ma := m0) (mb := n) (by omega) w3 (by decide) w4 (by omega) w6 h1 ⟨Nat.le_refl _, by omega, by omega⟩ hY owY nmv (fun k u1 u2 u3 => by
          rw [show k = n by omega]
          exact nq (K := 41) w3 (by decide) (by decide) (by decide)) (fun Y' hY' => core (g3 + 1) Y' hY' (by omega))
    · have l40 : l + 1 ≤ 40 := by omega
      have ldu : l ≤ du := H.lv t0 l tA (by omega) hl (by omega) a5
      obtain ⟨g2', rfl⟩ : ∃ g2, g = g2 + 2 := ⟨g - 2, by omega⟩
      rw [← b3.2.1, ← fwf.parts b3 v (Nat.le_refl _), b3.2.1]
      have chain := b7.2
      have q0 : ∀ k, n ≤ k → k < m1 → ¬ (n + 1 ≤ k ∧ k < m1) → (∀ pp, ¬ OW k pp) ∧ ∀ v, ¬ NM k v := fun k u1 u2 u3 => by
        rw [show k = n by omega]
        exact nq (K := 39) a2 (by decide) (by decide) (by decide)
      exact prt_node (K := 39) (G := G) (by omega) a2 (by decide) b7.1 b3 b5 (by omega) (fun j hj => ⟨(chain j hj).1, (chain j hj).2.2.1⟩) hY ⟨by omega, Nat.le_refl _⟩ owY nmv q0 (fun j hj Y' hY' => by
        have x2 := b8 j hj
        have bE := b3.2.2 j hj
        have bT := b4.2.2 j hj
        have bM := b5.2.2 j hj
        rw [nI_1] at x2
        have ld := dn x2 (Or.inl rfl) l40 (by omega) (by omega)
        exact ih _ _ _ _ _ _ _ _ _ _ x2 (by omega) (by omega) (by omega) (by omega) (by omega) (by omega) (by omega) (g2' + 1) Y' hY' (by omega))
end
