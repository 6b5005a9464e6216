/-! Level 2: the reference prepares told templates: = ( ), names. -/
section
variable {c0 r0 : t_S} {P : Nat → Int64} {TS : Nat → Nat → Nat → Prop} {wt : Nat → Nat} {OW NM : Nat → Nat → Prop} {Y YD : Nat → Prop} {RM : t_S → Prop} {hb sb g m mE n' er pp0 M1 e0 e1 v w : Nat}
theorem prt_slot (hrm : ∀ r, l2_fr eZr r0 r → RM r) (hm : m < 13000) (hk : r0.1 955 m = 38) (h59 : r0.1 959 m = nI n') (hb3 : hb ≤ 395) (h7 : er ≤ 7) (sv : SVt P RM (m + 1) M1 n' er pp0) (hs : sb + (M1 - (m + 1)) ≤ 13000) (ow : ∀ pp, OW m pp → ∃ M1, SVt P RM (m + 1) M1 n' 0 pp ∧ sb + (M1 - (m + 1)) ≤ 13000) (hq : ∀ k, m ≤ k → k < mE → (m < k → ∀ pp, ¬ OW k pp) ∧ ∀ v, ¬ NM k v) (hE : e0 ≤ e1) (q1 : q34 c0 e0 + 1 ≤ q34 c0 e1) (hY : ¬ Y m) (hT : ∀ u pp, TS u m pp → OW m pp) (hg : 337 ≤ g) : PRt c0 r0 P TS wt OW NM Y hb sb (g + 2) e0 e1 m mE m (nI er) := by
  intro r H S pc z0 h98 h97 h103 hH hS h138 h135 hpot hTld
  have e55 : r.1 955 m = 38 := ((ez_r (b := 955) (j := m) z0 (by omega)).1).trans hk
  have e59 : r.1 959 m = nI n' := ((ez_r (b := 959) (j := m) z0 (by omega)).1).trans h59
  obtain ⟨r1, hw, F1, B1, b103, b97, bv⟩ := sv g r H S hg (hrm r z0) h98 (by omega) h97 h103 (by omega)
  have K1 : ∀ x y, x ≤ y → KrZ c0 P TS wt Y x y r r1 := fun x y h => KrZ.plain h (fun _ => h97) B1
  by_cases er0 : er = 0
  · subst er0
    obtain ⟨b98, nn0, mm, V0⟩ := bv rfl
    have k12 := V0.m2
    obtain ⟨n10, n11, k10⟩ := V0.pos
    have top : f_X13_top r1 = nI (260 * (40 + H)) := by
      unfold f_X13_top
      rw [b98, show (40 : Int32) = nI 40 from rfl, nI_add, show (40 + (H + 1)) = (40 + H) + 1 by omega, nI_pred, show (260 : Int32) = nI 260 from rfl, pk_mul]
    have en : ∀ pp nn mm, VW P (r1.2.1 1006) 120 pp (260 * (40 + H)) nn mm → f_X13_endOf 1006 (nI (260 * (40 + H))) r1 = some (nI (260 * (40 + H) + mm)) := fun pp nn mm V => by
      have k := V.m2
      have p := V.pos
      exact vr_endOf (c := P) (i := pp) (by decide +kernel) (by decide +kernel) (show 120 ≤ 800 by decide) (VW.vr _ _ _ _ _ V) (by show 260 * (40 + H) + mm ≤ 626600; omega)
    have p1 : r1.1 950 135 = nI pc := ((B1 950 135 (by unfold eBr; omega)).1).trans h135
    obtain ⟨r2, x1, x2, x3, x4, x5, x6⟩ := pr_38 (g := g) (l := H) hm h97 e55 e59 h98 hw b97 top (en _ _ _ V0) (by omega) (show pc + mm ≤ 370000 by omega) p1
    have fx : ∀ b j, ¬ (b = 950 ∧ (j = 98 ∨ j = 135)) → ¬ (b = 1027 ∧ pc ≤ j) → ¬ (b = 1026 ∧ j = m) → r2.1 b j = r1.1 b j ∧ r2.2.1 b j = r1.2.1 b j := fun b j y1 y2 y3 => by
      have := x2 b j (by unfold cpW; omega)
      exact ⟨this.1, this.2.1⟩
    have rem2 : rem wt r2 = rem wt r1 := rem_cg (fx 950 133 (by omega) (by omega) (by omega)).1 (fun u _ => (fx 1030 u (by omega) (by omega) (by omega)).1)
    have rem1 : rem wt r1 = rem wt r := rem_cg (B1 950 133 (by unfold eBr; omega)).1 (fun u _ => (B1 1030 u (by unfold eBr; omega)).1)
    -- what it is now
    have now : ∀ pp, OW m pp → m < 13000 ∧ ∃ pe nn mm f, f ≤ 120 ∧ r2.1 1026 m = nI pe ∧ pe + mm ≤ 370000 ∧ pe + mm ≤ (r2.1 950 135).toNatClampNeg ∧ VW P (r2.2.1 1027) f pp pe nn mm := fun pp ho => by
      obtain ⟨M2, sv2, hs2⟩ := ow pp ho
      obtain ⟨r1', hw', _, _, _, _, bv'⟩ := sv2 g r H S hg (hrm r z0) h98 (by omega) h97 h103 (by omega)
      have e1 : r1' = r1 := by
        rw [hw] at hw'
        injection hw' with z
        exact z.symm
      rw [e1] at bv'
      obtain ⟨_, nn2, mm2, V2⟩ := bv' rfl
      have k2 := V2.m2
      have k3 := V2.pos
      have ee := (en _ _ _ V0).symm.trans (en _ _ _ V2)
      injection ee with ee
      have em := (nI_eq (by omega) (by omega)).mp ee
      have em2 : mm2 = mm := by omega
      subst em2
      exact ⟨hm, pc, nn2, mm2, 120, Nat.le_refl _, x5, by omega, by rw [x3, nI_clamp (n := pc + mm2) (by omega)]; exact Nat.le_refl _, VW.copy _ _ _ _ _ _ _ V2 (fun _ _ => rfl) (fun d hd => x6 d hd)⟩
    have K2 : KrZ c0 P TS wt Y e0 e1 r1 r2 := by
      refine ⟨hE, (fx 950 138 (by omega) (by omega) (by omega)).1, fun σ k => ⟨fun _ _ => ⟨σ, k.same (fx 950 137 (by omega) (by omega) (by omega)).1 (fun j => (fx 1028 j (by omega) (by omega) (by omega)).1), by omega⟩, fun _ _ _ => ⟨σ, k.same (fx 950 137 (by omega) (by omega) (by omega)).1 (fun j => (fx 1028 j (by omega) (by omega) (by omega)).1), Or.inl (Nat.le_refl _)⟩⟩, fun ρ k => ⟨ρ, k.same (fx 950 133 (by omega) (by omega) (by omega)).1 (fun j => (fx 1030 j (by omega) (by omega) (by omega)).1), fun _ => rfl⟩, fun _ => ⟨b97, fun _ => ⟨fun pcx px py => ⟨pc + mm, x3, ?_⟩, fun y hy => (fx 1026 y (by omega) (by omega) (fun w => hY (by rw [← w.2]; exact hy))).1, fun u _ hs => by rw [(fx 1030 u (by omega) (by omega) (by omega)).1, (fx 950 133 (by omega) (by omega) (by omega)).1]; exact hs⟩⟩⟩
      have ee : pcx = pc ∨ 2 ^ 31 ≤ pcx := by
        by_cases w : pcx < 2 ^ 31
        · exact Or.inl ((nI_eq w (by omega)).mp (px.symm.trans p1))
        · exact Or.inr (by omega)
      have qq := q34_up (c := c0) hE
      have e2 : pcx = pc := by
        rcases ee with ee | ee
        · exact ee
        · exact absurd (rem1 ▸ py) (by omega)
      subst e2
      refine ⟨by omega, by rw [rem2]; omega, fun j hj => (fx 1027 j (by omega) (by omega) (by omega)).2, fun T u hu hs => ?_⟩
      rw [(fx 1030 u (by omega) (by omega) (by omega)).1, (fx 950 133 (by omega) (by omega) (by omega)).1] at hs
      intro n2 pp ht2
      by_cases c : n2 = m
      · rw [c] at ht2 ⊢
        exact now pp (hT u pp ht2)
      · obtain ⟨g0, pe, nn, mm', f, g1, g2, g3, g4, g5⟩ := T u hu hs n2 pp ht2
        rw [p1, nI_clamp (n := pcx) (by omega)] at g4
        exact ⟨g0, pe, nn, mm', f, g1, ((fx 1026 n2 (by omega) (by omega) (by omega)).1).trans g2, g3, by rw [x3, nI_clamp (n := pcx + mm) (by omega)]; omega, VW.copy _ _ _ _ _ _ _ g5 (fun _ _ => rfl) (fun q hq => (fx 1027 _ (by omega) (by omega) (by omega)).2)⟩
    refine ⟨r2, x1, F1.trans (x2.mono (fun b j w => by unfold cpW at w; unfold eWr; omega)), ⟨(K1 e0 e0 (Nat.le_refl _)).trans K2, (KNs.fr B1 (fun b j y => by unfold eBr at y; omega)).trans (KNs.fr x2 (fun b j y => by unfold cpW at y; omega))⟩, x4, ((fx 950 103 (by omega) (by omega) (by omega)).1).trans b103, ((fx 950 97 (by omega) (by omega) (by omega)).1).trans b97, fun _ => ⟨fun n2 pp ho => ?_, fun n2 v a b c => absurd c ((hq n2 a b).2 v)⟩⟩
    by_cases c : n2 = m
    · rw [c] at ho ⊢
      exact now pp ho.2
    · exact absurd ho.2 ((hq n2 ho.1.1 ho.1.2).1 (by omega) pp)
  · -- an ERROR
    have ne : nI er ≠ 0 := nI_ne0 (by omega) (by omega)
    have x1 : (R_X13_behindFirst (g + 2)).2.2.2.2.1 (nI m) r = some (t_setI r1 950 98 (nI H)) := by
      show m_X13_prepare (R_X13_behindFirst (g + 1)) (nI m) r = _
      unfold m_X13_prepare k_X13_prepare_112
      rw [if_pos h97, if_pos (l2_ix hm (by decide)), nI_clamp (n := m) (by omega), if_pos e55, e59, show (R_X13_behindFirst (g + 1)).2.2.2.2.2.2.2.1 (nI n') r = some r1 from hw, l2_bs, if_neg (by rw [b97]; exact ne), h98, t_let]
    have f2 : l2_fr (fun b j => b = 950 ∧ j = 98) r1 (t_setI r1 950 98 (nI H)) := l2_fr.set ⟨rfl, rfl⟩
    exact ⟨_, x1, F1.trans (f2.mono (fun b j y => by unfold eWr; omega)), ⟨(K1 e0 e0 (Nat.le_refl _)).trans (KrZ.plain hE (fun _ => by rw [(f2 950 97 (by omega)).1] at *; assumption) (f2.mono (fun b j y => by unfold eBr; omega))), (KNs.fr B1 (fun b j y => by unfold eBr at y; omega)).trans (KNs.fr f2 (fun b j y => by omega))⟩, by rw [l2_g, if_pos rfl], by rw [(f2 950 103 (by omega)).1]; exact b103, by rw [(f2 950 97 (by omega)).1]; exact b97, fun y => absurd y ne⟩
/-- a name of nothing told -/
theorem prt_none {y : Int32} (hm : m < 13000) (hk : r0.1 955 m = 28) (hf : ∀ r, l2_fr eZr r0 r → fU r m = some y) (hy : y < 0) (hE : e0 ≤ e1) (hq : (∀ pp, ¬ OW m pp) ∧ ∀ v, ¬ NM m v) : PRt c0 r0 P TS wt OW NM Y hb sb (g + 1) e0 e1 m (m + 1) m 0 := by
  intro r H S pc z0 h98 h97 h103 hH hS h138 h135 hpot hTld
  have e55 : r.1 955 m = 28 := ((ez_r (b := 955) (j := m) z0 (by omega)).1).trans hk
  have fu : f_X13_find 967 (0 : Int32) (r.1 950 44) ((r.2.1 957 m).toInt32) r = some y := hf r z0
  refine ⟨r, ?_, l2_fr.rf, ⟨KrZ.plain hE (fun h => h) l2_fr.rf, KNs.rf⟩, h98, h103, h97, fun _ => (RPQ.nil (m0 := m)).wide (fun k a b _ => by rw [show k = m by omega]; exact hq)⟩
  show m_X13_prepare (R_X13_behindFirst g) (nI m) r = _
  unfold m_X13_prepare
  rw [if_pos h97, if_pos (l2_ix hm (by decide)), nI_clamp (n := m) (by omega), e55, if_neg (by decide), if_pos rfl, fu, l2_bs, if_pos hy]
/-- a name of a told template -/
theorem prt_name (hm : m < 13000) (hk : r0.1 955 m = 28) (hf : ∀ r, l2_fr eZr r0 r → fU r m = some (nI v)) (hv : v < 60) (w7 : w ≤ 7) (hbad : w ≠ 0 → ∃ pp, TS v 13000 pp) (hYD : ∀ n, Y n → YD n) (T : TPr c0 r0 P TS wt YD hb sb (g + 1) v w) (hE : e0 ≤ e1) (hq : (∀ pp, ¬ OW m pp) ∧ ∀ u, NM m u → u = v) : PRt c0 r0 P TS wt OW NM Y hb sb (g + 2) e0 e1 m (m + 1) m (nI w) := by
  intro r H S pc z0 h98 h97 h103 hH hS h138 h135 hpot hTld
  have e55 : r.1 955 m = 28 := ((ez_r (b := 955) (j := m) z0 (by omega)).1).trans hk
  have fu : f_X13_find 967 (0 : Int32) (r.1 950 44) ((r.2.1 957 m).toInt32) r = some (nI v) := hf r z0
  have qq := q34_up (c := c0) hE
  have rp : ∀ r', r'.1 1030 v = r'.1 950 133 → RPQ P OW NM m (m + 1) r' := fun r' h => ⟨fun n2 pp ho => by
    have e : n2 = m := by omega
    rw [e] at ho
    exact absurd ho.2 (hq.1 pp), fun n2 u a b c => by
    have e : n2 = m := by omega
    rw [e] at c
    rw [hq.2 u c]
    exact h⟩
  by_cases st : r.1 1030 v = r.1 950 133
  · have w0 : w = 0 := Classical.byContradiction (fun y => by
      obtain ⟨pp, hp⟩ := hbad y
      exact absurd (hTld v hv st 13000 pp hp).1 (by decide))
    refine ⟨r, ?_, l2_fr.rf, ⟨KrZ.plain hE (fun h => h) l2_fr.rf, KNs.rf⟩, h98, h103, by rw [w0]; exact h97, fun _ => rp r st⟩
    show m_X13_prepare (R_X13_behindFirst (g + 1)) (nI m) r = some r
    unfold m_X13_prepare
    rw [if_pos h97, if_pos (l2_ix hm (by decide)), nI_clamp (n := m) (by omega), e55, if_neg (by decide), if_pos rfl, fu, l2_bs, if_neg (nI_pos (by omega)), if_pos (l2_ix hv (by decide)), nI_clamp (n := v) (by omega), if_pos st]
  · obtain ⟨r', q1, q2, q3, q4, q5, q6, q7⟩ := T r H S pc z0 h98 h97 h103 hH hS h138 h135 (by omega) hTld st
    refine ⟨r', ?_, q2, ⟨EK.w EK_Z (Kc := KcZ Y) ((q3 e0).mono hYD) (Nat.le_refl _) hE, fun σ k hs => by
      obtain ⟨σ', k1, k2⟩ := ((q3 0).2.2.1 σ k).1 h138 (by omega)
      exact ⟨σ', k1, by omega⟩⟩, q4, q5, q6, fun y => rp r' (q7 ?_)⟩
    · show m_X13_prepare (R_X13_behindFirst (g + 1)) (nI m) r = some r'
      unfold m_X13_prepare
      rw [if_pos h97, if_pos (l2_ix hm (by decide)), nI_clamp (n := m) (by omega), e55, if_neg (by decide), if_pos rfl, fu, l2_bs, if_neg (nI_pos (by omega)), if_pos (l2_ix hv (by decide)), nI_clamp (n := v) (by omega), if_neg st, t_let]
      have e68 : (t_setI r 1030 v (r.1 950 133)).1 968 v = r.1 968 v := ((l2_fr.set (W := fun b _ => b = 1030) (s := r) (a := 1030) (k := v) (v := r.1 950 133) rfl) 968 v (show ¬ 968 = 1030 by decide)).1
      rw [e68, q1, l2_bs]
    · exact Classical.byContradiction (fun z => absurd y (nI_ne0 (by omega) (by omega)))
end
