/-! Level 2: one = ( ) of a templ worked out on both sides. -/
/-- the held VALUE lies on top again -/
def Et (D a nh H S : Nat) (c' r' : t_S) : Prop := (c'.1 334 7 = nI (D + 1) ∧ c'.1 339 (D + 1) = nI (a + nh) ∧ c'.1 334 12 = 0) ∧ r'.1 950 98 = nI (H + 1) ∧ r'.1 950 97 = 0 ∧ r'.1 950 103 = nI S
/-- one templ's exps, while a VALUE is held -/
def EVt (κ : KPP) (c0 r0 : t_S) (P : Nat → Int64) (TS : Nat → Nat → Nat → Prop) (wt : Nat → Nat) (Z Y : Nat → Prop) (g rr e0 e1 m0 m1 n : Nat) (Q : t_S → t_S → Nat → Nat → Nat → Nat → Prop) : Prop := ∀ c r D a H S nh mh pc, Ein κ c0 r0 rr (D + 1) (a + nh) (H + 1) S c r → VW (c.2.1 338) (r.2.1 1006) 120 a (260 * (40 + H)) nh mh → c.1 339 D = nI a → S + (m1 - m0) ≤ κ.s → r.1 950 138 ≠ 0 → r.1 950 135 = nI pc → pc + 240 * rem wt r + 240 * q34 c0 e1 ≤ 360000 + 240 * q34 c0 e0 → Tld P TS r → κ.I e0 c r → ∃ c' r' i u, (u ≤ e1 - e0 ∧ e0 ≤ i ∧ i ≤ e1 ∧ l2_tn b_X0_work_12 u (nI e0, c) (nI i, c')) ∧ Ef c0 (KcZ Z) (KrZ c0 P TS wt Y e0 e1) (D + 1) (a + nh) (H + 1) S c r c' r' ∧ ((i = e1 ∧ Et D a nh H S c' r' ∧ ∃ pc', r'.1 950 135 = nI pc' ∧ pc' ≤ 370000 ∧ Q c' r' a nh (260 * (40 + H)) pc') ∨ Eb e0 e1 S c' r') ∧ (R_X13_behindFirst g).2.2.2.2.1 (nI n) r = some r'
/-- what stands all the while is kept by what keeps the family -/
def Cl (κ : KPP) (c0 : t_S) (P : Nat → Int64) (TS : Nat → Nat → Nat → Prop) (wt : Nat → Nat) : Prop := ∀ (Z Y : Nat → Prop) e e' c r c' r', κ.I e c r → KcZ Z c c' → KrZ c0 P TS wt Y e e' r r' → r'.1 950 97 = 0 → κ.I e' c' r'
/-- a slot's VALUE is kept on both sides -/
def SLq (t n : Nat) (c' r' : t_S) (a nh _p pc' : Nat) : Prop := ∃ (cc : Nat → Int64) (pp pe nn mm : Nat), r'.1 1026 n = nI pe ∧ pe + mm ≤ pc' ∧ VW cc (r'.2.1 1027) 120 pp pe nn mm ∧ (bit2 (c'.2.1 361 t) (c'.2.1 362 t) 0 ↔ r'.2.1 1027 pe = lN 4) ∧ ∀ v, v < nh → (bit2 (c'.2.1 361 t) (c'.2.1 362 t) (v + 1) ↔ ∀ d, d < nn → cc (pp + d) = c'.2.1 338 (a + v + d))
section
variable {κ : KPP} {c0 r0 : t_S} {P : Nat → Int64} {TS : Nat → Nat → Nat → Prop} {wt : Nat → Nat} {Z Y : Nat → Prop} {cnt g rr e0 e1 t n n' m1 : Nat}
theorem ev_38 (h2 : c0.1 334 2 = nI cnt) (hcnt : cnt ≤ 16000) (h14 : c0.1 334 14 = 0) (he : e0 < e1) (he1 : e1 ≤ cnt) (ht : t < 6100) (h17 : c0.1 354 t = 17) (hn : n < 13000) (hk : r0.1 955 n = 38) (h59 : r0.1 959 n = nI n') (ho : px_o c0 (e1 - 1) 34 (nI t)) (hrr : rr ≤ 360) (hZ : ¬ Z t) (hY : ¬ Y n) (hT : ∀ u pp, ¬ TS u n pp) (hm : n + 1 ≤ m1 ∧ m1 ≤ 13000) (ih : EVp κ c0 r0 (KcZ Z) (KrZ c0 P TS wt Y) g rr e0 (e1 - 1) (n + 1) m1 n') : EVt κ c0 r0 P TS wt Z Y (g + 2) rr e0 e1 n m1 n (SLq t n) := by
  intro c r D a H S nh mh pc hE hV ha hS h138 h135 hpot hTld hI
  obtain ⟨z1, z2⟩ := hE.1
  obtain ⟨b1, b2, b3⟩ := hE.bd2 hrr
  obtain ⟨nh0, nh1, mh0⟩ := hV.pos
  obtain ⟨c1, r1, i, u, ⟨u1, u2, u3, u4⟩, F, alt, W⟩ := ih c r (D + 1) (a + nh) (H + 1) S hE (Iv.of EK_Z hI) (by omega)
  have K1 := F.2.2.2
  have r103 : r1.1 950 103 = nI S := by
    rcases alt with ⟨_, q⟩ | ⟨_, _, _, _, _, _, _, _, q⟩
    · exact q.2.2.2.2
    · exact q
  have s13 := hE.s13 hS
  have hw : m_X13_work (R_X13_behindFirst g) (nI n') r = some r1 := W.work (by omega) hE.2.2.1.2.2 r103 (by omega)
  have e55 : r.1 955 n = 38 := ((ez_r (b := 955) (j := n) z2 (by omega)).1).trans hk
  have e59 : r.1 959 n = nI n' := ((ez_r (b := 959) (j := n) z2 (by omega)).1).trans h59
  rcases alt with ⟨rfl, ⟨n1, k1, V1, e39⟩, ⟨e7, e12⟩, e98, e97, _⟩ | ⟨er, st, er1, q12, q97, q13, s0, s1, q103⟩
  · obtain ⟨n10, n11, k10⟩ := V1.pos
    have k12 := V1.m2
    obtain ⟨zz1, zz2⟩ := hE.z F
    -- the class
    have h38 : ∀ d, d < nh → c1.2.1 338 (a + d) = c.2.1 338 (a + d) := fun d hd => (F.1 338 (a + d) (by unfold eWc; omega)).2.1
    obtain ⟨ta, ka, va, -⟩ := hV.hd
    obtain ⟨tb, kb, vb, kb8, rb, -⟩ := V1.hd
    have a39 : c1.1 339 D = nI a := ((F.1 339 D (by unfold eWc; omega)).1).trans ha
    have d39 : c1.1 339 (D + 1) = nI (a + nh) := ((F.1 339 (D + 1) (by unfold eWc; omega)).1).trans hE.2.1.2.1
    have e7' : c1.1 334 7 = nI (D + 2) := e7
    have va' : vl_c ta nh ka (c1.2.1 338 a) := by
      have := h38 0 (by omega)
      rw [Nat.add_zero] at this
      rw [this]
      exact va
    obtain ⟨c2, t1, t2, t3, t4, t5⟩ := ks_turn (c := c1) (i := e1 - 1) (t := t) (D := D) (a := a) (b := a + nh) (n := nh) (no := n1) zz1 h2 hcnt (by omega) ho e12 h14 ht e7' (show D + 2 < 3201 by omega) a39 d39 va' vb ⟨nh0, nh1⟩ ⟨n10, n11⟩ (by omega) (by omega)
    -- the reference
    have e138 : r1.1 950 138 = r.1 950 138 := K1.2.1
    obtain ⟨g97, hR⟩ := K1.2.2.2.2 e97
    obtain ⟨R1, R2, R3⟩ := hR h138
    have q1 : q34 c0 (e1 - 1 + 1) = q34 c0 (e1 - 1) + 1 := q34_s ho.1
    rw [show e1 - 1 + 1 = e1 by omega] at q1
    obtain ⟨pc1, p1, p2, p3, p4, p5⟩ := R1 pc h135 (by omega)
    have qq := q34_up (c := c0) (show e0 ≤ e1 - 1 by omega)
    have top : f_X13_top r1 = nI (260 * (41 + H)) := by
      unfold f_X13_top
      rw [e98, show (40 : Int32) = nI 40 from rfl, nI_add, show (40 + (H + 1 + 1)) = (41 + H) + 1 by omega, nI_pred, show (260 : Int32) = nI 260 from rfl, pk_mul]
    have V1' : VW (c1.2.1 338) (r1.2.1 1006) 120 (a + nh) (260 * (41 + H)) n1 k1 := by
      rw [show 260 * (41 + H) = 260 * (40 + (H + 1)) by omega]; exact V1
    have en : f_X13_endOf 1006 (nI (260 * (41 + H))) r1 = some (nI (260 * (41 + H) + k1)) := vr_endOf (c := c1.2.1 338) (i := a + nh) (by decide +kernel) (by decide +kernel) (show 120 ≤ 800 by decide) (VW.vr _ _ _ _ _ V1') (by show 260 * (41 + H) + k1 ≤ 626600; omega)
    obtain ⟨r2, x1, x2, x3, x4, x5, x6⟩ := pr_38 (g := g) (l := H + 1) hn g97 e55 e59 hE.2.2.1.1 hw e97 top en (by omega) (show pc1 + k1 ≤ 370000 by omega) p1
    have fx : ∀ b j, ¬ (b = 950 ∧ (j = 98 ∨ j = 135)) → ¬ (b = 1027 ∧ pc1 ≤ j) → ¬ (b = 1026 ∧ j = n) → r2.1 b j = r1.1 b j ∧ r2.2.1 b j = r1.2.1 b j := fun b j y1 y2 y3 => by
      have := x2 b j (by unfold cpW; omega)
      exact ⟨this.1, this.2.1⟩
    have rem2 : rem wt r2 = rem wt r1 := rem_cg (fx 950 133 (by omega) (by omega) (by omega)).1 (fun u _ => (fx 1030 u (by omega) (by omega) (by omega)).1)
    have K2 : KrZ c0 P TS wt Y (e1 - 1) e1 r1 r2 := by
      refine ⟨by omega, (fx 950 138 (by omega) (by omega) (by omega)).1, fun σ k => ⟨fun _ _ => ⟨σ, k.same (fx 950 137 (by omega) (by omega) (by omega)).1 (fun j => (fx 1028 j (by omega) (by omega) (by omega)).1), by omega⟩, fun _ _ _ => ⟨σ, k.same (fx 950 137 (by omega) (by omega) (by omega)).1 (fun j => (fx 1028 j (by omega) (by omega) (by omega)).1), Or.inl (Nat.le_refl _)⟩⟩, fun ρ k => ⟨ρ, k.same (fx 950 133 (by omega) (by omega) (by omega)).1 (fun j => (fx 1030 j (by omega) (by omega) (by omega)).1), fun _ => rfl⟩, fun _ => ⟨e97, fun _ => ⟨fun pcx px py => ⟨pc1 + k1, x3, ?_⟩, fun y hy => (fx 1026 y (by omega) (by omega) (fun w => hY (by rw [← w.2]; exact hy))).1, fun u _ hs => by rw [(fx 1030 u (by omega) (by omega) (by omega)).1, (fx 950 133 (by omega) (by omega) (by omega)).1]; exact hs⟩⟩⟩
      have ee : pcx = pc1 ∨ 2 ^ 31 ≤ pcx := by
        by_cases w : pcx < 2 ^ 31
        · exact Or.inl ((nI_eq w (by omega)).mp (px.symm.trans p1))
        · exact Or.inr (by omega)
      have e2 : pcx = pc1 := by omega
      subst e2
      refine ⟨by omega, by rw [rem2]; omega, fun j hj => (fx 1027 j (by omega) (by omega) (by omega)).2, fun T u hu hs => ?_⟩
      rw [(fx 1030 u (by omega) (by omega) (by omega)).1, (fx 950 133 (by omega) (by omega) (by omega)).1] at hs
      intro n2 pp ht2
      obtain ⟨g0, pe, nn, mm, f, g1, g2, g3, g4, g5⟩ := T u hu hs n2 pp ht2
      rw [p1, nI_clamp (n := pcx) (by omega)] at g4
      exact ⟨g0, pe, nn, mm, f, g1, ((fx 1026 n2 (by omega) (by omega) (fun w => hT _ _ (by rw [← w.2]; exact ht2))).1).trans g2, g3, by rw [x3, nI_clamp (n := pcx + k1) (by omega)]; omega, VW.copy _ _ _ _ _ _ _ g5 (fun _ _ => rfl) (fun q hq => (fx 1027 _ (by omega) (by omega) (by omega)).2)⟩
    have Kc2 : KcZ Z c1 c2 := ⟨fun y hy => by
        have ne : y ≠ t := fun w => hZ (by rw [← w]; exact hy)
        exact ⟨(t2 361 y (by unfold ksW; omega)).2.1, (t2 362 y (by unfold ksW; omega)).2.1⟩, fun τ k => ⟨τ, k.same (t2 353 13 (by unfold ksW; omega)).1 (fun j => (t2 424 j (by unfold ksW; omega)).1)⟩⟩
    have F2 : Ef c0 (KcZ Z) (KrZ c0 P TS wt Y (e1 - 1) e1) (D + 1) (a + nh) (H + 1) S c1 r1 c2 r2 := ⟨t2.mono (fun b j w => by
        unfold ksW at w
        unfold eWc
        rcases w with w | w
        · exact Or.inl (by omega)
        · exact Or.inr (Or.inr (Or.inr (Or.inr (Or.inr (Or.inr (Or.inl ⟨w.1, by rw [w.2]; exact h17⟩))))))), x2.mono (fun b j w => by unfold cpW at w; unfold eWr; omega), Kc2, K2⟩
    refine ⟨c2, r2, e1, u + 1, ⟨by omega, by omega, Nat.le_refl _, ?_⟩, F.trans EK_Z F2 (Nat.le_refl _) (Nat.le_refl _) (Nat.le_refl _) (Nat.le_refl _), Or.inl ⟨rfl, ⟨⟨t3, ((t2 339 (D + 1) (by unfold ksW; omega)).1).trans d39, ((t2 334 12 (by unfold ksW; omega)).1).trans e12⟩, x4, ((fx 950 97 (by omega) (by omega) (by omega)).1).trans e97, ((fx 950 103 (by omega) (by omega) (by omega)).1).trans r103⟩, pc1 + k1, x3, by omega, c1.2.1 338, a + nh, pc1, n1, k1, x5, Nat.le_refl _, ?_, ?_, ?_⟩, x1⟩
    · have one := l2_tn.one t1
      rw [show e1 - 1 + 1 = e1 by omega] at one
      exact u4.trans one
    · exact VW.copy _ _ _ _ _ _ _ V1' (fun _ _ => rfl) (fun d hd => x6 d hd)
    · rw [t4]
      have := x6 0 (by omega)
      rw [Nat.add_zero, Nat.add_zero] at this
      rw [this, show 260 * (41 + H) = 260 * (40 + (H + 1)) by omega, rb]
      exact ⟨fun w => by rw [w], fun w => lN_inj (by omega) (by decide) w⟩
    · intro v hv
      rw [t5 v hv]
      have e38 : ∀ q, c2.2.1 338 q = c1.2.1 338 q := fun q => (t2 338 q (by unfold ksW; omega)).2.1
      simp only [e38]
  · -- an ERROR
    have x1 : (R_X13_behindFirst (g + 2)).2.2.2.2.1 (nI n) r = some (t_setI r1 950 98 (nI (H + 1))) := by
      show m_X13_prepare (R_X13_behindFirst (g + 1)) (nI n) r = _
      unfold m_X13_prepare k_X13_prepare_112
      rw [if_pos hE.2.2.1.2.1, if_pos (l2_ix hn (by decide)), nI_clamp (n := n) (by omega), if_pos e55, e59, show (R_X13_behindFirst (g + 1)).2.2.2.2.2.2.2.1 (nI n') r = some r1 from hw, l2_bs, if_neg (by rw [q97]; exact nI_ne0 (by omega) (by omega)), hE.2.2.1.1, t_let]
    have F2 : Ef c0 (KcZ Z) (KrZ c0 P TS wt Y (e1 - 1) e1) (D + 1) (a + nh) (H + 1) S c1 r1 c1 (t_setI r1 950 98 (nI (H + 1))) := Ef.of EK_Z (l2_fr.rf (W := fun _ _ => False)) (l2_fr.set (W := fun b j => b = 950 ∧ j = 98) ⟨rfl, rfl⟩) (fun b j y => y.elim) (fun b j y => ⟨by unfold eWr; omega, by unfold eBr; omega⟩)
    exact ⟨c1, _, i, u, ⟨by omega, u2, by omega, u4⟩, F.trans EK_Z F2 (Nat.le_refl _) (Nat.le_refl _) (Nat.le_refl _) (Nat.le_refl _), Or.inr ⟨er, st, er1, q12, by rw [l2_g, if_neg (by decide)]; exact q97, q13, s0, by omega, by rw [l2_g, if_neg (by decide)]; exact q103⟩, x1⟩
end
