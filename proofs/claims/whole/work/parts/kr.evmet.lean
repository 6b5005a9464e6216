/-! Level 2: met worked out on both sides. -/
section
variable {κ : KPP} {c0 r0 : t_S} {P : Nat → Int64} {TS : Nat → Nat → Nat → Prop} {wt : Nat → Nat} {Z Y : Nat → Prop} {cnt ce g rr e0 ea e1 ta n a b m0 m1 ma ft : Nat} {Q : t_S → t_S → Nat → Nat → Nat → Nat → Prop} {ti : Nat → Nat} {NS : Nat → Prop}
theorem Tld.same {r r' : t_S} (h : Tld P TS r) (e133 : r'.1 950 133 = r.1 950 133) (e135 : r'.1 950 135 = r.1 950 135) (e30 : ∀ u, r'.1 1030 u = r.1 1030 u) (e26 : ∀ n, r'.1 1026 n = r.1 1026 n) (e27 : ∀ j, r'.2.1 1027 j = r.2.1 1027 j) : Tld P TS r' := fun u hu hs => by
  rw [e30, e133] at hs
  intro n pp ht
  obtain ⟨g0, pe, nn, mm, f, g1, g2, g3, g4, g5⟩ := h u hu hs n pp ht
  exact ⟨g0, pe, nn, mm, f, g1, (e26 n).trans g2, g3, by rw [e135]; exact g4, VW.copy _ _ _ _ _ _ _ g5 (fun _ _ => rfl) (fun d _ => e27 _)⟩
/-- a round begins, or goes on: ready for the templ's exps -/
theorem met_in {r r1 : t_S} {c1 : t_S} {dep σ1 ρ1 : Nat} (I1 : IZ c0 P TS wt ce ea c1 r) (he : ea ≤ ce) (hc : ce ≤ 16000) (h138 : r.1 950 138 = nI dep) (hd : dep < ea) (b3 : r1.1 950 138 = nI (dep + 1)) (bK : KN σ1 r1) (bR : KS2 ρ1 r1) (b0 : dep = 0 → σ1 ≤ 1000000000 ∧ r1.1 950 135 = 0 ∧ ∀ u, u < 60 → r1.1 1030 u ≠ r1.1 950 133) (bn0 : ∀ σ ρ, KN σ r → σ < 2 ^ 30 → KS2 ρ r → dep ≠ 0 → (σ1 + ce + 1 ≤ 2 ^ 30 + ea ∨ σ1 = σ)) (fr : dep ≠ 0 → l2_fr (fun b j => b = 950 ∧ j = 138) r r1) (hs : σ1 < 2 ^ 30) : IZ c0 P TS wt ce ea c1 r1 ∧ ∃ pc, r1.1 950 135 = nI pc ∧ pc + 240 * rem wt r1 + 240 * q34 c0 ce ≤ 360000 + 240 * q34 c0 ea ∧ Tld P TS r1 := by
  obtain ⟨bud, kτ, ⟨ρ, hρ⟩, ⟨σ, hσ, s1, s2⟩, ⟨dep', d1, d2⟩, h5⟩ := I1 he
  have pcx : ∃ pc, r1.1 950 135 = nI pc ∧ pc + 240 * rem wt r1 + 240 * q34 c0 ce ≤ 360000 + 240 * q34 c0 ea ∧ Tld P TS r1 := by
    by_cases z : dep = 0
    · obtain ⟨_, y2, y3⟩ := b0 z
      have := rem_le (wt := wt) (r := r1)
      exact ⟨0, y2, by omega, fun u hu hs => absurd hs (y3 u hu)⟩
    · have n0 : r.1 950 138 ≠ 0 := by rw [h138]; exact nI_ne0 (by omega) (by omega)
      obtain ⟨⟨pc, p1, p2⟩, hT⟩ := h5 n0
      have f := fr z
      have e133 := (f 950 133 (by omega)).1
      have e30 : ∀ u, r1.1 1030 u = r.1 1030 u := fun u => (f 1030 u (by omega)).1
      exact ⟨pc, ((f 950 135 (by omega)).1).trans p1, by rw [rem_cg e133 (fun u _ => e30 u)]; exact p2, hT.same e133 (f 950 135 (by omega)).1 e30 (fun n => (f 1026 n (by omega)).1) (fun j => (f 1027 j (by omega)).2.1)⟩
  refine ⟨fun _ => ⟨bud, kτ, ⟨ρ1, bR⟩, ⟨σ1, bK, hs, fun _ => ?_⟩, ⟨dep + 1, b3, by omega⟩, fun _ => ?_⟩, pcx⟩
  · by_cases z : dep = 0
    · have := (b0 z).1
      omega
    · rcases bn0 σ ρ hσ s1 hρ z with y | y
      · exact y
      · have n0 : r.1 950 138 ≠ 0 := by rw [h138]; exact nI_ne0 (by omega) (by omega)
        have := s2 n0
        omega
  · obtain ⟨pc, p1, p2, p3⟩ := pcx
    exact ⟨⟨pc, p1, p2⟩, p3⟩
/-- a class state from which parts are held against a templ -/
theorem cc_of {c : t_S} {i p nh mh E : Nat} {R : Nat → Int64} (A : PA (c.2.1 338) R i p nh mh E) (hi : i + nh ≤ 48000) {c' : t_S} {τ : Nat} (e38 : c'.2.1 338 = c.2.1 338) (g1 : c'.2.2 353 14 = 338) (g2 : c'.1 353 15 = nI i) (g3 : c'.1 353 13 = nI τ) (ht : τ < 2 ^ 30) {r : t_S} : CC c' r 338 i p E τ := ⟨by decide, by decide +kernel, by decide +kernel, g1, g2, ⟨g3, ht⟩, ⟨A.e0.1, by have := A.e0.2; omega⟩, fun x hx => by rw [e38]; have := A.wb x hx; have := A.n1; omega, fun x hx => by rw [e38]; have := A.we x hx; show _ ≤ 48000; omega, fun x x' => by rw [e38]; exact A.wi x x'⟩
/-- the states seen while the VALUE is held against the templ -/
def hmC (b j : Nat) : Prop := b = 424 ∨ (b = 353 ∧ 13 ≤ j ∧ j ≤ 15) ∨ (b = 334 ∧ j = 13)
def hmR (b j : Nat) : Prop := rnW b j ∨ (b = 950 ∧ j = 138)
theorem ev_met (h2 : c0.1 334 2 = nI cnt) (hcnt : cnt ≤ 16000) (hce : ce ≤ cnt) (hCl : Cl κ c0 P TS wt) (hκ : κ.I = IZ c0 P TS wt ce) (hrr : rr + 15 ≤ 360) (he1 : e1 ≤ ce) (hm1 : m1 ≤ 13000) (x1 : e0 < ea) (x2 : ea < e1) (hn : n < 13000) (hmn : n = m0) (ha : a < 13000) (hk : r0.1 955 n = 61) (h59 : r0.1 959 n = nI a) (h60 : r0.1 960 a = nI b) (ho : px_o c0 (e1 - 1) 36 (nI ta)) (hma : m0 < ma ∧ ma ≤ m1) (ihh : EVp κ c0 r0 (KcZ Z) (KrZ c0 P TS wt Y) (g + 1) (rr + 15) e0 ea (m0 + 1) ma a) (iht : EVt κ c0 r0 P TS wt Z Y g (rr + 15) ea (e1 - 1) ma m1 b Q) (ix : ∀ n, NS n → n < 13000 ∧ r0.1 962 n = nI (ti n) ∧ ti n < 4404) (inj : ∀ n n', NS n → NS n' → ti n = ti n' → n = n') (hft : ft ≤ 96) (hQ : ∀ c2 r2 al nh mh p pc E c' r' τ, Q c2 r2 al nh p pc → pc ≤ 370000 → r2.1 950 135 = nI pc → Tld P TS r2 → l2_fr (eZc c0) c0 c2 → l2_fr eZr r0 r2 → PA (c2.2.1 338) (r2.2.1 1006) al p nh mh E → p + 260 ≤ 626600 → al + nh ≤ 48000 → l2_fr hmC c2 c' → l2_fr hmR r2 r' → CC c' r' 338 al p E τ → TM c' r' 338 al p E NS ft ta b) : EVp κ c0 r0 (KcZ Z) (KrZ c0 P TS wt Y) (g + 4) rr e0 e1 m0 m1 n := by
  intro c r D al H S hE hv hS
  obtain ⟨bd1, bd2, bd3⟩ := hE.bd2 (by omega)
  obtain ⟨es', cs0, rs0, i1, i2, i3⟩ := id hv
  have I0 : κ.I e0 c r := hCl _ _ _ _ _ _ _ _ i1 i2 i3 hE.2.2.1.2.1
  obtain ⟨c1, r1, i, u, ⟨u1, u2, u3, u4⟩, F, alt, W⟩ := ihh c r D al H S (hE.up (by omega)) hv (by omega)
  obtain ⟨zz1, zz2⟩ := hE.z F
  have r103 : r1.1 950 103 = nI S := by
    rcases alt with ⟨_, q⟩ | ⟨_, _, _, _, _, _, _, _, q⟩
    · exact q.2.2.2.2
    · exact q
  have s13 := hE.s13 hS
  have hw : m_X13_work (R_X13_behindFirst (g + 1)) (nI a) r = some r1 := W.work (by omega) hE.2.2.1.2.2 r103 (by omega)
  have rk : r.1 955 n = 61 := ((ez_r (b := 955) (j := n) hE.1.2 (by omega)).1).trans hk
  have r9 : r.1 959 n = nI a := ((ez_r (b := 959) (j := n) hE.1.2 (by omega)).1).trans h59
  have s9 : r1.1 959 n = nI a := ((ez_r (b := 959) (j := n) zz2 (by omega)).1).trans h59
  have s10 : r1.1 960 a = nI b := ((ez_r (b := 960) (j := a) zz2 (by omega)).1).trans h60
  have lf : ∀ r2, (if r1.1 950 97 = 0 then m_X13_met (R_X13_behindFirst (g + 1)) (nI n) r1 else some r1) = some r2 → Rw (g + 4) m0 m1 n S r r2 := fun r2 q => Rw.leaf (K := 61) hn rk (Or.inl (by decide)) (by decide) (met_leaf (g := g + 1) hn hE.2.2.1.2.1 rk r9 hw q)
  rcases alt with ⟨rfl, ⟨nh, mh, V, e39⟩, ⟨e7, e12⟩, e98, e97, e103⟩ | B
  rotate_left
  · have B' := B
    obtain ⟨er, st, q1, q2, q3, q4, q5, q6, q7⟩ := B
    have ne : r1.1 950 97 ≠ 0 := by rw [q3]; exact nI_ne0 (by omega) (by omega)
    exact ⟨c1, r1, i, u, ⟨by omega, u2, by omega, u4⟩, F.w EK_Z (Nat.le_refl _) (by omega), Or.inr (B'.w (Nat.le_refl _) (by omega)), lf r1 (by rw [if_neg ne])⟩
  -- the VALUE is held
  obtain ⟨V0, V1, V2⟩ := V.pos
  have Vm := V.m2
  have I1 : κ.I i c1 r1 := hCl _ _ _ _ _ _ _ _ I0 F.2.2.1 F.2.2.2 e97
  rw [hκ] at I0 I1
  obtain ⟨_, _, _, _, ⟨dep, d1, d2⟩, _⟩ := I0 (by omega)
  obtain ⟨bud, ⟨τ, hτ⟩, ⟨ρ, hρ⟩, ⟨σ, hσ, σ1, σ2⟩, _, h5⟩ := id I1 (by omega)
  have d138 : r1.1 950 138 = nI dep := (F.2.2.2.2.1).trans d1
  obtain ⟨rb, σ', ρ', b1, b2, b3, bK, bR, b0, bn0⟩ := rb_go (rc := R_X13_behindFirst g) (x2 := nI b) (x3 := nI (260 * (40 + H))) d138 (show dep ≤ 20000 by omega) hσ σ1 hρ
  have hσ' : σ' < 2 ^ 30 := by
    by_cases z : dep = 0
    · have := (b0 z).1; omega
    · rw [(bn0 z).1]; exact σ1
  obtain ⟨Ib, pc, p1, p2, p3⟩ := met_in (c1 := c1) I1 (by omega) (by omega) d138 (show dep < i by omega) b3 bK bR b0 (fun σx ρx hx sx _ z => Or.inl (by
    have n0 : r1.1 950 138 ≠ 0 := by rw [d138]; exact nI_ne0 (by omega) (by omega)
    have := σ2 n0
    have := (bn0 z).1
    omega)) (fun z => (bn0 z).2.2) hσ'
  have frb : ∀ x j, ¬ (x = 950 ∧ (j = 133 ∨ j = 135 ∨ j = 137 ∨ j = 138)) → x ≠ 1028 → x ≠ 1030 → rb.1 x j = r1.1 x j ∧ rb.2.1 x j = r1.2.1 x j := fun x j y1 y2 y3 => by
    have := b2 x j (by unfold rbW nsW; omega)
    exact ⟨this.1, this.2.1⟩
  have zb : l2_fr eZr r0 rb := zz2.trans (b2.mono (fun x j y => by unfold rbW nsW at y; unfold eZr eWr; omega))
  have b97 : rb.1 950 97 = r1.1 950 97 := (frb 950 97 (by omega) (by decide) (by decide)).1
  have Vb : VW (c1.2.1 338) (rb.2.1 1006) 120 al (260 * (40 + H)) nh mh := VW.copy _ _ _ _ _ _ _ V (fun _ _ => rfl) (fun d _ => (frb 1006 _ (by omega) (by decide) (by decide)).2)
  have a39 : c1.1 339 D = nI al := ((F.1 339 D (by unfold eWc; omega)).1).trans hE.2.1.2.1
  have hEb : Ein κ c0 r0 (rr + 15) (D + 1) (al + nh) (H + 1) S c1 rb := by
    obtain ⟨_, _, _, y1, y2, y3⟩ := hE
    exact ⟨⟨zz1, zb⟩, ⟨e7, e39, e12⟩, ⟨((frb 950 98 (by omega) (by decide) (by decide)).1).trans e98, b97.trans e97, ((frb 950 103 (by omega) (by decide) (by decide)).1).trans e103⟩, by omega, by omega, by omega⟩
  have nb : rb.1 950 138 ≠ 0 := by rw [b3]; exact nI_ne0 (by omega) (by omega)
  have qe := q34_up (c := c0) (show e1 - 1 ≤ ce by omega)
  obtain ⟨c2, r2, i2, w, ⟨w1, w2, w3, w4⟩, F2, alt2, pr⟩ := iht c1 rb D al H S nh mh pc hEb Vb a39 (by omega) nb p1 (by omega) p3 (by rw [hκ]; exact Ib)
  obtain ⟨zc1, zc2⟩ := hEb.z F2
  have e36 : c0.1 335 (e1 - 1) ≠ 34 := by rw [ho.1]; decide
  have qq := q34_n e36
  have K2 := F2.2.2.2
  have k138 : r2.1 950 138 = nI (dep + 1) := (K2.2.1).trans b3
  have fr1 : l2_fr (eWr H S) r1 r2 := (b2.mono (fun x j y => by unfold rbW nsW at y; unfold eWr; omega)).trans (F2.2.1.mono (fun x j y => y.up (by omega) (Nat.le_refl _)))
  have fc1 : l2_fr (eWc c0 al D) c1 c2 := F2.1.mono (fun x j y => y.up (by omega) (by omega))
  have mm : (R_X13_behindFirst (g + 1)).2.2.1 (nI b) (nI (260 * (40 + H))) r1 = restM (R_X13_behindFirst g) (nI b) (nI (260 * (40 + H))) rb := b1
  rcases alt2 with ⟨rfl, ⟨⟨t7, t39, t12⟩, t98, t97, t103⟩, pc2, p21, p22, hq⟩ | B
  rotate_left
  · -- an ERROR in the templ's exps
    have B' := B
    obtain ⟨er, st, q1, q2, q3, q4, q5, q6, q7⟩ := B
    have ne : r2.1 950 97 ≠ 0 := by rw [q3]; exact nI_ne0 (by omega) (by omega)
    have me := rm_err (p := 260 * (40 + H)) pr k138 ne
    obtain ⟨s', hs'⟩ : ∃ s', s' = t_setI r2 950 138 (nI dep) := ⟨_, rfl⟩
    rw [← hs'] at me
    have fs : l2_fr (fun x j => x = 950 ∧ j = 138) r2 s' := by rw [hs']; exact l2_fr.set ⟨rfl, rfl⟩
    have n97 : s'.1 950 97 ≠ 0 := by rw [(fs 950 97 (by omega)).1]; exact ne
    have mt := met_err (rc := R_X13_behindFirst (g + 1)) (H := H) hn ha s9 s10 e98 rfl (mm.trans me) n97
    have Kz := kz_err (y := e1 - 1) (x := i) d138 (by omega) hσ σ1 hρ b3 bK bR (fun z => (b0 z).1) bn0 b97 K2 qq hs'
    rw [show e1 - 1 + 1 = e1 by omega] at Kz
    have F3 : Ef c0 (KcZ Z) (KrZ c0 P TS wt Y i e1) D al H S c1 r1 c2 s' := ⟨fc1, fr1.trans (fs.mono (fun x j y => by unfold eWr; omega)), F2.2.2.1, Kz⟩
    exact ⟨c2, s', i2, u + w, ⟨by omega, by omega, by omega, u4.trans w4⟩, F.trans EK_Z F3 (Nat.le_refl _) (Nat.le_refl _) (Nat.le_refl _) (Nat.le_refl _), Or.inr ⟨er, st, q1, q2, by rw [(fs 950 97 (by omega)).1]; exact q3, q4, by omega, by omega, by rw [(fs 950 103 (by omega)).1]; exact q7⟩, lf s' (by rw [if_pos e97]; exact mt)⟩
  -- held against it
  obtain ⟨g97, hR⟩ := K2.2.2.2.2 t97
  obtain ⟨R1, _, _⟩ := hR nb
  obtain ⟨pcx, y1, y2, y3, y4, y5⟩ := R1 pc p1 (by omega)
  have T2 := y5 p3
  obtain ⟨σx, kx, sx⟩ := (K2.2.2.1 σ' bK).1 nb (by
    by_cases z : dep = 0
    · have := (b0 z).1; omega
    · have n0 : r1.1 950 138 ≠ 0 := by rw [d138]; exact nI_ne0 (by omega) (by omega)
      have := σ2 n0
      have := (bn0 z).1
      omega)
  have sx2 : σx + 1 < 2 ^ 30 := by
    by_cases z : dep = 0
    · have := (b0 z).1; omega
    · have n0 : r1.1 950 138 ≠ 0 := by rw [d138]; exact nI_ne0 (by omega) (by omega)
      have := σ2 n0
      have := (bn0 z).1
      omega
  obtain ⟨τ2, hτ2⟩ := F2.2.2.1.2 τ hτ
  have V2' : VW (c2.2.1 338) (r2.2.1 1006) 120 al (260 * (40 + H)) nh mh := VW.copy _ _ _ _ _ _ _ Vb (fun d hd => (F2.1 338 (al + d) (by unfold eWc; omega)).2.1) (fun d hd => (F2.2.1 1006 _ (by unfold eWr; omega)).2.1)
  obtain ⟨E, A⟩ := pe_PA V2' (Nat.le_refl _)
  have en : f_X13_endOf 1006 (nI (260 * (40 + H))) r2 = some (nI (260 * (40 + H) + mh)) := vr_endOf (c := c2.2.1 338) (i := al) (by decide +kernel) (by decide +kernel) (show 120 ≤ 800 by decide) (VW.vr _ _ _ _ _ V2') (by show 260 * (40 + H) + mh ≤ 626600; omega)
  have tm : ∀ c' r' τ, l2_fr hmC c2 c' → l2_fr hmR r2 r' → CC c' r' 338 al (260 * (40 + H)) E τ → TM c' r' 338 al (260 * (40 + H)) E NS ft ta b := fun c' r' τ f1 f2 C => hQ c2 r2 al nh mh (260 * (40 + H)) pc2 E c' r' τ hq p22 p21 T2 zc1 zc2 A (by omega) (by omega) f1 f2 C
  -- the reference
  obtain ⟨cg, hcg⟩ : ∃ cg, cg = t_setI (t_setI (t_setR c2 353 14 338) 353 15 (nI al)) 353 13 (nI 1) := ⟨_, rfl⟩
  have fg : l2_fr hmC c2 cg := by
    rw [hcg]
    exact ((l2_fr.setR (Or.inr (Or.inl ⟨rfl, by decide, by decide⟩))).trans (l2_fr.set (Or.inr (Or.inl ⟨rfl, by decide, by decide⟩)))).trans (l2_fr.set (Or.inr (Or.inl ⟨rfl, by decide, by decide⟩)))
  have g38 : cg.2.1 338 = c2.2.1 338 := funext (fun j => (fg 338 j (by unfold hmC; omega)).2.1)
  have Cg : ∀ r', CC cg r' 338 al (260 * (40 + H)) E 1 := fun r' => cc_of A (by omega) g38 (by rw [hcg]; rfl) (by rw [hcg, l2_g, if_neg (by decide), l2_g, if_pos rfl]) (by rw [hcg, l2_g, if_pos rfl]) (by decide)
  obtain ⟨r3, s', m1', m2, m3, m4, m5⟩ := rm_end (c := cg) (a := 338) (i := al) (p := 260 * (40 + H)) (n := nh) (m := mh) (E := E) (f := ft) (t := ta) (nd := b) (NS := NS) (ti := ti) pr k138 t97 kx sx2 (by rw [g38]; exact A) en (by omega) (fun n hn => by
    obtain ⟨x1, x2, x3⟩ := ix n hn
    exact ⟨x1, ((ez_r (b := 962) (j := n) zc2 (by omega)).1).trans x2, x3⟩) inj hft (fun r' fr => tm cg r' 1 fg fr (Cg r'))
  have s97 : s'.1 950 97 = 0 := ((m3 950 97 (fun y => by unfold rmX rmW at y; omega)).1).trans t97
  obtain ⟨r4, v1, v2, v3, v4, v5, v6⟩ := met_end (rc := R_X13_behindFirst (g + 1)) (H := H) (p := 260 * (40 + H)) (Q := Mn r3 (260 * (40 + H)) E b (oP r3 (260 * (40 + H)))) hn ha s9 s10 e98 (by omega) rfl (mm.trans m1') s97
  -- the class
  have r36 : r3.2.1 1006 = r2.2.1 1006 := funext (fun j => (m2 1006 j (fun y => by unfold rnW at y; omega)).2.1)
  obtain ⟨c4, τ4, o1, o2, o3, o4, o5, o6⟩ := ho_turn (c := c2) (i := e1 - 1) (ta := ta) (D := D) (a := al) (Q := Mn r3 (260 * (40 + H)) E b (oP r3 (260 * (40 + H)))) zc1 h2 hcnt (by omega) ho t12 t7 (((F2.1 339 D (by unfold eWc; omega)).1).trans a39) (by omega) (by omega) (fun cs fs => by
    have e38 : cs.2.1 338 = c2.2.1 338 := funext (fun j => (fs 338 j (by omega)).2.1)
    exact mc_meets (r := r3) (n := nh) (m := mh) (E := E) (f := ft) (NS := NS) (hτ2.same (fs 353 13 (by omega)).1 (fun j => (fs 424 j (by omega)).1)) (by rw [e38, r36]; exact A) (by decide) (by decide +kernel) (by decide +kernel) (show al + nh ≤ 48000 by omega) (by omega) (by omega) (fun c' τ' f1 C => tm c' r3 τ' ((fs.mono (fun x j y => Or.inr (Or.inr y))).trans (f1.mono (fun x j y => by unfold mcW at y; omega))) m2 C))
  rw [show e1 - 1 + 1 = e1 by omega] at o1
  have fr4 : l2_fr (fun x j => rmX x j ∨ (x = 950 ∧ (j = 138 ∨ j = 98)) ∨ (x = 1006 ∧ 260 * (40 + H) ≤ j ∧ j < 260 * (41 + H))) r2 r4 := (m3.mono (fun x j y => y.imp id (fun z => Or.inl ⟨z.1, Or.inl z.2⟩))).trans (v2.mono (fun x j y => by
    rcases y with y | y
    · exact Or.inr (Or.inl ⟨y.1, Or.inr y.2⟩)
    · exact Or.inr (Or.inr y)))
  have k4 : r4.1 950 138 = nI dep := ((v2 950 138 (by omega)).1).trans m4
  have Kz := kz_met (y := e1 - 1) (x := i) (r' := r4) d138 (by omega) hσ σ1 hρ b3 bK bR (fun z => (b0 z).1) bn0 b97 K2 qq k4 (v4.trans t97.symm) (fun σy ky => by
    refine ⟨σx + 1, m5.same (v2 950 137 (by omega)).1 (fun j => (v2 1028 j (by omega)).1), ?_⟩
    have e := ky.1.symm.trans kx.1
    by_cases c : σy < 2 ^ 31
    · have := (nI_eq c (by omega)).mp e
      omega
    · omega) (fun x j y => by
    have := fr4 x j (fun z => by unfold rmX rmW at z; omega)
    exact ⟨this.1, this.2.1⟩)
  rw [show e1 - 1 + 1 = e1 by omega] at Kz
  have Kc4 : KcZ Z c2 c4 := ⟨fun t _ => ⟨(o2 361 t (fun y => by unfold hoW cmX cmW at y; omega)).2.1, (o2 362 t (fun y => by unfold hoW cmX cmW at y; omega)).2.1⟩, fun _ _ => ⟨τ4, o3⟩⟩
  have F3 : Ef c0 (KcZ Z) (KrZ c0 P TS wt Y i e1) D al H S c1 r1 c4 r4 := ⟨fc1.trans (o2.mono (fun x j y => by
      unfold hoW cmX cmW at y
      unfold eWc
      rcases y with y | y | y | y
      · rcases y with (y | y | y | y) | y
        · exact Or.inr (Or.inr (Or.inr (Or.inr (Or.inr (Or.inr (Or.inr (Or.inl y)))))))
        · exact Or.inr (Or.inr (Or.inr (Or.inr (Or.inr (Or.inr (Or.inr (Or.inr (Or.inl y))))))))
        · exact Or.inr (Or.inr (Or.inr (Or.inr (Or.inr (Or.inr (Or.inr (Or.inr (Or.inr y))))))))
        · exact Or.inr (Or.inr (Or.inr (Or.inr (Or.inr (Or.inl ⟨y.1, by omega⟩)))))
        · exact Or.inr (Or.inr (Or.inr (Or.inr (Or.inr (Or.inl ⟨y.1, by omega⟩)))))
      · exact Or.inl ⟨y.1, by omega⟩
      · exact Or.inr (Or.inl ⟨y.1, by omega⟩)
      · exact Or.inr (Or.inr (Or.inl ⟨y.1, by omega⟩)))), fr1.trans (fr4.mono (fun x j y => by unfold rmX rmW at y; unfold eWr; omega)), EK_Z (c0 := c0) (P := P) (TS := TS) (wt := wt) (Y := Y).1.2 _ _ _ F2.2.2.1 Kc4, Kz⟩
  refine ⟨c4, r4, e1, u + w + 1, ⟨by omega, by omega, Nat.le_refl _, (u4.trans w4).trans (l2_tn.one o1)⟩, F.trans EK_Z F3 (Nat.le_refl _) (Nat.le_refl _) (Nat.le_refl _) (Nat.le_refl _), Or.inl ⟨rfl, ⟨1, 2, ?_, o5⟩, ⟨o4, ?_⟩, v3, v4, ?_⟩, lf r4 (by rw [if_pos e97]; exact v1)⟩
  · exact met_vw ⟨_, o6⟩ v5 v6
  · rw [(o2 334 12 (fun y => by unfold hoW cmX cmW at y; omega)).1]; exact t12
  · rw [(fr4 950 103 (fun y => by unfold rmX rmW at y; omega)).1]; exact t103
end
