/-! Level 2: the reference prepares told templates: what is wanted of one tree; nodes with parts. -/
/-- slots and names of nodes m0 .. m1 - 1 are prepared -/
def RPQ (P : Nat → Int64) (OW NM : Nat → Nat → Prop) (m0 m1 : Nat) (r : t_S) : Prop := RD P (fun _ n pp => (m0 ≤ n ∧ n < m1) ∧ OW n pp) 0 r ∧ ∀ n v, m0 ≤ n → n < m1 → NM n v → r.1 1030 v = r.1 950 133
/-- the memo's stamp is no greater -/
def KNs (r r' : t_S) : Prop := ∀ σ, KN σ r → σ < 2 ^ 30 → ∃ σ', KN σ' r' ∧ σ' ≤ σ
theorem KNs.rf {r : t_S} : KNs r r := fun σ k _ => ⟨σ, k, Nat.le_refl _⟩
theorem KNs.trans {a b d : t_S} (h : KNs a b) (g : KNs b d) : KNs a d := fun σ k l => by
  obtain ⟨σ1, k1, l1⟩ := h σ k l
  obtain ⟨σ2, k2, l2⟩ := g σ1 k1 (by omega)
  exact ⟨σ2, k2, by omega⟩
theorem KNs.fr {a b : t_S} {Wr : Nat → Nat → Prop} (f : l2_fr Wr a b) (h : ∀ b j, Wr b j → b ≠ 1028 ∧ ¬ (b = 950 ∧ j = 137)) : KNs a b := fun σ k _ => ⟨σ, k.same (f 950 137 (fun y => (h _ _ y).2 ⟨rfl, rfl⟩)).1 (fun j => (f 1028 j (fun y => (h _ _ y).1 rfl)).1), Nat.le_refl _⟩
/-- a tree is prepared, w its ERROR; operations x .. y - 1 of the class, nodes m0 .. m1 - 1 -/
def PRt (c0 r0 : t_S) (P : Nat → Int64) (TS : Nat → Nat → Nat → Prop) (wt : Nat → Nat) (OW NM : Nat → Nat → Prop) (Y : Nat → Prop) (hb sb g x y m0 m1 n : Nat) (w : Int32) : Prop := ∀ r H S pc, l2_fr eZr r0 r → r.1 950 98 = nI H → r.1 950 97 = 0 → r.1 950 103 = nI S → H ≤ hb → S ≤ sb → r.1 950 138 ≠ 0 → r.1 950 135 = nI pc → pc + 240 * rem wt r + 240 * q34 c0 y ≤ 360000 + 240 * q34 c0 x → Tld P TS r → ∃ r', (R_X13_behindFirst g).2.2.2.2.1 (nI n) r = some r' ∧ l2_fr (eWr H S) r r' ∧ (KrZ c0 P TS wt Y x y r r' ∧ KNs r r') ∧ r'.1 950 98 = nI H ∧ r'.1 950 103 = nI S ∧ r'.1 950 97 = w ∧ (w = 0 → RPQ P OW NM m0 m1 r')
/-- the first ERROR of u -/
def wfs (w : Nat → Int32) : Nat → Int32
  | 0 => 0
  | u + 1 => if wfs w u = 0 then w u else wfs w u
section
variable {c0 r0 r r' : t_S} {P : Nat → Int64} {TS : Nat → Nat → Nat → Prop} {wt : Nat → Nat} {OW NM : Nat → Nat → Prop} {Y YD : Nat → Prop} {hb sb g x y m0 m1 m2 n pc H S v ma mb K : Nat} {w : Int32}
theorem RPQ.join (h : RPQ P OW NM m0 m1 r) (k : RPQ P OW NM m1 m2 r) : RPQ P OW NM m0 m2 r := by
  refine ⟨fun n pp hq => ?_, fun n v a b c => ?_⟩
  · by_cases z : n < m1
    · exact h.1 n pp ⟨⟨hq.1.1, z⟩, hq.2⟩
    · exact k.1 n pp ⟨⟨by omega, hq.1.2⟩, hq.2⟩
  · by_cases z : n < m1
    · exact h.2 n v a z c
    · exact k.2 n v (by omega) b c
theorem RPQ.later (h : RPQ P OW NM m0 m1 r) (k : KrZ c0 P TS wt Y x y r r') (h97 : r'.1 950 97 = 0) (h138 : r.1 950 138 ≠ 0) (h135 : r.1 950 135 = nI pc) (hp : pc + 240 * rem wt r + 240 * q34 c0 y ≤ 360000 + 240 * q34 c0 x) (hY : ∀ n pp, m0 ≤ n → n < m1 → OW n pp → Y n) (hN : ∀ n v, NM n v → v < 60) : RPQ P OW NM m0 m1 r' := by
  have qq := q34_up (c := c0) k.1
  obtain ⟨_, hR⟩ := k.2.2.2.2 h97
  obtain ⟨R1, R2, R3⟩ := hR h138
  obtain ⟨pc', p1, p2, p3, p4, p5⟩ := R1 pc h135 hp
  refine ⟨fun n pp hq => ?_, fun n v a b c => R3 v (hN n v c) (h.2 n v a b c)⟩
  obtain ⟨g0, pe, nn, mm, f, g1, g2, g3, g4, g5⟩ := h.1 n pp hq
  rw [h135, nI_clamp (n := pc) (by omega)] at g4
  exact ⟨g0, pe, nn, mm, f, g1, (R2 n (hY n pp hq.1.1 hq.1.2 hq.2)).trans g2, g3, by rw [p1, nI_clamp (n := pc') (by omega)]; omega, VW.copy _ _ _ _ _ _ _ g5 (fun _ _ => rfl) (fun q hq => p4 _ (by omega))⟩
theorem RPQ.nil : RPQ P OW NM m0 m0 r := ⟨fun n pp hq => by have := hq.1; omega, fun n v a b => by omega⟩
theorem RPQ.wide (h : RPQ P OW NM ma mb r) (hq : ∀ k, m0 ≤ k → k < m1 → ¬ (ma ≤ k ∧ k < mb) → (∀ pp, ¬ OW k pp) ∧ ∀ v, ¬ NM k v) : RPQ P OW NM m0 m1 r := by
  refine ⟨fun n pp q => ?_, fun n v a b c => ?_⟩
  · by_cases z : ma ≤ n ∧ n < mb
    · exact h.1 n pp ⟨z, q.2⟩
    · exact absurd q.2 ((hq n q.1.1 q.1.2 z).1 pp)
  · by_cases z : ma ≤ n ∧ n < mb
    · exact h.2 n v z.1 z.2 c
    · exact absurd c ((hq n a b z).2 v)
/-- parts, one after another -/
theorem prt_parts {E M G : Nat → Nat} {wj : Nat → Int32} {e0 e1 : Nat} (hE : px_B v e0 e1 E) (hM : px_B v ma mb M) (hG : ∀ j, j < v → G j < 13000 ∧ r0.1 960 (G j) = (if j + 1 < v then nI (G (j + 1)) else -1)) (hY : ∀ n, Y n → YD n ∧ ¬ (ma ≤ n ∧ n < mb)) (hOW : ∀ n pp, OW n pp → ma ≤ n → n < mb → YD n) (hNM : ∀ n v, NM n v → v < 60) (hp : ∀ j, j < v → ∀ Y : Nat → Prop, (∀ n, Y n → YD n ∧ ¬ (M j ≤ n ∧ n < M (j + 1))) → PRt c0 r0 P TS wt OW NM Y hb sb (g + 1) (E j) (E (j + 1)) (M j) (M (j + 1)) (G j) (wj j)) (z0 : l2_fr eZr r0 r) (h98 : r.1 950 98 = nI H) (h97 : r.1 950 97 = 0) (h103 : r.1 950 103 = nI S) (hH : H ≤ hb) (hS : S ≤ sb) (h138 : r.1 950 138 ≠ 0) (h135 : r.1 950 135 = nI pc) (hpot : pc + 240 * rem wt r + 240 * q34 c0 e1 ≤ 360000 + 240 * q34 c0 e0) (hT : Tld P TS r) : ∀ u, u ≤ v → ∃ r', l2_fr (eWr H S) r r' ∧ (KrZ c0 P TS wt Y e0 (E u) r r' ∧ KNs r r') ∧ r'.1 950 98 = nI H ∧ r'.1 950 103 = nI S ∧ r'.1 950 97 = wfs wj u ∧ (wfs wj u = 0 → RPQ P OW NM ma (M u) r') ∧ ∀ N, t_loop (b_X13_prepare_195 (R_X13_behindFirst (g + 1))) (N + u) ((if 0 < v then nI (G 0) else -1), r) = t_loop (b_X13_prepare_195 (R_X13_behindFirst (g + 1))) N ((if u < v then nI (G u) else -1), r') := by
  intro u
  induction u with
  | zero =>
    intro _
    refine ⟨r, l2_fr.rf, ⟨KrZ.plain (Nat.le_of_eq hE.1.symm) (fun h => h) l2_fr.rf, KNs.rf⟩, h98, h103, h97, fun _ => ?_, fun N => rfl⟩
    rw [hM.1]
    exact RPQ.nil
  | succ u ih =>
    intro hu
    obtain ⟨r1, F, ⟨K1, N1⟩, e98, e103, e97, hq, L⟩ := ih (by omega)
    obtain ⟨g13, g960⟩ := hG u (by omega)
    have bE := hE.2.2 u (by omega)
    have bM := hM.2.2 u (by omega)
    have zz : l2_fr eZr r0 r1 := z0.trans (F.mono (fun b j w => w.z))
    have LL : ∀ r2, (R_X13_behindFirst (g + 1)).2.2.2.2.1 (nI (G u)) r1 = some r2 → l2_fr (eWr H S) r1 r2 → ∀ N, t_loop (b_X13_prepare_195 (R_X13_behindFirst (g + 1))) (N + (u + 1)) ((if 0 < v then nI (G 0) else -1), r) = t_loop (b_X13_prepare_195 (R_X13_behindFirst (g + 1))) N ((if u + 1 < v then nI (G (u + 1)) else -1), r2) := fun r2 pr F2 N => by
      rw [show N + (u + 1) = (N + 1) + u by omega, L (N + 1), if_pos (show u < v by omega)]
      refine l2_lpS ?_
      show k_X13_prepare_195 _ (nI (G u)) r1 = _
      unfold k_X13_prepare_195
      rw [if_neg (nI_pos (by omega)), pr, l2_bs, if_pos (l2_ix g13 (by decide)), nI_clamp (n := G u) (by omega), ((ez_r (b := 960) (j := G u) (zz.trans (F2.mono (fun b j w => w.z))) (by omega)).1).trans g960]
    have ws : wfs wj (u + 1) = if wfs wj u = 0 then wj u else wfs wj u := rfl
    by_cases c : wfs wj u = 0
    · rw [if_pos c] at ws
      obtain ⟨_, hR⟩ := K1.2.2.2.2 (e97.trans c)
      obtain ⟨R1, R2, R3⟩ := hR h138
      have q1 := q34_up (c := c0) bE.1
      have q2 := q34_up (c := c0) bE.2.1
      have q3 := q34_up (c := c0) bE.2.2
      obtain ⟨pc1, p1, p2, p3, p4, p5⟩ := R1 pc h135 (by omega)
      have b138 : r1.1 950 138 ≠ 0 := by rw [K1.2.1]; exact h138
      have bud : pc1 + 240 * rem wt r1 + 240 * q34 c0 (E (u + 1)) ≤ 360000 + 240 * q34 c0 (E u) := by omega
      obtain ⟨r2, pr, F2, ⟨K2, N2⟩, f98, f103, f97, fq⟩ := hp u (by omega) (fun n => Y n ∨ ((ma ≤ n ∧ n < M u) ∧ ∃ pp, OW n pp)) (fun n hn => by
        rcases hn with hn | ⟨hn, pp, ho⟩
        · have := hY n hn
          exact ⟨this.1, fun z => this.2 ⟨by omega, by omega⟩⟩
        · exact ⟨hOW n pp ho hn.1 (by omega), fun z => by omega⟩) r1 H S pc1 zz e98 (e97.trans c) e103 hH hS b138 p1 bud (p5 hT)
      refine ⟨r2, F.trans F2, ⟨K1.trans (K2.mono (fun n hn => Or.inl hn)), N1.trans N2⟩, f98, f103, by rw [ws]; exact f97, fun z => ?_, LL r2 pr F2⟩
      rw [ws] at z
      exact ((hq c).later K2 (f97.trans z) b138 p1 bud (fun n pp a b ho => Or.inr ⟨⟨a, b⟩, pp, ho⟩) hNM).join (fq z)
    · rw [if_neg c] at ws
      have pr : (R_X13_behindFirst (g + 1)).2.2.2.2.1 (nI (G u)) r1 = some r1 := by
        show m_X13_prepare (R_X13_behindFirst g) (nI (G u)) r1 = _
        unfold m_X13_prepare
        rw [if_neg (by rw [e97]; exact c)]
      exact ⟨r1, F, ⟨EK.w EK_Z (Kc := KcZ Y) K1 (Nat.le_refl _) bE.1, N1⟩, e98, e103, by rw [ws]; exact e97, fun z => absurd (ws.symm.trans z) c, LL r1 pr l2_fr.rf⟩
/-- a node with parts -/
theorem prt_node {E M G : Nat → Nat} {wj : Nat → Int32} {e0 e1 : Nat} (hn : n < 13000) (hk : r0.1 955 n = nI K) (hK : K < 100 ∧ K ≠ 38 ∧ K ≠ 28) (h59 : r0.1 959 n = (if 0 < v then nI (G 0) else -1)) (hE : px_B v e0 e1 E) (hM : px_B v ma mb M) (hv : v ≤ 16) (hG : ∀ j, j < v → G j < 13000 ∧ r0.1 960 (G j) = (if j + 1 < v then nI (G (j + 1)) else -1)) (hY : ∀ n, Y n → YD n ∧ ¬ (m0 ≤ n ∧ n < m1)) (hm : m0 ≤ ma ∧ mb ≤ m1) (hOW : ∀ n pp, OW n pp → m0 ≤ n → n < m1 → YD n) (hNM : ∀ n v, NM n v → v < 60) (hq : ∀ k, m0 ≤ k → k < m1 → ¬ (ma ≤ k ∧ k < mb) → (∀ pp, ¬ OW k pp) ∧ ∀ v, ¬ NM k v) (hp : ∀ j, j < v → ∀ Y : Nat → Prop, (∀ n, Y n → YD n ∧ ¬ (M j ≤ n ∧ n < M (j + 1))) → PRt c0 r0 P TS wt OW NM Y hb sb (g + 1) (E j) (E (j + 1)) (M j) (M (j + 1)) (G j) (wj j)) : PRt c0 r0 P TS wt OW NM Y hb sb (g + 2) e0 e1 m0 m1 n (wfs wj v) := by
  intro r H S pc z0 h98 h97 h103 hH hS h138 h135 hpot hT
  obtain ⟨r', F, K1, e98, e103, e97, hQ, L⟩ := prt_parts (v := v) hE hM hG (fun n hn => ⟨(hY n hn).1, fun z => (hY n hn).2 ⟨by omega, by omega⟩⟩) (fun n pp ho a b => hOW n pp ho (by omega) (by omega)) hNM hp z0 h98 h97 h103 hH hS h138 h135 hpot hT v (Nat.le_refl _)
  rw [hE.2.1] at K1
  rw [hM.2.1] at hQ
  refine ⟨r', ?_, F, K1, e98, e103, e97, fun z => (hQ z).wide hq⟩
  have e55 : r.1 955 n = nI K := ((ez_r (b := 955) (j := n) z0 (by omega)).1).trans hk
  have e59 : r.1 959 n = (if 0 < v then nI (G 0) else -1) := ((ez_r (b := 959) (j := n) z0 (by omega)).1).trans h59
  have n38 : ¬ nI K = (38 : Int32) := fun y => hK.2.1 ((nI_eq (b := 38) (by omega) (by decide)).mp y)
  have n28 : ¬ nI K = (28 : Int32) := fun y => hK.2.2 ((nI_eq (b := 28) (by omega) (by decide)).mp y)
  show m_X13_prepare (R_X13_behindFirst (g + 1)) (nI n) r = some r'
  unfold m_X13_prepare
  rw [if_pos h97, if_pos (l2_ix hn (by decide)), nI_clamp (n := n) (by omega), e55, if_neg n38, if_neg n28, e59]
  have nN := l2_N
  rw [show t_N = (t_N - v - 1 + 1) + v by omega, L, if_neg (Nat.lt_irrefl v)]
  refine l2_lpR ?_
  show k_X13_prepare_195 _ (-1) r' = _
  unfold k_X13_prepare_195
  rw [if_pos (by decide)]
  rfl
end
