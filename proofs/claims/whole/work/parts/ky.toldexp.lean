/-! Level 2: exps of told templates: nothing is seen of a run; what they come to, on both sides, at any time. -/
/-- what sees a run, or holds a VALUE against a templ -/
def TB (r : t_S) (n : Nat) : Prop := ∃ K : Nat, r.1 955 n = nI K ∧ (55 ≤ K ∧ K ≤ 57 ∨ 61 ≤ K ∧ K ≤ 63)
def kT : KPP := ⟨400, 0, 13000, fun _ _ _ => True⟩
def KcT (c c' : t_S) : Prop := l2_fr eBc c c'
def KrT (x y : Nat) (r r' : t_S) : Prop := x ≤ y ∧ (r'.1 950 97 = 0 → r.1 950 97 = 0) ∧ l2_fr eBr r r'
theorem EK_T : EK KcT KrT := ⟨⟨fun _ _ f => f, fun _ _ _ h g => h.trans g⟩, fun _ _ _ _ h h97 f => ⟨h, h97, f⟩, fun _ _ _ _ _ _ h g => ⟨Nat.le_trans h.1 g.1, fun y => h.2.1 (g.2.1 y), h.2.2.trans g.2.2⟩⟩
theorem ev_told {WN AN TN : Nat → Nat → Prop} {SN : Nat → Nat → Prop} {c0 r0 : t_S} {p1 s1 cnt nc : Nat} (h2 : c0.1 334 2 = nI nc) (hcN : cnt ≤ nc) (hc : nc ≤ 16000) (hp1 : p1 ≤ 26000) (hs1 : s1 ≤ 24300) (hW : ∀ e n, WN e n → WV c0 r0 e n) : ∀ f, EvI WN AN TN SN kT c0 r0 KcT KrT (fun _ => False) (TB r0) p1 s1 cnt f := by
  intro f
  induction f with
  | zero => exact ev_0
  | succ f ih => exact ev_up EK_T h2 hcN hc hp1 hs1 hW (fun e n k y => absurd ⟨63, k, by omega⟩ y) (fun n K k hk y => absurd ⟨K, k, by omega⟩ y) ih (fun lv rr e0 e1 t0 t1 m0 m1 n g _ _ _ _ h3 h4 h dj => absurd ⟨61, h.2.2.1, by omega⟩ (dj.2 n h3 h4))
/-- a told exp: operations a .. b - 1, nodes M0 .. M1 - 1, n its root, in all states that are so -/
def TX (c : t_S) (RM : t_S → Prop) (a b M0 M1 n : Nat) : Prop := (a < b ∧ M1 ≤ 13000 ∧ ∃ nc : Nat, c.1 334 2 = nI nc ∧ b ≤ nc ∧ nc ≤ 16000) ∧ ∀ r, RM r → ∃ (WN AN TN SN : Nat → Nat → Prop) (p1 s1 f rr T0 T1 : Nat) (lv : Int32), p1 ≤ 26000 ∧ s1 ≤ 24300 ∧ 10 ≤ rr ∧ XR WN AN TN SN c r p1 s1 f 0 lv rr a b T0 T1 M0 M1 n ∧ (∀ k, M0 ≤ k → k < M1 → ¬ TB r k) ∧ ∀ e k, WN e k → WV c r e k
/-- what working it out does -/
def TXo (c r c' r' : t_S) (a b H S : Nat) : Prop := (∃ i u, u ≤ b - a ∧ a ≤ i ∧ i ≤ b ∧ l2_tn b_X0_work_12 u (nI a, c) (nI i, c') ∧ ((i = b ∧ Eg 0 0 H S c' r') ∨ Eb a b S c' r')) ∧ (l2_fr (eWc c 0 0) c c' ∧ l2_fr eBc c c') ∧ l2_fr (eWr H S) r r' ∧ l2_fr eBr r r'
section
variable {c r c' r' : t_S} {RM : t_S → Prop} {a b M0 M1 n g H S : Nat}
theorem TX.run (X : TX c RM a b M0 M1 n) (hc : c.1 334 7 = 0 ∧ c.1 339 0 = 0 ∧ c.1 334 12 = 0) (hr : RM r) (h98 : r.1 950 98 = nI H) (hH : H ≤ 395) (h97 : r.1 950 97 = 0) (h103 : r.1 950 103 = nI S) (hS : S + (M1 - M0) ≤ 13000) (hg : 337 ≤ g) : ∃ c' r', m_X13_work (R_X13_behindFirst g) (nI n) r = some r' ∧ TXo c r c' r' a b H S := by
  obtain ⟨⟨hab, hM, nc, n1, n2, n3⟩, hX⟩ := X
  obtain ⟨WN, AN, TN, SN, p1, s1, f, rr, T0, T1, lv, hp, hs, h10, x, ntb, hW⟩ := hX r hr
  have rk := x.rk
  have ev := ev_told (cnt := b) n1 n2 n3 hp hs hW f lv rr a b T0 T1 M0 M1 n g x ⟨fun _ _ _ y => y, ntb⟩ (show 3 * mu rr + 10 + 0 ≤ g by unfold mu; omega) (Nat.le_refl _) hM
  have hE : Ein kT c r rr 0 0 H S c r := ⟨⟨l2_fr.rf, l2_fr.rf⟩, ⟨hc.1, hc.2.1, hc.2.2⟩, ⟨h98, h97, h103⟩, by omega, by omega, show H + 15 ≤ 400 + rr ∧ 400 ≤ 400 ∧ 13000 ≤ 13000 by omega⟩
  obtain ⟨c', r', i, u, ⟨u1, u2, u3, u4⟩, F, O, W⟩ := ev c r 0 0 H S hE ⟨a, c, r, trivial, l2_fr.rf, Nat.le_refl _, fun y => y, l2_fr.rf⟩ hS
  have e103 : r'.1 950 103 = nI S := by
    rcases O with ⟨_, q⟩ | q
    · exact q.2.2.2.2
    · exact q.s3
  exact ⟨c', r', W.work (by omega) h103 e103 (by omega), ⟨i, u, u1, u2, u3, u4, O⟩, ⟨F.1, F.2.2.1⟩, F.2.1, F.2.2.2.2.2⟩
end
/-- what an exp comes to in the reference, whenever: the ERROR er, or the VALUE at pp of P -/
def SVt (P : Nat → Int64) (RM : t_S → Prop) (M0 M1 n er pp : Nat) : Prop := ∀ g r H S, 337 ≤ g → RM r → r.1 950 98 = nI H → H ≤ 395 → r.1 950 97 = 0 → r.1 950 103 = nI S → S + (M1 - M0) ≤ 13000 → ∃ r', m_X13_work (R_X13_behindFirst g) (nI n) r = some r' ∧ l2_fr (eWr H S) r r' ∧ l2_fr eBr r r' ∧ r'.1 950 103 = nI S ∧ r'.1 950 97 = nI er ∧ (er = 0 → r'.1 950 98 = nI (H + 1) ∧ ∃ nn mm, VW P (r'.2.1 1006) 120 pp (260 * (40 + H)) nn mm)
/-- one VALUE on one side, told by two on the other -/
theorem vw_via {A B R R' : Nat → Int64} {f1 f2 f3 a b p p' n m n2 m2 n3 m3 : Nat} (h1 : VW A R f1 a p n m) (h2 : VW B R f2 b p n2 m2) (h3 : VW B R' f3 b p' n3 m3) : VW A R' f3 a p' n3 m3 := by
  obtain ⟨e1, _, e3⟩ := VR.sameC kp_wd2 _ _ _ _ _ _ _ _ _ _ (VW.vr _ _ _ _ _ h2) (VW.vr _ _ _ _ _ h1) (fun _ _ => rfl)
  obtain ⟨t2, k2, v2, -⟩ := h2.hd
  obtain ⟨t3, k3, v3, -⟩ := h3.hd
  have s2 := (vk_of v2).2
  have s3 := (vk_of v3).2
  exact VW.copy _ _ _ _ _ _ _ h3 (fun d hd => e3 d (by omega)) (fun _ _ => rfl)
