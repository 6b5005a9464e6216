/-! Level 2: bases on both sides: where they begin, how a leaf ends. -/
noncomputable def bsC (rc : RT_X6_readBase) (x : Int32) (c : t_S) : Option t_S := (f_X6_node c).bind (fun r1 => if (r1.1 1 11) = (0 : Int32) then rc.1 x r1 else some r1)
theorem k165_eq {rc : RT_X6_readBase} {x l2 : Int32} {c : t_S} : k_X6_readOne_165 rc x l2 c = (bsC rc x c).bind (fun r2 => k_X6_readOne_184 rc x l2 r2) := by
  unfold k_X6_readOne_165 bsC
  cases f_X6_node c with
  | none => rfl
  | some r1 =>
    rw [l2_bs, l2_bs]
    by_cases z : r1.1 1 11 = 0
    · rw [if_pos z, if_pos z]
    · rw [if_neg z, if_neg z]; rfl
/-- some counters go on -/
theorem xp.up {P : pc_S} {E : en_S} {u d z q m t e p l w o s i dd e' p' l' s' : Nat} {c r c' r' : t_S} {Wc Wr : Nat → Nat → Prop} (h : xp P E u d z q m t e p l w o s i dd c r) (fc : l2_fr Wc c c') (fr : l2_fr Wr r r') (w1 : ∀ b j, Wc b j → (334 ≤ b ∧ b ≤ 337) ∨ (354 ≤ b ∧ b ≤ 362) ∨ (846 ≤ b ∧ b ≤ 855)) (w2 : ∀ b j, Wr b j → (955 ≤ b ∧ b ≤ 963) ∨ b = 1003 ∨ (b = 950 ∧ j = 36)) (k2 : c'.1 334 2 = nI e') (k3 : c'.1 334 4 = nI p') (k4 : c'.1 846 6 = nI l') (k7 : r'.1 950 36 = nI s') : xp P E u d z q m t e' p' l' w o s' i dd c' r' := by
  obtain ⟨x1, x2, x3, x4, x5, x6, x7, x8, x9, x10, x11⟩ := h
  refine ⟨x1.fr fc fr (fun j y => ?_) (fun b i _ _ y => ?_) (fun b i _ _ y => ?_) (fun y => ?_) (fun j _ y => ?_) (fun b i _ _ y => ?_), x2.fr fc fr (fun j _ _ y => ?_) (fun b i _ _ y => ?_) ⟨fun y => ?_, fun y => ?_⟩, ?_, k2, k3, k4, ?_, ?_, k7, ?_, ?_⟩
  · have := w1 _ _ y; omega
  · have := w1 _ _ y; omega
  · have := w1 _ _ y; omega
  · have := w1 _ _ y; omega
  · have := w2 _ _ y; omega
  · have := w2 _ _ y; omega
  · have := w1 _ _ y; omega
  · have := w1 _ _ y; omega
  · have := w2 _ _ y; omega
  · have := w2 _ _ y; omega
  · rw [(fc 353 9 (fun y => by have := w1 _ _ y; omega)).1]; exact x3
  · rw [(fc 845 7 (fun y => by have := w1 _ _ y; omega)).1]; exact x7
  · rw [(fc 845 9 (fun y => by have := w1 _ _ y; omega)).1]; exact x8
  · rw [(fr 950 26 (fun y => by have := w2 _ _ y; omega)).1]; exact x10
  · rw [(fr 950 32 (fun y => by have := w2 _ _ y; omega)).1]; exact x11
/-- what a base comes to -/
def bO_R (P : pc_S) (E : en_S) (u q m t e p l w o s i dd : Nat) (c r c' : t_S) (y : Int32 × t_S) : Prop := (∃ n, y.1 = nI n ∧ xG P E 0 0 (20 * dd) u q m t e p l w o s i dd c r n c' y.2) ∨ xf P t e p l w o w m s c r c' y.2
/-- its node is made -/
def bG (P : pc_S) (E : en_S) (K u q m t e p l w o s i dd : Nat) (c r c2 r2 : t_S) : Prop := m < 12999 ∧ q < 3000 ∧ xp P E u 0 1 (q + 1) (m + 1) t e p l w o s i dd c2 r2 ∧ l2_fr (fun b j => b = 845 ∧ j = 10) c c2 ∧ l2_fr (xn_W m) r r2 ∧ nd_at r2 m (nI K) (r.1 950 6)
section
variable {P : pc_S} {E : en_S} {x : Int32} {EB PB IB K u q m t e p l w o s i dd : Nat} {c r : t_S} {rc : RT_X6_readBase}
theorem bG.fc {c2 r2 : t_S} (B : bG P E K u q m t e p l w o s i dd c r c2 r2) : l2_fr (xWc t e p l w o) c c2 ∧ l2_fr (xWr m s) r r2 := ⟨B.2.2.2.1.mono (fun b j y => by obtain ⟨rfl, rfl⟩ := y; exact xWc.i845 (by decide)), B.2.2.2.2.1.mono (fun b j y => xn_r y)⟩
theorem bs_mk {G : Int32 × t_S → Option (Int32 × t_S)} (X : xp P E u 0 0 q m t e p l w o s i dd c r) (hb : xb P EB PB IB u q t e p l w o s i dd) (hK : 42 ≤ K ∧ K < 100) (hF : ∀ f p0 j r1, xR P f p0 m s r r1 → m ≤ j → j < 13000 → r1.1 950 5 = r.1 950 5 → r1.1 950 10 = r.1 950 10 → t_hk (G (nI j, r1)) (fun y => xR P f p0 m s r y.2)) (main : ∀ c2 r2, bG P E K u q m t e p l w o s i dd c r c2 r2 → t_h2 (rc.1 x c2) (G (nI m, r2)) (bO_R P E u q m t e p l w o s i dd c r)) : t_h2 (bsC rc x c) ((f_X13_node (nI K) 1 r).bind G) (bO_R P E u q m t e p l w o s i dd c r) := by
  have ple := X.1.ple
  have hb' := hb
  unfold xb at hb'
  unfold bsC
  refine h2_bb _ (xp_node X (by omega) s) (fun c1 y hy => ?_)
  obtain ⟨y0, r1⟩ := y
  rcases hy with ⟨hq, g1, hm, y1, y2, y3, y4, X1⟩ | ⟨g1, f, p0, y1, y2, ⟨j, j1, j2, j3⟩, y4, y5⟩
  rotate_left
  · have j3 : y0 = nI j := j3
    subst j3
    refine h2_noL y1.ne (h2_doneL (l2_imp (hF f p0 j r1 y2 j1 j2 y4 y5) (fun y hy => Or.inr ⟨f, p0, ?_, hy⟩)))
    exact xF.of X (by omega) (by omega) ⟨Nat.le_refl _, by omega⟩ ⟨Nat.le_refl _, Nat.le_refl _⟩ l2_fr.rf g1 (fun b j z => x_la z) ⟨by unfold la_W; omega, by unfold la_W; omega, by unfold la_W; omega⟩ (fun j => by unfold la_W; omega) y1 xw.nil
  have y1 : y0 = nI m := y1
  subst y1
  rw [if_neg (by omega)] at X1
  have X1 : xp P E u 0 1 (q + 1) (m + 1) t e p l w o s i dd c1 r1 := X1
  exact h2_ckL X1.1.f0.1 (main c1 r1 ⟨hm, hq, X1, g1, y2, y3⟩)
/-- a leaf, ahead of its token -/
theorem bs_fin {d1 p1 l1 s1 : Nat} {c3 r3 : t_S} (hb : xb P EB PB IB u q t e p l w o s i dd) (hd : d1 = 1 ∨ c3.1 1 8 ≠ 1) (h4 : c3.1 1 8 ≠ 4) (X : xp P E u d1 1 (q + 1) (m + 1) t (e + 1) p1 l1 w o s1 i dd c3 r3) (hp : p ≤ p1 ∧ 2 * p1 + pc_p P u ≤ 2 * p + pc_p P (u + 1) + 1) (hl : l ≤ l1 ∧ l1 + pc_c P u ≤ l + pc_c P (u + 1)) (hs : s ≤ s1 ∧ s1 + pc_p P u ≤ s + pc_p P (u + 1)) (fc : l2_fr (xWc t e p l w o) c c3) (fr : l2_fr (xWr m s) r r3) (hX : px_leaf (wn_R E c3 r3 l l1) (an_R E c3 r3 l l1) c3 r3 p1 s1 e m) (D : xD E c c3 r3 l l1 i i m (m + 1)) (h60 : r3.1 960 m = -1) : t_h2 (f_X2_advance c3) ((f_X13_next r3).bind (fun r4 => some (nI m, r4))) (bO_R P E u q m t e p l w o s i dd c r) := by
  have ple := X.1.ple
  have ml := (X.1.mle (by decide)).1
  have hb' := hb
  unfold xb at hb'
  have eid : f_X2_advance c3 = (f_X2_advance c3).bind (fun v => some v) := by cases f_X2_advance c3 <;> rfl
  rw [eid]
  refine h2_bb _ (xp_adv X (by decide) hd h4) (fun c4 r4 hw => h2_sm ?_)
  obtain ⟨g1, g2, g3⟩ := hw
  rcases g3 with ⟨X4, l1', l2'⟩ | g3
  · refine Or.inl ⟨m, rfl, u + 1, q + 1, m + 1, t, e + 1, p1, l1, s1, i, ?_, by omega, X4, fc.trans (g1.mono (fun b j z => x_la z)), fr.trans (g2.mono (fun b j z => x_rn z)), ?_, D.own g1 g2 (fun b j y => by unfold la_W at y; omega) (fun b j y => by unfold rn_W at y; omega), ?_, fun y => absurd rfl y⟩
    · unfold xk
      omega
    · have x0 : XR (wn_R E c3 r3 l l1) (an_R E c3 r3 l l1) (tn_R E c3 r3 l l1) (sn_R c3) c3 r3 p1 s1 (0 + 1) 0 0 (20 * dd) e (e + 1) t t m (m + 1) m := ⟨by omega, Nat.le_refl _, Nat.le_refl _, by omega, Or.inl ⟨⟨rfl, (by have q0 := hb; unfold xb at q0; omega)⟩, Or.inl ⟨rfl, rfl, rfl, rfl, hX⟩⟩⟩
      rw [show m + 1 - m = 0 + 1 by omega]
      exact x0.own g1 g2 (Nat.le_refl _) (Nat.le_refl _) (Nat.le_refl _) ⟨Nat.le_refl _, Nat.le_refl _⟩ (fun b j y => by unfold la_W at y; omega) (fun b j y => by unfold rn_W at y; omega)
    · show r4.1 960 m = -1
      rw [(g2 960 m (by unfold rn_W; omega)).1]; exact h60
  · exact Or.inr (xf.of X (by decide) (by omega) (by omega) ⟨Nat.le_refl _, by omega⟩ ⟨by omega, Nat.le_refl _, by omega, hs.1⟩ fc fr g1 g2 g3 xw.nil)
end
/-- the class behind the token of a leaf -/
theorem k326p {rc : RT_X6_readBase} {l1 l2 : Int32} {s : t_S} (h : l2 = 1 ∨ l2 = 2 ∨ l2 = 3 ∨ l2 = 221 ∨ l2 = 222 ∨ l2 = 223 ∨ l2 = 231 ∨ l2 = 232 ∨ l2 = 233) : k_X6_readBase_326 rc l1 l2 s = f_X2_advance s := by
  unfold k_X6_readBase_326
  cases f_X2_advance s with
  | none => rfl
  | some r1 =>
    rw [l2_bs]
    rcases h with rfl | rfl | rfl | rfl | rfl | rfl | rfl | rfl | rfl <;> rw [if_neg (by decide), if_neg (by decide), if_neg (by decide), if_neg (by decide), if_neg (by decide), if_neg (by decide)]
/-- words that can't be where nothing runs -/
def wq_T (x : Int32) : Prop := x = 231 ∨ x = 232 ∨ x = 233 ∨ x = 235 ∨ x = 236 ∨ x = 234
theorem mb_0 {rc : RT_X6_readBase} {x v : Int32} {c : t_S} (h8 : c.1 1 8 = v) (h : ¬ wq_T v) : m_X6_readBase rc x c = k_X6_readBase_82 rc x v c := by
  unfold wq_T at h
  unfold m_X6_readBase k_X6_readBase_55
  rw [h8, if_neg (fun y => h (by rw [y]; decide)), if_neg (fun y => h (by rw [y]; decide)), if_neg (fun y => h (by rw [y]; decide)), if_neg (fun y => h (by rw [y]; decide)), if_neg (fun y => h (by rw [y]; decide)), if_neg (fun y => h (by rw [y]; decide))]
  by_cases z : c.1 845 15 = 0
  · rw [if_pos z]
  · rw [if_neg z, if_pos rfl]
noncomputable def ltI (c : t_S) : Option t_S := if c.1 845 15 = 0 then some c else f_X3_late 4 (c.1 1 9) c
theorem mb_1 {rc : RT_X6_readBase} {x v : Int32} {c : t_S} (h8 : c.1 1 8 = v) (h : wq_T v) : m_X6_readBase rc x c = (ltI c).bind (fun r1 => k_X6_readBase_82 rc x v r1) := by
  have e : m_X6_readBase rc x c = k_X6_readBase_50 rc x v c := by
    unfold m_X6_readBase
    rw [h8]
    rcases h with rfl | rfl | rfl | rfl | rfl | rfl
    · rw [if_pos (by decide)]
    · rw [if_neg (by decide), if_pos (by decide)]
    · rw [if_neg (by decide), if_neg (by decide), if_pos (by decide)]
    · rw [if_neg (by decide), if_neg (by decide), if_neg (by decide), if_pos (by decide)]
    · rw [if_neg (by decide), if_neg (by decide), if_neg (by decide), if_neg (by decide), if_pos (by decide)]
    · rw [if_neg (by decide), if_neg (by decide), if_neg (by decide), if_neg (by decide), if_neg (by decide), if_pos (by decide)]
  rw [e]
  unfold k_X6_readBase_50 k_X6_readBase_55 ltI
  by_cases z : c.1 845 15 = 0
  · rw [if_pos z, if_pos z]; rfl
  · rw [if_neg z, if_neg z, if_neg (by decide)]
theorem ltI_h {P : pc_S} {E : en_S} {u d z q m t e p l w o s i dd : Nat} {c r : t_S} (X : xp P E u d z q m t e p l w o s i dd c r) : t_hk (ltI c) (fun c' => l2_fr (fun b j => b = 846 ∧ (j = 7 ∨ j = 8)) c c' ∧ ∀ S, lt_R c S → lt_R c' (fun p => S p ∨ (E.2.2.2.1 = 1 ∧ p = pc_p P u))) := by
  have kn := X.2.1.kn
  have cle := X.1.cle
  unfold ltI
  rw [kn.2.2.1, cle.2.1]
  by_cases z : E.2.2.2.1 = 0
  · rw [z]
    exact l2_ck rfl (l2_sm ⟨l2_fr.rf, fun S hS => hS.iff (fun y => ⟨Or.inl, fun q => q.elim id (fun q => by omega)⟩)⟩)
  · have e1 : E.2.2.2.1 = 1 := by have := kn.2.2.2.1; omega
    rw [e1]
    exact l2_no (by decide) (l2_imp (lt_late cle.2.2.2) (fun c' hc => ⟨hc.1, fun S hS => (hc.2 S hS).iff (fun y => ⟨fun q => q.elim Or.inl (fun q => Or.inr ⟨rfl, q⟩), fun q => q.elim Or.inl (fun q => Or.inr q.2)⟩)⟩))
/-- a number's cell -/
theorem pn_cell {v : Nat} (hv : v < 10 ^ 15) (s : t_S) : vl_c v 1 0 (f_X8_plainCell 0 (lN v) s) := by
  unfold f_X8_plainCell
  rw [show ((12 : Int32).toInt64 &&& 63) = ((nI 12).toInt64 &&& 63) from rfl, wb_shl v (by decide), show (16 : Int64) = lN 16 from rfl, wb_or (by omega) (by decide), show (0 : Int32).toInt64 = lN 0 from rfl]
  have e1 : v * 2 ^ 12 ||| 16 = v * 4096 + 16 := by
    rw [Nat.mul_comm v, ← Nat.two_pow_add_eq_or_of_lt (by decide)]
  rw [e1, wb_or (by omega) (by decide), Nat.or_zero]
  refine ⟨?_, by decide, by decide⟩
  rw [pk_lT (by omega)]
  omega
