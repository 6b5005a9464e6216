/-! Level 2: simple statements: what they come to, their end. -/
section
variable {P : pc_S} {nt : Nat → Nat} {f n n' n2 n3 Y a g f2 p0 ln : Nat} {L L' v : Nat → Nat} {ka : Int32} {k k0 k1 k2 k' : Nat → Nat} {c0 r0 c r c1 r1 c2 r2 c' r' : t_S} {A B A' B' : Nat → Prop}
theorem mB.wide {zT : Prop} {l l' i i' m m' s b1 b2 : Nat} (h : mB zT n2 n3 c0 c r l l' i i' m m' s s) (h2 : ∀ x, b1 ≤ x → x < b2 → r.1 988 x ≠ 2) : mB zT n2 n3 c0 c r l l' i i' m m' b1 b2 := by
  obtain ⟨x1, x2, x3, x4, x5, x6⟩ := h
  refine ⟨fun k a b => ?_, fun e a b => ?_, x3, x4, x5, fun s s1 s2 s3 => absurd s3 (h2 s s1 s2)⟩
  · rcases x1 k a b with y | ⟨y, _⟩ | ⟨_, _, _, s, s1, s2, _⟩
    · exact Or.inl y
    · exact Or.inr (Or.inl ⟨y, fun s s1 s2 s3 => absurd s3 (h2 s s1 s2)⟩)
    · omega
  · rcases x2 e a b with y | y | y | y | ⟨s, s1, s2, _⟩
    · exact Or.inl y
    · obtain ⟨E, k, y1, y2, y3, y4, _⟩ := y
      exact Or.inr (Or.inl ⟨E, k, y1, y2, y3, y4, fun s s1 s2 s3 => absurd s3 (h2 s s1 s2)⟩)
    · exact Or.inr (Or.inr (Or.inl y))
    · exact Or.inr (Or.inr (Or.inr (Or.inl y)))
    · omega
/-- one behind the other, over the same lines -/
theorem mB.same {zT : Prop} {l l1 l2 i i1 i2 m m1 m2 b1 b2 : Nat} (h : mB zT n2 n3 c0 c1 r l l1 i i1 m m1 b1 b2) (q : mB zT n2 n3 c1 c2 r l1 l2 i1 i2 m1 m2 b1 b2) (o : l ≤ l1 ∧ l1 ≤ l2 ∧ i ≤ i1 ∧ i1 ≤ i2 ∧ m ≤ m1 ∧ m1 ≤ m2) (hc : mL_c c1 c2 l1) : mB zT n2 n3 c0 c2 r l l2 i i2 m m2 b1 b2 := by
  obtain ⟨h1', h2', h3', ⟨ix, h4'⟩, h5', h6'⟩ := h
  obtain ⟨g1', g2', g3', ⟨iy, g4'⟩, g5', g6'⟩ := q
  obtain ⟨o1, o2, o3, o4, o5, o6⟩ := o
  have rr : ∀ {m m' : Nat}, xD_r r r m m' := fun _ _ _ => ⟨rfl, rfl, rfl, rfl, rfl, rfl, fun _ => rfl⟩
  have ss : ∀ {m m' : Nat}, mS_r r r m m' := fun _ _ _ _ _ _ _ => rfl
  have kk : mK n2 n3 r r := mK.of (l2_fr.rf (W := fun _ _ => False)) (fun _ _ _ y => y)
  refine ⟨fun k a b => ?_, fun e a b => ?_, fun S hS => ?_, ?_, fun x hx => ?_, fun s a b d => ?_⟩
  · by_cases z : k < m1
    · exact (h1' k a z).fr hc rr ss kk a z (Nat.le_refl _) (Nat.le_refl _) ⟨Nat.le_refl _, o2⟩ ⟨Nat.le_refl _, Nat.le_refl _⟩ (fun s s1 s2 s3 => absurd ⟨s1, s2⟩ s3)
    · exact (g1' k (by omega) b).fr (c' := c2) (m := m1) (m' := m2) (fun _ _ _ _ _ => rfl) rr ss kk (by omega) b (Nat.le_refl _) (Nat.le_refl _) ⟨o1, Nat.le_refl _⟩ ⟨Nat.le_refl _, Nat.le_refl _⟩ (fun s s1 s2 s3 => absurd ⟨s1, s2⟩ s3)
  · by_cases z : e < l1
    · exact (h2' e a z).fr hc z rr ss kk (Nat.le_refl _) (Nat.le_refl _) ⟨Nat.le_refl _, o6⟩ ⟨Nat.le_refl _, Nat.le_refl _⟩ (fun k _ _ s s1 s2 s3 => absurd ⟨s1, s2⟩ s3)
    · exact (g2' e (by omega) b).fr (c' := c2) (l := l2) (fun _ _ _ _ _ => rfl) b rr ss kk (Nat.le_refl _) (Nat.le_refl _) ⟨o5, Nat.le_refl _⟩ ⟨Nat.le_refl _, Nat.le_refl _⟩ (fun k _ _ s s1 s2 s3 => absurd ⟨s1, s2⟩ s3)
  · refine (g3' _ (h3' S hS)).iff (fun x => ⟨fun y => ?_, fun y => ?_⟩)
    · rcases y with (y | ⟨k, k1, k2, k3⟩) | ⟨k, k1, k2, k3⟩
      · exact Or.inl y
      · exact Or.inr ⟨k, k1, by omega, k3⟩
      · exact Or.inr ⟨k, by omega, k2, k3⟩
    · rcases y with y | ⟨k, k1, k2, k3⟩
      · exact Or.inl (Or.inl y)
      · by_cases z : k < m1
        · exact Or.inl (Or.inr ⟨k, k1, z, k3⟩)
        · exact Or.inr ⟨k, by omega, k2, k3⟩
  · obtain ⟨iz, hz1, hz2⟩ : ∃ iz : Nat → Nat, (∀ k, k < m1 → iz k = ix k) ∧ (∀ k, ¬ k < m1 → iz k = iy k) := ⟨fun k => if k < m1 then ix k else iy k, fun k z => if_pos z, fun k z => if_neg z⟩
    refine ⟨iz, fun k a b t => ?_⟩
    by_cases z : k < m1
    · obtain ⟨y1, y2, y3, y4⟩ := h4' k a z t
      rw [hz1 k z]
      refine ⟨y1, y2, by omega, fun k2 z1 z2 z3 => ?_⟩
      by_cases w : k2 < m1
      · rw [hz1 k2 w]
        exact y4 k2 z1 w z3
      · rw [hz2 k2 w]
        have := (g4' k2 (by omega) z2 z3).2.1
        omega
    · obtain ⟨y1, y2, y3, y4⟩ := g4' k (by omega) b t
      rw [hz2 k z]
      refine ⟨y1, by omega, y3, fun k2 z1 z2 z3 => ?_⟩
      rw [hz2 k2 (by omega)]
      exact y4 k2 z1 z2 z3
  · rw [g5' x hx, h5' x hx]
    refine ⟨fun y => ?_, fun y => ?_⟩
    · rcases y with (y | ⟨k, k1, k2, k3, k4⟩) | ⟨k, k1, k2, k3, k4⟩
      · exact Or.inl y
      · exact Or.inr ⟨k, k1, by omega, k3, k4⟩
      · exact Or.inr ⟨k, by omega, k2, k3, k4⟩
    · rcases y with y | ⟨k, k1, k2, k3, k4⟩
      · exact Or.inl (Or.inl y)
      · by_cases z : k < m1
        · exact Or.inl (Or.inr ⟨k, k1, z, k3, k4⟩)
        · exact Or.inr ⟨k, by omega, k2, k3, k4⟩
  · obtain ⟨k, k1, k2, k3⟩ := h6' s a b d
    exact ⟨k, k1, by omega, k3⟩
/-- .. and its function -/
def stF_R (f n2 n3 : Nat) (c r : t_S) (t e p l s m hi ln : Nat) : Prop := st_R n2 n3 c r t e p l s m hi ln ∧ r.1 1001 ln = nI f
theorem stF_R.fr {n2 n3 a2 a3 t e p l s m t2 e2 p2 l2 s2 m2 hi hi2 ln : Nat} {c r c' r' : t_S} {Wc Wr : Nat → Nat → Prop} (h : stF_R f n2 n3 c r t e p l s m hi ln) (fc : l2_fr Wc c c') (fr : l2_fr Wr r r') (w1 : cp_c Wc t e p l) (w2 : cp_r Wr m s) (hk : mK n2 n3 r r') (h2 : n2 ≤ a2) (h3 : n3 ≤ a3) (o : t ≤ t2 ∧ e ≤ e2 ∧ p ≤ p2 ∧ l ≤ l2 ∧ s ≤ s2 ∧ m ≤ m2) (hh : hi ≤ hi2) (hc : ∀ j, c'.1 (445 + ln) j = c.1 (445 + ln) j) (hr : ∀ x, 988 ≤ x → x ≤ 1002 → r'.1 x ln = r.1 x ln) (hV : ∀ f td cnt, f < n3 → f < 40 → td < cnt → cnt ≤ 8 → r.1 986 f = nI cnt → c'.1 443 (8 * f + td) = c.1 443 (8 * f + td)) : stF_R f a2 a3 c' r' t2 e2 p2 l2 s2 m2 hi2 ln := ⟨h.1.fr fc fr w1 w2 hk h2 h3 o hh hc hr hV, by rw [hr 1001 (by decide) (by decide)]; exact h.2⟩
/-- a statement read well -/
def so_G (P : pc_S) (nt : Nat → Nat) (f n2 n3 Y n : Nat) (L : Nat → Nat) (ka : Int32) (a g : Nat) (k : Nat → Nat) (c r c' r' : t_S) : Prop := ∃ (k' : Nat → Nat) (n' : Nat) (L' : Nat → Nat), k 0 < k' 0 ∧ k 9 < k' 9 ∧ fs P nt f n2 Y n' L' ka a g k' c' r' ∧ n ≤ n' ∧ gr k k' ∧ l2_fr (sf_Wc f n k (k 9)) c c' ∧ l2_fr (sf_Wr f n k (k 9)) r r' ∧ mK n2 n3 r r' ∧ mB False n2 n3 c c' r' (k 6) (k' 6) (k 8) (k' 8) (k 2) (k' 2) (k 9) (k' 9) ∧ (∀ ln, k 9 ≤ ln → ln < k' 9 → stF_R f n2 n3 c' r' (k' 3) (k' 4) (k' 5) (k' 6) (k' 7) (k' 2) (k' 9) ln) ∧ c'.1 (445 + k 9) 1 = -1 ∧ r'.1 989 (k 9) = -1
def so_O (P : pc_S) (nt : Nat → Nat) (f n2 n3 Y n : Nat) (L : Nat → Nat) (ka : Int32) (a g : Nat) (k : Nat → Nat) (c r : t_S) (x y : Int32 × t_S) : Prop := (x.1 = nI (k 9) ∧ y.1 = nI (k 9) ∧ so_G P nt f n2 n3 Y n L ka a g k c r x.2 y.2) ∨ ∃ f2 p0, zS f f2 p0 c x.2 ∧ yS P f f2 p0 r y.2
/-- what its body has written of its line -/
def sA (j : Nat) : Prop := 5 ≤ j ∧ j ≤ 10
def sE (x : Nat) : Prop := x = 988 ∨ (991 ≤ x ∧ x ≤ 996) ∨ x = 1000
/-- a simple statement's body: from line ln's opening to its end -/
def sr_G (P : pc_S) (nt : Nat → Nat) (f n2 n3 Y n : Nat) (v : Nat → Nat) (ka : Int32) (a g ln so K V : Nat) (k1 : Nat → Nat) (c1 r1 c' r' : t_S) : Prop := ∃ (k' : Nat → Nat) (n' : Nat) (L' : Nat → Nat), fs P nt f n2 Y n' L' ka a g k' c' r' ∧ n ≤ n' ∧ k' 9 = k1 9 ∧ k1 0 ≤ k' 0 ∧ sn n2 n3 f n ln sA sE k1 c1 r1 k' c' r' ∧ mB False n2 n3 c1 c' r' (k1 6) (k' 6) (k1 8) (k' 8) (k1 2) (k' 2) ln (ln + 1) ∧ sk_R n2 n3 (E_f f n v) v c' r' (k' 3) (k' 4) (k' 5) (k' 6) (k' 7) (k' 2) f n ln so K V ∧ r'.1 988 ln = nI K ∧ r'.1 1000 ln = sl_v V
/-- a line that is whole: what stands in it -/
theorem op_R.st {so K V hi : Nat} {up : Int32} (op : op_R c1 r1 f n ln (nI so) up 0) (q : sn n2 n3 f n ln sA sE k1 c1 r1 k' c' r') (hf : f < 40) (hn : n ≤ 8) (hso : so < 30 ∧ K < 30 ∧ V < 10) (hu : up = -1 ∨ ∃ j, j < ln ∧ up = nI j) (hm : mE n2 n3 r' (E_f f n v)) (h88 : r'.1 988 ln = nI K) (h10 : r'.1 1000 ln = sl_v V) (hno : K ≠ 20) (hs : sk_R n2 n3 (E_f f n v) v c' r' (k' 3) (k' 4) (k' 5) (k' 6) (k' 7) (k' 2) f n ln so K V) (hso2 : so ≠ 22 ∧ so ≠ 23) : stF_R f n2 n3 c' r' (k' 3) (k' 4) (k' 5) (k' 6) (k' 7) (k' 2) hi ln ∧ c'.1 (445 + ln) 1 = -1 ∧ r'.1 989 ln = -1 := by
  obtain ⟨⟨a1, a2, a3⟩, b1, b2, b3, b4, b5, b6, b7, b8, b9, b10, b11, b12, b13⟩ := op
  have cc : ∀ j, j < 12 → ¬ sA j → c'.1 (445 + ln) j = c1.1 (445 + ln) j := q.2.2.2.1
  have rr : ∀ x, 988 ≤ x → x ≤ 1002 → ¬ sE x → r'.1 x ln = r1.1 x ln := q.2.2.2.2.1
  have c0 : c'.1 (445 + ln) 0 = nI so := by rw [cc 0 (by decide) (by unfold sA; omega)]; exact a1
  have c1' : c'.1 (445 + ln) 1 = -1 := by rw [cc 1 (by decide) (by unfold sA; omega)]; exact a3 1 (by decide) (by decide) (by decide)
  have c2' : c'.1 (445 + ln) 2 = up := by rw [cc 2 (by decide) (by unfold sA; omega)]; exact a2
  have c3' : c'.1 (445 + ln) 3 = -1 := by rw [cc 3 (by decide) (by unfold sA; omega)]; exact a3 3 (by decide) (by decide) (by decide)
  have c4' : c'.1 (445 + ln) 4 = -1 := by rw [cc 4 (by decide) (by unfold sA; omega)]; exact a3 4 (by decide) (by decide) (by decide)
  have d989 : r'.1 989 ln = -1 := by rw [rr 989 (by decide) (by decide) (by unfold sE; omega)]; exact b2
  have d990 : r'.1 990 ln = up := by rw [rr 990 (by decide) (by decide) (by unfold sE; omega)]; exact b3
  have d998 : r'.1 998 ln = -1 := by rw [rr 998 (by decide) (by decide) (by unfold sE; omega)]; exact b9
  have d999 : r'.1 999 ln = -1 := by rw [rr 999 (by decide) (by decide) (by unfold sE; omega)]; exact b10
  have d1001 : r'.1 1001 ln = nI f := by rw [rr 1001 (by decide) (by decide) (by unfold sE; omega)]; exact b12
  have d1002 : r'.1 1002 ln = nI n := by rw [rr 1002 (by decide) (by decide) (by unfold sE; omega)]; exact b13
  exact ⟨⟨⟨f, n, v, so, K, V, ⟨hf, hn, hso.1, hso.2.1, hso.2.2⟩, d1001, d1002, hm, c0, h88, h10, ⟨by rw [c1', d989], Or.inl c1'⟩, ⟨by rw [c2', d990], by rw [c2']; exact hu⟩, ⟨by rw [c3', d998], Or.inl c3'⟩, ⟨by rw [c4', d999], Or.inl c4'⟩, fun y => absurd y (by omega), hs⟩, d1001⟩, c1', d989⟩
/-- its end: ; -/
theorem sr_end {so K V : Nat} {up : Int32} {F : t_S → Option (Int32 × t_S)} (S0 : fs P nt f n2 Y n L ka a g k0 c0 r0) (h9 : k0 9 < 400) (sn0 : sn n2 n3 f n (k0 9) (fun _ => True) (fun _ => True) k0 c0 r0 k1 c1 r1) (q0 : sq c0 c1) (e1 : k1 9 = k0 9 + 1 ∧ k1 6 = k0 6 ∧ k1 8 = k0 8 ∧ k1 2 = k0 2 ∧ k0 0 < k1 0) (op : op_R c1 r1 f n (k0 9) (nI so) up 0) (hu : up = -1 ∨ ∃ j, j < k0 9 ∧ up = nI j) (hf3 : f < n3) (hV : en_V n 1 L v) (hk : so < 30 ∧ K < 30 ∧ V < 10) (hno : K ≠ 20 ∧ so ≠ 22 ∧ so ≠ 23) (h : sr_G P nt f n2 n3 Y n v ka a g (k0 9) so K V k1 c1 r1 c r ∨ ∃ f2 p0, zS f f2 p0 c0 c ∧ rS P f f2 p0 r0 r) : t_h2 ((f_X2_need 59 c).bind (fun r1 => some (nI (k0 9), r1))) ((f_X13_mustBe 59 r).bind (fun r16 => some (nI (k0 9), r16))) (so_O P nt f n2 n3 Y n L ka a g k0 c0 r0) := by
  rcases h with ⟨k', n', L', S, hn, k9, k00, sn1, B1, sk, h88, h10⟩ | ⟨f2, p0, z, y⟩
  rotate_left
  · obtain ⟨y1, e, h1⟩ := y.mb (x := 59) (by unfold rj_no; decide)
    rw [z.1.need (by decide), e, l2_bs, l2_bs]
    exact h2_sm (Or.inr ⟨f2, p0, z, h1⟩)
  have hf := S0.2.2.2.1
  have g01 := sn0.trans sn1
  refine fs_need (c0 := c0) (r0 := r0) (x := 59) (s := 59) S h9 (by decide) rfl (g01.mc l2_fr.rf) (g01.mr l2_fr.rf) (fun c' r' S2 sn2 q2 y1 y2 => h2_sm (Or.inl ⟨rfl, rfl, ?_⟩)) (fun f2 p0 c' r' z y => h2_sm (Or.inr ⟨f2, p0, z, y⟩))
  have sn12 : sn n2 n3 f n (k0 9) sA sE k1 c1 r1 (nx k') c' r' := by
    obtain ⟨w1, w2, w3, w4, w5, w6⟩ := sn2 n3 (fun _ => False) (fun _ => False)
    exact (sn1.trans ⟨w1, w2.mono (fun b j y => y.sub gr.rf hn (Nat.le_refl _)), w3.mono (fun b j y => y.sub gr.rf hn (Nat.le_refl _)), w4, w5, w6⟩).mono (fun j y => y.elim id False.elim) (fun x y => y.elim id False.elim)
  have hm1 : mE n2 n3 r1 (E_f f n v) := (S0.mE hV hf3 (b2 := n2)).mono sn0.2.2.2.2.2 (Nat.le_refl _) (Nat.le_refl _)
  have hm : mE n2 n3 r' (E_f f n v) := hm1.mono sn12.2.2.2.2.2 (Nat.le_refl _) (Nat.le_refl _)
  have la_cp : cp_c la_W (k' 3) (k' 4) (k' 5) (k' 6) := fun b j y => by unfold la_W at y; omega
  have rn_cp : cp_r rn_W (k' 2) (k' 7) := fun b j y => by unfold rn_W at y; omega
  have kk : mK n2 n3 r r' := mK.of y2 (fun b j y => by unfold rn_W; omega)
  have sk' : sk_R n2 n3 (E_f f n v) v c' r' (nx k' 3) (nx k' 4) (nx k' 5) (nx k' 6) (nx k' 7) (nx k' 2) f n (k0 9) so K V := sk.fr y1 y2 la_cp rn_cp kk (Nat.le_refl _) (Nat.le_refl _) ⟨Nat.le_refl _, Nat.le_refl _, Nat.le_refl _, Nat.le_refl _, Nat.le_refl _, Nat.le_refl _⟩ (fun j _ => (y1 _ j (by unfold la_W; omega)).1) (fun x x1 x2 _ => (y2 x _ (by unfold rn_W; omega)).1) (fun cnt _ _ _ _ _ => (y1 443 _ (by unfold la_W; omega)).1)
  obtain ⟨st, n1, n989⟩ := op_R.st (hi := nx k' 9) op sn12 hf S0.2.1.1 hk hu hm (by rw [(y2 988 _ (by unfold rn_W; omega)).1]; exact h88) (by rw [(y2 1000 _ (by unfold rn_W; omega)).1]; exact h10) hno.1 sk' hno.2
  have g02 := sn0.trans sn12
  have B2 : mB False n2 n3 c1 c' r' (k1 6) (k' 6) (k1 8) (k' 8) (k1 2) (k' 2) (k0 9) (k0 9 + 1) := B1.cap y1 y2 la_cp (s := k' 7) rn_cp ⟨by unfold la_W; omega, by unfold la_W; omega⟩ (fun j => by unfold la_W; omega) (fun b j _ _ _ _ _ => by unfold rn_W; omega) kk (Nat.le_refl _) (Nat.le_refl _)
  have B3 : mB False n2 n3 c0 c' r' (k1 6) (k' 6) (k1 8) (k' 8) (k1 2) (k' 2) (k0 9) (k0 9 + 1) := B2.base q0.1 q0.2.1 q0.2.2
  refine ⟨nx k', n', L', ?_, ?_, S2, hn, g02.1, g02.2.1, g02.2.2.1, g02.2.2.2.2.2, ?_, fun ln l1 l2 => ?_, n1, n989⟩
  · show k0 0 < k' 0 + 1
    omega
  · show k0 9 < k' 9
    omega
  · show mB False n2 n3 c0 c' r' (k0 6) (k' 6) (k0 8) (k' 8) (k0 2) (k' 2) (k0 9) (k' 9)
    rw [k9, e1.1, ← e1.2.1, ← e1.2.2.1, ← e1.2.2.2.1]
    exact B3
  · have l2 : ln < k' 9 := l2
    have e : ln = k0 9 := by omega
    rw [e]
    exact st
end
