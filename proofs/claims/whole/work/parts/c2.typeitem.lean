/-! Level 2: a module's items on both sides: a type. -/
section
/-- all that reading a module writes -/
def mo_Wc (b j : Nat) : Prop := (b = 1 ∧ 7 ≤ j ∧ j ≤ 12) ∨ b = 6 ∨ b = 7 ∨ (b = 316 ∧ (j = 8 ∨ j = 10 ∨ j = 13)) ∨ (317 ≤ b ∧ b ≤ 327) ∨ (b = 334 ∧ (j = 2 ∨ j = 4)) ∨ (335 ≤ b ∧ b ≤ 337) ∨ (b = 353 ∧ (j = 9 ∨ j = 11)) ∨ (354 ≤ b ∧ b ≤ 423) ∨ (428 ≤ b ∧ b ≤ 855)
def mo_Wr (b j : Nat) : Prop := (b = 950 ∧ ((2 ≤ j ∧ j ≤ 10) ∨ j = 14 ∨ j = 15 ∨ j = 24 ∨ j = 26 ∨ j = 28 ∨ (31 ≤ j ∧ j ≤ 34) ∨ j = 36 ∨ j = 40 ∨ j = 44 ∨ j = 55 ∨ j = 64 ∨ j = 81 ∨ j = 86 ∨ j = 87)) ∨ (952 ≤ b ∧ b ≤ 1003)
/-- what a type as an item writes -/
def mt_Wc (n a g l b j : Nat) : Prop := la_W b j ∨ b = 6 ∨ b = 7 ∨ (b = 316 ∧ (j = 8 ∨ j = 10 ∨ j = 13)) ∨ (b = 845 ∧ j = 10) ∨ (317 ≤ b ∧ b ≤ 323 ∧ a ≤ j) ∨ (b = 325 ∧ g ≤ j) ∨ (b = 846 ∧ j = 6) ∨ (848 ≤ b ∧ b ≤ 853 ∧ l ≤ j) ∨ ((b = 326 ∨ b = 327) ∧ j = n)
def mt_Wr (n m b j : Nat) : Prop := rn_W b j ∨ nm_W b j ∨ (b = 950 ∧ (j = 24 ∨ j = 28 ∨ (31 ≤ j ∧ j ≤ 34) ∨ j = 40)) ∨ (955 ≤ b ∧ b ≤ 962 ∧ m ≤ j) ∨ (964 ≤ b ∧ b ≤ 966 ∧ j = n)
/-- between two items: both at token u; what is counted -/
def mo (P : pc_S) (nt : Nat → Nat) (u q m a g t e p l s i st : Nat) (c r : t_S) : Prop := pj P u 0 0 q m c r ∧ nt_R (pc_W P) nt c r ∧ (c.1 316 8 = nI a ∧ c.1 316 10 = nI g ∧ c.1 353 9 = nI t ∧ c.1 334 2 = nI e ∧ c.1 334 4 = nI p ∧ c.1 846 6 = nI l ∧ c.1 428 18 = nI st) ∧ (c.1 845 7 = 0 ∧ c.1 845 9 = 0 ∧ c.1 845 12 = -1 ∧ c.1 845 13 = -1 ∧ c.1 845 14 = -1 ∧ c.1 845 15 = 0 ∧ c.1 845 16 = nI 2147483647) ∧ (r.1 950 36 = nI s ∧ r.1 950 26 = nI i ∧ r.1 950 81 = nI st) ∧ (a ≤ q ∧ g ≤ pc_c P u ∧ l ≤ pc_c P u ∧ t ≤ q ∧ e ≤ 2 * q + 2 * st ∧ p ≤ pc_p P u ∧ s ≤ pc_p P u ∧ 7 * i ≤ 6 * q + pc_p P u ∧ st ≤ 400)
variable {P : pc_S} {nt : Nat → Nat} {u q m a g t e p l s i st f p0 : Nat} {c0 r0 c r : t_S}
theorem lc_F.takeName (h : lc_F c f p0) (x y z : Int32) : f_X6_takeName x y z c = some (0, c) := by
  have h8 : ¬ c.1 1 8 = 1 := by rw [h.2.2.2.2]; decide
  unfold f_X6_takeName k_X6_takeName_64
  rw [if_neg h8, (lc_stay h).2, l2_bs, if_neg h.ne]
theorem xR.out (h : xR P f p0 0 0 r0 r) (x y : Int32) : t_hk (f_X13_outside x y r) (fun z => xR P f p0 0 0 r0 z.2) := by
  have k29 : ∀ {r' : t_S} (v : Int32), xR P f p0 0 0 r0 r' → k_X13_outside_29 x y v r' = some (v, r') := fun v h => by
    unfold k_X13_outside_29
    by_cases z : x = y
    · rw [if_pos z, (pr_next h.1).2]
      rfl
    · rw [if_neg z]
  unfold f_X13_outside
  exact l2_bd _ h.name (fun z hz => l2_no hz.ne ⟨_, k29 _ hz, hz⟩)
theorem xR.typ (h : xR P f p0 0 0 r0 r) : f_X13_type r = some (0, r) := pr_type (rc := R_X13_fields 99) h.1
theorem xR.it122 (h : xR P f p0 0 0 r0 r) (x : Int32) : t_hk (k_X13_item_122 x r) (xR P f p0 0 0 r0) := by
  unfold k_X13_item_122 k_X13_item_154
  refine l2_bd _ h.next (fun r1 h1 => l2_bd _ (h1.mustBe _) (fun r2 h2 => l2_eq h2.typ (l2_no h2.ne (l2_bd _ (h2.mustBe _) (fun r3 h3 => l2_sm h3)))))
theorem mo_x (h : l2_fr (xWr 0 0) r0 r) : l2_fr mo_Wr r0 r := h.mono (fun b j y => by unfold mo_Wr; unfold xWr at y; omega)
theorem mo_ty (h : l2_fr (ty_Wc 0 0 0) c0 c) : l2_fr mo_Wc c0 c := h.mono (fun b j y => by unfold mo_Wc; unfold ty_Wc at y; omega)
theorem mo_tr (h : l2_fr (ty_Wr 0) r0 r) : l2_fr mo_Wr r0 r := h.mono (fun b j y => by unfold mo_Wr; unfold ty_Wr at y; omega)
theorem mo_la (h : l2_fr la_W c0 c) : l2_fr mo_Wc c0 c := h.mono (fun b j y => Or.inl y)
theorem mo_rn (h : l2_fr rn_W r0 r) : l2_fr mo_Wr r0 r := h.mono (fun b j y => Or.inl ⟨y.1, Or.inl y.2⟩)
theorem mo_nk (h : l2_fr nk_W r0 r) : l2_fr mo_Wr r0 r := h.mono (fun b j y => by unfold mo_Wr; unfold nk_W rn_W nm_W at y; omega)
/-- the reference behind a fault, from any state of it -/
theorem pr.xR (h : pr P f p0 r) : xR P f p0 0 0 r r := by
  have h0 := h
  obtain ⟨B, L, W0, W, V, sl, H, T, n, t0, mm⟩ := P
  obtain ⟨h1, h2, h3, h4, ⟨m', h5, h6⟩, h7⟩ := h
  exact ⟨h0, l2_fr.rf, m', Nat.zero_le _, h6, h5⟩
theorem mt_mo {n : Nat} (h : l2_fr (mt_Wc n a g l) c0 c) : l2_fr mo_Wc c0 c := h.mono (fun b j y => by unfold mo_Wc; unfold mt_Wc la_W at y; omega)
theorem mt_mr {n : Nat} (h : l2_fr (mt_Wr n m) r0 r) : l2_fr mo_Wr r0 r := h.mono (fun b j y => by unfold mo_Wr; unfold mt_Wr rn_W nm_W at y; omega)
theorem lc_F.ti7 (h : lc_F c f p0) (n : Nat) (x : Int32) : t_hk (t_let (t_setI c 326 n x) (fun s3 => (f_X2_need (59 : Int32) s3).bind (fun r7 => some r7))) (fun c' => lc_F c' f p0 ∧ l2_fr mo_Wc c c') := by
  have g : l2_fr (fun b j => b = 326 ∧ j = n) c (t_setI c 326 n x) := l2_fr.set ⟨rfl, rfl⟩
  have h1 := h.fr g (fun j _ _ => by omega)
  exact l2_lt (l2_eq (h1.need (by decide)).1 (l2_sm ⟨h1, g.mono (fun b j y => by unfold mo_Wc; omega)⟩))
theorem lc_F.ti6 (h : lc_F c f p0) (n : Nat) : t_hk ((f_X6_readType (0 : Int32) c).bind (fun r6 => t_let (t_setI r6.2 326 n r6.1) (fun s3 => (f_X2_need (59 : Int32) s3).bind (fun r7 => some r7)))) (fun c' => lc_F c' f p0 ∧ l2_fr mo_Wc c c') :=
  l2_bd _ (show t_hk (f_X6_readType 0 c) _ from h.type (rc := R_X6_readFields 99) 0) (fun y hy => l2_imp (hy.1.ti7 n y.1) (fun z hz => ⟨hz.1, (mo_ty hy.2).trans hz.2⟩))
theorem xR.it154 (h : xR P f p0 0 0 r0 r) : t_hk (k_X13_item_154 r) (xR P f p0 0 0 r0) := by
  unfold k_X13_item_154
  exact l2_bd _ (h.mustBe _) (fun r3 h3 => l2_sm h3)
theorem xR.ittyp (h : xR P f p0 0 0 r0 r) (x : Int32) : t_hk ((f_X13_type r).bind (fun r3 => if (r3.2.1 950 2) = (0 : Int32) then (if t_ix x 60 = true then t_let (t_setI r3.2 965 (x.toNatClampNeg) r3.1) (fun s1 => k_X13_item_154 s1) else none) else (k_X13_item_154 r3.2))) (xR P f p0 0 0 r0) := l2_eq h.typ (l2_no h.ne h.it154)
theorem ty_mt {n b j : Nat} (y : ty_Wc a g l b j) : mt_Wc n a g l b j := by
  rcases y with y | y | y | y | y | y | y | y
  · exact Or.inl y
  · exact Or.inr (Or.inr (Or.inr (Or.inr (Or.inl y))))
  · exact Or.inr (Or.inr (Or.inr (Or.inl ⟨y.1, by omega⟩)))
  · exact Or.inr (Or.inr (Or.inr (Or.inr (Or.inr (Or.inl y)))))
  · exact Or.inr (Or.inr (Or.inr (Or.inr (Or.inr (Or.inr (Or.inl y))))))
  · exact Or.inr (Or.inr (Or.inr (Or.inr (Or.inr (Or.inr (Or.inr (Or.inl y)))))))
  · exact Or.inr (Or.inr (Or.inr (Or.inr (Or.inr (Or.inr (Or.inr (Or.inr (Or.inl y))))))))
  · exact Or.inr (Or.inr (Or.inl y))
theorem ty_mtr {n b j : Nat} (y : ty_Wr m b j) : mt_Wr n m b j := by
  rcases y with ⟨rfl, y⟩ | y | y
  · rcases y with y | y | y | y | y | y
    · exact Or.inl ⟨rfl, y⟩
    · exact Or.inr (Or.inl (Or.inr ⟨rfl, Or.inl y⟩))
    · exact Or.inr (Or.inl (Or.inr ⟨rfl, Or.inr y⟩))
    · exact Or.inr (Or.inr (Or.inl ⟨rfl, Or.inl y⟩))
    · exact Or.inr (Or.inr (Or.inl ⟨rfl, Or.inr (Or.inl y)⟩))
    · exact Or.inr (Or.inr (Or.inl ⟨rfl, Or.inr (Or.inr (Or.inl (by omega)))⟩))
  · exact Or.inr (Or.inl (Or.inl y))
  · exact Or.inr (Or.inr (Or.inr (Or.inl y)))
theorem mi_good {c4 c6 c7 c9 r6 r8 r9 r11 : t_S} {u2 q2 m2 a2 g2 l2 : Nat} (M : mo P nt u q m a g t e p l s i st c r) (g5 : nt 0 < 60) (C9 : l2_fr (mt_Wc (nt 0) a g l) c c9) (R9 : l2_fr (mt_Wr (nt 0) m) r r11) (N4 : nt_R (pc_W P) (nt_up nt 0) c4 r6) (C46 : l2_fr la_W c4 c6) (R46 : l2_fr rn_W r6 r8) (o8 : l2_fr (ty_Wc a g l) c6 c7) (o9 : l2_fr (ty_Wr m) r8 r9) (C79 : l2_fr (fun b j => la_W b j ∨ (b = 326 ∧ j = nt 0)) c7 c9) (R79 : l2_fr (fun b j => rn_W b j ∨ (b = 965 ∧ j = nt 0)) r9 r11) (ev : c4.1 327 (nt 0) = r6.1 966 (nt 0)) (e7 : ∀ j, c4.1 7 j = c.1 7 j) (J9 : pj P (u2 + 1) 0 0 q2 m2 c9 r11) (o1 : u + 1 + 1 + 1 < u2) (oq : q < q2) (o2 : a < a2) (o3 : m < m2) (o4 : g ≤ g2) (o5 : l ≤ l2) (T7 : tp P u2 0 0 q2 m2 a2 g2 l2 0 c7 r9) (o10 : TY (ty_NM c7 r9 l2) c7 r9 18 a a2 m m2 g2 a m) (o11 : r9.1 960 m = -1) (o12 : ty_D c6 c7 r9 l l2 m m2) (o13 : ty_s r9 m m2) (va : c9.1 326 (nt 0) = nI a) (vb : r11.1 965 (nt 0) = nI m) : ∃ u' q' m' a' g' l', mo P (nt_up nt 0) u' q' m' a' g' t e p l' s i st c9 r11 ∧ u < u' ∧ q < q' ∧ a < a' ∧ m < m' ∧ g ≤ g' ∧ l ≤ l' ∧ nt 0 < 60 ∧ l2_fr (mt_Wc (nt 0) a g l) c c9 ∧ l2_fr (mt_Wr (nt 0) m) r r11 ∧ c9.1 326 (nt 0) = nI a ∧ r11.1 965 (nt 0) = nI m ∧ c9.1 327 (nt 0) = r11.1 966 (nt 0) ∧ TY (ty_NM c9 r11 l') c9 r11 18 a a' m m' g' a m ∧ r11.1 960 m = -1 ∧ ty_D c c9 r11 l l' m m' ∧ ty_s r11 m m' := by
  obtain ⟨J, N, ⟨k1, k2, k3, k4, k5, k6, k7⟩, ⟨v1, v2, v3, v4, v5, v6, v7⟩, ⟨s1, s2, s3⟩, ⟨b1, b2, b3, b4, b5, b6, b7, b8, b9⟩⟩ := M
  obtain ⟨p1, p2, p3, p4, p5, p6, p7, p8⟩ := T7
  have pm := J9.pmono (u2 + 1 - u) u (by omega) (by omega)
  have cm2 := pc_c_le P u2
  have cm3 := pc_c_mono P u (u2 + 1) (by omega)
  refine ⟨u2 + 1, q2, m2, a2, g2, l2, ⟨J9, ?_, ⟨?_, ?_, ?_, ?_, ?_, ?_, ?_⟩, ⟨?_, ?_, ?_, ?_, ?_, ?_, ?_⟩, ⟨?_, ?_, ?_⟩, ⟨p3, by omega, by omega, by omega, by omega, by omega, by omega, by omega, b9⟩⟩, by omega, oq, o2, o3, o4, o5, g5, C9, R9, ?_, ?_, ?_, ?_, ?_, ?_, ?_⟩
  · exact (((N4.fr C46 R46 (fun j => by unfold la_W; omega) ⟨by unfold la_W; omega, by unfold la_W; omega, by unfold la_W; omega, by unfold la_W; omega⟩ ⟨by unfold rn_W; omega, by unfold rn_W; omega, by unfold rn_W; omega, by unfold rn_W; omega⟩ (fun b j y => by unfold rn_W; omega)).fr o8 o9 (fun j => by unfold ty_Wc; omega) ⟨by unfold ty_Wc; omega, by unfold ty_Wc; omega, by unfold ty_Wc; omega, by unfold ty_Wc; omega⟩ ⟨by unfold ty_Wr; omega, by unfold ty_Wr; omega, by unfold ty_Wr; omega, by unfold ty_Wr; omega⟩ (fun b j y => by unfold ty_Wr; omega)).fr C79 R79 (fun j => by unfold la_W; omega) ⟨by unfold la_W; omega, by unfold la_W; omega, by unfold la_W; omega, by unfold la_W; omega⟩ ⟨by unfold rn_W; omega, by unfold rn_W; omega, by unfold rn_W; omega, by unfold rn_W; omega⟩ (fun b j y => by unfold rn_W; omega))
  · rw [(C79 316 8 (by unfold la_W; omega)).1]; exact p2
  · rw [(C79 316 10 (by unfold la_W; omega)).1]; exact p4
  · rw [(C9 353 9 (by unfold mt_Wc la_W; omega)).1]; exact k3
  · rw [(C9 334 2 (by unfold mt_Wc la_W; omega)).1]; exact k4
  · rw [(C9 334 4 (by unfold mt_Wc la_W; omega)).1]; exact k5
  · rw [(C79 846 6 (by unfold la_W; omega)).1]; exact p6
  · rw [(C9 428 18 (by unfold mt_Wc la_W; omega)).1]; exact k7
  · rw [(C9 845 7 (by unfold mt_Wc la_W; omega)).1]; exact v1
  · rw [(C9 845 9 (by unfold mt_Wc la_W; omega)).1]; exact v2
  · rw [(C9 845 12 (by unfold mt_Wc la_W; omega)).1]; exact v3
  · rw [(C9 845 13 (by unfold mt_Wc la_W; omega)).1]; exact v4
  · rw [(C9 845 14 (by unfold mt_Wc la_W; omega)).1]; exact v5
  · rw [(C9 845 15 (by unfold mt_Wc la_W; omega)).1]; exact v6
  · rw [(C9 845 16 (by unfold mt_Wc la_W; omega)).1]; exact v7
  · rw [(R9 950 36 (by unfold mt_Wr rn_W nm_W; omega)).1]; exact s1
  · rw [(R9 950 26 (by unfold mt_Wr rn_W nm_W; omega)).1]; exact s2
  · rw [(R9 950 81 (by unfold mt_Wr rn_W nm_W; omega)).1]; exact s3
  · exact va
  · exact vb
  · rw [(C79 327 _ (by unfold la_W; omega)).1, (o8 327 _ (by unfold ty_Wc; omega)).1, (C46 327 _ (by unfold la_W; omega)).1, ev, (R79 966 _ (by unfold rn_W; omega)).1, (o9 966 _ (by unfold ty_Wr; omega)).1, (R46 966 _ (by unfold rn_W; omega)).1]
  · refine TY.fr 18 a a2 m m2 g2 a m o10 ⟨fun b j h1 h2 h3 h4 => ⟨(C79 b j (by unfold la_W; omega)).1, (C79 b j (by unfold la_W; omega)).2.1⟩, fun j h1 => (C79 325 j (by unfold la_W; omega)).1⟩ (fun b j h1 h2 h3 h4 => ⟨(R79 b j (by unfold rn_W; omega)).1, (R79 b j (by unfold rn_W; omega)).2.1⟩) (fun n k h1 h2 h3 h4 hN => ?_) 18 a2 m2 g2 (Nat.le_refl _) (Nat.le_refl _) (Nat.le_refl _) (Nat.le_refl _)
    obtain ⟨e, e1, ⟨Y, e2, e3, e4, e5, e6⟩, e7⟩ := hN
    exact ⟨e, e1, ⟨Y, e2, by rw [(C79 849 e (by unfold la_W; omega)).1]; exact e3, by rw [(C79 850 e (by unfold la_W; omega)).1]; exact e4, by rw [(C79 848 e (by unfold la_W; omega)).1, (R79 956 k (by unfold rn_W; omega)).1]; exact e5, by rw [(R79 957 k (by unfold rn_W; omega)).2.1]; exact e6⟩, by rw [(C79 852 e (by unfold la_W; omega)).1]; exact e7⟩
  · rw [(R79 960 m (by unfold rn_W; omega)).1]; exact o11
  · have D := o12.fr (c' := c9) (r' := r11) (fun b j h => (C79 b j (by unfold la_W; omega)).1) (fun k h1 h2 => ⟨(R79 955 k (by unfold rn_W; omega)).1, (R79 956 k (by unfold rn_W; omega)).1, fun _ => (R79 957 k (by unfold rn_W; omega)).2.1⟩)
    refine ⟨D.1, D.2.1, fun x hx => ?_⟩
    rw [D.2.2 x hx, (C46 7 (66 + x) (by unfold la_W; omega)).1, e7]
  · exact o13.fr (fun i _ _ => ⟨(R79 955 i (by unfold rn_W; omega)).1, (R79 959 i (by unfold rn_W; omega)).1, (R79 960 i (by unfold rn_W; omega)).1, (R79 957 i (by unfold rn_W; omega)).2.1⟩)
/-- what a type as an item comes to -/
def mi_tP (P : pc_S) (nt : Nat → Nat) (u q m a g t e p l s i st : Nat) (c r c' r' : t_S) : Prop := l2_fr mo_Wc c c' ∧ l2_fr mo_Wr r r' ∧ ((∃ u' q' m' a' g' l', mo P (nt_up nt 0) u' q' m' a' g' t e p l' s i st c' r' ∧ u < u' ∧ q < q' ∧ a < a' ∧ m < m' ∧ g ≤ g' ∧ l ≤ l' ∧ nt 0 < 60 ∧ l2_fr (mt_Wc (nt 0) a g l) c c' ∧ l2_fr (mt_Wr (nt 0) m) r r' ∧ c'.1 326 (nt 0) = nI a ∧ r'.1 965 (nt 0) = nI m ∧ c'.1 327 (nt 0) = r'.1 966 (nt 0) ∧ TY (ty_NM c' r' l') c' r' 18 a a' m m' g' a m ∧ r'.1 960 m = -1 ∧ ty_D c c' r' l l' m m' ∧ ty_s r' m m') ∨ pf P c' r')
/-- behind its name -/
theorem mi_type2 {c4 r6 : t_S} (M : mo P nt u q m a g t e p l s i st c r) (J4 : pj P (u + 1) 1 0 q m c4 r6) (n4' : c4.1 1 8 ≠ 4) (C4 : l2_fr (mt_Wc (nt 0) a g l) c c4) (R4 : l2_fr (mt_Wr (nt 0) m) r r6) (N4 : nt_R (pc_W P) (nt_up nt 0) c4 r6) (g5 : nt 0 < 60) (e8 : c4.1 316 8 = nI a) (e10 : c4.1 316 10 = nI g) (e6 : c4.1 846 6 = nI l) (e31 : r6.1 950 31 = 0) (ev : c4.1 327 (nt 0) = r6.1 966 (nt 0)) (e7 : ∀ j, c4.1 7 j = c.1 7 j) : t_h2 ((f_X2_advance c4).bind (fun r4 => (f_X2_need (61 : Int32) r4).bind (fun r5 => (f_X6_readType (0 : Int32) r5).bind (fun r6 => t_let (t_setI r6.2 326 (nt 0) r6.1) (fun s3 => (f_X2_need (59 : Int32) s3).bind (fun r7 => some r7)))))) (k_X13_item_122 (nI (nt 0)) r6) (mi_tP P nt u q m a g t e p l s i st c r) := by
  have M0 := M
  obtain ⟨J, N, ⟨k1, k2, k3, k4, k5, k6, k7⟩, ⟨v1, v2, v3, v4, v5, v6, v7⟩, ⟨s1, s2, s3⟩, ⟨b1, b2, b3, b4, b5, b6, b7, b8, b9⟩⟩ := M
  unfold k_X13_item_122
  rw [nI_clamp (n := nt 0) (by omega)]
  refine h2_bb _ (pj_adv J4 (by decide) (Or.inl rfl) n4') (fun c5 r7 hw => ?_)
  obtain ⟨y1, y2, y3⟩ := hw
  rcases y3 with J5 | ⟨f, p0, y3, y4⟩
  rotate_left
  · refine h2_sep _ _ (l2_eq (y3.need (by decide)).1 (y3.ti6 (nt 0))) (l2_bd _ ((pr.xR y4).mustBe _) (fun z hz => (nI_clamp (n := nt 0) (by omega)) ▸ hz.ittyp (nI (nt 0)))) (fun x y hx hy => ⟨((mt_mo C4).trans (mo_la y1)).trans hx.2, ((mt_mr R4).trans (mo_rn y2)).trans (mo_x hy.2.1), Or.inr ⟨f, p0, hx.1, hy.1⟩⟩)
  refine h2_bb _ (pj_need J5 (by decide) (x := 61) (by decide) rfl) (fun c6 r8 hw => ?_)
  obtain ⟨z1, z2, z3⟩ := hw
  rcases z3 with J6 | ⟨f, p0, z3, z4⟩
  rotate_left
  · refine h2_sep _ _ (z3.ti6 (nt 0)) ((nI_clamp (n := nt 0) (by omega)) ▸ (pr.xR z4).ittyp (nI (nt 0))) (fun x y hx hy => ⟨(((mt_mo C4).trans (mo_la y1)).trans (mo_la z1)).trans hx.2, (((mt_mr R4).trans (mo_rn y2)).trans (mo_rn z2)).trans (mo_x hy.2.1), Or.inr ⟨f, p0, hx.1, hy.1⟩⟩)
  have C6 : l2_fr (mt_Wc (nt 0) a g l) c c6 := (C4.trans (y1.mono (fun b j y => Or.inl y))).trans (z1.mono (fun b j y => Or.inl y))
  have R6 : l2_fr (mt_Wr (nt 0) m) r r8 := (R4.trans (y2.mono (fun b j y => Or.inl y))).trans (z2.mono (fun b j y => Or.inl y))
  have C46 : l2_fr la_W c4 c6 := y1.trans z1
  have R46 : l2_fr rn_W r6 r8 := y2.trans z2
  have cm := pc_c_mono P u (u + 1 + 1 + 1) (by omega)
  have T : tp P (u + 1 + 1 + 1) 0 0 q m a g l 0 c6 r8 := by
    refine ⟨J6, ?_, b1, ?_, by omega, ?_, by omega, ?_⟩
    · rw [(C46 316 8 (by unfold la_W; omega)).1]; exact e8
    · rw [(C46 316 10 (by unfold la_W; omega)).1]; exact e10
    · rw [(C46 846 6 (by unfold la_W; omega)).1]; exact e6
    · rw [(R46 950 31 (by unfold rn_W; omega)).1]; exact e31
  refine h2_bb _ (ty_read T) (fun x y hxy => ?_)
  obtain ⟨xv, c7⟩ := x
  obtain ⟨yv, r9⟩ := y
  obtain ⟨t1, t2, t3⟩ := hxy
  have t1 : l2_fr (ty_Wc 0 0 0) c6 c7 := t1
  have t2 : l2_fr (ty_Wr 0) r8 r9 := t2
  rcases t3 with ⟨rfl, rfl, u2, q2, m2, a2, g2, l2, ⟨o1, oq⟩, o2, o3, o4, o5, o7, o8, o9, o10, o11, o12, o13⟩ | ⟨f, p0, t3, t4⟩
  rotate_left
  · have t3 : lc_F c7 f p0 := t3
    have t4 : pr P f p0 r9 := t4
    exact h2_noR t4.ne (h2_sep _ _ (t3.ti7 (nt 0) xv) ((pr.xR t4).it154) (fun x y hx hy => ⟨((mt_mo C6).trans (mo_ty t1)).trans hx.2, ((mt_mr R6).trans (mo_tr t2)).trans (mo_x hy.2.1), Or.inr ⟨f, p0, hx.1, hy.1⟩⟩))
  have o7 : tp P u2 0 0 q2 m2 a2 g2 l2 0 c7 r9 := o7
  have o8 : l2_fr (ty_Wc a g l) c6 c7 := o8
  have o9 : l2_fr (ty_Wr m) r8 r9 := o9
  have o10 : TY (ty_NM c7 r9 l2) c7 r9 18 a a2 m m2 g2 a m := o10
  have o11 : r9.1 960 m = -1 := o11
  have o12 : ty_D c6 c7 r9 l l2 m m2 := o12
  have o13 : ty_s r9 m m2 := o13
  have T7 := o7
  obtain ⟨p1, p2, p3, p4, p5, p6, p7, p8⟩ := o7
  refine h2_lL (h2_ckR p1.f0.2 (h2_ckR (l2_ix g5 (by decide)) (h2_lR ?_)))
  show t_h2 ((f_X2_need 59 (t_setI c7 326 (nt 0) (nI a))).bind _) (k_X13_item_154 (t_setI r9 965 (nt 0) (nI m))) _
  unfold k_X13_item_154
  have fa : l2_fr (fun b j => b = 326 ∧ j = nt 0) c7 (t_setI c7 326 (nt 0) (nI a)) := l2_fr.set ⟨rfl, rfl⟩
  have va : (t_setI c7 326 (nt 0) (nI a)).1 326 (nt 0) = nI a := by simp only [l2_gI, reduceIte]
  have fb : l2_fr (fun b j => b = 965 ∧ j = nt 0) r9 (t_setI r9 965 (nt 0) (nI m)) := l2_fr.set ⟨rfl, rfl⟩
  have vb : (t_setI r9 965 (nt 0) (nI m)).1 965 (nt 0) = nI m := by simp only [l2_gI, reduceIte]
  generalize t_setI c7 326 (nt 0) (nI a) = c8 at *
  generalize t_setI r9 965 (nt 0) (nI m) = r10 at *
  have J8 : pj P u2 0 0 q2 m2 c8 r10 := p1.fr fa fb (fun j => by omega) (fun b i _ _ => by omega) (fun b i _ _ => by omega) (by omega) (fun j _ => by omega) (fun b i _ _ => by omega)
  have C8 : l2_fr (mt_Wc (nt 0) a g l) c c8 := (C6.trans (o8.mono (V := mt_Wc (nt 0) a g l) (fun b j y => ty_mt y))).trans (fa.mono (V := mt_Wc (nt 0) a g l) (fun b j y => by unfold mt_Wc; omega))
  have R8 : l2_fr (mt_Wr (nt 0) m) r r10 := (R6.trans (o9.mono (V := mt_Wr (nt 0) m) (fun b j y => ty_mtr y))).trans (fb.mono (V := mt_Wr (nt 0) m) (fun b j y => by unfold mt_Wr; omega))
  refine h2_bb _ (pj_need J8 (by decide) (x := 59) (by decide) rfl) (fun c9 r11 hw => h2_sm ?_)
  obtain ⟨q1, q3, q4⟩ := hw
  have C9 : l2_fr (mt_Wc (nt 0) a g l) c c9 := C8.trans (q1.mono (fun b j y => Or.inl y))
  have R9 : l2_fr (mt_Wr (nt 0) m) r r11 := R8.trans (q3.mono (fun b j y => Or.inl y))
  refine ⟨mt_mo C9, mt_mr R9, ?_⟩
  rcases q4 with J9 | q4
  rotate_left
  · exact Or.inr q4
  have C79 : l2_fr (fun b j => la_W b j ∨ (b = 326 ∧ j = nt 0)) c7 c9 := (fa.mono (fun b j y => Or.inr y)).trans (q1.mono (fun b j y => Or.inl y))
  have R79 : l2_fr (fun b j => rn_W b j ∨ (b = 965 ∧ j = nt 0)) r9 r11 := (fb.mono (fun b j y => Or.inr y)).trans (q3.mono (fun b j y => Or.inl y))
  exact Or.inl (mi_good M0 g5 C9 R9 N4 C46 R46 o8 o9 C79 R79 ev e7 J9 o1 oq o2 o3 o4 o5 T7 o10 o11 o12 o13 (by rw [(q1 326 _ (by unfold la_W; omega)).1]; exact va) (by rw [(q3 965 _ (by unfold rn_W; omega)).1]; exact vb))
/-- a type told -/
theorem mi_type (M : mo P nt u q m a g t e p l s i st c r) (h8 : c.1 1 8 = nI 200) : t_h2 (f_X6_readTypeItem c) (k_X13_item_16 0 r) (mi_tP P nt u q m a g t e p l s i st c r) := by
  have M0 := M
  obtain ⟨J, N, ⟨k1, k2, k3, k4, k5, k6, k7⟩, ⟨v1, v2, v3, v4, v5, v6, v7⟩, ⟨s1, s2, s3⟩, ⟨b1, b2, b3, b4, b5, b6, b7, b8, b9⟩⟩ := M
  have n8 : c.1 1 8 ≠ 1 ∧ c.1 1 8 ≠ 4 := ⟨fun y => absurd (h8.symm.trans y) (by decide), fun y => absurd (h8.symm.trans y) (by decide)⟩
  unfold f_X6_readTypeItem k_X13_item_16
  refine h2_noR (show ¬ f_X13_in (0 : Int32).toInt64 0 5 r = 0 by unfold f_X13_in; decide) ?_
  refine h2_bb _ (pj_adv J (by decide) (Or.inr n8.1) n8.2) (fun c1 r1 hw => ?_)
  obtain ⟨w1, w2, w3⟩ := hw
  have e13 : c1.1 316 13 = nI (nt 0) := by rw [(w1 316 13 (by unfold la_W; omega)).1]; exact (N.1 0 (by decide)).2.1
  refine h2_lR (h2_lR (h2_lR (h2_lR (h2_ckR rfl ?_))))
  have f1 : l2_fr (fun b j => b = 950 ∧ 31 ≤ j ∧ j ≤ 34) r1 (t_setI (t_setI (t_setI (t_setI r1 950 31 0) 950 32 0) 950 33 0) 950 34 0) := (((l2_fr.set (W := fun b j => b = 950 ∧ 31 ≤ j ∧ j ≤ 34) ⟨rfl, by decide⟩).trans (l2_fr.set ⟨rfl, by decide⟩)).trans (l2_fr.set ⟨rfl, by decide⟩)).trans (l2_fr.set ⟨rfl, by decide⟩)
  have v31 : (t_setI (t_setI (t_setI (t_setI r1 950 31 0) 950 32 0) 950 33 0) 950 34 0).1 950 31 = 0 := by simp only [l2_gI, Nat.reduceEqDiff, reduceIte]
  generalize t_setI (t_setI (t_setI (t_setI r1 950 31 0) 950 32 0) 950 33 0) 950 34 0 = r2 at *
  have f1m : l2_fr mo_Wr r1 r2 := f1.mono (fun b j y => by unfold mo_Wr; omega)
  rw [e13]
  rcases w3 with J1 | ⟨f, p0, w3, w4⟩
  rotate_left
  · rw [w3.takeName, l2_bs]
    have w5 : pr P f p0 r2 := w4.fr f1 (fun j y => by omega) (fun b i _ _ => by omega)
    refine h2_ckL (show ((0 : Int32), c1).1 = 0 from rfl) (h2_doneL (l2_bd _ (w5.xR.out _ _) (fun y hy => l2_no hy.ne (l2_imp (hy.it122 _) (fun z hz => ⟨mo_la w1, ((mo_rn w2).trans f1m).trans (mo_x hz.2.1), Or.inr ⟨f, p0, w3, hz.1⟩⟩)))))
  have J2 : pj P (u + 1) 0 0 q m c1 r2 := J1.fr (l2_fr.rf (W := fun _ _ => False)) f1 (fun j y => y) (fun b i _ _ y => y) (fun b i _ _ y => y) (fun y => y) (fun j _ => by omega) (fun b i _ _ => by omega)
  have N2 : nt_R (pc_W P) nt c1 r2 := (N.fr w1 w2 (fun j => by unfold la_W; omega) ⟨by unfold la_W; omega, by unfold la_W; omega, by unfold la_W; omega, by unfold la_W; omega⟩ ⟨by unfold rn_W; omega, by unfold rn_W; omega, by unfold rn_W; omega, by unfold rn_W; omega⟩ (fun b j y => by unfold rn_W; omega)).fr (l2_fr.rf (W := fun _ _ => False)) f1 (fun j y => y) ⟨fun y => y, fun y => y, fun y => y, fun y => y⟩ ⟨by omega, by omega, by omega, by omega⟩ (fun b j y => by omega)
  have e40 : r2.1 950 40 = nI (nt 0) := (N2.1 0 (by decide)).2.2
  rw [e40]
  refine h2_bb _ (nt_take J2 (by decide) N2 (f := 0) (by decide)) (fun y x hy => ?_)
  obtain ⟨y1, c2⟩ := y
  obtain ⟨x1, r3⟩ := x
  rcases hy with ⟨X, hX, hW, g1, g2, g3, g4, g5, g6, g7, g8, g9, J3⟩ | ⟨g1, g2, g3, f, p0, w3, w4⟩
  rotate_left
  · have g1 : y1 = 0 := g1
    subst g1
    refine h2_ckL rfl (h2_doneL (l2_no w4.ne (l2_imp ((pr.xR w4).it122 _) (fun z hz => ⟨(mo_la w1).trans (mo_la g2), (((mo_rn w2).trans f1m).trans (mo_nk g3)).trans (mo_x hz.2.1), Or.inr ⟨f, p0, w3, hz.1⟩⟩))))
  have g1 : y1 = 1 := g1
  have g2 : x1 = nI X := g2
  subst g1 g2
  have g7 : l2_fr (fun b j => b = 6 ∧ j = 66 + X) c1 c2 := g7
  have g8 : c2.1 6 (66 + X) = nI (1 + 100 * 0 + nt 0) := g8
  have g9 : l2_fr nm_W r2 r3 := g9
  have J3 : pj P (u + 1) 1 0 q m c2 r3 := J3
  have g5 : nt 0 < 60 := g5
  have e40' : r3.1 950 40 = nI (nt 0) := by rw [(g9 950 40 (by unfold nm_W; omega)).1]; exact e40
  have e13' : c2.1 316 13 = nI (nt 0) := by rw [(g7 316 13 (by omega)).1]; exact e13
  refine h2_noL (show ¬ (1 : Int32) = 0 by decide) (h2_ckL (l2_ix g5 (by decide)) (h2_lL (h2_lL ?_)))
  refine h2_ckR J3.f0.2 ?_
  show t_h2 _ (if t_ix (r3.1 950 40) 60 = true then _ else none) _
  rw [e40']
  refine h2_ckR (l2_ix g5 (by decide)) (h2_lR (h2_lR (h2_lR ?_)))
  rw [nI_clamp (n := nt 0) (by omega)]
  show t_h2 _ (k_X13_item_122 (nI (nt 0)) (t_setI (t_setI (t_setI r3 964 (nt 0) (nI X)) 966 (nt 0) (r1.1 950 6)) 950 40 ((t_setI (t_setI r3 964 (nt 0) (nI X)) 966 (nt 0) (r1.1 950 6)).1 950 40 + 1))) _
  have e41 : (t_setI (t_setI r3 964 (nt 0) (nI X)) 966 (nt 0) (r1.1 950 6)).1 950 40 + 1 = nI (nt 0 + 1) := by
    simp only [l2_gI, Nat.reduceEqDiff, reduceIte, false_and]
    rw [e40', nI_succ]
  have e14 : (t_setI c2 327 (nt 0) (c2.1 1 9)).1 316 13 + 1 = nI (nt 0 + 1) := by
    simp only [l2_gI, Nat.reduceEqDiff, reduceIte, false_and]
    rw [e13', nI_succ]
  rw [e41, e14]
  have gc : l2_fr (fun b j => (b = 327 ∧ j = nt 0) ∨ (b = 316 ∧ j = 13)) c2 (t_setI (t_setI c2 327 (nt 0) (c2.1 1 9)) 316 13 (nI (nt 0 + 1))) := (l2_fr.set (Or.inl ⟨rfl, rfl⟩)).trans (l2_fr.set (Or.inr ⟨rfl, rfl⟩))
  have gr : l2_fr (fun b j => ((b = 964 ∨ b = 966) ∧ j = nt 0) ∨ (b = 950 ∧ j = 40)) r3 (t_setI (t_setI (t_setI r3 964 (nt 0) (nI X)) 966 (nt 0) (r1.1 950 6)) 950 40 (nI (nt 0 + 1))) := ((l2_fr.set (Or.inl ⟨Or.inl rfl, rfl⟩)).trans (l2_fr.set (Or.inl ⟨Or.inr rfl, rfl⟩))).trans (l2_fr.set (Or.inr ⟨rfl, rfl⟩))
  have x1 : (t_setI (t_setI c2 327 (nt 0) (c2.1 1 9)) 316 13 (nI (nt 0 + 1))).1 327 (nt 0) = c2.1 1 9 := by simp only [l2_gI, Nat.reduceEqDiff, reduceIte, false_and]
  have x2 : (t_setI (t_setI c2 327 (nt 0) (c2.1 1 9)) 316 13 (nI (nt 0 + 1))).1 316 13 = nI (nt 0 + 1) := by simp only [l2_gI, reduceIte]
  have x3 : (t_setI (t_setI (t_setI r3 964 (nt 0) (nI X)) 966 (nt 0) (r1.1 950 6)) 950 40 (nI (nt 0 + 1))).1 964 (nt 0) = nI X := by simp only [l2_gI, Nat.reduceEqDiff, reduceIte, false_and]
  have x4 : (t_setI (t_setI (t_setI r3 964 (nt 0) (nI X)) 966 (nt 0) (r1.1 950 6)) 950 40 (nI (nt 0 + 1))).1 966 (nt 0) = r1.1 950 6 := by simp only [l2_gI, Nat.reduceEqDiff, reduceIte, false_and]
  have x5 : (t_setI (t_setI (t_setI r3 964 (nt 0) (nI X)) 966 (nt 0) (r1.1 950 6)) 950 40 (nI (nt 0 + 1))).1 950 40 = nI (nt 0 + 1) := by simp only [l2_gI, reduceIte]
  generalize t_setI (t_setI c2 327 (nt 0) (c2.1 1 9)) 316 13 (nI (nt 0 + 1)) = c4 at *
  generalize t_setI (t_setI (t_setI r3 964 (nt 0) (nI X)) 966 (nt 0) (r1.1 950 6)) 950 40 (nI (nt 0 + 1)) = r6 at *
  have J4 : pj P (u + 1) 1 0 q m c4 r6 := J3.fr gc gr (fun j => by omega) (fun b i _ _ => by omega) (fun b i _ _ => by omega) (by omega) (fun j _ => by omega) (fun b i _ _ => by omega)
  have N4 : nt_R (pc_W P) (nt_up nt 0) c4 r6 := by
    refine N2.add (X := X) (by decide) hX hW g5 g6 (fun j hj => ?_) ?_ (fun h hh => ?_) (fun h k hh hk => ?_) ?_
    · rw [(gc 6 j (by omega)).1, (g7 6 j (by omega)).1]
    · rw [(gc 6 _ (by omega)).1]; exact g8
    · have hc : h = 0 ∨ h = 1 ∨ h = 2 ∨ h = 3 := by omega
      rcases hc with rfl | rfl | rfl | rfl
      · exact ⟨x2, x5⟩
      · refine ⟨?_, ?_⟩
        · show c4.1 353 11 = _
          rw [(gc 353 11 (by omega)).1, (g7 353 11 (by omega)).1]; exact (N2.1 1 (by decide)).2.1
        · show r6.1 950 44 = _
          rw [(gr 950 44 (by omega)).1, (g9 950 44 (by unfold nm_W; omega)).1]; exact (N2.1 1 (by decide)).2.2
      · refine ⟨?_, ?_⟩
        · show c4.1 428 0 = _
          rw [(gc 428 0 (by omega)).1, (g7 428 0 (by omega)).1]; exact (N2.1 2 (by decide)).2.1
        · show r6.1 950 55 = _
          rw [(gr 950 55 (by omega)).1, (g9 950 55 (by unfold nm_W; omega)).1]; exact (N2.1 2 (by decide)).2.2
      · refine ⟨?_, ?_⟩
        · show c4.1 428 9 = _
          rw [(gc 428 9 (by omega)).1, (g7 428 9 (by omega)).1]; exact (N2.1 3 (by decide)).2.1
        · show r6.1 950 64 = _
          rw [(gr 950 64 (by omega)).1, (g9 950 64 (by unfold nm_W; omega)).1]; exact (N2.1 3 (by decide)).2.2
    · have hc : h = 0 ∨ h = 1 ∨ h = 2 ∨ h = 3 := by omega
      rcases hc with rfl | rfl | rfl | rfl
      · show r6.1 964 k = r2.1 964 k
        rw [(gr 964 k (by omega)).1, (g9 964 k (by unfold nm_W; omega)).1]
      · show r6.1 967 k = r2.1 967 k
        rw [(gr 967 k (by omega)).1, (g9 967 k (by unfold nm_W; omega)).1]
      · show r6.1 970 k = r2.1 970 k
        rw [(gr 970 k (by omega)).1, (g9 970 k (by unfold nm_W; omega)).1]
      · show r6.1 980 k = r2.1 980 k
        rw [(gr 980 k (by omega)).1, (g9 980 k (by unfold nm_W; omega)).1]
    · exact x3
  -- so far
  have C4 : l2_fr (mt_Wc (nt 0) a g l) c c4 := ((w1.mono (V := mt_Wc (nt 0) a g l) (fun b j y => Or.inl y)).trans (g7.mono (fun b j y => Or.inr (Or.inl y.1)))).trans (gc.mono (V := mt_Wc (nt 0) a g l) (fun b j y => by unfold mt_Wc; omega))
  have R4 : l2_fr (mt_Wr (nt 0) m) r r6 := (((w2.mono (V := mt_Wr (nt 0) m) (fun b j y => Or.inl y)).trans (f1.mono (V := mt_Wr (nt 0) m) (fun b j y => by unfold mt_Wr; omega))).trans (g9.mono (V := mt_Wr (nt 0) m) (fun b j y => Or.inr (Or.inl y)))).trans (gr.mono (V := mt_Wr (nt 0) m) (fun b j y => by unfold mt_Wr; omega))
  have n4' : c4.1 1 8 ≠ 4 := by
    rw [(gc 1 8 (by omega)).1, (g7 1 8 (by omega)).1, g3]
    decide
  refine mi_type2 M0 J4 n4' C4 R4 N4 g5 ?_ ?_ ?_ ?_ ?_ (fun j => ?_)
  · rw [(gc 316 8 (by omega)).1, (g7 316 8 (by omega)).1, (w1 316 8 (by unfold la_W; omega)).1]; exact k1
  · rw [(gc 316 10 (by omega)).1, (g7 316 10 (by omega)).1, (w1 316 10 (by unfold la_W; omega)).1]; exact k2
  · rw [(gc 846 6 (by omega)).1, (g7 846 6 (by omega)).1, (w1 846 6 (by unfold la_W; omega)).1]; exact k6
  · rw [(gr 950 31 (by omega)).1, (g9 950 31 (by unfold nm_W; omega)).1]; exact v31
  · rw [x1, x4, (g7 1 9 (by omega)).1, J1.cle.2.1, J1.cle.2.2.1]
  · rw [(gc 7 j (by omega)).1, (g7 7 j (by omega)).1, (w1 7 j (by unfold la_W; omega)).1]
end
