/-! Level 2: an assignment as a statement. -/
section
variable {P : pc_S} {nt : Nat → Nat} {f n n2 n3 Y a g f2 p0 : Nat} {L v : Nat → Nat} {ka : Int32} {k0 k' : Nat → Nat} {c0 r0 c r c1 r1 c' r' : t_S} {A B : Nat → Prop}
theorem st_assign {up : Int32} (S0 : fs P nt f n2 Y n L ka a g k0 c0 r0) (h9 : k0 9 < 400) (S1 : fs P nt f n2 Y n L ka a g (ox k0) c1 r1) (h32 : r1.1 950 32 = 0) (hV : en_V n 1 L v) (hf : f < n3) (sn1 : ∀ n3, sn n2 n3 f n (k0 9) (fun _ => True) (fun _ => True) k0 c0 r0 (ox k0) c1 r1) (q1 : sq c0 c1) (op : op_R c1 r1 f n (k0 9) (nI 2) up 0) (hu : up = -1 ∨ ∃ j, j < k0 9 ∧ up = nI j) (h5 : r1.1 950 5 = 1) (h10 : r1.1 950 10 < 0) (h92 : r1.1 992 (k0 9) = r1.1 950 6) : t_h2 ((f_X6_readAssignment (nI (k0 9)) c1).bind (fun x => some (nI (k0 9), x))) ((f_X13_assignment (nI (k0 9)) r1).bind (fun x => some (nI (k0 9), x))) (so_O P nt f n2 n3 Y n L ka a g k0 c0 r0) := by
  rw [as_Ceq h9, as_Req h9 h5 h10 h92]
  have f1 : l2_fr (fun b j => b = 988 ∧ j = k0 9) r1 (t_setI r1 988 (k0 9) 2) := l2_fr.set ⟨rfl, rfl⟩
  have v1 : (t_setI r1 988 (k0 9) 2).1 988 (k0 9) = 2 := by simp only [l2_gI, reduceIte]
  show t_h2 _ (((fw_W 0 (k0 9) (t_setI r1 988 (k0 9) 2)).bind (as_N (k0 9))).bind _) _
  generalize t_setI r1 988 (k0 9) 2 = r2 at *
  rw [Option.bind_assoc, Option.bind_assoc]
  obtain ⟨S2, sn2, _⟩ := S1.cell (A := fun _ => False) (B := fun x => x = 988) h9 (l2_fr.rf (s := c1)) (f1.mono (fun b i y => Or.inl ⟨by omega, by omega, y.2⟩)) (fun _ _ _ => rfl) (fun x a b y => (f1 x _ (fun z => y z.1)).1)
  have g1 := (sn1 0).mc l2_fr.rf
  have gr1 := (sn2 0).mr ((sn1 0).mr l2_fr.rf)
  have flt : ∀ f2 p0 c' r', zS f f2 p0 c0 c' → yS P f f2 p0 r0 r' → t_h2 ((as_C (k0 9) c').bind (fun x => some (nI (k0 9), x))) ((as_N (k0 9) r').bind (fun x => some (nI (k0 9), x))) (so_O P nt f n2 n3 Y n L ka a g k0 c0 r0) := fun f2 p0 c' r' z y => h2_sep _ _ (l2_bd _ (z.asC h9) (fun x hx => l2_sm (show zS f f2 p0 c0 (nI (k0 9), x).2 from hx))) (l2_bd _ (y.asN h9) (fun x hx => l2_sm (show yS P f f2 p0 r0 (nI (k0 9), x).2 from hx))) (fun _ _ z y => Or.inr ⟨f2, p0, z, y⟩)
  refine fs_takeVar (side := 0) S2 hV h9 (by decide) g1 gr1 (fun k3 c3 r3 S3 ⟨k39, k34, k31⟩ k30 k38 k32 sn3 q3 vr wx e32 => ?_) flt
  have k39 : k3 9 = k0 9 + 1 := k39
  have k34 : k3 4 = k0 4 := k34
  have k31 : k3 1 = k0 1 := k31
  have k30 : k0 0 < k3 0 := k30
  have k38 : k3 8 = k0 8 := k38
  have k32 : k3 2 = k0 2 := k32
  unfold as_C
  have e4 : c3.1 334 2 = nI (k3 4) := S3.1.2.2.1.2.2.2.1
  rw [e4]
  have f4 : l2_fr (fun b j => b = 445 + k0 9 ∧ j = 5) c3 (t_setI c3 (445 + k0 9) 5 (nI (k3 4))) := l2_fr.set ⟨rfl, rfl⟩
  have v4 : (t_setI c3 (445 + k0 9) 5 (nI (k3 4))).1 (445 + k0 9) 5 = nI (k3 4) := by simp only [l2_gI, reduceIte]
  show t_h2 ((t_loop b_X6_readAssignment_27 t_N (445 + k0 9, 0, t_setI c3 (445 + k0 9) 5 (nI (k3 4)))).bind _) _ _
  generalize t_setI c3 (445 + k0 9) 5 (nI (k3 4)) = c4 at *
  obtain ⟨S4, sn4, q4⟩ := S3.cell (A := fun j => j = 5) (B := fun _ => False) h9 (f4.mono (fun b i y => ⟨y.1, by omega⟩)) (l2_fr.rf (s := r3)) (fun i _ y => (f4 _ _ (fun z => y z.2)).1) (fun _ _ _ _ => rfl)
  -- the reference's node of the way
  unfold as_N
  obtain ⟨x, e1, nm, x1, fx, nat, J1⟩ := pj_node02 (k := nI 58) nd_k58 S4.1.1
  have e1 : f_X13_node 58 0 r3 = some x := e1
  have hp : pc_p P (k0 0) < pc_p P (k3 0) := S4.1.1.pmono (k3 0 - k0 0) (k0 0) (by omega) (by omega)
  have J2 : pj P (k3 0) 0 0 (k3 1) (k3 2 + 1) c4 x.2 := by
    rw [k32] at J1 ⊢
    exact S0.1.1.slack J1 hp
  rw [e1, l2_bs, x1]
  obtain ⟨X, hX, r91, vx⟩ := vr
  have r91 : r3.1 991 (k0 9) = nI X := r91
  rw [if_pos (l2_ix (by omega) (by decide)), nI_clamp (n := k3 2) (by omega)]
  have x91 : x.2.1 991 (k0 9) = nI X := by rw [(fx 991 _ (by unfold nd_V; omega)).1]; exact r91
  rw [x91]
  have f5 : l2_fr (fun b j => b = 957 ∧ j = k3 2) x.2 (t_setJ x.2 957 (k3 2) (nI X).toInt64) := l2_fr.setJ ⟨rfl, rfl⟩
  show t_h2 _ ((t_loop b_X13_assignment_42 t_N (nI (k0 9), nI (k3 2), t_setJ x.2 957 (k3 2) (nI X).toInt64)).bind _) _
  generalize t_setJ x.2 957 (k3 2) (nI X).toInt64 = r5 at *
  have F5 : l2_fr (nd_V (k3 2)) r3 r5 := fx.trans (f5.mono (fun b j y => Or.inl ⟨by omega, by omega, y.2⟩))
  have J5 : pj P (k3 0) 0 0 (k3 1) (k3 2 + 1) c4 r5 := J2.fr (l2_fr.rf (W := fun _ _ => False)) f5 (fun j y => y) (fun b i _ _ y => y) (fun b i _ _ y => y) (fun y => y) (fun j _ => by omega) (fun b i _ _ => by omega)
  have r32 : r3.1 950 32 = 0 := by rw [e32, (f1 950 32 (by omega)).1]; exact h32
  have X4 := (S4.1.xp (S4.en hV) r32).1
  have X5 := X4.fr J5 (l2_fr.rf (W := fun _ _ => False)) F5 (fun b j _ y => y) (fun b i _ _ y => y) (fun j y => by unfold nd_V; omega)
  have bb := S4.1.2.2.2.2.2
  have S5 := S4.ofX (mm := k3 2) X5 l2_fr.rf (F5.mono (fun b j y => by
    rcases y with y | y
    · exact Or.inr (Or.inr (Or.inl ⟨y.1, y.2.1, by omega⟩))
    · exact Or.inl (by omega))) (Nat.le_refl _) (Nat.le_refl _) (by omega)
  obtain ⟨d1, d2, d3, d4, d5, d6, d7⟩ := nat
  have g5 : ∀ b, b ≠ 957 → r5.1 b (k3 2) = x.2.1 b (k3 2) := fun b y => (f5 b _ (by omega)).1
  have I : wI P nt f n2 Y n L v ka a g (k0 9) (k3 2) (k3 4) k3 c4 r3 0 (fun _ => k3 4) (fun _ => k3 2 + 1) (ck (k3 0) (k3 1) (k3 2 + 1) (k3 3) (k3 4) (k3 5) (k3 6) (k3 7) (k3 8) (k3 9)) c4 r5 := by
    refine ⟨S5, by rw [(F5 950 32 (by unfold nd_V; omega)).1]; exact r32, ⟨rfl, Nat.le_refl _, fun _ hx => hx⟩, fun n3 => ⟨⟨Nat.le_refl _, Nat.le_refl _, Nat.le_succ _, Nat.le_refl _, Nat.le_refl _, Nat.le_refl _, Nat.le_refl _, Nat.le_refl _, Nat.le_refl _, Nat.le_refl _⟩, l2_fr.rf, F5.mono (fun b j y => ?_), fun _ _ _ => rfl, fun y _ _ _ => (F5 y _ (by unfold nd_V; omega)).1, mK.of F5 (fun b j y => by unfold nd_V; omega)⟩, Nat.zero_le _, Nat.le_refl _, fun n3 h3 => ⟨mB.nil rfl rfl (fun _ => rfl) _ _ _ _, Nat.lt_succ_self _, ⟨?_, ?_, ?_⟩, ⟨?_, fun j hj => absurd hj (Nat.not_lt_zero _)⟩, rfl, rfl, rfl, Nat.le_refl _, fun j hj => absurd hj (Nat.not_lt_zero _)⟩⟩
    · rcases y with y | y
      · exact Or.inl (Or.inr (Or.inr (Or.inl ⟨y.1, y.2.1, by omega⟩)))
      · exact Or.inl (Or.inl (by omega))
    · rw [g5 955 (by decide)]; exact d1
    · rw [(f5 958 _ (by omega)).2.1]; exact d4
    · rw [g5 961 (by decide)]; exact d7
    · rw [g5 959 (by decide), if_neg (by decide)]; exact d5
  have b5 : k0 4 ≤ 2 * k0 1 + 2 * k0 9 := S0.1.2.2.2.2.2.2.2.2.2.1
  have sl1 : k3 4 + 1 ≤ 2 * k3 1 + 2 * k3 9 := by omega
  refine h2_bb _ (wy_loop I hV h9 (((sn3 0).trans (sn4 0)).mc g1) (((sn3 0).trans (sn4 0)).mr gr1) (fun vv EE G k' c' r' I' => as_end (n3 := n3) I' hV h9 hf (((sn3 0).trans (sn4 0)).mc g1) (((sn3 0).trans (sn4 0)).mr gr1) sl1) (fun f2 p0 c' r' z y => h2_sep _ _ (z.ae1 h9) (y.ae1 h9 _) (fun _ _ z y => Or.inr ⟨f2, p0, z, y⟩))) (fun c' r' h => h2_sm ?_)
  rcases h with ⟨k', mid, hi, t0, nd, S6, k69, k60, s6, m6, w6, wlt, r996, r995, c69, ww, xe, hie, px⟩ | ⟨f2, p0, z, y⟩
  rotate_left
  · exact Or.inr ⟨f2, p0, z, y⟩
  refine Or.inl ⟨rfl, rfl, k', n, L, Nat.lt_trans k30 k60, by omega, S6, Nat.le_refl _, ?_⟩
  have s46 := (sn4 n3).trans s6
  have s36 := (sn3 n3).trans s46
  have s16 := (sn2 n3).trans s36
  have s06 := (sn1 n3).trans s16
  have hff := S0.2.2.2.1
  have sA6 : sn n2 n3 f n (k0 9) sA sE (ox k0) c1 r1 k' c' r' := s16.mono (fun j y => by
    rcases y with y | y | y | y
    · exact y.elim
    · have y : j = 7 := y
      unfold sA; omega
    · have y : j = 5 := y
      unfold sA; omega
    · have y : j = 9 := y
      unfold sA; omega) (fun x y => by
    rcases y with y | y | y | y
    · have y : x = 988 := y
      unfold sE; omega
    · have y : x = 991 + 2 * 0 ∨ x = 992 + 2 * 0 := y
      unfold sE; omega
    · exact y.elim
    · have y : x = 995 ∨ x = 996 := y
      unfold sE; omega)
  have r988' : r'.1 988 (k0 9) = r2.1 988 (k0 9) := s36.2.2.2.2.1 988 (by decide) (by decide) (fun y => by
    rcases y with y | y | y
    · have y : (988 : Nat) = 991 + 2 * 0 ∨ (988 : Nat) = 992 + 2 * 0 := y
      omega
    · exact y
    · have y : (988 : Nat) = 995 ∨ (988 : Nat) = 996 := y
      omega)
  have r988 : r'.1 988 (k0 9) = 2 := r988'.trans v1
  have rr : ∀ y, y = 1000 ∨ y = 1001 → r'.1 y (k0 9) = r1.1 y (k0 9) := fun y hy => s16.2.2.2.2.1 y (by omega) (by omega) (fun z => by
    rcases z with z | z | z | z
    · have z : y = 988 := z
      omega
    · have z : y = 991 + 2 * 0 ∨ y = 992 + 2 * 0 := z
      omega
    · exact z
    · have z : y = 995 ∨ y = 996 := z
      omega)
  obtain ⟨⟨a1, a2, a3⟩, b1, b2, b3, b4, b5', b6, b7, b8, b9, b10, b11, b12, b13⟩ := id op
  have r1000 : r'.1 1000 (k0 9) = sl_v 9 := (rr 1000 (Or.inl rfl)).trans b11
  have r1001 : r'.1 1001 (k0 9) = nI f := (rr 1001 (Or.inr rfl)).trans b12
  have o3 := (sn3 0).1
  have o6 := s6.1
  have c5 : c'.1 (445 + k0 9) 5 = nI (k3 4) := by rw [s6.2.2.2.1 5 (by decide) (by decide)]; exact v4
  have s46r : ∀ x, 991 ≤ x → x ≤ 994 → r'.1 x (k0 9) = r3.1 x (k0 9) := fun x x1 x2 => s46.2.2.2.2.1 x (by omega) (by omega) (fun z => by
    rcases z with z | z
    · exact z
    · have z : x = 995 ∨ x = 996 := z
      omega)
  have vr' : vr_L v c' r' f n (k0 9) (k' 6) 0 := vr_L.fr (t := k3 3) (e := k3 4) (p := k3 5) ⟨X, hX, r91, vx⟩ s46.2.1 sf_cp (by decide) s46r (s46.2.2.2.1 7 (by decide) (fun z => by
    rcases z with z | z
    · have z : (7 : Nat) = 5 := z
      omega
    · have z : (7 : Nat) = 9 := z
      omega)) o6.2.2.2.2.2.2.1
  have hm : mE n2 n3 r' (E_f f n v) := (S0.mE hV hf (b2 := n2)).mono s06.2.2.2.2.2 (Nat.le_refl _) (Nat.le_refl _)
  have sk : sk_R n2 n3 (E_f f n v) v c' r' (k' 3) (k' 4) (k' 5) (k' 6) (k' 7) (k' 2) f n (k0 9) 2 2 9 := Or.inr (Or.inl ⟨rfl, rfl, rfl, vr', k3 2, k3 4, mid, hi, t0, nd, r996, r995, c5, c69, ww, xe, hie, px⟩)
  obtain ⟨st, e1', e989⟩ := op_R.st (hi := k' 9) op sA6 hff S0.2.1.1 (by decide) hu hm r988 r1000 (by decide) sk (by decide)
  have qq : sq c0 c4 := (q1.trans q3).trans q4
  have hl1 : k3 6 = k0 6 ∨ k3 6 = k0 6 + 1 ∧ ∃ X pl, wx_R c' r' f (k0 9) (k0 6) 14 0 (nI (k0 9)) 0 X pl := by
    rcases wx with wx | ⟨wx, X', pl, wx'⟩
    · exact Or.inl wx
    · have wx : k3 6 = k0 6 + 1 := wx
      have wx' : wx_R c3 r3 f (k0 9) (k0 6) 14 0 (nI (k0 9)) 0 X' pl := wx'
      exact Or.inr ⟨wx, X', pl, wx'.fr s46.2.1 (by omega) (by decide) s46r⟩
  have ml6 := (S6.1.1.mle (by decide)).1
  have M := as_mB qq hl1 m6 w6 ⟨r988, r996, r1000, r1001⟩ hff wlt (by omega)
  rw [k38, k32] at M
  refine ⟨s06.1, s06.2.1, s06.2.2.1, s06.2.2.2.2.2, ?_, fun ln l1 l2 => ?_, e1', e989⟩
  · rw [k69, k39]
    exact M
  · have e : ln = k0 9 := by omega
    rw [e]
    exact st
end
