/-! Level 2: IF, WHILE, ALT, events as statements, whole. -/
noncomputable def if_C3 (rc : RT_X6_readAlts) (d : Int32) (ln : Nat) (s : t_S) : Option (Int32 × t_S) := (f_X2_take 238 s).bind (fun r8 => if r8.1 = 0 then some (nI ln, r8.2) else (rc.2.1 d (nI ln) r8.2).bind (fun r9 => t_let (t_setI r9.2 (445 + ln) (3 + 1) r9.1) (fun s3 => some (nI ln, s3))))
noncomputable def if_C (rc : RT_X6_readAlts) (d : Int32) (ln : Nat) (F : t_S → Option (Int32 × t_S)) (s : t_S) : Option (Int32 × t_S) := (f_X6_readExp (-1) s).bind (fun y => t_let (t_setI y.2 (445 + ln) 5 y.1) (fun s => (rc.2.1 d (nI ln) s).bind (fun x => t_let (t_setI x.2 (445 + ln) (3 + 0) x.1) F)))
noncomputable def if_R3 (rc : RT_X13_block) (d : Int32) (ln : Nat) (s : t_S) : Option (Int32 × t_S) := if f_X13_isWord 38 s = 0 then some (nI ln, s) else (f_X13_next s).bind (fun r8 => (rc.1 (nI ln) d r8).bind (fun r9 => t_let (t_setI r9.2 (998 + 1) ln r9.1) (fun s5 => some (nI ln, s5))))
noncomputable def if_R (rc : RT_X13_block) (d K : Int32) (ln : Nat) (F : t_S → Option (Int32 × t_S)) (s : t_S) : Option (Int32 × t_S) := t_let (t_setI s 988 ln K) (fun s => (f_X13_exp s).bind (fun y => t_let (t_setI y.2 995 ln y.1) (fun s => (rc.1 (nI ln) d s).bind (fun x => t_let (t_setI x.2 (998 + 0) ln x.1) F))))
noncomputable def al_C (rc : RT_X6_readAlts) (d : Int32) (ln : Nat) (s : t_S) : Option (Int32 × t_S) := (rc.1 d (nI ln) s).bind (fun x => t_let (t_setI x.2 (445 + ln) (3 + 0) x.1) (fun s => some (nI ln, s)))
noncomputable def al_R (rc : RT_X13_block) (d : Int32) (ln : Nat) (s : t_S) : Option (Int32 × t_S) := t_let (t_setI s 988 ln (nI 10)) (fun s => (rc.2.2.1 (nI ln) d s).bind (fun x => t_let (t_setI x.2 (998 + 0) ln x.1) (fun s => some (nI ln, s))))
section
variable {P : pc_S} {nt : Nat → Nat} {f n n' n2 n3 Y a g f2 p0 so K V d i ln : Nat} {L L' v : Nat → Nat} {ka up w3 w4 : Int32} {k k0 k' : Nat → Nat} {c0 r0 c r c1 r1 c' r' : t_S} {A B : Nat → Prop} {rcC : RT_X6_readAlts} {rcR : RT_X13_block}
theorem zS.if3 (h : zS f f2 p0 c0 c) (x : Int32) : if_C3 rcC x ln c = some (nI ln, c) := by
  unfold if_C3
  rw [h.1.take (by decide), l2_bs, if_pos rfl]
theorem zS.ifC {F : t_S → Option (Int32 × t_S)} (h : zS f f2 p0 c0 c) (hC : bkC rcC) (hl : ln < 400) (x : Int32) (hF : ∀ c', zS f f2 p0 c0 c' → t_hk (F c') (fun y => zS f f2 p0 c0 y.2)) : t_hk (if_C rcC x ln F c) (fun y => zS f f2 p0 c0 y.2) := by
  unfold if_C
  exact l2_bd _ (h.exp _) (fun y hy => l2_lt (l2_bd _ (hC f f2 p0 c0 _ x (nI ln) (hy.set (b := 445 + ln) (j := 5) (x := y.1) (by unfold mo_Wc; omega) (by omega))).1 (fun z hz => l2_lt (hF _ (hz.set (by unfold mo_Wc; omega) (by omega))))))
theorem yS.if3 (h : yS P f f2 p0 r0 r) (hR : bkR rcR) (x : Int32) : t_hk (if_R3 rcR x ln r) (fun y => yS P f f2 p0 r0 y.2) := by
  unfold if_R3
  exact l2_if (fun _ => l2_sm h) (fun _ => l2_bd _ h.next (fun y hy => l2_bd _ (hR P f f2 p0 r0 _ x (nI ln) hy.toR).1 (fun z hz => l2_lt (l2_sm (hz.set (b := 998 + 1) (by unfold mo_Wr; omega) (by omega))))))
theorem yS.ifR {F : t_S → Option (Int32 × t_S)} (h : yS P f f2 p0 r0 r) (hR : bkR rcR) (x K : Int32) (hF : ∀ r', yS P f f2 p0 r0 r' → t_hk (F r') (fun y => yS P f f2 p0 r0 y.2)) : t_hk (if_R rcR x K ln F r) (fun y => yS P f f2 p0 r0 y.2) := by
  unfold if_R
  refine l2_lt ?_
  have h1 := h.set (b := 988) (j := ln) (x := K) (by unfold mo_Wr; omega) (by omega)
  rw [h1.exp, l2_bs]
  exact l2_lt (l2_bd _ (hR P f f2 p0 r0 _ x (nI ln) (h1.set (b := 995) (j := ln) (x := 0) (by unfold mo_Wr; omega) (by omega)).toR).1 (fun z hz => l2_lt (hF _ (hz.set (b := 998 + 0) (by unfold mo_Wr; omega) (by omega)))))
theorem zS.alC (h : zS f f2 p0 c0 c) (hC : bkC rcC) (hl : ln < 400) (x : Int32) : t_hk (al_C rcC x ln c) (fun y => zS f f2 p0 c0 y.2) := by
  unfold al_C
  exact l2_bd _ (hC f f2 p0 c0 _ x (nI ln) h).2 (fun z hz => l2_lt (l2_sm (hz.set (b := 445 + ln) (j := 3 + 0) (by unfold mo_Wc; omega) (by omega))))
theorem yS.alR (h : yS P f f2 p0 r0 r) (hR : bkR rcR) (x : Int32) : t_hk (al_R rcR x ln r) (fun y => yS P f f2 p0 r0 y.2) := by
  unfold al_R
  refine l2_lt ?_
  have h1 := h.set (b := 988) (j := ln) (x := nI 10) (by unfold mo_Wr; omega) (by omega)
  exact l2_bd _ (hR P f f2 p0 r0 _ x (nI ln) h1.toR).2 (fun z hz => l2_lt (l2_sm (hz.set (b := 998 + 0) (j := ln) (by unfold mo_Wr; omega) (by omega))))
/-- what they all come to -/
theorem cS.out (h : cS P nt f n2 n3 Y n v ka a g k0 c0 r0 so K V up w3 w4 n' L' k c r) (S0 : fs P nt f n2 Y n L ka a g k0 c0 r0) (hV : en_V n 1 L v) (hf : f < n3) (hk : so < 30 ∧ K < 30 ∧ V < 10) (hu : up = -1 ∨ ∃ j, j < k0 9 ∧ up = nI j) : so_O P nt f n2 n3 Y n L ka a g k0 c0 r0 (nI (k0 9), c) (nI (k0 9), r) := Or.inl ⟨rfl, rfl, h.fin S0 hV hf hk hu⟩
/-- IF, WHILE -/
theorem st_ifw {F F' : t_S → Option (Int32 × t_S)} (hso : so = 3 ∨ so = 4) (S0 : fs P nt f n2 Y n L ka a g k0 c0 r0) (h9 : k0 9 < 400) (S1 : fs P nt f n2 Y n L ka a g (ox k0) c1 r1) (h32 : r1.1 950 32 = 0) (hV : en_V n 1 L v) (hf : f < n3) (sn1 : ∀ n3, sn n2 n3 f n (k0 9) (fun _ => True) (fun _ => True) k0 c0 r0 (ox k0) c1 r1) (q1 : sq c0 c1) (op : op_R c1 r1 f n (k0 9) (nI so) up 0) (t : c1.1 1 8 = nI (200 + i)) (hi : i < 66) (hG : bkG rcC rcR d) (hC : bkC rcC) (hR : bkR rcR) (hg : ∀ w3 w4 n' L' k' c' r', cS P nt f n2 n3 Y n v ka a g k0 c0 r0 so so 9 up w3 w4 n' L' k' c' r' → t_h2 (F c') (F' r') (so_O P nt f n2 n3 Y n L ka a g k0 c0 r0)) (hbC : ∀ f2 p0 c', zS f f2 p0 c0 c' → t_hk (F c') (fun y => zS f f2 p0 c0 y.2)) (hbR : ∀ f2 p0 r', yS P f f2 p0 r0 r' → t_hk (F' r') (fun y => yS P f f2 p0 r0 y.2)) : t_h2 ((f_X2_advance c1).bind (if_C rcC (nI d) (k0 9) F)) ((f_X13_next r1).bind (if_R rcR (nI d) (nI so) (k0 9) F')) (so_O P nt f n2 n3 Y n L ka a g k0 c0 r0) := by
  refine st_begin S0 h9 S1 h32 hV hf sn1 q1 op t hi (fun c r I op2 sn2 q2 => ?_) (fun f2 p0 c' r' z y => h2_sep _ _ (z.ifC hC h9 (nI d) (fun c' z => hbC f2 p0 c' z)) (y.ifR hR (nI d) (nI so) (fun r' y => hbR f2 p0 r' y)) (fun _ _ z y => Or.inr ⟨f2, p0, z, y⟩))
  unfold if_C if_R
  refine cS_kind (n3 := n3) (Kn := so) I.1 h9 sn2 op2 I.2.1 (fun r2 S2 sn3 op3 h322 => ?_)
  refine cS_exp hso S0 h9 S2 sn3 q2 op3 h322 hV hf (fun k3 c3 r3 h3 => ?_) (fun f2 p0 c' r' z y => ?_)
  · exact cS_bs (w := 0) h3 (hG P nt f n2 n3 Y n L ka a g k3 c3 r3 (nI (k0 9)) h3.1 hf (Or.inr ⟨k0 9, h3.2.1.2.1, rfl⟩)).1 (by decide) h9 (fun k' n'' L'' w3' w4' c' r' h' => hg _ _ _ _ _ _ _ h') (fun f2 p0 c' r' z y => h2_sep _ _ (hbC f2 p0 c' z) (hbR f2 p0 r' y) (fun _ _ z y => Or.inr ⟨f2, p0, z, y⟩))
  · exact h2_sep _ _ (l2_bd _ (hC f f2 p0 c0 _ (nI d) (nI (k0 9)) z).1 (fun x hx => l2_lt (hbC f2 p0 _ (hx.set (by unfold mo_Wc; omega) (by omega))))) (l2_bd _ (hR P f f2 p0 r0 _ (nI d) (nI (k0 9)) y).1 (fun x hx => l2_lt (hbR f2 p0 _ (hx.set (by unfold mo_Wr; omega) (by omega))))) (fun _ _ z y => Or.inr ⟨f2, p0, z, y⟩)
theorem st_while (S0 : fs P nt f n2 Y n L ka a g k0 c0 r0) (h9 : k0 9 < 400) (S1 : fs P nt f n2 Y n L ka a g (ox k0) c1 r1) (h32 : r1.1 950 32 = 0) (hV : en_V n 1 L v) (hf : f < n3) (sn1 : ∀ n3, sn n2 n3 f n (k0 9) (fun _ => True) (fun _ => True) k0 c0 r0 (ox k0) c1 r1) (q1 : sq c0 c1) (op : op_R c1 r1 f n (k0 9) (nI 4) up 0) (hu : up = -1 ∨ ∃ j, j < k0 9 ∧ up = nI j) (t : c1.1 1 8 = nI (200 + i)) (hi : i < 66) (hG : bkG rcC rcR d) (hC : bkC rcC) (hR : bkR rcR) : t_h2 ((f_X2_advance c1).bind (if_C rcC (nI d) (k0 9) (fun s => some (nI (k0 9), s)))) ((f_X13_next r1).bind (if_R rcR (nI d) (nI 4) (k0 9) (fun s => some (nI (k0 9), s)))) (so_O P nt f n2 n3 Y n L ka a g k0 c0 r0) := st_ifw (Or.inr rfl) S0 h9 S1 h32 hV hf sn1 q1 op t hi hG hC hR (fun w3 w4 n' L' k' c' r' h' => h2_sm (h'.out S0 hV hf (by decide) hu)) (fun f2 p0 c' z => l2_sm z) (fun f2 p0 r' y => l2_sm y)
theorem st_if (S0 : fs P nt f n2 Y n L ka a g k0 c0 r0) (h9 : k0 9 < 400) (S1 : fs P nt f n2 Y n L ka a g (ox k0) c1 r1) (h32 : r1.1 950 32 = 0) (hV : en_V n 1 L v) (hf : f < n3) (sn1 : ∀ n3, sn n2 n3 f n (k0 9) (fun _ => True) (fun _ => True) k0 c0 r0 (ox k0) c1 r1) (q1 : sq c0 c1) (op : op_R c1 r1 f n (k0 9) (nI 3) up 0) (hu : up = -1 ∨ ∃ j, j < k0 9 ∧ up = nI j) (t : c1.1 1 8 = nI (200 + i)) (hi : i < 66) (hG : bkG rcC rcR d) (hC : bkC rcC) (hR : bkR rcR) : t_h2 ((f_X2_advance c1).bind (if_C rcC (nI d) (k0 9) (if_C3 rcC (nI d) (k0 9)))) ((f_X13_next r1).bind (if_R rcR (nI d) (nI 3) (k0 9) (if_R3 rcR (nI d) (k0 9)))) (so_O P nt f n2 n3 Y n L ka a g k0 c0 r0) := by
  refine st_ifw (Or.inl rfl) S0 h9 S1 h32 hV hf sn1 q1 op t hi hG hC hR (fun w3 w4 n' L' k' c' r' h' => ?_) (fun f2 p0 c' z => by rw [z.if3]; exact l2_sm z) (fun f2 p0 r' y => y.if3 hR _)
  unfold if_C3 if_R3
  rcases h'.1.1.1.isW (x := 38) (by decide) with ⟨x1, x2⟩ | ⟨x1, x2⟩
  rotate_left
  · have x2 : f_X13_isWord 38 r' = 0 := x2
    rw [pj_nottook (x := 238) x1, l2_bs, if_pos rfl, if_pos x2]
    exact h2_sm (h'.out S0 hV hf (by decide) hu)
  have x2 : f_X13_isWord 38 r' = 1 := x2
  rw [if_neg (show ¬ f_X13_isWord 38 r' = 0 by rw [x2]; decide)]
  refine h2_bb _ (pj_took h'.1.1.1 (by decide) (x := 238) (by decide) x1) (fun y r2 hw => ?_)
  obtain ⟨y0, y1, y2, y3⟩ := hw
  obtain ⟨yv, c2⟩ := y
  have y0 : yv = 1 := y0
  have y1 : l2_fr la_W c' c2 := y1
  subst y0
  rw [if_neg (show ¬ (1 : Int32) = 0 by decide)]
  have bad : ∀ f2 p0 c' r', zS f f2 p0 c0 c' → yS P f f2 p0 r0 r' → t_h2 ((rcC.2.1 (nI d) (nI (k0 9)) c').bind (fun r9 => t_let (t_setI r9.2 (445 + k0 9) (3 + 1) r9.1) (fun s3 => some (nI (k0 9), s3)))) ((rcR.1 (nI (k0 9)) (nI d) r').bind (fun r9 => t_let (t_setI r9.2 (998 + 1) (k0 9) r9.1) (fun s5 => some (nI (k0 9), s5)))) (so_O P nt f n2 n3 Y n L ka a g k0 c0 r0) := fun f2 p0 c' r' z y => h2_sep (fun x => zS f f2 p0 c0 x.2) (fun x => yS P f f2 p0 r0 x.2) (l2_bd _ (hC f f2 p0 c0 _ (nI d) (nI (k0 9)) z).1 (fun x hx => l2_lt (l2_sm (hx.set (by unfold mo_Wc; omega) (by omega))))) (l2_bd _ (hR P f f2 p0 r0 _ (nI d) (nI (k0 9)) y.toR).1 (fun x hx => l2_lt (l2_sm (hx.set (by unfold mo_Wr; omega) (by omega))))) (fun _ _ z y => Or.inr ⟨f2, p0, z, y⟩)
  rcases y3 with J | ⟨f2, p0, y3, y4⟩
  rotate_left
  · exact bad f2 p0 c2 r2 (h'.1.z y3 y1 h'.mc) (h'.1.y y4 y2 h'.mr)
  have S2 := (h'.1.la (n2 := n2) (n3 := n3) (ln := 0) (A := fun _ => False) (B := fun _ => False) (k' := nx k') (by decide) rfl ⟨rfl, rfl, rfl, rfl, rfl, rfl, rfl, rfl, rfl⟩ J y1 y2).1
  have h2 := h'.la S2 y1 y2
  exact cS_bs (w := 1) h2 (hG P nt f n2 n3 Y n' L' ka a g (nx k') c2 r2 (nI (k0 9)) h2.1 hf (Or.inr ⟨k0 9, h2.2.1.2.1, rfl⟩)).1 (by decide) h9 (fun k' n'' L'' w3' w4' c' r' h' => h2_sm (h'.out S0 hV hf (by decide) hu)) (fun f2 p0 c' r' z y => h2_sm (Or.inr ⟨f2, p0, z, y⟩))
/-- ALT -/
theorem st_alt (S0 : fs P nt f n2 Y n L ka a g k0 c0 r0) (h9 : k0 9 < 400) (S1 : fs P nt f n2 Y n L ka a g (ox k0) c1 r1) (h32 : r1.1 950 32 = 0) (hV : en_V n 1 L v) (hf : f < n3) (sn1 : ∀ n3, sn n2 n3 f n (k0 9) (fun _ => True) (fun _ => True) k0 c0 r0 (ox k0) c1 r1) (q1 : sq c0 c1) (op : op_R c1 r1 f n (k0 9) (nI 10) up 0) (hu : up = -1 ∨ ∃ j, j < k0 9 ∧ up = nI j) (t : c1.1 1 8 = nI (200 + i)) (hi : i < 66) (hG : bkG rcC rcR d) (hC : bkC rcC) (hR : bkR rcR) : t_h2 ((f_X2_advance c1).bind (al_C rcC (nI d) (k0 9))) ((f_X13_next r1).bind (al_R rcR (nI d) (k0 9))) (so_O P nt f n2 n3 Y n L ka a g k0 c0 r0) := by
  refine st_begin S0 h9 S1 h32 hV hf sn1 q1 op t hi (fun c r I op2 sn2 q2 => ?_) (fun f2 p0 c' r' z y => h2_sep _ _ (z.alC hC h9 (nI d)) (y.alR hR (nI d)) (fun _ _ z y => Or.inr ⟨f2, p0, z, y⟩))
  unfold al_C al_R
  refine cS_kind (n3 := n3) (Kn := 10) I.1 h9 sn2 op2 I.2.1 (fun r2 S2 sn3 op3 h322 => ?_)
  obtain ⟨⟨a1, a2, a3⟩, b1, b2, b3, b4, b5, b6, b7, b8, b9, b10, b11, b12, b13⟩ := op3
  have no2 : ∀ x, k0 9 ≤ x → x < k0 9 + 1 → r2.1 988 x ≠ 2 := fun x x1 x2 y => by
    have e : x = k0 9 := by omega
    rw [e, b1] at y
    exact absurd y (by decide)
  have h3 : cS P nt f n2 n3 Y n v ka a g k0 c0 r0 10 10 9 up (-1) (-1) n L (nx (ox k0)) c r2 := cS.mk S2 sn3 rfl (Nat.lt_succ_self _) ((mB.nil q2.1 q2.2.1 q2.2.2 _ _ _ (k0 9)).wide no2) ⟨a1, a3 1 (by decide) (by decide) (by decide), a2, a3 3 (by decide) (by decide) (by decide), a3 4 (by decide) (by decide) (by decide), b1, b2, b3, b9, b10, b11, b12, b13⟩ (fun y => by omega) (by unfold sk_R; simp)
  exact cS_bs (w := 0) h3 (hG P nt f n2 n3 Y n L ka a g _ c r2 (nI (k0 9)) h3.1 hf (Or.inr ⟨k0 9, h3.2.1.2.1, rfl⟩)).2 (by decide) h9 (fun k' n'' L'' w3' w4' c' r' h' => h2_sm (h'.out S0 hV hf (by decide) hu)) (fun f2 p0 c' r' z y => h2_sm (Or.inr ⟨f2, p0, z, y⟩))
end
