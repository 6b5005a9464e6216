/-! Level 2: simple statements, kind by kind: SET, CALL, USUAL, CREATE. -/
section
variable {P : pc_S} {nt : Nat → Nat} {f n n' n2 n3 Y a g f2 p0 ln so K V : Nat} {L L' v : Nat → Nat} {ka : Int32} {k k0 k1 k2 k' : Nat → Nat} {c0 r0 c r c1 r1 c2 r2 c' r' : t_S} {A B A' B' : Nat → Prop}
theorem i32_mid (t : Int32) (h1 : ¬ t < 244) (h2 : t ≤ 246) : t = 244 ∨ t = 245 ∨ t = 246 := by
  rw [Int32.lt_iff_toInt_lt] at h1
  rw [Int32.le_iff_toInt_le] at h2
  have e1 : (244 : Int32).toInt = 244 := by decide
  have e2 : (246 : Int32).toInt = 246 := by decide
  have e3 : (245 : Int32).toInt = 245 := by decide
  have : t.toInt = 244 ∨ t.toInt = 245 ∨ t.toInt = 246 := by omega
  rcases this with y | y | y
  · exact Or.inl (Int32.toInt_inj.mp (y.trans e1.symm))
  · exact Or.inr (Or.inl (Int32.toInt_inj.mp (y.trans e3.symm)))
  · exact Or.inr (Or.inr (Int32.toInt_inj.mp (y.trans e2.symm)))
noncomputable def rp_T (c : t_S) : Option t_S := if c.1 1 8 < 244 then k_X6_readPlain_189 c else if c.1 1 8 ≤ 246 then k_X6_readPlain_197 c else k_X6_readPlain_189 c
theorem rp_7 (hl : ln < 400) (c : t_S) : f_X6_readPlain (nI ln) 7 c = t_let (t_setI c (445 + ln) 6 ((1 + c.1 1 8) - 244)) rp_T := by
  unfold f_X6_readPlain rp_T
  rw [if_pos (l2_ix hl (by decide)), if_neg (by decide), if_neg (by decide), if_neg (by decide), if_neg (by decide), if_neg (by decide), if_neg (by decide), if_neg (by decide), if_pos (by decide), nI_clamp (n := ln) (by omega)]
  simp only [Nat.one_mul]
  rfl
noncomputable def sp_T (ln : Nat) (r : t_S) : Option t_S := if f_X13_isWord 44 r = 0 then (if f_X13_isWord 45 r = 0 then (if f_X13_isWord 46 r = 0 then (f_X13_fail 2 (r.1 950 6) r).bind (fun x => k_X13_simple_215 (nI ln) x) else k_X13_simple_215 (nI ln) r) else k_X13_simple_215 (nI ln) r) else k_X13_simple_215 (nI ln) r
theorem sp_43 (hl : ln < 400) (r : t_S) : f_X13_simple (nI ln) 43 r = t_let (t_setI r 988 ln (nI 7)) (sp_T ln) := by
  unfold f_X13_simple
  rw [if_neg (by decide), if_neg (by decide), if_neg (by decide), if_pos (by decide), if_pos (l2_ix (by omega) (by decide)), nI_clamp (n := ln) (by omega)]
  rfl
theorem sp_215 (hl : ln < 400) (r : t_S) : k_X13_simple_215 (nI ln) r = t_let (t_setI r 991 ln ((r.1 950 10 - 44) + 1)) (fun s => f_X13_next s) := by
  unfold k_X13_simple_215
  rw [if_pos (l2_ix (by omega) (by decide)), nI_clamp (n := ln) (by omega)]
  show ((f_X13_next (t_setI r 991 ln (r.1 950 10 - 44 + 1))).bind fun r2 => some r2) = f_X13_next (t_setI r 991 ln (r.1 950 10 - 44 + 1))
  rw [bd_some]
theorem sI.set (h : sI P nt f n2 n3 Y n L v ka a g ln 0 k c r c0 r0) : t_h2 (f_X6_readPlain (nI ln) 7 c) (f_X13_simple (nI ln) 43 r) (sO P nt f n2 n3 Y n v ka a g ln 7 7 k c r c0 r0) := by
  rw [rp_7 h.2.2.2.1, sp_43 h.2.2.2.1]
  refine h.kind (by decide) (fun r1 h1 _ => h2_lL ?_)
  obtain ⟨S, h32, hV, hl, hf, gc, gr', o, sl, hK⟩ := id h1
  have f1 : l2_fr (fun b j => b = 445 + ln ∧ j = 6) c (t_setI c (445 + ln) 6 ((1 + c.1 1 8) - 244)) := l2_fr.set ⟨rfl, rfl⟩
  have v1 : (t_setI c (445 + ln) 6 ((1 + c.1 1 8) - 244)).1 (445 + ln) 6 = (1 + c.1 1 8) - 244 := by simp only [l2_gI, reduceIte]
  generalize t_setI c (445 + ln) 6 ((1 + c.1 1 8) - 244) = c2 at *
  obtain ⟨S2, sn2, q2⟩ := S.cell (A := fun j => j = 6) (B := fun _ => False) hl (f1.mono (fun b j y => ⟨y.1, by omega⟩)) (l2_fr.rf (s := r1)) (fun j _ y => (f1 _ j (fun z => y z.2)).1) (fun _ _ _ _ => rfl)
  have t2 : c2.1 1 8 = c.1 1 8 := (f1 1 8 (by omega)).1
  -- one of the three words
  have good : ∀ i x : Nat, 1 ≤ x → x ≤ 3 → c2.1 1 8 = nI i → i = 243 + x → r1.1 950 10 = nI (43 + x) → t_h2 (k_X6_readPlain_197 c2) (k_X13_simple_215 (nI ln) r1) (sO P nt f n2 n3 Y n v ka a g ln 7 7 k c r1 c0 r0) := fun i x x1 x2 e1 e2 e3 => by
    rw [sp_215 hl, e3]
    unfold k_X6_readPlain_197
    rw [bd_some]
    refine h2_lR ?_
    have ev : (nI (43 + x) - 44) + 1 = nI x := by
      rw [show (44 : Int32) = nI 44 from rfl]
      have : x = 1 ∨ x = 2 ∨ x = 3 := by omega
      rcases this with rfl | rfl | rfl <;> rfl
    rw [ev]
    have cv : c2.1 (445 + ln) 6 = nI x := by
      rw [v1, ← t2, e1, e2]
      have : x = 1 ∨ x = 2 ∨ x = 3 := by omega
      rcases this with rfl | rfl | rfl <;> rfl
    have f3 : l2_fr (fun b j => b = 991 ∧ j = ln) r1 (t_setI r1 991 ln (nI x)) := l2_fr.set ⟨rfl, rfl⟩
    have v3 : (t_setI r1 991 ln (nI x)).1 991 ln = nI x := by simp only [l2_gI, reduceIte]
    generalize t_setI r1 991 ln (nI x) = r3 at *
    obtain ⟨S3, sn3, q3⟩ := S2.cell (A := fun _ => False) (B := fun y => y = 991) hl (l2_fr.rf (s := c2)) (f3.mono (fun b j y => Or.inl ⟨by omega, by omega, y.2⟩)) (fun _ _ _ => rfl) (fun y _ _ z => (f3 y ln (fun w => z w.1)).1)
    have n1 : c2.1 1 8 ≠ 1 := by rw [e1]; exact fun y => by have := (nI_eq (b := 1) (by omega) (by decide)).mp y; omega
    have n4 : c2.1 1 8 ≠ 4 := by rw [e1]; exact fun y => by have := (nI_eq (b := 4) (by omega) (by decide)).mp y; omega
    rw [← bd_some (f_X2_advance c2), ← bd_some (f_X13_next r3)]
    have sn03 := (sn2 0).trans (sn3 0)
    refine fs_adv S3 S3.1.1 (Or.inr n1) n4 hl (sn03.mc gc) (sn03.mr gr') (fun c' r' S4 sn4 q4 y1 y2 => h2_sm (Or.inl ?_)) (fun f2 p0 c' r' z y => h2_sm (Or.inr ⟨f2, p0, z, y.toR⟩))
    have q : sn n2 n3 f n ln (fun j => j = 6) (fun y => y = 991) k c r1 (nx k) c' r' := (((sn2 n3).trans (sn3 n3)).trans (sn4 n3 (fun _ => False) (fun _ => False))).mono (fun j y => y.elim (fun y => y.elim id False.elim) False.elim) (fun j y => y.elim (fun y => y.elim False.elim id) False.elim)
    obtain ⟨_, _, _, e4⟩ := h1.row q (fun x y => by omega)
    have qq := q2.trans (q3.trans q4)
    refine h1.fin S4 (Nat.le_refl _) rfl (Nat.le_succ _) q (fun j y => by unfold sA; omega) (fun x y => by unfold sE; omega) ((mB.nil qq.1 qq.2.1 qq.2.2 (k 6) (k 8) (k 2) ln).wide e4) ?_
    refine Or.inr (Or.inr (Or.inr (Or.inr (Or.inr (Or.inl ⟨rfl, rfl, rfl, x, x1, x2, ?_, ?_⟩)))))
    · rw [(y1 _ 6 (by unfold la_W; omega)).1]; exact cv
    · rw [(y2 991 ln (by unfold rn_W; omega)).1]; exact v3
  have J := S2.1.1
  have bad : c2.1 1 8 ≠ 244 → c2.1 1 8 ≠ 245 → c2.1 1 8 ≠ 246 → t_h2 (rp_T c2) (sp_T ln r1) (sO P nt f n2 n3 Y n v ka a g ln 7 7 k c r1 c0 r0) := fun e1 e2 e3 => by
    have w : ∀ x, x < 66 → c2.1 1 8 ≠ nI (200 + x) → f_X13_isWord (nI (pv x)) r1 = 0 := fun x hx y => by
      rcases J.isW hx with z | z
      · exact absurd z.1 y
      · exact z.2
    unfold rp_T sp_T
    rw [if_pos (show f_X13_isWord 44 r1 = 0 from w 44 (by decide) e1), if_pos (show f_X13_isWord 45 r1 = 0 from w 45 (by decide) e2), if_pos (show f_X13_isWord 46 r1 = 0 from w 46 (by decide) e3)]
    have cc : (if c2.1 1 8 < 244 then k_X6_readPlain_189 c2 else if c2.1 1 8 ≤ 246 then k_X6_readPlain_197 c2 else k_X6_readPlain_189 c2) = k_X6_readPlain_189 c2 := by
      by_cases z1 : c2.1 1 8 < 244
      · rw [if_pos z1]
      · rw [if_neg z1]
        by_cases z2 : c2.1 1 8 ≤ 246
        · rcases i32_mid _ z1 z2 with y | y | y
          · exact absurd y e1
          · exact absurd y e2
          · exact absurd y e3
        · rw [if_neg z2]
    rw [cc]
    unfold k_X6_readPlain_189
    refine h2_bb _ (pj_fail J (by decide) (f := 2) (by decide)) (fun c' r' hw => ?_)
    obtain ⟨y1, y2, f2, p0, y3, y4⟩ := hw
    have z := S2.z y3 y1 ((sn2 0).mc gc)
    have y := S2.y y4 y2 gr'
    unfold k_X6_readPlain_197
    rw [sp_215 hl, z.1.adv, l2_bs]
    refine h2_lR (h2_doneL (l2_imp (y.set (b := 991) (j := ln) (x := (r'.1 950 10 - 44) + 1) (by unfold mo_Wr; omega) (by omega)).next (fun x hx => Or.inr ⟨f2, p0, z, hx.toR⟩)))
  have isne : ∀ i, i < 66 → c2.1 1 8 = nI (200 + i) → f_X13_isWord (nI (pv i)) r1 = 1 := fun i hi y => by
    rcases J.isW hi with z | z
    · exact z.2
    · exact absurd y z.1
  have v10 : ∀ i, i < 66 → c2.1 1 8 = nI (200 + i) → r1.1 950 10 = nI (pv i) := fun i hi y => by
    rcases J.kw with ⟨i', i1, i2, i3, i4⟩ | ⟨z, _⟩
    · have : i' = i := by
        have := (nI_eq (by omega) (by omega)).mp (i2.symm.trans y)
        omega
      rw [← this]; exact i4
    · exact absurd y (z i hi)
  by_cases e1 : c2.1 1 8 = 244
  · have a := good 244 1 (by decide) (by decide) e1 rfl (v10 44 (by decide) e1)
    have w1 : f_X13_isWord 44 r1 = 1 := isne 44 (by decide) e1
    unfold rp_T sp_T
    rw [if_neg (by rw [e1]; decide), if_pos (by rw [e1]; decide), if_neg (by rw [w1]; decide)]
    exact a
  by_cases e2 : c2.1 1 8 = 245
  · have a := good 245 2 (by decide) (by decide) e2 rfl (v10 45 (by decide) e2)
    have w1 : f_X13_isWord 45 r1 = 1 := isne 45 (by decide) e2
    unfold rp_T sp_T
    rw [if_neg (by rw [e2]; decide), if_pos (by rw [e2]; decide), if_neg (show ¬ f_X13_isWord 45 r1 = 0 by rw [w1]; decide), ite_self]
    exact a
  by_cases e3 : c2.1 1 8 = 246
  · have a := good 246 3 (by decide) (by decide) e3 rfl (v10 46 (by decide) e3)
    have w1 : f_X13_isWord 46 r1 = 1 := isne 46 (by decide) e3
    unfold rp_T sp_T
    rw [if_neg (by rw [e3]; decide), if_pos (by rw [e3]; decide), if_neg (show ¬ f_X13_isWord 46 r1 = 0 by rw [w1]; decide), ite_self, ite_self]
    exact a
  exact bad e1 e2 e3
end
