/-! Level 2: a function as an item: its body. -/
section
variable {P : pc_S} {nt : Nat → Nat} {f n n2 n3 Y a g f2 p0 u so : Nat} {L : Nat → Nat} {ka : Int32} {k : Nat → Nat} {c0 r0 c r c1 r1 c' r' : t_S}
theorem al_all (S : fs P nt f n2 Y n L ka a g k c r) (hf : f < n3) : t_h2 (f_X6_readAlts 0 (-1) c) (f_X13_branches (-1) 0 r) (bk_O P nt f n2 n3 Y n L ka a g k c r) := (bkG_all 17 (Nat.le_refl _) 98 99 (by decide) (by decide) P nt f n2 n3 Y n L ka a g k c r (-1) S hf (Or.inl rfl)).2
def ub_Wc (f n : Nat) (k : Nat → Nat) (b j : Nat) : Prop := sf_Wc f n k (k 9) b j ∨ (b = 441 ∧ j = f) ∨ (b = 845 ∧ (j = 12 ∨ j = 14))
def ub_Wr (f n : Nat) (k : Nat → Nat) (b j : Nat) : Prop := sf_Wr f n k (k 9) b j ∨ (b = 950 ∧ j = 33) ∨ (b = 987 ∧ j = f)
/-- a body read, from its ) on -/
def uB_G (P : pc_S) (nt : Nat → Nat) (f n2 a g : Nat) (k : Nat → Nat) (c r : t_S) (n : Nat) (c' r' : t_S) : Prop := ∃ (k' : Nat → Nat) (n' : Nat) (L' : Nat → Nat) (fst : Int32), mp P nt (k' 0) (k' 1) (k' 2) a g (k' 3) (k' 4) (k' 5) (k' 6) (k' 7) (k' 8) (k' 9) (-1) (-1) (-1) c' r' ∧ fw_R c' r' f n' L' ∧ n ≤ n' ∧ k 0 < k' 0 ∧ gr k k' ∧ l2_fr (ub_Wc f n k) c c' ∧ l2_fr (ub_Wr f n k) r r' ∧ mK n2 (f + 1) r r' ∧ mB False n2 (f + 1) c c' r' (k 6) (k' 6) (k 8) (k' 8) (k 2) (k' 2) (k 9) (k' 9) ∧ (∀ ln, k 9 ≤ ln → ln < k' 9 → stF_R f n2 (f + 1) c' r' (k' 3) (k' 4) (k' 5) (k' 6) (k' 7) (k' 2) (k' 9) ln) ∧ c'.1 441 f = fst ∧ r'.1 987 f = fst ∧ ((fst = -1 ∧ k' 9 = k 9) ∨ (fst = nI (k 9) ∧ k 9 < k' 9))
theorem u_fin {x y : Int32} (hf : f < 40) (y1 : l2_fr la_W c c1) (y2 : l2_fr (fun b j => rn_W b j ∨ (b = 950 ∧ (j = 33 ∨ j = 34))) r r1) (q : bk_G P nt f n2 (f + 1) Y n L ka a g (nx k) c1 r1 x y c' r') : uB_G P nt f n2 a g k c r n (t_setI (t_setI (t_setI c' 441 f x) 845 12 (-1)) 845 14 (-1)) (t_setI r' 987 f y) := by
  obtain ⟨rfl, k', n', L', k00, S', hn, o, C, R, kk, m, ls, hx⟩ := q
  have g1 : l2_fr (fun b j => (b = 441 ∧ j = f) ∨ (b = 845 ∧ (j = 12 ∨ j = 14))) c' (t_setI (t_setI (t_setI c' 441 f x) 845 12 (-1)) 845 14 (-1)) := ((l2_fr.set (Or.inl ⟨rfl, rfl⟩)).trans (l2_fr.set (Or.inr ⟨rfl, Or.inl rfl⟩))).trans (l2_fr.set (Or.inr ⟨rfl, Or.inr rfl⟩))
  have v1 : (t_setI (t_setI (t_setI c' 441 f x) 845 12 (-1)) 845 14 (-1)).1 441 f = x := by simp only [l2_gI, Nat.reduceEqDiff, reduceIte]
  have v2 : (t_setI (t_setI (t_setI c' 441 f x) 845 12 (-1)) 845 14 (-1)).1 845 12 = -1 := by simp only [l2_gI, Nat.reduceEqDiff, reduceIte]
  have v3 : (t_setI (t_setI (t_setI c' 441 f x) 845 12 (-1)) 845 14 (-1)).1 845 14 = -1 := by simp only [l2_gI, reduceIte]
  have g2 : l2_fr (fun b j => b = 987 ∧ j = f) r' (t_setI r' 987 f x) := l2_fr.set ⟨rfl, rfl⟩
  have v4 : (t_setI r' 987 f x).1 987 f = x := by simp only [l2_gI, reduceIte]
  generalize t_setI (t_setI (t_setI c' 441 f x) 845 12 (-1)) 845 14 (-1) = c3 at *
  generalize t_setI r' 987 f x = r3 at *
  obtain ⟨M, hw, hh, _⟩ := S'
  obtain ⟨J, _, ⟨k1, k2, k3, k4, k5, k6, k7⟩, ⟨u1, u2, u3, u4, u5, u6, u7⟩, ⟨s1, s2, s3⟩, ⟨b1, b2, b3, b4, b5, b6, b7, b8, b9⟩⟩ := id M
  have J3 : pj P (k' 0) 0 0 (k' 1) (k' 2) c3 r3 := J.fr g1 g2 (fun j => by omega) (fun b i _ _ => by omega) (fun b i _ _ => by omega) (by omega) (fun j _ => by omega) (fun b i _ _ => by omega)
  have gg : ∀ b j, ¬ ((b = 441 ∧ j = f) ∨ (b = 845 ∧ (j = 12 ∨ j = 14))) → c3.1 b j = c'.1 b j := fun b j y => (g1 b j y).1
  have M3 : mp P nt (k' 0) (k' 1) (k' 2) a g (k' 3) (k' 4) (k' 5) (k' 6) (k' 7) (k' 8) (k' 9) (-1) (-1) (-1) c3 r3 := M.up (Nat.le_refl _) (Nat.le_refl _) J3 g1 g2 (fun b j y => by omega) (fun b j y => by omega) ⟨by rw [gg _ _ (by omega)]; exact k6, b3⟩ ⟨by rw [gg _ _ (by omega)]; exact k4, b5⟩ ⟨by rw [gg _ _ (by omega)]; exact k7, by rw [(g2 950 81 (by omega)).1]; exact s3, b9⟩ ⟨v2, by rw [gg _ _ (by omega)]; exact u4, v3⟩
  have o' : gr k (nx k) := ⟨Nat.le_succ _, Nat.le_refl _, Nat.le_refl _, Nat.le_refl _, Nat.le_refl _, Nat.le_refl _, Nat.le_refl _, Nat.le_refl _, Nat.le_refl _, Nat.le_refl _⟩
  have cp1 : ∀ t e p l, cp_c (fun b j => (b = 441 ∧ j = f) ∨ (b = 845 ∧ (j = 12 ∨ j = 14))) t e p l := fun t e p l b j y => by omega
  have cp2 : ∀ m s, cp_r (fun b j => b = 987 ∧ j = f) m s := fun m s b j y => by omega
  have kk3 : ∀ a3, mK n2 a3 r' r3 := fun a3 => mK.of g2 (fun b j y => by omega)
  have kk1 : mK n2 (f + 1) r r1 := mK.of y2 (fun b j y => by unfold rn_W; omega)
  have lt : k 0 < k' 0 := Nat.lt_trans (Nat.lt_succ_self _) k00
  refine ⟨k', n', L', x, M3, hw.fr g1 g2 ⟨by omega, fun i hi => by omega⟩ ⟨by omega, fun i hi => by omega⟩, hn, lt, o'.trans o, ?_, ?_, mK.trans (mK.trans kk1 kk) (kk3 _), ?_, fun ln l1 l2 => ?_, v1, v4, hx⟩
  · exact ((y1.mono (fun b j y => Or.inl (Or.inl (x_la y)))).trans (C.mono (fun b j y => Or.inl (y.sub o' (Nat.le_refl _) (Nat.le_refl _))))).trans (g1.mono (fun b j y => Or.inr y))
  · refine ((y2.mono (fun b j y => ?_)).trans (R.mono (fun b j y => Or.inl (y.sub o' (Nat.le_refl _) (Nat.le_refl _))))).trans (g2.mono (fun b j y => Or.inr (Or.inr y)))
    rcases y with y | ⟨rfl, rfl | rfl⟩
    · exact Or.inl (Or.inl (x_rn y))
    · exact Or.inr (Or.inl ⟨rfl, rfl⟩)
    · exact Or.inl (Or.inr (Or.inl ⟨rfl, Or.inl rfl⟩))
  · have m2 := (m.cap g1 g2 (t := k' 3) (e := k' 4) (p := k' 5) (s := k' 7) (cp1 _ _ _ _) (cp2 _ _) ⟨by omega, by omega⟩ (fun j => by omega) (fun b j _ _ _ _ _ => by omega) (kk3 _) (Nat.le_refl _) (Nat.le_refl _))
    exact m2.base (y1 846 7 (by unfold la_W; omega)).1 (y1 846 8 (by unfold la_W; omega)).1 (fun j => (y1 7 j (by unfold la_W; omega)).1)
  · exact (ls ln l1 l2).fr g1 g2 (cp1 _ _ _ _) (cp2 _ _) (kk3 _) (Nat.le_refl _) (Nat.le_refl _) ⟨Nat.le_refl _, Nat.le_refl _, Nat.le_refl _, Nat.le_refl _, Nat.le_refl _, Nat.le_refl _⟩ (Nat.le_refl _) (fun j => gg _ j (by omega)) (fun y z1 z2 => (g2 y ln (by omega)).1) (fun f' td cnt _ _ _ _ _ => gg 443 _ (by omega))
theorem u_body (S : us P nt f n2 Y n L ka a g k (k 0) c r) (h85 : r.1 985 f = nI n) (hso : so ≤ 2) : t_h2 (k_X6_readUnitItem_165 (nI so) c) (k_X13_function_123 (nI (3 + so)) (nI f) r) (fun c' r' => uB_G P nt f n2 a g k c r n c' r' ∨ ∃ f2 p0, zF f2 p0 c c' ∧ yR P f2 p0 r r') := by
  have hf := S.2.2.2
  unfold k_X6_readUnitItem_165 k_X13_function_123
  refine h2_bb _ (pj_need S.1.1 (by decide) (x := 41) (by decide) rfl) (fun c1 r1 hw => ?_)
  obtain ⟨y1, y2, y3⟩ := hw
  rcases y3 with J1 | ⟨f2, p0, y3, y4⟩
  rotate_left
  · have z1 : zS f f2 p0 c c1 := S.z y3 (y1.mono (fun b j y => Or.inl y)) l2_fr.rf
    have h := z1.u165 hf (nI so)
    unfold k_X6_readUnitItem_165 at h
    rw [z1.1.need (by decide), l2_bs] at h
    exact h2_sep _ _ h ((show yR P f2 p0 r r1 from ⟨y4, mo_rn y2⟩).ubody hf (nI (3 + so))) (fun _ _ z y => Or.inr ⟨f2, p0, z, y⟩)
  have S1 := S.mk (Nat.le_succ _) J1 (y1.mono (fun b j y => Or.inl y)) (y2.mono (fun b j y => Or.inl (Or.inl y))) (S.2.1.fr y1 y2 ⟨by unfold la_W; omega, fun i _ => by unfold la_W; omega⟩ ⟨by unfold rn_W; omega, fun i _ => by unfold rn_W; omega⟩)
  have e12 : c1.1 845 12 = nI f := S1.1.2.2.2.1.2.2.1
  have e85 : r1.1 985 f = nI n := by rw [(y2 985 f (by unfold rn_W; omega)).1]; exact h85
  refine h2_lR (h2_ckR (l2_ix hf (by decide)) (h2_lR ?_))
  rw [nI_clamp (n := f) (by omega), show (2000 : Int32) + nI f = nI (2000 + f) from nI_add 2000 f]
  have q85 : (t_setI r1 950 33 (nI (2000 + f))).1 985 f = nI n := by simp only [l2_gI, Nat.reduceEqDiff, reduceIte]; exact e85
  rw [q85]
  have f3 : l2_fr (fun b j => b = 950 ∧ (j = 33 ∨ j = 34)) r1 (t_setI (t_setI r1 950 33 (nI (2000 + f))) 950 34 (nI n)) := (l2_fr.set ⟨rfl, Or.inl rfl⟩).trans (l2_fr.set ⟨rfl, Or.inr rfl⟩)
  have v33 : (t_setI (t_setI r1 950 33 (nI (2000 + f))) 950 34 (nI n)).1 950 33 = nI (2000 + f) := by simp only [l2_gI, Nat.reduceEqDiff, reduceIte]
  have v34 : (t_setI (t_setI r1 950 33 (nI (2000 + f))) 950 34 (nI n)).1 950 34 = nI n := by simp only [l2_gI, reduceIte]
  generalize t_setI (t_setI r1 950 33 (nI (2000 + f))) 950 34 (nI n) = r3 at *
  have nfc : l2_fr (fun _ _ => False) c1 c1 := l2_fr.rf
  have J3 : pj P (k 0 + 1) 0 0 (k 1) (k 2) c1 r3 := J1.fr nfc f3 (fun j y => y) (fun b i _ _ y => y) (fun b i _ _ y => y) (fun y => y) (fun j _ => by omega) (fun b i _ _ => by omega)
  have M3 := S1.1.go (Nat.le_refl _) (Nat.le_refl _) J3 nfc f3 (fun b j _ y => y) (fun b j y => by omega)
  have F : fs P nt f n2 Y n L ka a g (nx k) c1 r3 := ⟨M3, S1.2.1.fr nfc f3 ⟨fun y => y, fun _ _ y => y⟩ ⟨by omega, fun i _ => by omega⟩, S1.2.2.1.fr nfc f3 (fun b j _ _ y => y) (fun b j y => by omega), hf, v33, v34⟩
  have R3 : l2_fr (fun b j => rn_W b j ∨ (b = 950 ∧ (j = 33 ∨ j = 34))) r r3 := (y2.mono (fun b j y => Or.inl y)).trans (f3.mono (fun b j y => Or.inr y))
  have R3m : l2_fr mo_Wr r r3 := R3.mono (fun b j y => by unfold rn_W at y; unfold mo_Wr; omega)
  have fin : ∀ (x : Int32 × t_S) (y : Int32 × t_S), bk_O P nt f n2 (f + 1) Y n L ka a g (nx k) c1 r3 x y → t_h2 (k_X6_readUnitItem_205 x.1 (c1.1 845 12) x.2) (k_X13_function_173 y.1 (nI f) y.2) (fun c' r' => uB_G P nt f n2 a g k c r n c' r' ∨ ∃ f2 p0, zF f2 p0 c c' ∧ yR P f2 p0 r r') := fun x y hxy => by
    rw [e12]
    rcases hxy with q | ⟨f2, p0, z, y'⟩
    · unfold k_X6_readUnitItem_205 k_X13_function_173
      rw [if_pos (l2_ix hf (by decide)), if_pos (l2_ix hf (by decide)), nI_clamp (n := f) (by omega)]
      exact h2_lL (h2_lL (h2_lL (h2_lR (h2_sm (Or.inl (u_fin hf y1 R3 q))))))
    · exact h2_sep _ _ ((z.at (mo_la y1)).u205 hf x.1) ((y'.at R3m).1.u173 hf y.1) (fun _ _ z y => Or.inr ⟨f2, p0, z, y⟩)
  by_cases z : so = 1
  · subst z
    rw [if_pos (show nI 1 = (1 : Int32) from rfl), if_pos (show nI (3 + 1) = (4 : Int32) from rfl)]
    exact h2_bb _ (al_all F (Nat.lt_succ_self _)) fin
  · rw [if_neg (show ¬ nI so = (1 : Int32) from fun y => z ((nI_eq (b := 1) (by omega) (by decide)).mp y)), if_neg (show ¬ nI (3 + so) = (4 : Int32) from fun y => z (by have := (nI_eq (b := 4) (by omega) (by decide)).mp y; omega))]
    exact h2_bb _ (bl_all F (Nat.lt_succ_self _)) fin
end
