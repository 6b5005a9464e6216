/-! Level 2: an assignment: small steps. -/
section
variable {P : pc_S} {nt : Nat → Nat} {f n n2 n3 Y a g f2 p0 ln : Nat} {L v : Nat → Nat} {ka : Int32} {k k' : Nat → Nat} {c0 r0 c r c1 r1 c' r' : t_S} {A B : Nat → Prop} {E : en_S}
/-- within a function again, from the joint state of exps -/
theorem fs.ofX {u' q' m' t' e' p' l' s' i' mm : Nat} (S : fs P nt f n2 Y n L ka a g k c r) (X : xp P E u' 0 0 q' m' t' e' p' l' 0 0 s' i' 0 c' r') (fc : l2_fr (xWc (k 3) (k 4) (k 5) (k 6) 0 0) c c') (fr : l2_fr (xWr mm (k 7)) r r') (hu : k 0 ≤ u') (hq : k 1 ≤ q') (b : t' ≤ q' ∧ e' ≤ 2 * q' + 2 * k 9 ∧ p' ≤ pc_p P u' ∧ l' ≤ pc_c P u' ∧ s' ≤ pc_p P u' ∧ 7 * i' ≤ 6 * q' + pc_p P u') : fs P nt f n2 Y n L ka a g (ck u' q' m' t' e' p' l' s' i' (k 9)) c' r' := by
  obtain ⟨⟨J, N, ⟨k1, k2', k3, k4, k5, k6, k7⟩, ⟨v1, v2, v3, v4, v5, v6, v7⟩, ⟨s1, s2, s3⟩, ⟨b1, b2, b3, b4, b5, b6, b7, b8, b9⟩⟩, hw, hh, hf, h33, h34⟩ := S
  obtain ⟨w1, w2, w3, w4, w5, w6, w7, w8, w9, w10, w11⟩ := X
  have cm := pc_c_mono P (k 0) u' hu
  have M' : mp P nt u' q' m' a g t' e' p' l' s' i' (k 9) (nI f) (-1) ka c' r' := by
    refine ⟨w1, N.fr fc fr (fun j => by unfold xWc; omega) ⟨by unfold xWc; omega, by unfold xWc; omega, by unfold xWc; omega, by unfold xWc; omega⟩ ⟨by unfold xWr; omega, by unfold xWr; omega, by unfold xWr; omega, by unfold xWr; omega⟩ (fun b j y => by unfold xWr; omega), ⟨?_, ?_, w3, w4, w5, w6, ?_⟩, ⟨w7, w8, ?_, ?_, ?_, ?_, ?_⟩, ⟨w9, w10, ?_⟩, ⟨by omega, by omega, by omega, by omega, by omega, by omega, by omega, by omega, b9⟩⟩
    · rw [(fc 316 8 (by unfold xWc; omega)).1]; exact k1
    · rw [(fc 316 10 (by unfold xWc; omega)).1]; exact k2'
    · rw [(fc 428 18 (by unfold xWc; omega)).1]; exact k7
    · rw [(fc 845 12 (by unfold xWc; omega)).1]; exact v3
    · rw [(fc 845 13 (by unfold xWc; omega)).1]; exact v4
    · rw [(fc 845 14 (by unfold xWc; omega)).1]; exact v5
    · rw [(fc 845 15 (by unfold xWc; omega)).1]; exact v6
    · rw [(fc 845 16 (by unfold xWc; omega)).1]; exact v7
    · rw [(fr 950 81 (by unfold xWr; omega)).1]; exact s3
  exact ⟨M', hw.fr fc fr ⟨by unfold xWc; omega, fun i _ => by unfold xWc; omega⟩ ⟨by unfold xWr; omega, fun i _ => by unfold xWr; omega⟩, hh.fr fc fr (fun b j _ _ => by unfold xWc; omega) (fun b j y => by unfold xWr; omega), hf, by rw [(fr 950 33 (by unfold xWr; omega)).1]; exact h33, by rw [(fr 950 34 (by unfold xWr; omega)).1]; exact h34⟩
theorem fs.yx {m s : Nat} (S : fs P nt f n2 Y n L ka a g k c r) (h : xR P f2 p0 m s r r') (g0 : l2_fr mo_Wr r0 r) : yS P f f2 p0 r0 r' := ⟨⟨h.1, g0.trans (mo_x (h.2.1.mono (fun b j y => y.sub (Nat.zero_le _) (Nat.zero_le _))))⟩, by
  rw [(h.2.1 950 33 (by unfold xWr; omega)).1]
  exact S.2.2.2.2.1⟩
/-- more of a line's steps, other cells written -/
theorem sn.add {kb : Nat → Nat} {cb rb : t_S} {Wc Wr : Nat → Nat → Prop} (h : sn n2 n3 f n ln A B kb cb rb k c r) (o : gr k k') (fc : l2_fr Wc c c') (fr : l2_fr Wr r r') (w1 : ∀ b j, Wc b j → sf_Wc f n kb ln b j ∧ b ≠ 445 + ln) (w2 : ∀ b j, Wr b j → sf_Wr f n kb ln b j ∧ ¬ (988 ≤ b ∧ b ≤ 1002) ∧ ¬ (975 ≤ b ∧ b ≤ 977) ∧ b ≠ 979 ∧ ¬ (982 ≤ b ∧ b ≤ 986)) : sn n2 n3 f n ln A B kb cb rb k' c' r' := by
  obtain ⟨h1, h2, h3, h4, h5, h6⟩ := h
  exact ⟨h1.trans o, h2.trans (fc.mono (fun b j y => (w1 b j y).1)), h3.trans (fr.mono (fun b j y => (w2 b j y).1)), fun j hj y => by rw [(fc _ j (fun z => (w1 _ _ z).2 rfl)).1]; exact h4 j hj y, fun x x1 x2 y => by rw [(fr x _ (fun z => (w2 _ _ z).2.1 ⟨x1, x2⟩)).1]; exact h5 x x1 x2 y, h6.trans (mK.of fr (fun b j y z => by
    have := (w2 _ _ z).2
    omega))⟩
/-- an operation -/
theorem fs_op {T : Type} {F : t_S → Option T} {b : Option t_S} {Q : T → t_S → Prop} {o : Nat} {x : Int32} (S : fs P nt f n2 Y n L ka a g k c r) (he : k 4 + 1 ≤ 2 * k 1 + 2 * k 9) (hg : ∀ c', fs P nt f n2 Y n L ka a g (ck (k 0) (k 1) (k 2) (k 3) (k 4 + 1) (k 5) (k 6) (k 7) (k 8) (k 9)) c' r → l2_fr (fun b j => (b = 334 ∧ j = 2) ∨ ((b = 335 ∨ b = 336) ∧ j = k 4)) c c' → px_o c' (k 4) o x → t_h2 (F c') b Q) : t_h2 ((f_X0_emit (nI o) x c).bind (fun x => F x.2)) b Q := by
  have e4 : c.1 334 2 = nI (k 4) := S.1.2.2.1.2.2.2.1
  have q1b : k 1 ≤ 3000 := (S.1.1.mle (by decide)).2.2.1
  have s9b : k 9 ≤ 400 := S.1.2.2.2.2.2.2.2.2.2.2.2.2.2
  obtain ⟨y7, e7, _, g7, w7, o1, o2⟩ := em_emit (nI o) x e4 (by omega)
  rw [e7, l2_bs]
  have nfr : l2_fr (fun _ _ => False) r r := l2_fr.rf
  have J8 : pj P (k 0) 0 0 (k 1) (k 2) y7.2 r := S.1.1.fr g7 nfr (fun j => by omega) (fun b i _ _ => by omega) (fun b i _ _ => by omega) (by omega) (fun j _ y => y) (fun b i _ _ y => y)
  refine hg y7.2 (S.up (Nat.le_refl _) (Nat.le_refl _) ⟨rfl, rfl, rfl, rfl⟩ J8 g7 nfr (fun b j y => by omega) ⟨by omega, by omega, by omega⟩ (fun b j _ _ => by omega) ⟨by omega, fun i _ => by omega⟩ (fun _ _ _ z => z) ⟨fun y => y, fun y => y⟩ (fun _ _ _ z => z) ⟨fun y => y, fun i _ y => y⟩ ⟨?_, S.1.2.2.2.2.2.2.2.1⟩ ⟨w7, he⟩ ⟨?_, S.1.2.2.2.2.1.2.2, s9b⟩) g7 ⟨o1, o2⟩
  · rw [(g7 846 6 (by omega)).1]; exact S.1.2.2.1.2.2.2.2.2.1
  · rw [(g7 428 18 (by omega)).1]; exact S.1.2.2.1.2.2.2.2.2.2
/-- a field's name, told at node m -/
theorem fs_field {T U : Type} {F : Int32 → t_S → Option T} {K : t_S → Option U} {Q : T → U → Prop} {m : Nat} (S : fs P nt f n2 Y n L ka a g k c r) (hm : m < 13000) (gc : l2_fr mo_Wc c0 c) (gr' : l2_fr mo_Wr r0 r) (hg : ∀ c' r' X, fs P nt f n2 Y n L ka a g (nx k) c' r' → l2_fr la_W c c' → l2_fr (fun b j => rn_W b j ∨ nm_W b j ∨ (b = 957 ∧ j = m)) r r' → X < 7934 → r'.2.1 957 m = lN X → t_h2 (F (nI (66 + X)) c') (K r') Q) (hb : ∀ f2 p0 x c' r', zS f f2 p0 c0 c' → yS P f f2 p0 r0 r' → t_h2 (F x c') (K r') Q) : t_h2 ((f_X6_takeFieldName c).bind (fun y => F y.1 y.2)) ((f_X13_freeName r).bind (fun y => if t_ix (nI m) 13000 = true then t_let (t_setJ y.2 957 ((nI m).toNatClampNeg) y.1.toInt64) (fun s => (f_X13_next s).bind K) else none)) Q := by
  have ix : t_ix (nI m) 13000 = true := l2_ix hm (by decide)
  simp only [ix, if_true, nI_clamp (n := m) (by omega)]
  unfold f_X6_takeFieldName
  by_cases h8 : c.1 1 8 = 1
  rotate_left
  · rw [if_neg h8]
    obtain ⟨c3, x, e1, e2, w1, w2, f2', p0, w3, w4⟩ := pj_noname S.1.1 (by decide) h8
    have z3 : zS f f2' p0 c0 c3 := S.z w3 w1 gc
    have y3 : yS P f f2' p0 r0 x.2 := S.y w4 w2 gr'
    rw [e1, e2, l2_bs, l2_bs]
    unfold k_X6_takeFieldName_19
    rw [if_neg z3.1.ne, l2_bs]
    refine h2_lR ?_
    obtain ⟨r4, e4, y4⟩ := (y3.setJ (b := 957) (j := m) (x := x.1.toInt64) (by unfold mo_Wr; omega) (by decide)).next
    rw [e4, l2_bs]
    exact hb f2' p0 0 c3 r4 z3 y4
  rw [if_pos h8]
  obtain ⟨x, e1, X, hX, n1, n2', n3', J4⟩ := pj_name S.1.1 h8
  have wd : f_X2_word c = nI (66 + X) := pj.wd n1
  have kn : c.1 845 16 = nI 2147483647 := S.1.2.2.2.1.2.2.2.2.2.2
  unfold k_X6_takeFieldName_19
  rw [if_pos S.1.1.f0.1, wd, kn, if_pos ((nI_ltI (by omega) (by decide)).mpr (by omega)), e1, l2_bs, n2']
  unfold k_X6_takeFieldName_62
  refine h2_lR ?_
  rw [Option.bind_assoc]
  have f3 : l2_fr (fun b j => b = 957 ∧ j = m) x.2 (t_setJ x.2 957 m (nI X).toInt64) := l2_fr.setJ ⟨rfl, rfl⟩
  have v3 : (t_setJ x.2 957 m (nI X).toInt64).2.1 957 m = lN X := by
    simp only [l2_gJ, reduceIte]
    exact nI_l (by omega)
  generalize t_setJ x.2 957 m (nI X).toInt64 = r3 at *
  have J3 : pj P (k 0) 1 0 (k 1) (k 2) c r3 := J4.fr (l2_fr.rf (W := fun _ _ => False)) f3 (fun j y => y) (fun b i _ _ y => y) (fun b i _ _ y => y) (fun y => y) (fun j _ => by omega) (fun b i _ _ => by omega)
  refine h2_bb _ (pj_adv J3 (by decide) (Or.inl rfl) (by rw [h8]; decide)) (fun c4 r4 hw => ?_)
  obtain ⟨y1, y2, y3⟩ := hw
  have R : l2_fr (fun b j => rn_W b j ∨ nm_W b j ∨ (b = 957 ∧ j = m)) r r4 := ((n3'.mono (fun b j y => Or.inr (Or.inl y))).trans (f3.mono (fun b j y => Or.inr (Or.inr y)))).trans (y2.mono (fun b j y => Or.inl y))
  rw [l2_bs]
  rcases y3 with J5 | ⟨f2', p0, y3, y4⟩
  · refine hg c4 r4 X ?_ y1 R hX (by rw [(y2 957 m (by unfold rn_W; omega)).2.1]; exact v3)
    have M := S.1
    obtain ⟨J0, N, ⟨k1, k2, k3, k4, k5, k6, k7⟩, ⟨v1, v2, v3, v4, v5, v6, v7⟩, ⟨s1, s2, s3⟩, ⟨b1, b2, b3, b4, b5, b6, b7, b8, b9⟩⟩ := M
    have cm := pc_c_mono P (k 0) (k 0 + 1) (Nat.le_succ _)
    refine S.up (k' := nx k) (Nat.le_succ _) (Nat.le_refl _) ⟨rfl, rfl, rfl, rfl⟩ J5 y1 R (fun b j y => by unfold la_W; omega) ⟨by unfold la_W; omega, by unfold la_W; omega, by unfold la_W; omega⟩ (fun b j _ _ => by unfold la_W; omega) ⟨by unfold la_W; omega, fun i _ => by unfold la_W; omega⟩ (fun b j y => by unfold rn_W nm_W; omega) ⟨by unfold rn_W nm_W; omega, by unfold rn_W nm_W; omega⟩ (fun b j y => by unfold rn_W nm_W; omega) ⟨by unfold rn_W nm_W; omega, fun i _ => by unfold rn_W nm_W; omega⟩ ⟨?_, Nat.le_trans b3 cm⟩ ⟨?_, b5⟩ ⟨?_, ?_, b9⟩
    · rw [(y1 846 6 (by unfold la_W; omega)).1]; exact k6
    · rw [(y1 334 2 (by unfold la_W; omega)).1]; exact k4
    · rw [(y1 428 18 (by unfold la_W; omega)).1]; exact k7
    · rw [(R 950 81 (by unfold rn_W nm_W; omega)).1]; exact s3
  · refine hb f2' p0 _ c4 r4 (S.z y3 y1 gc) ⟨⟨y4, gr'.trans (R.mono (fun b j y => by unfold rn_W nm_W at y; unfold mo_Wr; omega))⟩, ?_⟩
    rw [(R 950 33 (by unfold rn_W nm_W; omega)).1]
    exact S.2.2.2.2.1
end
