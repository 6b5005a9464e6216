/-! Level 2: an assignment's end; a line that is whole. -/
section
variable {P : pc_S} {nt : Nat → Nat} {f n n2 n3 Y a g f2 p0 ln w lo vv : Nat} {L v EE G : Nat → Nat} {ka : Int32} {k kb k0 k' : Nat → Nat} {c0 r0 cb rb c r c1 r1 c' r' : t_S} {A B : Nat → Prop} {E : en_S}
/-- behind the steps: := exp ; -/
def aE (P : pc_S) (nt : Nat → Nat) (f n2 n3 Y n : Nat) (L v : Nat → Nat) (ka : Int32) (a g ln w lo : Nat) (kb : Nat → Nat) (cb rb c' r' : t_S) : Prop := ∃ (k' : Nat → Nat) (mid hi t0 nd : Nat), fs P nt f n2 Y n L ka a g k' c' r' ∧ k' 9 = kb 9 ∧ kb 0 < k' 0 ∧ sn n2 n3 f n ln (fun j => j = 9) (fun x => x = 995 ∨ x = 996) kb cb rb k' c' r' ∧ mB False n2 n3 cb c' r' (kb 6) (k' 6) (kb 8) (k' 8) (w + 1) (k' 2) ln ln ∧ (r'.1 955 w = 58 ∧ r'.2.1 958 w = 0 ∧ r'.1 961 w = 0) ∧ w < k' 2 ∧ r'.1 996 ln = nI w ∧ r'.1 995 ln = nI nd ∧ c'.1 (445 + ln) 9 = nI mid ∧ ww_R n2 n3 (E_f f n v) c' r' (k' 3) (k' 4) (k' 5) (k' 6) (k' 7) (k' 2) w lo mid ∧ xe_R n2 n3 (E_f f n v) c' r' (k' 3) (k' 4) (k' 5) (k' 6) (k' 7) (k' 2) 0 0 mid hi t0 nd ∧ hi + 1 ≤ k' 4 ∧ px_o c' hi 0 0
theorem as_end (I : wI P nt f n2 Y n L v ka a g ln w lo kb cb rb vv EE G k c r) (hV : en_V n 1 L v) (hl : ln < 400) (hf : f < n3) (gc : l2_fr mo_Wc c0 cb) (gr' : l2_fr mo_Wr r0 rb) (sl1 : kb 4 + 1 ≤ 2 * kb 1 + 2 * kb 9) : t_h2 (k_X6_readAssignment_152 (445 + ln) c) (k_X13_assignment_146 (nI ln) (nI w) r) (fun c' r' => aE P nt f n2 n3 Y n L v ka a g ln w lo kb cb rb c' r' ∨ ∃ f2 p0, zS f f2 p0 c0 c' ∧ yS P f f2 p0 r0 r') := by
  obtain ⟨S, h32, ⟨k9, k00, slk⟩, sn0, vk, kw, rest⟩ := I
  rw [ae_Ceq hl, ae_Req hl]
  refine h2_lR ?_
  have f1 : l2_fr (fun b j => b = 996 ∧ j = ln) r (t_setI r 996 ln (nI w)) := l2_fr.set ⟨rfl, rfl⟩
  have v1 : (t_setI r 996 ln (nI w)).1 996 ln = nI w := by simp only [l2_gI, reduceIte]
  generalize t_setI r 996 ln (nI w) = r1 at *
  obtain ⟨S1, sn1, q1⟩ := S.cell (A := fun _ => False) (B := fun x => x = 996) hl (l2_fr.rf (s := c)) (f1.mono (fun b i y => Or.inl ⟨by omega, by omega, y.2⟩)) (fun _ _ _ => rfl) (fun x a b y => (f1 x ln (fun z => y z.1)).1)
  have sn01 := (sn0 0).trans (sn1 0)
  refine fs_need (c0 := c0) (r0 := r0) (x := 11) (s := 14909) S1 hl (by decide) (by decide) (sn01.mc gc) (sn01.mr gr') (fun c2 r2 S2 sn2 q2 y1 y2 => ?_) (fun f2 p0 c' r' z y => h2_sep _ _ (z.ae hl) y.ae (fun _ _ z y => Or.inr ⟨f2, p0, z, y⟩))
  have e4 : c2.1 334 2 = nI (k 4) := S2.1.2.2.1.2.2.2.1
  rw [e4]
  refine h2_lL ?_
  have f3 : l2_fr (fun b j => b = 445 + ln ∧ j = 9) c2 (t_setI c2 (445 + ln) 9 (nI (k 4))) := l2_fr.set ⟨rfl, rfl⟩
  have v3 : (t_setI c2 (445 + ln) 9 (nI (k 4))).1 (445 + ln) 9 = nI (k 4) := by simp only [l2_gI, reduceIte]
  generalize t_setI c2 (445 + ln) 9 (nI (k 4)) = c3 at *
  obtain ⟨S3, sn3, q3⟩ := S2.cell (A := fun j => j = 9) (B := fun _ => False) hl (f3.mono (fun b i y => ⟨y.1, by omega⟩)) (l2_fr.rf (s := r2)) (fun i _ y => (f3 _ _ (fun z => y z.2)).1) (fun _ _ _ _ => rfl)
  have sn03 := (sn01.trans (sn2 0 (fun _ => False) (fun _ => False))).trans (sn3 0)
  refine fs_exp0 (F := ae_C2) (x := 995) S3 (by rw [(y2 950 32 (by unfold rn_W; omega)).1, (f1 950 32 (by omega)).1]; exact h32) hV hl (by decide) (sn03.mc gc) (sn03.mr gr') (fun k4 c4 r4 nd S4 h324 k49 k40 slk4 sn4 r95 pc => ?_) (fun f2 p0 c' r' z y => h2_sep _ _ z.ae2 y.ae2 (fun _ _ z y => Or.inr ⟨f2, p0, z, y⟩))
  have sl4 : k4 4 + 1 ≤ 2 * k4 1 + 2 * k4 9 := slk4 1 (show k 4 + 1 ≤ 2 * k 1 + 2 * k 9 from slk 1 sl1)
  unfold ae_C2
  refine fs_emit (F := ae_C3) S4 hl sl4 (fun k5 c5 hk5 S5 sn5 q5 px => ?_)
  have sn05 := (sn03.trans (sn4 0)).trans (sn5 0)
  unfold ae_C3 ae_R2
  refine fs_need (c0 := c0) (r0 := r0) (x := 59) (s := 59) S5 hl (by decide) rfl (sn05.mc gc) (sn05.mr gr') (fun c6 r6 S6 sn6 q6 y3 y4 => h2_sm (Or.inl ?_)) (fun f2 p0 c' r' z y => h2_sm (Or.inr ⟨f2, p0, z, y⟩))
  -- together
  have snF : ∀ {k c r k' c' r'}, (∀ A B, sn n2 n3 f n ln A B k c r k' c' r') → sn n2 n3 f n ln (fun _ => False) (fun _ => False) k c r k' c' r' := fun h => h _ _
  have s46 : sn n2 n3 f n ln (fun _ => False) (fun _ => False) k4 c4 r4 (nx k5) c6 r6 := ((sn5 n3).trans (snF (sn6 n3))).mono (fun _ y => y.elim id id) (fun _ y => y.elim id id)
  have s36 : sn n2 n3 f n ln (fun _ => False) (fun x => x = 995) (nx k) c3 r2 (nx k5) c6 r6 := ((sn4 n3).trans s46).mono (fun _ y => y.elim id id) (fun _ y => y.elim id False.elim)
  have s26 : sn n2 n3 f n ln (fun j => j = 9) (fun x => x = 995) (nx k) c2 r2 (nx k5) c6 r6 := ((sn3 n3).trans s36).mono (fun _ y => y.elim id False.elim) (fun _ y => y.elim False.elim id)
  have s16 : sn n2 n3 f n ln (fun j => j = 9) (fun x => x = 995) k c r1 (nx k5) c6 r6 := ((snF (sn2 n3)).trans s26).mono (fun _ y => y.elim False.elim id) (fun _ y => y.elim False.elim id)
  have s06 : sn n2 n3 f n ln (fun j => j = 9) (fun x => x = 995 ∨ x = 996) k c r (nx k5) c6 r6 := ((sn1 n3).trans s16).mono (fun _ y => y.elim False.elim id) (fun _ y => y.elim Or.inr Or.inl)
  have sb6 : sn n2 n3 f n ln (fun j => j = 9) (fun x => x = 995 ∨ x = 996) kb cb rb (nx k5) c6 r6 := ((sn0 n3).trans s06).mono (fun _ y => y.elim False.elim id) (fun _ y => y.elim False.elim id)
  obtain ⟨m0, W⟩ := rest n3 hf
  obtain ⟨W1, W2, _⟩ := id W
  have k54 : k5 4 = k4 4 + 1 := by rw [hk5]; rfl
  have k56 : k5 6 = k4 6 := by rw [hk5]; rfl
  have k58 : k5 8 = k4 8 := by rw [hk5]; rfl
  have k52 : k5 2 = k4 2 := by rw [hk5]; rfl
  have k59 : k5 9 = k4 9 := by rw [hk5]; rfl
  have k50 : k5 0 = k4 0 := by rw [hk5]; rfl
  have k51 : k5 1 = k4 1 := by rw [hk5]; rfl
  have k53 : k5 3 = k4 3 := by rw [hk5]; rfl
  have k55 : k5 5 = k4 5 := by rw [hk5]; rfl
  have k57 : k5 7 = k4 7 := by rw [hk5]; rfl
  have o4 := (sn4 0).1
  have k00' : k 0 + 1 < k4 0 := k40
  have o06 := s06.1
  have o46 := s46.1
  have nf : l2_fr (fun _ _ => False) c4 c4 := l2_fr.rf
  have at0 : mB False n2 n3 cb c r6 (kb 6) (k 6) (kb 8) (k 8) (w + 1) (k 2) ln ln := m0.at s06
  have at4 : mB False n2 n3 c c4 r6 (k 6) (k4 6) (k 8) (k4 8) (k 2) (k4 2) ln ln := (((pc n3 hf).1 ln).at s46).base (q3.1.trans q2.1) (q3.2.1.trans q2.2.1) (fun j => (q3.2.2 j).trans (q2.2.2 j))
  have ml3 : mL_c c c4 (k 6) := fun b j x1 x2 x3 => by
    rw [sf_mL (sn4 0).2.1 b j x1 x2 x3, (f3 b j (by omega)).1, (y1 b j (by unfold la_W; omega)).1]
  have m4 : mB False n2 n3 cb c4 r6 (kb 6) (k4 6) (kb 8) (k4 8) (w + 1) (k4 2) ln ln := at0.same at4 ⟨(sn0 0).1.2.2.2.2.2.2.1, o4.2.2.2.2.2.2.1, (sn0 0).1.2.2.2.2.2.2.2.2.1, o4.2.2.2.2.2.2.2.2.1, W1, o4.2.2.1⟩ ml3
  have m6 : mB False n2 n3 c4 c6 r6 (k4 6) (k4 6) (k4 8) (k4 8) (k4 2) (k4 2) ln ln := mB.nil (q5.trans q6).1 (q5.trans q6).2.1 (q5.trans q6).2.2 _ _ _ ln
  have m := m4.same m6 ⟨by have := (sn0 0).1.2.2.2.2.2.2.1; have := o4.2.2.2.2.2.2.1; exact Nat.le_trans ‹kb 6 ≤ k 6› this, Nat.le_refl _, Nat.le_trans (sn0 0).1.2.2.2.2.2.2.2.2.1 o4.2.2.2.2.2.2.2.2.1, Nat.le_refl _, Nat.le_trans W1 o4.2.2.1, Nat.le_refl _⟩ (sf_mL s46.2.1)
  have wr : ∀ b, (b = 955 ∨ b = 958 ∨ b = 961) → r6.1 b w = r.1 b w ∧ r6.2.1 b w = r.2.1 b w := fun b hb => by
    have := s06.2.2.1 b w (fun z => (sf_cr b w z).1 ⟨by omega, W1⟩)
    exact ⟨this.1, this.2.1⟩
  refine ⟨nx k5, k 4, k4 4, k 3, nd, S6, ?_, ?_, sb6, ?_, ⟨?_, ?_, ?_⟩, ?_, ?_, ?_, ?_, ?_, ?_, ?_, ?_⟩
  · show k5 9 = kb 9
    rw [k59, k49]; exact k9
  · show kb 0 < k5 0 + 1
    omega
  · show mB False n2 n3 cb c6 r6 (kb 6) (k5 6) (kb 8) (k5 8) (w + 1) (k5 2) ln ln
    rw [k56, k58, k52]
    exact m
  · rw [(wr 955 (by omega)).1]; exact W2.1
  · rw [(wr 958 (by omega)).2]; exact W2.2.1
  · rw [(wr 961 (by omega)).1]; exact W2.2.2
  · show w < k5 2
    have := o4.2.2.1
    have : k 2 ≤ k4 2 := this
    omega
  · rw [s16.2.2.2.2.1 996 (by decide) (by decide) (by decide)]; exact v1
  · rw [s46.2.2.2.2.1 995 (by decide) (by decide) (fun y => y)]; exact r95
  · rw [s36.2.2.2.1 9 (by decide) (fun y => y)]; exact v3
  · exact W.ww.fr s06.2.1 s06.2.2.1 sf_cp sf_cr s06.2.2.2.2.2 (Nat.le_refl _) (Nat.le_refl _) ⟨o06.2.2.2.1, o06.2.2.2.2.1, o06.2.2.2.2.2.1, o06.2.2.2.2.2.2.1, o06.2.2.2.2.2.2.2.1, o06.2.2.1⟩
  · exact ((pc n3 hf).2).fr s46.2.1 s46.2.2.1 sf_cp sf_cr s46.2.2.2.2.2 (Nat.le_refl _) (Nat.le_refl _) ⟨o46.2.2.2.1, o46.2.2.2.2.1, o46.2.2.2.2.2.1, o46.2.2.2.2.2.2.1, o46.2.2.2.2.2.2.2.1, o46.2.2.1⟩
  · show k4 4 + 1 ≤ k5 4
    omega
  · exact ⟨by rw [(y3 335 _ (by unfold la_W; omega)).1]; exact px.1, by rw [(y3 336 _ (by unfold la_W; omega)).1]; exact px.2⟩
end
