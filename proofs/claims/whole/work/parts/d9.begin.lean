/-! Level 2: a simple statement from its word on. -/
section
variable {P : pc_S} {nt : Nat → Nat} {f n n' n2 n3 Y X a g f2 p0 ln so K V : Nat} {L L' v : Nat → Nat} {ka : Int32} {k k0 k1 k2 k' : Nat → Nat} {c0 r0 c r c1 r1 c2 r2 c' r' : t_S} {A B A' B' : Nat → Prop} {E : en_S}
theorem op_R.fr {so up K0 : Int32} (h : op_R c r f n ln so up K0) (fc : l2_fr la_W c c') (fr : l2_fr rn_W r r') : op_R c' r' f n ln so up K0 := by
  have hc : ∀ j, c'.1 (445 + ln) j = c.1 (445 + ln) j := fun j => (fc _ j (by unfold la_W; omega)).1
  have hr : ∀ x, 988 ≤ x → r'.1 x ln = r.1 x ln := fun x y => (fr x ln (by unfold rn_W; omega)).1
  unfold op_R at *
  simp only [hc, hr 988 (by decide), hr 989 (by decide), hr 990 (by decide), hr 991 (by decide), hr 993 (by decide), hr 995 (by decide), hr 996 (by decide), hr 997 (by decide), hr 998 (by decide), hr 999 (by decide), hr 1000 (by decide), hr 1001 (by decide), hr 1002 (by decide)]
  exact h
/-- opened, its word behind it: a simple body begins -/
theorem st_begin {T U : Type} {F : t_S → Option T} {K' : t_S → Option U} {Q : T → U → Prop} {i : Nat} {up : Int32} (S0 : fs P nt f n2 Y n L ka a g k0 c0 r0) (h9 : k0 9 < 400) (S1 : fs P nt f n2 Y n L ka a g (ox k0) c1 r1) (h32 : r1.1 950 32 = 0) (hV : en_V n 1 L v) (hf : f < n3) (sn1 : ∀ n3, sn n2 n3 f n (k0 9) (fun _ => True) (fun _ => True) k0 c0 r0 (ox k0) c1 r1) (q1 : sq c0 c1) (op : op_R c1 r1 f n (k0 9) (nI so) up 0) (t : c1.1 1 8 = nI (200 + i)) (hi : i < 66) (hg : ∀ c r, sI P nt f n2 n3 Y n L v ka a g (k0 9) 0 (nx (ox k0)) c r c0 r0 → op_R c r f n (k0 9) (nI so) up 0 → sn n2 n3 f n (k0 9) (fun _ => True) (fun _ => True) k0 c0 r0 (nx (ox k0)) c r → sq c0 c → t_h2 (F c) (K' r) Q) (hb : ∀ f2 p0 c' r', zS f f2 p0 c0 c' → yS P f f2 p0 r0 r' → t_h2 (F c') (K' r') Q) : t_h2 ((f_X2_advance c1).bind F) ((f_X13_next r1).bind K') Q := by
  have n1 : c1.1 1 8 ≠ 1 := by rw [t]; exact fun y => by have := (nI_eq (b := 1) (by omega) (by decide)).mp y; omega
  have n4 : c1.1 1 8 ≠ 4 := by rw [t]; exact fun y => by have := (nI_eq (b := 4) (by omega) (by decide)).mp y; omega
  refine fs_adv (c0 := c0) (r0 := r0) S1 S1.1.1 (Or.inr n1) n4 h9 ((sn1 0).mc l2_fr.rf) ((sn1 0).mr l2_fr.rf) (fun c r S2 sn2 q2 y1 y2 => ?_) hb
  have op2 := op.fr y1 y2
  have q : ∀ n3, sn n2 n3 f n (k0 9) (fun _ => True) (fun _ => True) k0 c0 r0 (nx (ox k0)) c r := fun n3 => ((sn1 n3).trans (sn2 n3 (fun _ => True) (fun _ => True))).mono (fun _ _ => trivial) (fun _ _ => trivial)
  have b4 : k0 4 ≤ 2 * k0 1 + 2 * k0 9 := S0.1.2.2.2.2.2.2.2.2.2.1
  obtain ⟨⟨a1, a2, a3⟩, d1, d2, d3, d4, d5, d6, d7, d8, d9, d10, d11, d12, d13⟩ := id op2
  refine hg c r ⟨S2, by rw [(y2 950 32 (by unfold rn_W; omega)).1]; exact h32, hV, h9, hf, (q 0).mc l2_fr.rf, (q 0).mr l2_fr.rf, ⟨a3 5 (by decide) (by decide) (by decide), a3 7 (by decide) (by decide) (by decide), d1, d4, d5, d6, d7, d11, d12⟩, ?_, by decide, by decide⟩ op2 (q n3) (q1.trans q2)
  show k0 4 + 2 ≤ 2 * k0 1 + 2 * (k0 9 + 1)
  omega
/-- a simple statement whole, given its kind -/
theorem st_simple {i : Nat} {up : Int32} {G H : t_S → Option t_S} (S0 : fs P nt f n2 Y n L ka a g k0 c0 r0) (h9 : k0 9 < 400) (S1 : fs P nt f n2 Y n L ka a g (ox k0) c1 r1) (h32 : r1.1 950 32 = 0) (hV : en_V n 1 L v) (hf : f < n3) (sn1 : ∀ n3, sn n2 n3 f n (k0 9) (fun _ => True) (fun _ => True) k0 c0 r0 (ox k0) c1 r1) (q1 : sq c0 c1) (op : op_R c1 r1 f n (k0 9) (nI so) up 0) (hu : up = -1 ∨ ∃ j, j < k0 9 ∧ up = nI j) (t : c1.1 1 8 = nI (200 + i)) (hi : i < 66) (hk : so < 30 ∧ K < 30) (hno : K ≠ 20 ∧ so ≠ 22 ∧ so ≠ 23) (hG : ∀ c r, sI P nt f n2 n3 Y n L v ka a g (k0 9) 0 (nx (ox k0)) c r c0 r0 → t_h2 (G c) (H r) (sO P nt f n2 n3 Y n v ka a g (k0 9) so K (nx (ox k0)) c r c0 r0)) (hB : ∀ f2 p0 c' r', zS f f2 p0 c0 c' → yS P f f2 p0 r0 r' → t_h2 (G c') (H r') (fun x y => ∃ f2 p0, zS f f2 p0 c0 x ∧ rS P f f2 p0 r0 y)) : t_h2 ((f_X2_advance c1).bind (fun c => (G c).bind (fun x => (f_X2_need 59 x).bind (fun r1 => some (nI (k0 9), r1))))) ((f_X13_next r1).bind (fun r => (H r).bind (fun y => (f_X13_mustBe 59 y).bind (fun r16 => some (nI (k0 9), r16))))) (so_O P nt f n2 n3 Y n L ka a g k0 c0 r0) := by
  refine st_begin S0 h9 S1 h32 hV hf sn1 q1 op t hi (fun c r I op2 sn2 q2 => ?_) (fun f2 p0 c' r' z y => ?_)
  · refine h2_bb _ (hG c r I) (fun x y hxy => ?_)
    exact sr_end (V := 9) (F := fun _ => none) S0 h9 sn2 q2 ⟨rfl, rfl, rfl, rfl, Nat.lt_succ_self _⟩ op2 hu hf hV ⟨hk.1, hk.2, by decide⟩ hno hxy
  · refine h2_bb _ (hB f2 p0 c' r' z y) (fun x y ⟨f3, p3, z, w⟩ => ?_)
    obtain ⟨y1, e, h1⟩ := w.mb (x := 59) (by unfold rj_no; decide)
    rw [z.1.need (by decide), e, l2_bs, l2_bs]
    exact h2_sm (Or.inr ⟨f3, p3, z, h1⟩)
end
