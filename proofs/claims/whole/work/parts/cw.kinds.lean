/-! Level 2: simple statements, kind by kind: exps, linked words. -/
section
variable {P : pc_S} {nt : Nat → Nat} {f n n' n2 n3 Y a g f2 p0 ln so K V : Nat} {L L' v : Nat → Nat} {ka : Int32} {k k0 k1 k2 k' : Nat → Nat} {c0 r0 c r c1 r1 c2 r2 c' r' : t_S} {A B A' B' : Nat → Prop}
/-- a simple statement's body begins: behind the opening and its word -/
def sI (P : pc_S) (nt : Nat → Nat) (f n2 n3 Y n : Nat) (L v : Nat → Nat) (ka : Int32) (a g ln K : Nat) (k : Nat → Nat) (c r c0 r0 : t_S) : Prop := fs P nt f n2 Y n L ka a g k c r ∧ r.1 950 32 = 0 ∧ en_V n 1 L v ∧ ln < 400 ∧ f < n3 ∧ l2_fr mo_Wc c0 c ∧ l2_fr mo_Wr r0 r ∧ (c.1 (445 + ln) 5 = -1 ∧ c.1 (445 + ln) 7 = -1 ∧ r.1 988 ln = nI K ∧ r.1 991 ln = -1 ∧ r.1 993 ln = -1 ∧ r.1 995 ln = -1 ∧ r.1 996 ln = -1 ∧ r.1 1000 ln = -1 ∧ r.1 1001 ln = nI f) ∧ k 4 + 2 ≤ 2 * k 1 + 2 * k 9 ∧ K ≠ 2 ∧ K < 30
/-- what it comes to -/
def sr_O (P : pc_S) (nt : Nat → Nat) (f n2 n3 Y n : Nat) (v : Nat → Nat) (ka : Int32) (a g ln so K V : Nat) (k : Nat → Nat) (c r c0 r0 c' r' : t_S) : Prop := sr_G P nt f n2 n3 Y n v ka a g ln so K V k c r c' r' ∨ ∃ f2 p0, zS f f2 p0 c0 c' ∧ rS P f f2 p0 r0 r'
theorem sr_G.pre (q : sn n2 n3 f n ln (fun _ => False) (fun x => x = 988) k c r k c r1) (h : sr_G P nt f n2 n3 Y n v ka a g ln so K V k c r1 c' r') : sr_G P nt f n2 n3 Y n v ka a g ln so K V k c r c' r' := by
  obtain ⟨k', n', L', x1, x2, x3, x4, x5, x6⟩ := h
  exact ⟨k', n', L', x1, x2, x3, x4, (q.trans x5).mono (fun j y => y.elim False.elim id) (fun x y => y.elim (fun z => Or.inl z) id), x6⟩
/-- its kind set -/
theorem sI.kind {A : Option t_S} {B : t_S → Option t_S} (h : sI P nt f n2 n3 Y n L v ka a g ln 0 k c r c0 r0) (hK : K ≠ 2 ∧ K < 30) (hg : ∀ r1, sI P nt f n2 n3 Y n L v ka a g ln K k c r1 c0 r0 → l2_fr (fun b j => b = 988 ∧ j = ln) r r1 → t_h2 A (B r1) (sr_O P nt f n2 n3 Y n v ka a g ln so K V k c r1 c0 r0)) : t_h2 A (t_let (t_setI r 988 ln (nI K)) B) (sr_O P nt f n2 n3 Y n v ka a g ln so K V k c r c0 r0) := by
  refine h2_lR ?_
  obtain ⟨S, h32, hV, hl, hf, gc, gr', ⟨o1, o2, o3, o4, o5, o6, o7, o8, o9⟩, sl, _⟩ := h
  have fr : l2_fr (fun b j => b = 988 ∧ j = ln) r (t_setI r 988 ln (nI K)) := l2_fr.set ⟨rfl, rfl⟩
  have v1 : (t_setI r 988 ln (nI K)).1 988 ln = nI K := by simp only [l2_gI, reduceIte]
  generalize t_setI r 988 ln (nI K) = r1 at *
  obtain ⟨S1, sn1, _⟩ := S.cell (A := fun _ => False) (B := fun x => x = 988) hl (l2_fr.rf (s := c)) (fr.mono (fun b j y => Or.inl ⟨by omega, by omega, y.2⟩)) (fun _ _ _ => rfl) (fun x _ _ y => (fr x ln (fun z => y z.1)).1)
  have e : ∀ x, x ≠ 988 → r1.1 x ln = r.1 x ln := fun x y => (fr x ln (fun z => y z.1)).1
  refine h2_imp (hg r1 ⟨S1, by rw [(fr 950 32 (by omega)).1]; exact h32, hV, hl, hf, gc, (sn1 0).mr gr', ⟨o1, o2, v1, by rw [e 991 (by decide)]; exact o4, by rw [e 993 (by decide)]; exact o5, by rw [e 995 (by decide)]; exact o6, by rw [e 996 (by decide)]; exact o7, by rw [e 1000 (by decide)]; exact o8, by rw [e 1001 (by decide)]; exact o9⟩, sl, hK⟩ fr) (fun x y z => ?_)
  rcases z with z | z
  · exact Or.inl (z.pre (sn1 n3))
  · exact Or.inr z
/-- the row's cells that stay -/
theorem sI.row (h : sI P nt f n2 n3 Y n L v ka a g ln K k c r c0 r0) (q : sn n2 n3 f n ln A B k c r k' c' r') (hB : ∀ x, B x → x ≠ 988 ∧ x ≠ 1000 ∧ x ≠ 1001) : r'.1 988 ln = nI K ∧ r'.1 1000 ln = sl_v 9 ∧ r'.1 1001 ln = nI f ∧ ∀ x, ln ≤ x → x < ln + 1 → r'.1 988 x ≠ 2 := by
  obtain ⟨S, h32, hV, hl, hf, gc, gr', ⟨o1, o2, o3, o4, o5, o6, o7, o8, o9⟩, sl, hK⟩ := h
  have e : ∀ x, x = 988 ∨ x = 1000 ∨ x = 1001 → r'.1 x ln = r.1 x ln := fun x y => q.2.2.2.2.1 x (by omega) (by omega) (fun z => by have := hB x z; omega)
  have e8 : r'.1 988 ln = nI K := by rw [e 988 (Or.inl rfl)]; exact o3
  refine ⟨e8, by rw [e 1000 (by omega)]; exact o8, by rw [e 1001 (by omega)]; exact o9, fun x x1 x2 y => ?_⟩
  have e1 : x = ln := by omega
  rw [e1, e8] at y
  exact hK.1 ((nI_eq (b := 2) (by omega) (by decide)).mp y)
theorem sI.fin (h : sI P nt f n2 n3 Y n L v ka a g ln K k c r c0 r0) (S' : fs P nt f n2 Y n' L' ka a g k' c' r') (hn : n ≤ n') (k9 : k' 9 = k 9) (k0 : k 0 ≤ k' 0) (q : sn n2 n3 f n ln A B k c r k' c' r') (hA : ∀ j, A j → sA j) (hB : ∀ x, B x → sE x ∧ x ≠ 988 ∧ x ≠ 1000) (m : mB False n2 n3 c c' r' (k 6) (k' 6) (k 8) (k' 8) (k 2) (k' 2) ln (ln + 1)) (sk : sk_R n2 n3 (E_f f n v) v c' r' (k' 3) (k' 4) (k' 5) (k' 6) (k' 7) (k' 2) f n ln so K 9) : sr_G P nt f n2 n3 Y n v ka a g ln so K 9 k c r c' r' := by
  obtain ⟨e1, e2, _⟩ := h.row q (fun x y => by have := hB x y; unfold sE at this; omega)
  exact ⟨k', n', L', S', hn, k9, k0, q.mono hA (fun x y => (hB x y).1), m, sk, e1, e2⟩
/-- an exp as all there is -/
theorem sI.exp (h : sI P nt f n2 n3 Y n L v ka a g ln K k c r c0 r0) (sk : ∀ {t e p l s m : Nat} {c' r' : t_S}, sx_R n2 n3 (E_f f n v) c' r' t e p l s m (c'.1 (445 + ln) 5) (r'.1 995 ln) → sk_R n2 n3 (E_f f n v) v c' r' t e p l s m f n ln so K 9) : t_h2 ((f_X6_readExp (-1) c).bind (fun y => t_let (t_setI y.2 (445 + ln) 5 y.1) (fun s => some s))) ((f_X13_exp r).bind (fun y => t_let (t_setI y.2 995 ln y.1) (fun s => some s))) (sr_O P nt f n2 n3 Y n v ka a g ln so K 9 k c r c0 r0) := by
  obtain ⟨S, h32, hV, hl, hf, gc, gr', o, sl, hK⟩ := id h
  refine fs_exp (j := 5) (x := 995) S h32 hV hl (by decide) (by decide) gc gr' (fun k' c' r' S1 _ k9 k0 _ sn1 pc => h2_sm (Or.inl ?_)) (fun f2 p0 c' r' z y => h2_sm (Or.inr ⟨f2, p0, z, y⟩))
  obtain ⟨_, _, _, e4⟩ := h.row (sn1 n3) (fun x y => by omega)
  exact h.fin S1 (Nat.le_refl _) k9 (Nat.le_of_lt k0) (sn1 n3) (fun j y => by unfold sA; omega) (fun x y => by unfold sE; omega) (((pc n3 hf).1 ln).wide e4) (sk (pc n3 hf).2)
/-- nothing -/
theorem sI.none (h : sI P nt f n2 n3 Y n L v ka a g ln K k c r c0 r0) (sk : sk_R n2 n3 (E_f f n v) v c r (k 3) (k 4) (k 5) (k 6) (k 7) (k 2) f n ln so K 9) : t_h2 (some c) (some r) (sr_O P nt f n2 n3 Y n v ka a g ln so K 9 k c r c0 r0) := by
  obtain ⟨_, _, _, e4⟩ := h.row (A := fun _ => False) (B := fun _ => False) (sn.rf (n2 := n2) (n3 := n3) (f := f) (n := n)) (fun x y => y.elim)
  exact h2_sm (Or.inl (h.fin (A := fun _ => False) (B := fun _ => False) h.1 (Nat.le_refl _) rfl (Nat.le_refl _) sn.rf (fun j y => y.elim) (fun x y => y.elim) ((mB.nil (n2 := n2) (n3 := n3) (c0 := c) (c := c) (r := r) rfl rfl (fun _ => rfl) (k 6) (k 8) (k 2) ln).wide e4) sk))
/-- a linked word, behind it a state -/
theorem sI.word {T U : Type} {F : t_S → Option T} {K' : t_S → Option U} {Q : T → U → Prop} {wo : Nat} (h : sI P nt f n2 n3 Y n L v ka a g ln K k c r c0 r0) (ok : sl_ok K 9 wo 0) (hwo : wo < 20 ∧ wo ≠ 1) (hg : ∀ c1 r1, fs P nt f n2 Y n L ka a g (lx k) c1 r1 → r1.1 950 32 = 0 → sn n2 n3 f n ln (fun _ => False) (fun x => x = 991 ∨ x = 992) k c r (lx k) c1 r1 → (∀ A B k' c' r', sn n2 n3 f n ln A B (lx k) c1 r1 k' c' r' → (∀ x, B x → ¬ (988 ≤ x ∧ x ≤ 992) ∧ x ≠ 1000 ∧ x ≠ 1001) → mB False n2 n3 c c1 r' (k 6) (lx k 6) (k 8) (lx k 8) (k 2) (lx k 2) ln (ln + 1) ∧ mL_c c1 c' (lx k 6) ∧ (∀ l, lx k 6 ≤ l → wl_R c' r' f ln l wo 0 (nI ln) 0) ∧ ∃ X, X < 7934 ∧ c.2.1 1 10 = lN (66 + X) ∧ r'.1 991 ln = nI X) → t_h2 (F c1) (K' r1) Q) (hb : ∀ f2 p0 c' r', zS f f2 p0 c0 c' → yS P f f2 p0 r0 r' → t_h2 (F c') (K' r') Q) : t_h2 ((f_X6_link (nI wo) (nI ln) 0 c).bind F) ((f_X13_wordOf (nI ln) r).bind K') Q := by
  obtain ⟨S, h32, hV, hl, hf, gc, gr', o, sl, hK⟩ := id h
  rw [fw_W0 hl]
  refine fs_word (side := 0) S hl (by decide) gc gr' (fun c1 r1 X pl S1 sn1 q1 wx e10 e32 => ?_) hb
  have sn1' := (sn1 n3).mono (A' := fun _ => False) (B' := fun x => x = 991 ∨ x = 992) (fun j y => y) (fun x y => by omega)
  refine hg c1 r1 S1 (e32.trans h32) sn1' (fun A B k' c' r' q hB => ?_)
  · obtain ⟨e1, e2, e3, e4⟩ := h.row (sn1'.trans q) (fun x y => y.elim (fun z => by omega) (fun z => by have := hB x z; omega))
    have rr : ∀ x, 991 ≤ x → x ≤ 992 → r'.1 x ln = r1.1 x ln := fun x a b => q.2.2.2.2.1 x (by omega) (by omega) (fun z => by have := hB x z; omega)
    have wx' : wx_R c1 r' f ln (k 6) wo 0 (nI ln) 0 X pl := ⟨wx.1, wx.2.1, wx.2.2.1, by rw [rr _ (by decide) (by decide)]; exact wx.2.2.2.1, by rw [rr _ (by decide) (by decide)]; exact wx.2.2.2.2⟩
    refine ⟨wx'.mB S.2.2.2.1 ⟨hK.2, by decide, hwo.1⟩ ⟨e1, e2, e3⟩ ok q1 _ _ ln (ln + 1) ⟨Nat.le_refl _, Nat.lt_succ_self _⟩ e4 (Or.inl ⟨rfl, hwo.2⟩), sf_mL q.2.1, fun l hl' => ?_, X, wx.1, e10, by rw [rr 991 (by decide) (by decide)]; exact wx.2.2.2.1⟩
    have hl2 : k 6 + 1 ≤ l := hl'
    exact wx_R.wl (e := k 6) ⟨wx'.1, wx'.2.1, wx'.2.2.1.fr (fun b x1 x2 => sf_mL q.2.1 b (k 6) x1 x2 (Nat.lt_succ_self _)), wx'.2.2.2.1, wx'.2.2.2.2⟩ (by omega)
end
