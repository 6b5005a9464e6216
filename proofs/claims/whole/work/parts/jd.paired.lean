/-! Level 2: the class pairs parts with elements: f_X10_paired. -/
theorem sc_one {S S' : Nat → Nat} {e n : Nat} (he : e < n) (h0 : S e = 0) (h1 : S' e = 1) (ho : ∀ x, x ≠ e → S' x = S x) : sy_cn S' n = sy_cn S n + 1 := by
  have : S' = va_up S e 1 := by
    funext x
    by_cases c : x = e
    · rw [c, h1, mj_up_eq]
    · rw [ho x c, mj_up_ne _ _ c]
  rw [this, sy_cn_up h0 n he]
theorem sc_all {S : Nat → Nat} : ∀ n, (∀ x, S x ≤ 1) → (sy_cn S n = n ↔ ∀ x, x < n → S x = 1) := by
  intro n h
  induction n with
  | zero => exact ⟨fun _ x hx => absurd hx (Nat.not_lt_zero _), fun _ => rfl⟩
  | succ n ih =>
    have le := sy_cn_le (S := S) n (fun v _ => h v)
    have := h n
    show sy_cn S n + S n = n + 1 ↔ _
    constructor
    · intro q x hx
      by_cases c : x = n
      · rw [c]; omega
      · exact ih.mp (by omega) x (by omega)
    · intro q
      have := q n (by omega)
      have := ih.mpr (fun x hx => q x (by omega))
      omega
theorem sc_cut {S : Nat → Nat} {n : Nat} (h : ∀ x, n ≤ x → S x = 0) : ∀ m, sy_cn S (n + m) = sy_cn S n
  | 0 => rfl
  | m + 1 => by
    show sy_cn S (n + m) + S (n + m) = _
    rw [sc_cut h m, h _ (by omega)]
    omega
/-- who is had, as 0 and 1 -/
def kO (w : Nat → Option Nat) (e : Nat) : Nat := match w e with
  | none => 0
  | some _ => 1
theorem kO_le {w : Nat → Option Nat} {e : Nat} : kO w e ≤ 1 := by
  unfold kO
  cases w e <;> simp
theorem kO_1 {w : Nat → Option Nat} {e : Nat} : kO w e = 1 ↔ ∃ l, w e = some l := by
  unfold kO
  cases h : w e with
  | none => exact ⟨fun y => absurd (show (0 : Nat) = 1 from y) (by decide), fun ⟨l, y⟩ => no_ns y⟩
  | some l => exact ⟨fun _ => ⟨l, rfl⟩, fun _ => rfl⟩
theorem kO_0 {w : Nat → Option Nat} {e : Nat} : kO w e = 0 ↔ w e = none := by
  unfold kO
  cases h : w e with
  | none => exact ⟨fun _ => rfl, fun _ => rfl⟩
  | some l => exact ⟨fun y => absurd (show (1 : Nat) = 0 from y) (by decide), fun y => no_sn y⟩
/-- how many elements are had by how many of the parts -/
def kC_R (N : Nat → Nat → Prop) (i f : Nat) : Prop := f ≤ i ∧ (f = i ↔ kp_L N i) ∧ (∀ n, (∀ l e, N l e → e < n) → n ≤ 16 → (f = n ↔ kp_L (fun e l => l < i ∧ N l e) n))
section
variable {s : t_S} {R0 m : Nat} {A : Nat → Nat → Prop} {B : Nat → Prop}
theorem KI.rel {N : Nat → Nat → Prop} {w : Nat → Option Nat} {i f : Nat} {F V : Nat → Prop} (h : KI N w i F V) (hN : ∀ l e, N l e → e < 16) (hf : f = sy_cn (kO w) 16) (hF : (f = i ∧ ∀ l, ¬ F l) ∨ (f < i ∧ ∃ l, F l)) : kC_R N i f := by
  refine ⟨by omega, ?_, fun n hn h16 => ?_⟩
  · rcases hF with ⟨q, a⟩ | ⟨q, l, hl⟩
    · exact ⟨fun _ => h.all a, fun _ => q⟩
    · exact ⟨fun y => by omega, fun y => absurd y (h.nix hN hl (Nat.le_refl _))⟩
  · rw [h.elems hn, hf]
    have z : ∀ x, n ≤ x → kO w x = 0 := fun x hx => by
      rw [kO_0]
      cases q : w x with
      | none => rfl
      | some l => have := hn l x (h.ed x l q).1; omega
    have := sc_cut z (16 - n)
    rw [show n + (16 - n) = 16 by omega] at this
    rw [this, sc_all n (fun x => kO_le)]
    exact ⟨fun y e he => kO_1.mp (y e he), fun y e he => kO_1.mpr (y e he)⟩
theorem pa_go {dp : Nat} {x3 : Int32} (hm : m ≤ 12) (hdp : dp ≤ 100) (hA : ∀ l, l < m → BS (s.1 426 (12 * dp + l)) 16 (A l)) (hB : BS x3 16 B) : ∃ f s', f_X10_paired (nI dp) (nI m) x3 s = some (nI f, s') ∧ l2_fr fW s s' ∧ kC_R (eN m A B) m f := by
  have l427 : t_ln 427 = 16 := by decide +kernel
  obtain ⟨s0, q1, q2, q3⟩ := l2_fill (a := 427) (v := -1) (s := s) (by decide +kernel) (by decide +kernel)
  have hN : ∀ l e, eN m A B l e → e < 16 := fun l e h => (hA l h.1).lt h.2.1
  have w0 : OW s0 427 m (fun _ => none) := fun e he => ⟨q2 e (by rw [l427]; omega), fun l y => no_ns y⟩
  have lp : ∀ (j i : Nat) (s1 : t_S) (w : Nat → Option Nat) (F V : Nat → Prop) (f n : Nat), i + j = m → j < n → l2_fr fW s s1 → KI (eN m A B) w i F V → OW s1 427 m w → f = sy_cn (kO w) 16 → ((f = i ∧ ∀ l, ¬ F l) ∨ (f < i ∧ ∃ l, F l)) → ∃ f2 s', t_loop b_X10_paired_14 n (nI dp, nI m, x3, nI f, nI i, s1) = some (nI f2, s') ∧ l2_fr fW s s' ∧ kC_R (eN m A B) m f2 := by
    intro j
    induction j with
    | zero =>
      intro i s1 w F V f n hi hn fr hk hw hf hF
      obtain ⟨n, rfl⟩ : ∃ y, n = y + 1 := ⟨n - 1, by omega⟩
      obtain rfl : i = m := by omega
      refine ⟨f, s1, l2_lpR ?_, fr, hk.rel hN hf hF⟩
      show k_X10_paired_14 (nI dp) (nI i) x3 (nI f) (nI i) s1 = _
      unfold k_X10_paired_14
      rw [if_pos (nI_le (Nat.le_refl _) (by omega))]
      rfl
    | succ j ih =>
      intro i s1 w F V f n hi hn fr hk hw hf hF
      obtain ⟨n, rfl⟩ : ∃ y, n = y + 1 := ⟨n - 1, by omega⟩
      have st : b_X10_paired_14 (nI dp, nI m, x3, nI f, nI i, s1) = (f_X10_findsElement (nI (12 * dp)) (nI i) (nI 0) (t_setI s1 353 20 x3)).bind (fun r1 => if r1.1 = (0 : Int32) then some (.inl (nI dp, nI m, x3, nI f, nI (i + 1), r1.2)) else some (.inl (nI dp, nI m, x3, nI (f + 1), nI (i + 1), r1.2))) := by
        show k_X10_paired_14 (nI dp) (nI m) x3 (nI f) (nI i) s1 = _
        unfold k_X10_paired_14 k_X10_paired_42
        rw [if_neg (nI_ge (show i < m by omega) (by omega)), t_let, show (12 : Int32) = nI 12 from rfl, pk_mul, nI_1, nI_1, Nat.mul_comm dp 12]
        rfl
      have f2 : l2_fr (fun b j => b = 353 ∧ j = 20) s1 (t_setI s1 353 20 x3) := l2_fr.set ⟨rfl, rfl⟩
      have v20 : (t_setI s1 353 20 x3).1 353 20 = x3 := by rw [l2_g, if_pos rfl]
      generalize t_setI s1 353 20 x3 = s2 at *
      have fr2 := fr.trans (f2.mono (fun b j y => Or.inr y))
      obtain ⟨s3, f3, O⟩ := fe_go (R0 := 12 * dp) (m := m) (A := A) (B := B) hm (by omega) 100 0 (fun _ => False) w s2 i (by omega) ⟨fun _ => 0, fun i hi => by omega, fun i j _ hj => by omega⟩ (by omega) (fun l hl => by rw [(fr2 426 _ (by unfold fW; omega)).1]; exact hA l hl) (fun e he => by rw [(f2 427 e (by omega)).1]; exact hw e he) (by rw [v20]; exact hB.iff (fun e => ⟨fun y => ⟨y, fun z => z⟩, fun y => y.1⟩))
      have fr3 := fr2.trans f3
      have fd : f_X10_findsElement (nI (12 * dp)) (nI i) (nI 0) s2 = R_X10_findsElement 100 (nI (12 * dp)) (nI i) (nI 0) s2 := rfl
      rw [fd] at st
      rcases O with ⟨w', k1, k2, k3⟩ | ⟨U', k1, k2, k3, k4⟩
      · rw [k3, l2_bs, if_neg (show ¬ (1 : Int32) = 0 by decide)] at st
        rw [l2_lpS st]
        have hy := hk.yes k1
        obtain ⟨e0, _, z1, ⟨l, z2⟩, z3⟩ := k1.one
        have e16 := hN _ _ (hy.ed e0 l z2).1
        refine ih (i + 1) s3 w' F V (f + 1) n (by omega) (by omega) fr3 hy k2 ?_ (hF.imp (fun y => ⟨by omega, y.2⟩) (fun y => ⟨by omega, y.2⟩))
        rw [hf]
        refine (sc_one e16 (kO_0.mpr z1) (kO_1.mpr ⟨l, z2⟩) (fun x hx => ?_)).symm
        have := z3 x hx
        unfold kO
        cases h1 : w' x with
        | none => rw [this.mp h1]
        | some a =>
          cases h2 : w x with
          | none => rw [this.mpr h2] at h1; exact no_ns h1
          | some b => rfl
      · rw [k4, l2_bs, if_pos rfl] at st
        rw [l2_lpS st]
        exact ih (i + 1) s3 w _ _ f n (by omega) (by omega) fr3 (hk.no k1) k2 hf (Or.inr ⟨by omega, i, Or.inr rfl⟩)
  have hf0 : 0 = sy_cn (kO (fun _ => none)) 16 := rfl
  obtain ⟨f, s', a1, a2, a3⟩ := lp m 0 s0 (fun _ => none) (fun _ => False) (fun _ => False) 0 t_N (by omega) (by have := l2_N; omega) (q3.mono (fun b j y => Or.inl y)) KI.nil w0 hf0 (Or.inl ⟨rfl, fun _ y => y⟩)
  refine ⟨f, s', ?_, a2, a3⟩
  unfold f_X10_paired
  rw [q1, l2_bs]
  exact a1
end
