/-! Level 2: a VALUE is held against a templ: both sides' functions whole. -/
/-- what the class has found out, whatever it is, is of the past -/
def KM (τ : Nat) (s : t_S) : Prop := s.1 353 13 = nI τ ∧ τ < 1000000000 ∧ ∀ j, j < 7320 → ∃ e : Nat, s.1 424 j = nI e ∧ e < 2 * τ + 2
/-- .. the reference -/
def KN (σ : Nat) (s : t_S) : Prop := s.1 950 137 = nI σ ∧ ∀ j, j < 577000 → -2 ≤ (s.1 1028 j).toInt ∧ (s.1 1028 j).toInt < 2 * (σ : Int) + 2
def cmX (b j : Nat) : Prop := cmW b j ∨ (b = 353 ∧ 13 ≤ j ∧ j ≤ 15)
def rmX (b j : Nat) : Prop := rmW b j ∨ b = 1029 ∨ (b = 950 ∧ (j = 137 ∨ j = 141))
section
variable {s : t_S}
theorem fl_424 : ∀ (j i : Nat) (s1 : t_S) (n : Nat), i + j = 7320 → j < n → l2_fr (fun b _ => b = 424) s s1 → (∀ l, l < i → s1.1 424 l = 0) → ∃ s', t_loop b_J7_fill_53178_5 n (424, 0, nI i, nI 7320, s1) = some s' ∧ l2_fr (fun b _ => b = 424) s s' ∧ ∀ l, l < 7320 → s'.1 424 l = 0 := by
  intro j
  induction j with
  | zero =>
    intro i s1 n hi hn fr h
    obtain ⟨n, rfl⟩ : ∃ y, n = y + 1 := ⟨n - 1, by omega⟩
    obtain rfl : i = 7320 := by omega
    refine ⟨s1, ?_, fr, h⟩
    have st : b_J7_fill_53178_5 (424, 0, nI 7320, nI 7320, s1) = some (.inr s1) := by
      show k_J7_fill_53178_5 424 0 (nI 7320) (nI 7320) s1 = _
      unfold k_J7_fill_53178_5
      rw [if_pos (nI_le (Nat.le_refl _) (by omega))]
      rfl
    exact l2_lpR st
  | succ j ih =>
    intro i s1 n hi hn fr h
    obtain ⟨n, rfl⟩ : ∃ y, n = y + 1 := ⟨n - 1, by omega⟩
    have st : b_J7_fill_53178_5 (424, 0, nI i, nI 7320, s1) = some (.inl (424, 0, nI (i + 1), nI 7320, t_setI s1 424 i 0)) := by
      show k_J7_fill_53178_5 424 0 (nI i) (nI 7320) s1 = _
      unfold k_J7_fill_53178_5
      rw [if_neg (nI_ge (show i < 7320 by omega) (by omega)), if_pos (show t_oka 424 1 (t_ln 424) = true by decide +kernel), if_pos (l2_ix (j := i) (n := t_ln 424) (by show i < 7320; omega) (by decide +kernel)), t_let, nI_clamp (n := i) (by omega), nI_1]
    rw [l2_lpS st]
    refine ih (i + 1) _ n (by omega) (by omega) (fr.trans (l2_fr.set rfl)) (fun l hl => ?_)
    rw [l2_g]
    by_cases c : l = i
    · rw [if_pos (by omega)]
    · rw [if_neg (by omega)]
      exact h l (by omega)
theorem fl_all : ∃ s', f_J7_fill_53178 424 (0 : Int32) s = some s' ∧ l2_fr (fun b _ => b = 424) s s' ∧ ∀ l, l < 7320 → s'.1 424 l = 0 := by
  unfold f_J7_fill_53178
  rw [if_pos (show t_oka 424 1 (t_ln 424) = true by decide +kernel)]
  exact fl_424 7320 0 s t_N (by omega) (by have := l2_N; omega) l2_fr.rf (fun l hl => by omega)
theorem KM.mem {c r : t_S} {a i p E τ : Nat} (h : ∀ j, j < 7320 → ∃ e : Nat, s.1 424 j = nI e ∧ e < 2 * τ) (ht : τ < 2 ^ 30) (C : CC c r a i p E τ) : MemC c r a i p E τ s := by
  refine ⟨fun j hj => ?_, fun u o k hu hq he => ?_⟩
  · obtain ⟨e, e1, e2⟩ := h j hj
    exact ⟨e, e1, by omega⟩
  · exfalso
    have k120 := hq.bd C
    obtain ⟨e, e1, e2⟩ := h (122 * u + k) (by omega)
    rw [e1] at he
    have e3 : (nI e) >>> ((1 : Int32) &&& 31) = nI (e / 2) := pk_shrN (by omega) _ 1 (by decide)
    rw [e3] at he
    have := (nI_eq (show e / 2 < 2 ^ 31 by omega) (show τ < 2 ^ 31 by omega)).mp he
    omega
/-- all the parts of a VALUE, told of both sides -/
structure PA (c r : Nat → Int64) (i p n m E : Nat) : Prop where
  e0 : 0 < E ∧ E ≤ 120
  pd : ∀ x, x < E → PD c r i p E x
  v0 : wv c i 0 = i
  we : ∀ x, x ≤ E → wu c i x ≤ i + n
  wb : ∀ x, x < E → i ≤ wv c i x ∧ wv c i x < i + n
  wi : ∀ x x', x < E → x' < E → wv c i x = wv c i x' → x = x'
  qe : ∀ x, x ≤ E → p ≤ wq r p x ∧ wq r p x ≤ p + m
  qi : ∀ x x', x < E → x' < E → wq r p x = wq r p x' → x = x'
  qb : ∀ x, x < E → wq r p x < p + m
  qE : wq r p E = p + m
  n1 : n ≤ 120
  m2 : m ≤ 240
  k0 : ∃ (t : Int) (k : Nat), vl_c t n k (c i) ∧ k ≤ 8 ∧ r p = lN k
theorem pe_PA {c r : Nat → Int64} {i p n m f : Nat} (V : VW c r f i p n m) (hf : f ≤ 120) : ∃ E, PA c r i p n m E := by
  obtain ⟨E, a1, a2, a3, a4, a5, a6, a7, a8, a9, b1, b2⟩ := pe_all V hf
  obtain ⟨t, k, h1, h2, h3, _⟩ := VW.hd V
  exact ⟨E, ⟨⟨a1, a2⟩, a3, a4, a5, a6, a7, a8, a9, b1, b2, V.pos.2.1, by have := V.m2; have := V.pos; omega, t, k, h1, h2, h3⟩⟩
theorem l2_fr.setR {W : Nat → Nat → Prop} {s : t_S} {a k : Nat} {v : Nat} (w : W a k) : l2_fr W s (t_setR s a k v) := by
  intro b j n
  refine ⟨rfl, rfl, ?_⟩
  show va_up s.2.2 a (va_up (s.2.2 a) k v) b j = _
  by_cases e : b = a
  · subst e
    rw [mj_up_eq]
    exact mj_up_ne _ _ (fun z => n (by rw [z]; exact w))
  · rw [mj_up_ne _ _ e]
/-- what is held against a templ: nothing (OMIT), or the whole VALUE -/
noncomputable def oP (r : t_S) (p : Nat) : Option Nat := @ite (Option Nat) (r.2.1 1006 p = lN 4) (Classical.propDecidable _) none (some p)
def mc3 (b _j : Nat) : Prop := b = 353
def mcW (b j : Nat) : Prop := b = 424 ∨ (b = 353 ∧ 13 ≤ j ∧ j ≤ 15)
theorem mc_meets {c r : t_S} {a i p n m E τ f t nd : Nat} {NS : Nat → Prop} (K : KM τ c) (A : PA (c.2.1 a) (r.2.1 1006) i p n m E) (ar : a ≠ 424 ∧ a ≠ 426 ∧ a ≠ 427 ∧ a ≠ 353) (ok : t_oka a 2 (t_ln a) = true) (ln : t_ln a < 1000000000) (hi : i + n ≤ t_ln a) (pb : p + 260 ≤ 626600) (hf : f ≤ 100) (hT : ∀ c' τ', l2_fr mcW c c' → CC c' r a i p E τ' → TM c' r a i p E NS f t nd) : ∃ s' τ', f_X10_meets (nI t) a (nI i) c = some (bZ (Mn r p E nd (oP r p)), s') ∧ l2_fr cmX c s' ∧ KM τ' s' := by
  have n0 : 0 < n := by have := A.wb 0 A.e0.1; omega
  obtain ⟨k13, k9, km⟩ := K
  obtain ⟨t0, k0, h1, h2, h3⟩ := A.k0
  have main : ∀ (c' : t_S) (τ' : Nat), l2_fr mcW c c' → c'.2.2 353 14 = a → c'.1 353 15 = nI i → c'.1 353 13 = nI τ' → 0 < τ' → τ' < 1000000000 → (∀ j, j < 7320 → ∃ e : Nat, c'.1 424 j = nI e ∧ e < 2 * τ') → ∃ s', k_X10_meets_42 (nI t) a (nI i) c' = some (bZ (Mn r p E nd (oP r p)), s') ∧ l2_fr cmX c s' ∧ KM τ' s' := fun c' τ' fr g1 g2 g3 t1 t9 me => by
    have ea : c'.2.1 a = c.2.1 a := funext (fun j => (fr a j (fun z => by unfold mcW at z; omega)).2.1)
    have C : CC c' r a i p E τ' := ⟨ar, ok, ln, g1, g2, ⟨g3, by omega⟩, ⟨A.e0.1, by have := A.e0.2; omega⟩, fun x hx => by rw [ea]; have := A.wb x hx; have := A.n1; omega, fun x hx => by rw [ea]; have := A.we x hx; omega, fun x x' => by rw [ea]; exact A.wi x x'⟩
    have M := KM.mem (r := r) (τ := τ') me (by omega) C
    have go := cm_go (c := c') (NS := NS) C pb (fun x hx => by have := A.qe x hx; have := A.m2; omega) (fun x hx => by rw [ea]; exact A.pd x hx) f t nd (hT c' τ' fr C) (by omega) 300 0 (by omega) (by omega)
    have fin : ∀ (o : Option Nat) (k : Nat), VQ c' r a i p E o k → ∃ s', f_X10_matches (nI t) (nI k - 1) 0 c' = some (bZ (Mn r p E nd o), s') ∧ l2_fr cmX c s' ∧ KM τ' s' := fun o k hV => by
      obtain ⟨s', y1, y2, y3, _⟩ := go c' o k hV l2_fr.rf M
      refine ⟨s', y1, (fr.mono (fun b j w => ?_)).trans (y2.mono (fun b j w => Or.inl w)), ((y2 353 13 (by unfold cmW; omega)).1).trans g3, t9, y3.1⟩
      unfold mcW at w
      unfold cmX cmW
      omega
    have e4 : nI k0 = (4 : Int32) ↔ k0 = 4 := nI_eq (b := 4) (by omega) (by decide)
    unfold k_X10_meets_42 k_X10_meets_59
    rw [if_pos ok, if_pos (l2_ix (j := i) (n := t_ln a) (by omega) (by omega)), nI_clamp (n := i) (by omega), ea, vl_kind h1]
    by_cases c4 : k0 = 4
    · rw [if_pos (e4.mpr c4)]
      obtain ⟨s', y1, y2⟩ := fin none 0 VQ.no
      have eo : oP r p = none := by unfold oP; rw [if_pos (by rw [h3, c4])]
      refine ⟨s', ?_, y2⟩
      rw [show (-1 : Int32) = nI 0 - 1 by decide, y1, l2_bs, eo]
      exact if_pos bZ_01
    · rw [if_neg (fun z => c4 (e4.mp z))]
      have eo : oP r p = some p := by unfold oP; rw [if_neg (by rw [h3]; exact lN_ne (by omega) (by decide) c4)]
      have hV : VQ c' r a i p E (some (wq (r.2.1 1006) p 0)) (wv (c'.2.1 a) i 0 - i + 1) := VQ.mk A.e0.1 (by show r.2.1 1006 p ≠ lN 4; rw [h3]; exact lN_ne (by omega) (by decide) c4)
      obtain ⟨s', y1, y2⟩ := fin _ _ hV
      refine ⟨s', ?_, y2⟩
      rw [ea, A.v0, show i - i + 1 = 1 by omega] at y1
      rw [show nI 1 - 1 = (0 : Int32) by decide] at y1
      rw [y1, l2_bs, eo]
      exact if_pos bZ_01
  unfold f_X10_meets
  rw [t_let, t_let, t_let]
  have f3 : l2_fr mcW c (t_setI (t_setI (t_setR c 353 14 a) 353 15 (nI i)) 353 13 ((t_setI (t_setR c 353 14 a) 353 15 (nI i)).1 353 13 + 1)) := ((l2_fr.setR (Or.inr ⟨rfl, by decide, by decide⟩)).trans (l2_fr.set (Or.inr ⟨rfl, by decide, by decide⟩))).trans (l2_fr.set (Or.inr ⟨rfl, by decide, by decide⟩))
  have e13 : (t_setI (t_setI (t_setR c 353 14 a) 353 15 (nI i)) 353 13 ((t_setI (t_setR c 353 14 a) 353 15 (nI i)).1 353 13 + 1)).1 353 13 = nI (τ + 1) := by
    rw [l2_g, if_pos rfl, l2_g, if_neg (by decide)]
    show c.1 353 13 + 1 = _
    rw [k13, nI_1]
  have e15 : (t_setI (t_setI (t_setR c 353 14 a) 353 15 (nI i)) 353 13 ((t_setI (t_setR c 353 14 a) 353 15 (nI i)).1 353 13 + 1)).1 353 15 = nI i := by
    rw [l2_g, if_neg (by decide), l2_g, if_pos rfl]
  have e24 : ∀ j, (t_setI (t_setI (t_setR c 353 14 a) 353 15 (nI i)) 353 13 ((t_setI (t_setR c 353 14 a) 353 15 (nI i)).1 353 13 + 1)).1 424 j = c.1 424 j := fun j => by
    have f : l2_fr mc3 c (t_setI (t_setI (t_setR c 353 14 a) 353 15 (nI i)) 353 13 ((t_setI (t_setR c 353 14 a) 353 15 (nI i)).1 353 13 + 1)) := ((l2_fr.setR (W := mc3) rfl).trans (l2_fr.set rfl)).trans (l2_fr.set rfl)
    exact (f 424 j (show ¬ 424 = 353 by decide)).1
  have e14 : (t_setI (t_setI (t_setR c 353 14 a) 353 15 (nI i)) 353 13 ((t_setI (t_setR c 353 14 a) 353 15 (nI i)).1 353 13 + 1)).2.2 353 14 = a := rfl
  revert f3 e13 e15 e24 e14
  generalize (t_setI (t_setI (t_setR c 353 14 a) 353 15 (nI i)) 353 13 ((t_setI (t_setR c 353 14 a) 353 15 (nI i)).1 353 13 + 1)) = s3
  intro f3 e13 e15 e24 e14
  rw [e13]
  by_cases c9 : τ + 1 < 1000000000
  · rw [if_pos (show nI (τ + 1) < (1000000000 : Int32) from nI_lt (b := 1000000000) c9 (by omega))]
    obtain ⟨s', y⟩ := main s3 (τ + 1) f3 e14 e15 e13 (by omega) c9 (fun j hj => by
      obtain ⟨e, e1, e2⟩ := km j hj
      exact ⟨e, (e24 j).trans e1, by omega⟩)
    exact ⟨s', _, y⟩
  · rw [if_neg (show ¬ nI (τ + 1) < (1000000000 : Int32) from nI_nlt (b := 1000000000) (by omega) (by omega))]
    obtain ⟨s4, y1, y2, y3⟩ := fl_all (s := s3)
    rw [y1, l2_bs, t_let]
    have f4 : ∀ b j, b ≠ 424 → s4.1 b j = s3.1 b j ∧ s4.2.2 b j = s3.2.2 b j := fun b j hb => ⟨(y2 b j hb).1, (y2 b j hb).2.2⟩
    obtain ⟨s', y⟩ := main (t_setI s4 353 13 1) 1 (f3.trans ((y2.mono (fun b j w => Or.inl w)).trans (l2_fr.set (Or.inr ⟨rfl, by decide, by decide⟩)))) (((f4 353 14 (by decide)).2).trans e14) (by rw [l2_g, if_neg (by decide), (f4 353 15 (by decide)).1, e15]) (by rw [l2_g, if_pos rfl]; rfl) (by omega) (by omega) (fun j hj => ⟨0, (((l2_fr.set (W := mc3) (s := s4) (a := 353) (k := 13) (v := 1) rfl) 424 j (show ¬ 424 = 353 by decide)).1).trans (y3 j hj), by omega⟩)
    exact ⟨s', _, y⟩
end
