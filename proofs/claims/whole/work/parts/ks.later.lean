/-! Level 2: what is known of a templ once its exps are worked out, seen from later on. -/
/-- a state in which a VALUE is held against templs that are prepared -/
def LtC (c0 r0 : t_S) (P : Nat → Int64) (TS : Nat → Nat → Nat → Prop) (c' r' : t_S) (pc a nh p mh E τ : Nat) : Prop := pc ≤ 370000 ∧ r'.1 950 135 = nI pc ∧ Tld P TS r' ∧ (l2_fr (eZc c0) c0 c' ∧ l2_fr eZr r0 r') ∧ PA (c'.2.1 338) (r'.2.1 1006) a p nh mh E ∧ p + 260 ≤ 626600 ∧ a + nh ≤ 48000 ∧ CC c' r' 338 a p E τ
/-- a fact of all later states -/
def QX (c0 r0 : t_S) (P : Nat → Int64) (TS : Nat → Nat → Nat → Prop) (t0 t1 m0 m1 : Nat) (T : t_S → t_S → Nat → Nat → Nat → Prop) (c r : t_S) (a nh p pc : Nat) : Prop := ∀ c' r' pc' mh E τ, Lat t0 t1 m0 m1 a nh pc c r c' r' pc' → LtC c0 r0 P TS c' r' pc' a nh p mh E τ → T c' r' a p E
/-- how many levels a templ of rank rr may still have, told templates' among them -/
def LV (rr : Nat) : Nat := 2 * ((360 - rr) / 20) + 62
theorem LV_20 {rr : Nat} (h : rr + 20 ≤ 360) : LV rr = LV (rr + 20) + 2 := by unfold LV; omega
theorem LV_62 {rr : Nat} : 62 ≤ LV rr := by unfold LV; omega
theorem mu_20 {rr : Nat} (h : rr + 20 ≤ 360) : mu (rr + 20) + 6 ≤ mu rr := by unfold mu; omega
/-- a told template is ready to be named -/
def TOK (c0 r0 : t_S) (P : Nat → Int64) (TS : Nat → Nat → Nat → Prop) (wt : Nat → Nat) (NT NS : Nat → Prop) (hb sb gT u : Nat) : Prop := ∃ w t' n' : Nat, (c0.1 (364 + u) 5 = nI w ∧ w ≤ 7 ∧ (w ≠ 0 → ∃ pp, TS u 13000 pp)) ∧ (∀ g, gT ≤ g → TPr c0 r0 P TS wt NT hb sb g u w) ∧ (c0.1 (364 + u) 0 = nI t' ∧ r0.1 968 u = nI n') ∧ ∀ c' r' pc a nh p mh E τ, LtC c0 r0 P TS c' r' pc a nh p mh E τ → r'.1 1030 u = r'.1 950 133 → TM c' r' 338 a p E NS 61 t' n'
/-- what a templ that names something names -/
def TNK (c0 r0 : t_S) (P : Nat → Int64) (TS : Nat → Nat → Nat → Prop) (wt : Nat → Nat) (NT NS : Nat → Prop) (hb sb gT t n : Nat) : Prop := (c0.1 354 t = 6 ∧ ∃ (X : Nat) (y : Int32), X < 7934 ∧ c0.1 357 t = nI (66 + X) ∧ r0.2.1 957 n = lN X ∧ (∀ r, l2_fr eZr r0 r → fU r n = some y) ∧ y < 0) ∨ (c0.1 354 t = 7 ∧ ∃ u : Nat, u < 60 ∧ c0.1 357 t = nI u ∧ (∀ r, l2_fr eZr r0 r → fU r n = some (nI u)) ∧ TOK c0 r0 P TS wt NT NS hb sb gT u)
section
variable {c0 r0 : t_S} {P : Nat → Int64} {TS : Nat → Nat → Nat → Prop} {wt : Nat → Nat} {NT NS : Nat → Prop} {t0 t1 m0 m1 : Nat} {T T' : t_S → t_S → Nat → Nat → Nat → Prop}
theorem QX.qs : QS t0 t1 m0 m1 (QX c0 r0 P TS t0 t1 m0 m1 T) := fun _ _ _ _ _ _ _ _ _ q l _ _ _ _ _ _ l2 h => q _ _ _ _ _ _ (l.trans l2) h
theorem QX.sub {t0' t1' m0' m1' a nh p pc : Nat} {c r : t_S} (h : QX c0 r0 P TS t0' t1' m0' m1' T c r a nh p pc) (h1 : t0 ≤ t0') (h2 : t1' ≤ t1) (h3 : m0 ≤ m0') (h4 : m1' ≤ m1) : QX c0 r0 P TS t0 t1 m0 m1 T c r a nh p pc := fun c' r' pc' mh E τ l q => h c' r' pc' mh E τ (l.sub h1 h2 h3 h4) q
theorem QX.imp {a nh p pc : Nat} {c r : t_S} (h : QX c0 r0 P TS t0 t1 m0 m1 T c r a nh p pc) (w : ∀ c' r' pc' mh E τ, LtC c0 r0 P TS c' r' pc' a nh p mh E τ → T c' r' a p E → T' c' r' a p E) : QX c0 r0 P TS t0 t1 m0 m1 T' c r a nh p pc := fun c' r' pc' mh E τ l q => w c' r' pc' mh E τ q (h c' r' pc' mh E τ l q)
theorem TM.upTo {c r : t_S} {a i p E t n : Nat} {f f' : Nat} (h : TM c r a i p E NS f t n) (le : f ≤ f') : TM c r a i p E NS f' t n := by
  induction f' with
  | zero =>
    obtain rfl : f = 0 := by omega
    exact h
  | succ f' ih =>
    by_cases e : f = f' + 1
    · rw [← e]; exact h
    · exact TM.up _ _ _ (ih (by omega))
/-- the reference's parts all lie where they are looked for -/
theorem LtC.pr {c' r' : t_S} {pc a nh p mh E τ : Nat} (h : LtC c0 r0 P TS c' r' pc a nh p mh E τ) : ∀ x, x ≤ E → wq (r'.2.1 1006) p x < p + 250 := fun x hx => by
  have A := h.2.2.2.2.1
  have := A.qe x hx
  have := A.m2
  omega
end
