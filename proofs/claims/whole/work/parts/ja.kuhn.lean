/-! Level 2: pairs: each of some parts has an element to itself, by search for another place (no programs yet). N i e: part i can have element e; w: who has an element; U: elements looked at. -/
/-- what is changed at one place -/
def ku (w : Nat → Option Nat) (e i : Nat) : Nat → Option Nat := fun x => if x = e then some i else w x
theorem ku_at {w : Nat → Option Nat} {e i : Nat} : ku w e i e = some i := if_pos rfl
theorem ku_ne {w : Nat → Option Nat} {e i x : Nat} (h : x ≠ e) : ku w e i x = w x := if_neg h
theorem ku_nu {w : Nat → Option Nat} {e i x : Nat} {U : Nat → Prop} (h : ¬ U e) (g : U x) : ku w e i x = w x := ku_ne (fun y => h (y ▸ g))
theorem no_ns {l : Nat} (h : (none : Option Nat) = some l) {P : Prop} : P := by cases h
theorem no_sn {l : Nat} (h : some l = (none : Option Nat)) {P : Prop} : P := by cases h
/-- a search that finds a place for i -/
inductive KS (N : Nat → Nat → Prop) (w : Nat → Option Nat) : (Nat → Prop) → Nat → (Nat → Option Nat) → Prop
  | free {U : Nat → Prop} {i e : Nat} : ¬ U e → N i e → w e = none → KS N w U i (ku w e i)
  | push {U : Nat → Prop} {i e l : Nat} {w1 : Nat → Option Nat} : ¬ U e → N i e → w e = some l → KS N w (fun x => U x ∨ x = e) l w1 → KS N w U i (ku w1 e i)
  | weak {U U' : Nat → Prop} {i : Nat} {w' : Nat → Option Nat} : (∀ e, U e → U' e) → KS N w U' i w' → KS N w U i w'
/-- a search that finds none: all that it looked at is full, and leads to nothing else -/
def KF (N : Nat → Nat → Prop) (w : Nat → Option Nat) (U : Nat → Prop) (i : Nat) (U' : Nat → Prop) : Prop := (∀ e, U e → U' e) ∧ (∀ e, N i e → U' e) ∧ ∀ e, U' e → ¬ U e → ∃ l, w e = some l ∧ ∀ e2, N l e2 → U' e2
/-- elements that lead to nothing else -/
def KV (N : Nat → Nat → Prop) (w : Nat → Option Nat) (V : Nat → Prop) : Prop := ∀ e, V e → ∃ l, w e = some l ∧ ∀ e2, N l e2 → V e2
section
variable {N : Nat → Nat → Prop} {w w' : Nat → Option Nat} {U : Nat → Prop} {i : Nat}
theorem KS.same (h : KS N w U i w') : ∀ e, U e → w' e = w e := by
  induction h with
  | free h1 h2 h3 => exact fun e he => ku_ne (fun y => h1 (y ▸ he))
  | push h1 h2 h3 h4 ih => exact fun e he => by rw [ku_nu h1 he]; exact ih e (Or.inl he)
  | weak h1 h2 ih => exact fun e he => ih e (h1 e he)
theorem KS.out (h : KS N w U i w') {V : Nat → Prop} (hV : KV N w V) : (∃ e, N i e ∧ ¬ V e) ∧ ∀ e, V e → w' e = w e := by
  induction h with
  | free h1 h2 h3 =>
    have ne : ¬ V _ := fun y => by obtain ⟨l, h, _⟩ := hV _ y; rw [h3] at h; exact no_ns h
    exact ⟨⟨_, h2, ne⟩, fun e he => ku_ne (fun y => ne (y ▸ he))⟩
  | push h1 h2 h3 h4 ih =>
    obtain ⟨⟨e2, g1, g2⟩, g3⟩ := ih
    have ne : ¬ V _ := fun y => by
      obtain ⟨l, h, k⟩ := hV _ y
      rw [h3] at h
      cases h
      exact g2 (k _ g1)
    exact ⟨⟨_, h2, ne⟩, fun e he => by rw [ku_nu ne he]; exact g3 e he⟩
  | weak h1 h2 ih => exact ih
/-- one element more is had -/
theorem KS.one (h : KS N w U i w') : ∃ e0, ¬ U e0 ∧ w e0 = none ∧ (∃ l, w' e0 = some l) ∧ ∀ e, e ≠ e0 → (w' e = none ↔ w e = none) := by
  induction h with
  | free h1 h2 h3 => exact ⟨_, h1, h3, ⟨_, ku_at⟩, fun e he => by rw [ku_ne he]⟩
  | @push _ _ e1 _ _ h1 h2 h3 h4 ih =>
    obtain ⟨e0, g1, g2, ⟨l, g3⟩, g4⟩ := ih
    refine ⟨e0, fun y => g1 (Or.inl y), g2, ⟨l, by rw [ku_ne (fun y => g1 (Or.inr y))]; exact g3⟩, fun e he => ?_⟩
    by_cases c : e = e1
    · subst c
      rw [ku_at, h3]
      exact ⟨fun y => no_sn y, fun y => no_sn y⟩
    · rw [ku_ne c]
      exact g4 e he
  | weak h1 h2 ih =>
    obtain ⟨e0, g1, g2⟩ := ih
    exact ⟨e0, fun y => g1 (h1 _ y), g2⟩
theorem KS.edge (h : KS N w U i w') : ∀ e, w' e = w e ∨ ∃ l, w' e = some l ∧ N l e := by
  induction h with
  | @free _ _ e1 h1 h2 h3 =>
    intro e
    by_cases c : e = e1
    · subst c; exact Or.inr ⟨_, ku_at, h2⟩
    · exact Or.inl (ku_ne c)
  | @push _ _ e1 _ _ h1 h2 h3 h4 ih =>
    intro e
    by_cases c : e = e1
    · subst c; exact Or.inr ⟨_, ku_at, h2⟩
    · rw [ku_ne c]; exact ih e
  | weak h1 h2 ih => exact ih
/-- who has an element, each but one, i too now -/
def KJ (w : Nat → Option Nat) (U : Nat → Prop) (i : Nat) : Prop := (∀ e e' l, ¬ U e → ¬ U e' → w e = some l → w e' = some l → e = e') ∧ ∀ e, ¬ U e → w e ≠ some i
def KP (w w' : Nat → Option Nat) (U : Nat → Prop) (i : Nat) : Prop := (∀ e e' l, ¬ U e → ¬ U e' → w' e = some l → w' e' = some l → e = e') ∧ ∀ l, (∃ e, ¬ U e ∧ w' e = some l) ↔ (l = i ∨ ∃ e, ¬ U e ∧ w e = some l)
theorem KS.post (h : KS N w U i w') : KJ w U i → KP w w' U i := by
  induction h with
  | @free U i e h1 h2 h3 =>
    intro ⟨j1, j2⟩
    refine ⟨fun a b l ha hb q1 q2 => ?_, fun l => ⟨fun ⟨x, hx, q⟩ => ?_, fun q => ?_⟩⟩
    · by_cases ca : a = e
      · by_cases cb : b = e
        · rw [ca, cb]
        · rw [ca, ku_at] at q1
          rw [ku_ne cb] at q2
          cases q1
          exact absurd q2 (j2 b hb)
      · rw [ku_ne ca] at q1
        by_cases cb : b = e
        · rw [cb, ku_at] at q2
          cases q2
          exact absurd q1 (j2 a ha)
        · rw [ku_ne cb] at q2
          exact j1 a b l ha hb q1 q2
    · by_cases c : x = e
      · rw [c, ku_at] at q
        cases q
        exact Or.inl rfl
      · rw [ku_ne c] at q
        exact Or.inr ⟨x, hx, q⟩
    · rcases q with rfl | ⟨x, hx, q⟩
      · exact ⟨e, h1, ku_at⟩
      · exact ⟨x, hx, by rw [ku_ne (fun y => by rw [y, h3] at q; exact no_ns q)]; exact q⟩
  | @push U i e l w1 h1 h2 h3 h4 ih =>
    intro ⟨j1, j2⟩
    obtain ⟨p1, p2⟩ := ih ⟨fun a b l ha hb q1 q2 => j1 a b l (fun y => ha (Or.inl y)) (fun y => hb (Or.inl y)) q1 q2, fun x hx q => hx (Or.inr (j1 x e l (fun y => hx (Or.inl y)) h1 q h3))⟩
    have noi : ∀ x, ¬ U x → x ≠ e → w1 x ≠ some i := fun x hx ne q => by
      rcases (p2 i).mp ⟨x, fun y => y.elim hx ne, q⟩ with y | ⟨z, hz, q⟩
      · exact j2 e h1 (y ▸ h3)
      · exact j2 z (fun y => hz (Or.inl y)) q
    refine ⟨fun a b l' ha hb q1 q2 => ?_, fun l' => ⟨fun ⟨x, hx, q⟩ => ?_, fun q => ?_⟩⟩
    · by_cases ca : a = e
      · by_cases cb : b = e
        · rw [ca, cb]
        · rw [ca, ku_at] at q1
          rw [ku_ne cb] at q2
          cases q1
          exact absurd q2 (noi b hb cb)
      · rw [ku_ne ca] at q1
        by_cases cb : b = e
        · rw [cb, ku_at] at q2
          cases q2
          exact absurd q1 (noi a ha ca)
        · rw [ku_ne cb] at q2
          exact p1 a b l' (fun y => y.elim ha ca) (fun y => y.elim hb cb) q1 q2
    · by_cases c : x = e
      · rw [c, ku_at] at q
        cases q
        exact Or.inl rfl
      · rw [ku_ne c] at q
        rcases (p2 l').mp ⟨x, fun y => y.elim hx c, q⟩ with rfl | ⟨z, hz, q⟩
        · exact Or.inr ⟨e, h1, h3⟩
        · exact Or.inr ⟨z, fun y => hz (Or.inl y), q⟩
    · rcases q with rfl | ⟨x, hx, q⟩
      · exact ⟨e, h1, ku_at⟩
      · by_cases c : x = e
        · rw [c, h3] at q
          cases q
          obtain ⟨z, hz, q⟩ := (p2 l).mpr (Or.inl rfl)
          exact ⟨z, fun y => hz (Or.inl y), by rw [ku_ne (fun y => hz (Or.inr y))]; exact q⟩
        · obtain ⟨z, hz, q⟩ := (p2 l').mpr (Or.inr ⟨x, fun y => y.elim hx c, q⟩)
          exact ⟨z, fun y => hz (Or.inl y), by rw [ku_ne (fun y => hz (Or.inr y))]; exact q⟩
  | @weak U U' i w' h1 h2 ih =>
    intro ⟨j1, j2⟩
    have sm := h2.same
    obtain ⟨p1, p2⟩ := ih ⟨fun a b l ha hb => j1 a b l (fun y => ha (h1 _ y)) (fun y => hb (h1 _ y)), fun x hx => j2 x (fun y => hx (h1 _ y))⟩
    have cross : ∀ a b l, ¬ U a → ¬ U b → U' a → ¬ U' b → w' a = some l → w' b = some l → a = b := fun a b l ha hb ua ub q1 q2 => by
      rw [sm a ua] at q1
      rcases (p2 l).mp ⟨b, ub, q2⟩ with y | ⟨z, hz, q⟩
      · exact absurd (y ▸ q1) (j2 a ha)
      · have := j1 a z l ha (fun y => hz (h1 _ y)) q1 q
        exact absurd ua (this ▸ hz)
    refine ⟨fun a b l ha hb q1 q2 => ?_, fun l => ⟨fun ⟨x, hx, q⟩ => ?_, fun q => ?_⟩⟩
    · by_cases ca : U' a
      · by_cases cb : U' b
        · rw [sm a ca] at q1
          rw [sm b cb] at q2
          exact j1 a b l ha hb q1 q2
        · exact cross a b l ha hb ca cb q1 q2
      · by_cases cb : U' b
        · exact (cross b a l hb ha cb ca q2 q1).symm
        · exact p1 a b l ca cb q1 q2
    · by_cases c : U' x
      · rw [sm x c] at q
        exact Or.inr ⟨x, hx, q⟩
      · rcases (p2 l).mp ⟨x, c, q⟩ with y | ⟨z, hz, q⟩
        · exact Or.inl y
        · exact Or.inr ⟨z, fun y => hz (h1 _ y), q⟩
    · rcases q with rfl | ⟨x, hx, q⟩
      · obtain ⟨z, hz, q⟩ := (p2 l).mpr (Or.inl rfl)
        exact ⟨z, fun y => hz (h1 _ y), q⟩
      · by_cases c : U' x
        · exact ⟨x, hx, by rw [sm x c]; exact q⟩
        · obtain ⟨z, hz, q⟩ := (p2 l).mpr (Or.inr ⟨x, c, q⟩)
          exact ⟨z, fun y => hz (h1 _ y), q⟩
end
/-- the parts before i have been searched for: F found none -/
structure KI (N : Nat → Nat → Prop) (w : Nat → Option Nat) (i : Nat) (F V : Nat → Prop) : Prop where
  inj : ∀ e e' l, w e = some l → w e' = some l → e = e'
  ed : ∀ e l, w e = some l → N l e ∧ l < i ∧ ¬ F l
  al : ∀ l, l < i → ¬ F l → ∃ e, w e = some l
  cl : KV N w V
  fl : ∀ l, F l → l < i ∧ ∀ e, N l e → V e
section
variable {N : Nat → Nat → Prop} {w w' : Nat → Option Nat} {F V : Nat → Prop} {i : Nat}
theorem KI.nil : KI N (fun _ => none) 0 (fun _ => False) (fun _ => False) := ⟨fun _ _ _ h => no_ns h, fun _ _ h => no_ns h, fun _ h => absurd h (Nat.not_lt_zero _), fun _ h => h.elim, fun _ h => h.elim⟩
theorem KI.yes (h : KI N w i F V) (s : KS N w (fun _ => False) i w') : KI N w' (i + 1) F V := by
  obtain ⟨p1, p2⟩ := s.post ⟨fun e e' l _ _ => h.inj e e' l, fun e _ q => by have := (h.ed e i q).2.1; omega⟩
  obtain ⟨o1, o2⟩ := s.out h.cl
  have nf : ¬ F i := fun y => by have := (h.fl i y).1; omega
  refine ⟨fun e e' l => p1 e e' l (fun y => y) (fun y => y), fun e l q => ?_, fun l hl nl => ?_, fun e he => ?_, fun l hl => ⟨by have := (h.fl l hl).1; omega, (h.fl l hl).2⟩⟩
  · have le : l < i + 1 ∧ ¬ F l := by
      rcases (p2 l).mp ⟨e, fun y => y, q⟩ with rfl | ⟨z, _, hz⟩
      · exact ⟨by omega, nf⟩
      · have := h.ed z l hz
        exact ⟨by omega, this.2.2⟩
    rcases s.edge e with y | ⟨l', y, y2⟩
    · rw [y] at q
      exact ⟨(h.ed e l q).1, le⟩
    · rw [q] at y
      cases y
      exact ⟨y2, le⟩
  · by_cases c : l = i
    · obtain ⟨e, _, q⟩ := (p2 l).mpr (Or.inl c)
      exact ⟨e, q⟩
    · obtain ⟨e, q⟩ := h.al l (by omega) nl
      obtain ⟨e, _, q⟩ := (p2 l).mpr (Or.inr ⟨e, fun y => y, q⟩)
      exact ⟨e, q⟩
  · rw [o2 e he]
    exact h.cl e he
theorem KI.no {U : Nat → Prop} (h : KI N w i F V) (s : KF N w (fun _ => False) i U) : KI N w (i + 1) (fun l => F l ∨ l = i) (fun e => V e ∨ U e) := by
  refine ⟨h.inj, fun e l q => ?_, fun l hl nl => ?_, fun e he => ?_, fun l hl => ?_⟩
  · have := h.ed e l q
    exact ⟨this.1, by omega, fun y => y.elim this.2.2 (by omega)⟩
  · exact h.al l (by have : l ≠ i := fun y => nl (Or.inr y); omega) (fun y => nl (Or.inl y))
  · rcases he with he | he
    · obtain ⟨l, q1, q2⟩ := h.cl e he
      exact ⟨l, q1, fun e2 he2 => Or.inl (q2 e2 he2)⟩
    · obtain ⟨l, q1, q2⟩ := s.2.2 e he (fun y => y)
      exact ⟨l, q1, fun e2 he2 => Or.inr (q2 e2 he2)⟩
  · rcases hl with hl | rfl
    · exact ⟨by have := (h.fl l hl).1; omega, fun e he => Or.inl ((h.fl l hl).2 e he)⟩
    · exact ⟨by omega, fun e he => Or.inr (s.2.1 e he)⟩
/-- a set below n goes into itself, nobody twice: all of it is met -/
theorem pg_on {A : Nat → Prop} {h : Nat → Nat} {n x : Nat} (hA : ∀ e, A e → e < n ∧ A (h e)) (hi : ∀ a b, A a → A b → h a = h b → a = b) (hx : A x) (hn : ∀ e, A e → h e ≠ x) : False := by
  have it : ∀ k, A (Nat.repeat h k x) := fun k => by
    induction k with
    | zero => exact hx
    | succ k ih => exact (hA _ ih).2
  obtain ⟨a, b, h1, h2, h3⟩ := pg_h n (fun k => Nat.repeat h k x) (fun k _ => (hA _ (it k)).1)
  have dn : ∀ a d, Nat.repeat h (a + 1 + d) x ≠ Nat.repeat h a x := fun a => by
    induction a with
    | zero =>
      intro d y
      rw [show 0 + 1 + d = d + 1 by omega] at y
      exact hn _ (it d) y
    | succ a ih =>
      intro d y
      rw [show a + 1 + 1 + d = (a + 1 + d) + 1 by omega] at y
      exact ih d (hi _ _ (it _) (it _) y)
  exact dn a (b - (a + 1)) (by rw [show a + 1 + (b - (a + 1)) = b by omega]; exact h3.symm)
/-- each of m parts has an element to itself -/
def kp_L (N : Nat → Nat → Prop) (m : Nat) : Prop := ∃ g : Nat → Nat, (∀ l, l < m → N l (g l)) ∧ ∀ a b, a < m → b < m → g a = g b → a = b
theorem KI.all (h : KI N w i F V) (hF : ∀ l, ¬ F l) : kp_L N i := by
  have : ∀ l, ∃ e, l < i → w e = some l := fun l => by
    by_cases c : l < i
    · obtain ⟨e, he⟩ := h.al l c (hF l)
      exact ⟨e, fun _ => he⟩
    · exact ⟨0, fun y => absurd y c⟩
  refine ⟨fun l => Classical.choose (this l), fun l hl => (h.ed _ _ (Classical.choose_spec (this l) hl)).1, fun a b ha hb e => ?_⟩
  have q1 := Classical.choose_spec (this a) ha
  have q2 := Classical.choose_spec (this b) hb
  have e : Classical.choose (this a) = Classical.choose (this b) := e
  rw [e, q2] at q1
  cases q1
  rfl
theorem KI.nix {R l m : Nat} (h : KI N w i F V) (hR : ∀ l e, N l e → e < R) (hl : F l) (hm : i ≤ m) : ¬ kp_L N m := fun ⟨g, g1, g2⟩ => by
  have lt := (h.fl l hl).1
  have hV : ∀ e, V e → e < R ∧ ∃ k, w e = some k ∧ k < m ∧ ∀ e2, N k e2 → V e2 := fun e he => by
    obtain ⟨k, q1, q2⟩ := h.cl e he
    have := h.ed e k q1
    exact ⟨hR k e this.1, k, q1, by omega, q2⟩
  have ow : ∀ e, V e → ∃ k, w e = some k ∧ (w e).getD 0 = k ∧ k < m ∧ ∀ e2, N k e2 → V e2 := fun e he => by
    obtain ⟨_, k, q1, q2, q3⟩ := hV e he
    exact ⟨k, q1, by rw [q1]; rfl, q2, q3⟩
  refine pg_on (A := V) (h := fun e => g ((w e).getD 0)) (n := R) (x := g l) (fun e he => ⟨(hV e he).1, ?_⟩) (fun a b ha hb e => ?_) ((h.fl l hl).2 _ (g1 l (by omega))) (fun e he y => ?_)
  · obtain ⟨k, _, q2, q3, q4⟩ := ow e he
    show V (g ((w e).getD 0))
    rw [q2]
    exact q4 _ (g1 k q3)
  · obtain ⟨k, q1, q2, q3, _⟩ := ow a ha
    obtain ⟨k', q1', q2', q3', _⟩ := ow b hb
    have e : g ((w a).getD 0) = g ((w b).getD 0) := e
    rw [q2, q2'] at e
    have := g2 k k' q3 q3' e
    subst this
    exact h.inj a b k q1 q1'
  · obtain ⟨k, q1, q2, q3, _⟩ := ow e he
    have y : g ((w e).getD 0) = g l := y
    rw [q2] at y
    have := g2 k l q3 (by omega) y
    subst this
    exact (h.ed e k q1).2.2 hl
/-- each of n elements has a part to itself, just when all of them are had -/
theorem KI.elems {n : Nat} (h : KI N w i F V) (hR : ∀ l e, N l e → e < n) : kp_L (fun e l => l < i ∧ N l e) n ↔ ∀ e, e < n → ∃ l, w e = some l := by
  constructor
  · intro ⟨g, g1, g2⟩ x hx
    refine Classical.byContradiction (fun un => ?_)
    have hu : w x = Option.none := by
      cases q : w x with
      | none => rfl
      | some l => exact absurd ⟨l, q⟩ un
    have st : ∀ e, e < n → ¬ V e → ∃ e', w e' = some (g e) ∧ e' < n ∧ ¬ V e' := fun e he hv => by
      obtain ⟨a1, a2⟩ := g1 e he
      have nf : ¬ F (g e) := fun y => hv ((h.fl _ y).2 e a2)
      obtain ⟨e', q⟩ := h.al _ a1 nf
      refine ⟨e', q, hR _ _ (h.ed _ _ q).1, fun y => hv ?_⟩
      obtain ⟨k, q1, q2⟩ := h.cl e' y
      rw [q] at q1
      cases q1
      exact q2 e a2
    have st' : ∀ e, ∃ e', e < n → ¬ V e → w e' = some (g e) ∧ e' < n ∧ ¬ V e' := fun e => by
      by_cases c : e < n ∧ ¬ V e
      · obtain ⟨e', q⟩ := st e c.1 c.2
        exact ⟨e', fun _ _ => q⟩
      · exact ⟨0, fun y z => absurd ⟨y, z⟩ c⟩
    refine pg_on (A := fun e => e < n ∧ ¬ V e) (h := fun e => Classical.choose (st' e)) (n := n) (x := x) (fun e he => ⟨he.1, (Classical.choose_spec (st' e) he.1 he.2).2⟩) (fun a b ha hb e => ?_) ⟨hx, fun y => ?_⟩ (fun e he y => ?_)
    · have q1 := (Classical.choose_spec (st' a) ha.1 ha.2).1
      have q2 := (Classical.choose_spec (st' b) hb.1 hb.2).1
      have e : Classical.choose (st' a) = Classical.choose (st' b) := e
      rw [e, q2] at q1
      injection q1 with q1
      exact (g2 b a hb.1 ha.1 q1).symm
    · obtain ⟨k, q1, _⟩ := h.cl x y
      exact un ⟨k, q1⟩
    · have q := (Classical.choose_spec (st' e) he.1 he.2).1
      have y : Classical.choose (st' e) = x := y
      rw [y, hu] at q
      exact no_ns q
  · intro al
    have : ∀ e, ∃ l, e < n → w e = some l := fun e => by
      by_cases c : e < n
      · obtain ⟨l, q⟩ := al e c
        exact ⟨l, fun _ => q⟩
      · exact ⟨0, fun y => absurd y c⟩
    refine ⟨fun e => Classical.choose (this e), fun e he => ?_, fun a b ha hb e => ?_⟩
    · have q := h.ed _ _ (Classical.choose_spec (this e) he)
      exact ⟨q.2.1, q.1⟩
    · have q1 := Classical.choose_spec (this a) ha
      have q2 := Classical.choose_spec (this b) hb
      have e : Classical.choose (this a) = Classical.choose (this b) := e
      rw [e] at q1
      exact h.inj a b _ q1 q2
end
