/-! Level 2: rules for two functions that go on side by side, the class's and the reference's. -/
def t_h2 {T U : Type} (a : Option T) (b : Option U) (Q : T → U → Prop) : Prop := ∃ x y, a = some x ∧ b = some y ∧ Q x y
theorem h2_of {T U : Type} {a : Option T} {b : Option U} {x : T} {y : U} {Q : T → U → Prop} (e : a = some x) (e2 : b = some y) (q : Q x y) : t_h2 a b Q := ⟨x, y, e, e2, q⟩
theorem h2_to {T U : Type} {a : Option T} {b : Option U} {Q : T → U → Prop} (h : t_h2 a b Q) : t_hk a (fun x => t_hk b (fun y => Q x y)) := by
  obtain ⟨x, y, e, e2, q⟩ := h
  exact ⟨x, e, y, e2, q⟩
theorem h2_L {T U : Type} {a : Option T} {b : Option U} {Q : T → U → Prop} (h : t_hk a (fun x => t_hk b (fun y => Q x y))) : t_h2 a b Q := by
  obtain ⟨x, e, y, e2, q⟩ := h
  exact ⟨x, y, e, e2, q⟩
theorem h2_imp {T U : Type} {a : Option T} {b : Option U} {P Q : T → U → Prop} (h : t_h2 a b P) (i : ∀ x y, P x y → Q x y) : t_h2 a b Q := by
  obtain ⟨x, y, e, e2, q⟩ := h
  exact ⟨x, y, e, e2, i x y q⟩
theorem h2_sm {T U : Type} {x : T} {y : U} {Q : T → U → Prop} (q : Q x y) : t_h2 (some x) (some y) Q := ⟨x, y, rfl, rfl, q⟩
theorem h2_doneL {T U : Type} {x : T} {b : Option U} {Q : T → U → Prop} (h : t_hk b (fun y => Q x y)) : t_h2 (some x) b Q := by
  obtain ⟨y, e, q⟩ := h
  exact ⟨x, y, rfl, e, q⟩
theorem h2_doneR {T U : Type} {a : Option T} {y : U} {Q : T → U → Prop} (h : t_hk a (fun x => Q x y)) : t_h2 a (some y) Q := by
  obtain ⟨x, e, q⟩ := h
  exact ⟨x, y, e, rfl, q⟩
theorem h2_bb {T U V W : Type} {a : Option T} {b : Option U} {f : T → Option V} {g : U → Option W} (P : T → U → Prop) {Q : V → W → Prop} (h : t_h2 a b P) (i : ∀ x y, P x y → t_h2 (f x) (g y) Q) : t_h2 (a.bind f) (b.bind g) Q := by
  obtain ⟨x, y, e, e2, q⟩ := h
  rw [e, e2]
  exact i x y q
theorem h2_bL {T U V : Type} {a : Option T} {b : Option U} {f : T → Option V} (P : T → Prop) {Q : V → U → Prop} (h : t_hk a P) (i : ∀ x, P x → t_h2 (f x) b Q) : t_h2 (a.bind f) b Q := by
  obtain ⟨x, e, q⟩ := h
  rw [e]
  exact i x q
theorem h2_bR {T U W : Type} {a : Option T} {b : Option U} {g : U → Option W} (P : U → Prop) {Q : T → W → Prop} (h : t_hk b P) (i : ∀ y, P y → t_h2 a (g y) Q) : t_h2 a (b.bind g) Q := by
  obtain ⟨y, e, q⟩ := h
  rw [e]
  exact i y q
theorem h2_eL {T U V : Type} {a : Option T} {x : T} {b : Option U} {f : T → Option V} {Q : V → U → Prop} (h : a = some x) (i : t_h2 (f x) b Q) : t_h2 (a.bind f) b Q := by
  rw [h]
  exact i
theorem h2_eR {T U W : Type} {a : Option T} {b : Option U} {y : U} {g : U → Option W} {Q : T → W → Prop} (h : b = some y) (i : t_h2 a (g y) Q) : t_h2 a (b.bind g) Q := by
  rw [h]
  exact i
theorem h2_lL {A T U : Type} {x : A} {f : A → Option T} {b : Option U} {Q : T → U → Prop} (h : t_h2 (f x) b Q) : t_h2 (t_let x f) b Q := h
theorem h2_lR {A T U : Type} {x : A} {a : Option T} {f : A → Option U} {Q : T → U → Prop} (h : t_h2 a (f x) Q) : t_h2 a (t_let x f) Q := h
theorem h2_ifL {T U : Type} {c : Prop} [Decidable c] {A B : Option T} {b : Option U} {Q : T → U → Prop} (h1 : c → t_h2 A b Q) (h2 : ¬ c → t_h2 B b Q) : t_h2 (if c then A else B) b Q := by
  by_cases z : c
  · rw [if_pos z]; exact h1 z
  · rw [if_neg z]; exact h2 z
theorem h2_ifR {T U : Type} {c : Prop} [Decidable c] {A B : Option U} {a : Option T} {Q : T → U → Prop} (h1 : c → t_h2 a A Q) (h2 : ¬ c → t_h2 a B Q) : t_h2 a (if c then A else B) Q := by
  by_cases z : c
  · rw [if_pos z]; exact h1 z
  · rw [if_neg z]; exact h2 z
theorem h2_ckL {T U : Type} {c : Prop} [Decidable c] {A B : Option T} {b : Option U} {Q : T → U → Prop} (z : c) (h : t_h2 A b Q) : t_h2 (if c then A else B) b Q := by rw [if_pos z]; exact h
theorem h2_ckR {T U : Type} {c : Prop} [Decidable c] {A B : Option U} {a : Option T} {Q : T → U → Prop} (z : c) (h : t_h2 a A Q) : t_h2 a (if c then A else B) Q := by rw [if_pos z]; exact h
theorem h2_noL {T U : Type} {c : Prop} [Decidable c] {A B : Option T} {b : Option U} {Q : T → U → Prop} (z : ¬ c) (h : t_h2 B b Q) : t_h2 (if c then A else B) b Q := by rw [if_neg z]; exact h
theorem h2_noR {T U : Type} {c : Prop} [Decidable c] {A B : Option U} {a : Option T} {Q : T → U → Prop} (z : ¬ c) (h : t_h2 a B Q) : t_h2 a (if c then A else B) Q := by rw [if_neg z]; exact h
/-- both ask the same -/
theorem h2_two {T U : Type} {c d : Prop} [Decidable c] [Decidable d] {A B : Option T} {A' B' : Option U} {Q : T → U → Prop} (e : c ↔ d) (h1 : c → d → t_h2 A A' Q) (h2 : ¬ c → ¬ d → t_h2 B B' Q) : t_h2 (if c then A else B) (if d then A' else B') Q := by
  by_cases z : c
  · rw [if_pos z, if_pos (e.mp z)]; exact h1 z (e.mp z)
  · rw [if_neg z, if_neg (fun y => z (e.mpr y))]; exact h2 z (fun y => z (e.mpr y))
theorem h2_mp {T U V W : Type} {a : Option T} {b : Option U} {f : T → V} {g : U → W} {Q : V → W → Prop} (h : t_h2 a b (fun x y => Q (f x) (g y))) : t_h2 (a.map f) (b.map g) Q := by
  obtain ⟨x, y, e, e2, q⟩ := h
  rw [e, e2]
  exact ⟨_, _, rfl, rfl, q⟩
theorem h2_mL {T U V : Type} {a : Option T} {b : Option U} {f : T → V} {Q : V → U → Prop} (h : t_h2 a b (fun x y => Q (f x) y)) : t_h2 (a.map f) b Q := by
  obtain ⟨x, y, e, e2, q⟩ := h
  rw [e]
  exact ⟨_, _, rfl, e2, q⟩
theorem h2_mR {T U W : Type} {a : Option T} {b : Option U} {g : U → W} {Q : T → W → Prop} (h : t_h2 a b (fun x y => Q x (g y))) : t_h2 a (b.map g) Q := by
  obtain ⟨x, y, e, e2, q⟩ := h
  rw [e2]
  exact ⟨_, _, e, rfl, q⟩
/-- a loop left alone: with so many turns left it comes to its end -/
def h2_go {σ ρ : Type} (b : σ → Option (σ ⊕ ρ)) (x : σ) (Q : ρ → Prop) : Prop := ∀ N, 1000000 ≤ N → t_hk (t_loop b N x) Q
/-- what a turn of both must come to -/
def h2_nx {σ τ ρ υ : Type} (b1 : σ → Option (σ ⊕ ρ)) (b2 : τ → Option (τ ⊕ υ)) (I : σ → τ → Prop) (Q : ρ → υ → Prop) : σ ⊕ ρ → τ ⊕ υ → Prop
  | .inl x, .inl y => I x y
  | .inr r, .inr u => Q r u
  | .inr r, .inl y => h2_go b2 y (fun u => Q r u)
  | .inl x, .inr u => h2_go b1 x (fun r => Q r u)
theorem h2_lp {σ τ ρ υ : Type} {b1 : σ → Option (σ ⊕ ρ)} {b2 : τ → Option (τ ⊕ υ)} {Q : ρ → υ → Prop} (I : Nat → σ → τ → Prop) (hs : ∀ k x y, I k x y → t_h2 (b1 x) (b2 y) (h2_nx b1 b2 (fun x' y' => ∃ j, j < k ∧ I j x' y') Q)) : ∀ (k n m : Nat) (x : σ) (y : τ), k + 1000000 < n → k + 1000000 < m → I k x y → t_h2 (t_loop b1 n x) (t_loop b2 m y) Q := by
  intro k
  induction k using Nat.strongRecOn with
  | ind k ih =>
    intro n m x y hn hm h
    obtain ⟨p, q, e1, e2, g⟩ := hs k x y h
    obtain ⟨n, rfl⟩ : ∃ a, n = a + 1 := ⟨n - 1, by omega⟩
    obtain ⟨m, rfl⟩ : ∃ a, m = a + 1 := ⟨m - 1, by omega⟩
    cases p with
    | inl x' =>
      rw [l2_lpS e1]
      cases q with
      | inl y' =>
        rw [l2_lpS e2]
        obtain ⟨j, hj, hi⟩ := g
        exact ih j hj n m x' y' (by omega) (by omega) hi
      | inr u =>
        rw [l2_lpR e2]
        exact h2_doneR (g n (by omega))
    | inr r =>
      rw [l2_lpR e1]
      cases q with
      | inl y' =>
        rw [l2_lpS e2]
        exact h2_doneL (g m (by omega))
      | inr u =>
        rw [l2_lpR e2]
        exact h2_sm g
theorem h2_lpN {σ τ ρ υ : Type} {b1 : σ → Option (σ ⊕ ρ)} {b2 : τ → Option (τ ⊕ υ)} {Q : ρ → υ → Prop} (I : Nat → σ → τ → Prop) (hs : ∀ k x y, I k x y → t_h2 (b1 x) (b2 y) (h2_nx b1 b2 (fun x' y' => ∃ j, j < k ∧ I j x' y') Q)) {k : Nat} {x : σ} {y : τ} (hk : k ≤ 100000000) (h : I k x y) : t_h2 (t_loop b1 t_N x) (t_loop b2 t_N y) Q := by
  have e := l2_N
  exact h2_lp I hs k t_N t_N x y (by omega) (by omega) h
theorem h2_goI {σ ρ : Type} {b : σ → Option (σ ⊕ ρ)} {Q : ρ → Prop} (I : Nat → σ → Prop) (hs : ∀ k y, I k y → t_hk (b y) (l2_nx (fun z => ∃ j, j < k ∧ I j z) Q)) {m : Nat} {x : σ} (hm : m < 1000000) (h : I m x) : h2_go b x Q := fun _ hN => l2_lp I hs (Nat.lt_of_lt_of_le hm hN) h
