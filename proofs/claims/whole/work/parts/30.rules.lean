/-! Level 2: rules for the functions of Level 1. -/
theorem l2_val {T : Type} {o : Option T} {v : T} (h : t_hk o (fun r => r = v)) : o = some v := by
  obtain ⟨r, e, rfl⟩ := h
  exact e
theorem l2_of {T : Type} {o : Option T} {v : T} {Q : T → Prop} (h : o = some v) (q : Q v) : t_hk o Q := ⟨v, h, q⟩
theorem l2_imp {T : Type} {o : Option T} {P Q : T → Prop} (h : t_hk o P) (q : ∀ r, P r → Q r) : t_hk o Q := by
  obtain ⟨r, e, p⟩ := h
  exact ⟨r, e, q r p⟩
theorem l2_if {T : Type} {c : Prop} [Decidable c] {A B : Option T} {Q : T → Prop} (h1 : c → t_hk A Q) (h2 : ¬ c → t_hk B Q) : t_hk (if c then A else B) Q := by
  by_cases z : c
  · rw [if_pos z]; exact h1 z
  · rw [if_neg z]; exact h2 z
theorem l2_ck {T : Type} {c : Prop} [Decidable c] {A B : Option T} {Q : T → Prop} (h : c) (h1 : t_hk A Q) : t_hk (if c then A else B) Q := by rw [if_pos h]; exact h1
theorem l2_no {T : Type} {c : Prop} [Decidable c] {A B : Option T} {Q : T → Prop} (h : ¬ c) (h1 : t_hk B Q) : t_hk (if c then A else B) Q := by rw [if_neg h]; exact h1
theorem l2_bd {T U : Type} {o : Option U} {f : U → Option T} (P : U → Prop) {Q : T → Prop} (h : t_hk o P) (h2 : ∀ y, P y → t_hk (f y) Q) : t_hk (o.bind f) Q := by
  obtain ⟨y, e, hy⟩ := h
  rw [e]
  exact h2 y hy
theorem l2_eq {T U : Type} {o : Option U} {y : U} {f : U → Option T} {Q : T → Prop} (h : o = some y) (h2 : t_hk (f y) Q) : t_hk (o.bind f) Q := by
  rw [h]
  exact h2
theorem l2_mp {T U : Type} {o : Option U} {f : U → T} {Q : T → Prop} (h : t_hk o (fun r => Q (f r))) : t_hk (o.map f) Q := by
  obtain ⟨y, e, hy⟩ := h
  rw [e]
  exact ⟨_, rfl, hy⟩
theorem l2_sm {T : Type} {x : T} {Q : T → Prop} (h : Q x) : t_hk (some x) Q := ⟨x, rfl, h⟩
theorem l2_lt {A T : Type} {a : A} {f : A → Option T} {Q : T → Prop} (h : t_hk (f a) Q) : t_hk (t_let a f) Q := h
/-- what a turn must come to -/
def l2_nx {σ ρ : Type} (I : σ → Prop) (Q : ρ → Prop) : σ ⊕ ρ → Prop
  | .inl y => I y
  | .inr r => Q r
theorem l2_lp {σ ρ : Type} {b : σ → Option (σ ⊕ ρ)} {Q : ρ → Prop} (I : Nat → σ → Prop) (hs : ∀ k y, I k y → t_hk (b y) (l2_nx (fun z => ∃ j, j < k ∧ I j z) Q)) : ∀ {n m : Nat} {x : σ}, m < n → I m x → t_hk (t_loop b n x) Q := by
  intro n
  induction n with
  | zero => intro m x hm; omega
  | succ n ih =>
    intro m x hm h0
    obtain ⟨z, e, hz⟩ := hs m x h0
    show t_hk (t_loop b (n + 1) x) Q
    unfold t_loop
    rw [e]
    cases z with
    | inl y =>
      obtain ⟨j, hj, hi⟩ := hz
      exact ih (by omega) hi
    | inr r => exact ⟨r, rfl, hz⟩
/-- one turn of a loop -/
theorem l2_t1 {σ ρ : Type} {b : σ → Option (σ ⊕ ρ)} {n : Nat} {x : σ} {Q : ρ → Prop} (h : t_hk (b x) (l2_nx (fun z => t_hk (t_loop b n z) Q) Q)) : t_hk (t_loop b (n + 1) x) Q := by
  obtain ⟨z, e, hz⟩ := h
  unfold t_loop
  rw [e]
  cases z with
  | inl y => exact hz
  | inr r => exact ⟨r, rfl, hz⟩
theorem l2_N : 1000000000 < t_N := Nat.le_of_ble_eq_true rfl
theorem l2_ix {j n : Nat} (h : j < n) (hn : n < 2 ^ 31) : t_ix (nI j) n = true := by
  refine t_ixI.mpr ?_
  rw [nI_toInt (by omega)]
  omega
theorem l2_sI {s : t_S} {a k : Nat} {v : Int32} : (t_setI s a k v).1 a = va_up (s.1 a) k v := mj_up_eq s.1 a _
theorem l2_sO {s : t_S} {a k b : Nat} {v : Int32} (h : b ≠ a) : (t_setI s a k v).1 b = s.1 b := mj_up_ne s.1 _ h
theorem l2_sJ {s : t_S} {a k : Nat} {v : Int32} : (t_setI s a k v).2 = s.2 := rfl
theorem l2_upif {α : Type} (f : Nat → α) (k j : Nat) (v : α) : va_up f k v j = if j = k then v else f j := rfl
theorem fa_or (a b : Nat) : nI a ||| nI b = nI (a ||| b) := by
  apply Int32.toBitVec_inj.1
  show BitVec.ofNat 32 a ||| BitVec.ofNat 32 b = BitVec.ofNat 32 (a ||| b)
  apply BitVec.eq_of_getLsbD_eq
  intro i hi
  simp [hi]
theorem fa_or_sum {a k : Nat} (b : Nat) (h : a < 2 ^ k) : nI (2 ^ k * b) ||| nI a = nI (2 ^ k * b + a) := by rw [fa_or, Nat.two_pow_add_eq_or_of_lt h]
theorem s_l : ∀ n, n < 32 → ((nI n &&& 31).toBitVec.smod 32).toNat = n := by decide +kernel
theorem l2_shl1 {n : Nat} (h : n < 31) : (1 : Int32) <<< (nI n &&& 31) = nI (2 ^ n) := by
  have e := pk_shlN (n := 1) (nI n &&& 31) n (s_l n (by omega)) (by
    have : 2 ^ n < 2 ^ 32 := Nat.pow_lt_pow_right (by decide) (by omega)
    omega)
  rw [Nat.one_mul] at e
  exact e
theorem l2_bit {a n : Nat} (ha : a < 2 ^ 31) (h : n < 31) : (nI a >>> (nI n &&& 31)) &&& (1 : Int32) = nI (a / 2 ^ n % 2) := by
  rw [pk_shrN ha (nI n &&& 31) n (s_l n (by omega))]
  exact pk_andN (Nat.lt_of_le_of_lt (Nat.div_le_self _ _) (by omega)) 1 rfl
theorem l2_bs {T U : Type} {a : U} {f : U → Option T} : (some a).bind f = f a := rfl
theorem l2_lpS {σ ρ : Type} {b : σ → Option (σ ⊕ ρ)} {n : Nat} {x y : σ} (h : b x = some (.inl y)) : t_loop b (n + 1) x = t_loop b n y := by
  show (match b x with | none => none | some (.inl y) => t_loop b n y | some (.inr r) => some r) = _
  rw [h]
theorem l2_lpR {σ ρ : Type} {b : σ → Option (σ ⊕ ρ)} {n : Nat} {x : σ} {r : ρ} (h : b x = some (.inr r)) : t_loop b (n + 1) x = some r := by
  show (match b x with | none => none | some (.inl y) => t_loop b n y | some (.inr r) => some r) = _
  rw [h]
theorem l2_z {n : Nat} (h : n < 2 ^ 31) : nI n = (0 : Int32) ↔ n = 0 := nI_eq (b := 0) h (by decide)
