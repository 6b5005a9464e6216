/-! Methods as functions over the typed memory: what the walks by program (wip/whole/dc2.py) stand on. -/
def t_loop {σ ρ : Type} (b : σ → Option (σ ⊕ ρ)) : Nat → σ → Option ρ
  | 0, _ => none
  | n + 1, x => match b x with
    | none => none
    | some (.inl y) => t_loop b n y
    | some (.inr r) => some r
/-- more turns than any loop takes -/
def t_N : Nat := 1000000000000
def t_hk {T : Type} (o : Option T) (Q : T → Prop) : Prop := ∃ r, o = some r ∧ Q r
def t_ht {T : Type} (x : T) (Q : T → Prop) : Prop := Q x
theorem t_pos {T : Type} {c : Prop} [Decidable c] {A B : Option T} {Q : T → Prop} (h : t_hk (if c then A else B) Q) (z : c) : t_hk A Q := by rw [if_pos z] at h; exact h
theorem t_neg {T : Type} {c : Prop} [Decidable c] {A B : Option T} {Q : T → Prop} (h : t_hk (if c then A else B) Q) (z : ¬ c) : t_hk B Q := by rw [if_neg z] at h; exact h
theorem t_posT {T : Type} {c : Prop} [Decidable c] {A B : T} {Q : T → Prop} (h : t_ht (if c then A else B) Q) (z : c) : t_ht A Q := by rw [if_pos z] at h; exact h
theorem t_negT {T : Type} {c : Prop} [Decidable c] {A B : T} {Q : T → Prop} (h : t_ht (if c then A else B) Q) (z : ¬ c) : t_ht B Q := by rw [if_neg z] at h; exact h
theorem t_chk {T : Type} {c : Prop} [Decidable c] {A : Option T} {Q : T → Prop} (h : t_hk (if c then A else none) Q) : c ∧ t_hk A Q := by
  by_cases z : c
  · rw [if_pos z] at h; exact ⟨z, h⟩
  · rw [if_neg z] at h
    obtain ⟨r, hr, _⟩ := h
    cases hr
theorem t_bnd {T U : Type} {o : Option U} {f : U → Option T} {Q : T → Prop} (h : t_hk (o.bind f) Q) : ∃ y, o = some y ∧ t_hk (f y) Q := by
  obtain ⟨r, hr, hq⟩ := h
  cases o with
  | none => cases hr
  | some y => exact ⟨y, rfl, r, hr, hq⟩
def t_let {A B : Type} (a : A) (f : A → B) : B := f a
theorem t_letk {A T : Type} {a : A} {f : A → Option T} {Q : T → Prop} (h : t_hk (t_let a f) Q) : ∃ z, z = a ∧ t_hk (f z) Q := ⟨a, rfl, h⟩
theorem t_map {T U : Type} {o : Option U} {f : U → T} {Q : T → Prop} (h : t_hk (o.map f) Q) : t_hk o (fun r => Q (f r)) := by
  obtain ⟨r, hr, hq⟩ := h
  cases o with
  | none => cases hr
  | some y => cases hr; exact ⟨y, rfl, hq⟩
theorem t_som {T : Type} {x : T} {Q : T → Prop} (h : t_hk (some x) Q) : Q x := by
  obtain ⟨r, hr, hq⟩ := h
  cases hr
  exact hq
/-- what a turn of a loop must come to -/
def t_lq {σ ρ : Type} (b : σ → Option (σ ⊕ ρ)) (n : Nat) (Q : ρ → Prop) (y : σ ⊕ ρ) : Prop := match y with
  | .inl x => t_hk (t_loop b n x) Q
  | .inr r => Q r
theorem t_lp {σ ρ : Type} {b : σ → Option (σ ⊕ ρ)} {n : Nat} {x : σ} {Q : ρ → Prop} (h : t_hk (t_loop b (n + 1) x) Q) : t_hk (b x) (t_lq b n Q) := by
  unfold t_loop at h
  cases e : b x with
  | none => rw [e] at h; obtain ⟨r, hr, _⟩ := h; cases hr
  | some y =>
    rw [e] at h
    cases y with
    | inl z => exact ⟨_, rfl, h⟩
    | inr r =>
      have h2 : t_hk (some r) Q := h
      have h3 : Q r := t_som h2
      exact ⟨_, rfl, h3⟩
/-- whether an index is one of an array of this length -/
def t_ix (i : Int32) (n : Nat) : Bool := decide (0 ≤ i.toInt ∧ i.toInt < (n : Int))
theorem t_ixI {i : Int32} {n : Nat} : t_ix i n = true ↔ (0 ≤ i.toInt ∧ i.toInt < (n : Int)) := by unfold t_ix; exact decide_eq_true_iff
theorem t_ixn {i : Int32} {n : Nat} (h : t_ix i n = true) : i.toNatClampNeg < n := by
  have h := t_ixI.mp h
  show i.toInt.toNat < n
  omega
theorem t_ixv {i : Int32} {n : Nat} (h : t_ix i n = true) : vp_in i n := by
  have h1 := t_ixn h
  have h2 := (t_ixI.mp h).1
  intro q
  rcases q with q | q
  · have := Int32.lt_iff_toInt_lt.mp q
    have e : (0 : Int32).toInt = 0 := rfl
    omega
  · omega
def t_ln (a : Nat) : Nat := (t_sh a).2.1
theorem t_zfit {x : Int32} (h : x = 0 ∨ x = 1) : mj_fit .boolean (.int x) = true := by rcases h with rfl | rfl <;> rfl
/-- whether a cell is a Part -/
def t_isP (p : Nat) : Bool := p == 343 || (decide (866 ≤ p) && (decide (p < 946) && (p - 866) % 10 == 0))
theorem t_isPc {p : Nat} (h : t_isP p = true) : p = 343 ∨ p = 866 ∨ p = 876 ∨ p = 886 ∨ p = 896 ∨ p = 906 ∨ p = 916 ∨ p = 926 ∨ p = 936 := by
  simp only [t_isP, Bool.or_eq_true, Bool.and_eq_true, decide_eq_true_eq, beq_iff_eq] at h
  omega
theorem t_pc {p : Nat} (h : t_isP p = true) : t_okc p 4 = true := by rcases t_isPc h with rfl | rfl | rfl | rfl | rfl | rfl | rfl | rfl | rfl <;> decide +kernel
theorem t_r1 {k : Nat} (h1 : 16 ≤ k) (h2 : k < 316) : t_sh k = (1, 3, []) := by unfold t_sh; rw [if_neg (by omega), if_pos h2]
theorem t_r2 {k : Nat} (h1 : 364 ≤ k) (h2 : k < 424) : t_sh k = (1, 7, []) := by unfold t_sh; rw [if_neg (by omega), if_neg (by omega), if_neg (by omega), if_pos h2]
theorem t_r3 {k : Nat} (h1 : 445 ≤ k) (h2 : k < 845) : t_sh k = (1, 12, []) := by unfold t_sh; rw [if_neg (by omega), if_neg (by omega), if_neg (by omega), if_neg (by omega), if_neg (by omega), if_pos h2]
theorem t_r9 {k : Nat} (h1 : 848 ≤ k) (h2 : k < 854) : t_sh k = (1, 6002, []) := by
  have hk : k = 848 ∨ k = 849 ∨ k = 850 ∨ k = 851 ∨ k = 852 ∨ k = 853 := by omega
  rcases hk with rfl | rfl | rfl | rfl | rfl | rfl <;> rfl
theorem t_okaI {a ty len : Nat} (ha : a < 1065) (h : t_sh a = (ty, len, [])) : t_oka a ty len = true := by
  unfold t_oka
  rw [h]
  simp [ha]
theorem t_row16 {j : Nat} (h : j < 300) : t_oka (16 + 1 * j) 1 3 = true := t_okaI (by omega) (t_r1 (by omega) (by omega))
theorem t_row364 {j : Nat} (h : j < 60) : t_oka (364 + 1 * j) 1 7 = true := t_okaI (by omega) (t_r2 (by omega) (by omega))
theorem t_row445 {j : Nat} (h : j < 400) : t_oka (445 + 1 * j) 1 12 = true := t_okaI (by omega) (t_r3 (by omega) (by omega))
theorem t_row848 {j : Nat} (h : j < 6) : t_oka (848 + 1 * j) 1 6002 = true := t_okaI (by omega) (t_r9 (by omega) (by omega))
theorem t_pf0 {p : Nat} (h : t_isP p = true) : t_okf p 4 0 0 = true := by rcases t_isPc h with rfl | rfl | rfl | rfl | rfl | rfl | rfl | rfl | rfl <;> decide +kernel
theorem t_pf1 {p : Nat} (h : t_isP p = true) : t_okf p 4 1 0 = true := by rcases t_isPc h with rfl | rfl | rfl | rfl | rfl | rfl | rfl | rfl | rfl <;> decide +kernel
theorem t_pf2 {p : Nat} (h : t_isP p = true) : t_okf p 4 2 0 = true := by rcases t_isPc h with rfl | rfl | rfl | rfl | rfl | rfl | rfl | rfl | rfl <;> decide +kernel
theorem t_pf3 {p : Nat} (h : t_isP p = true) : t_okf p 4 3 0 = true := by rcases t_isPc h with rfl | rfl | rfl | rfl | rfl | rfl | rfl | rfl | rfl <;> decide +kernel
theorem t_pf4 {p : Nat} (h : t_isP p = true) : t_okf p 4 4 0 = true := by rcases t_isPc h with rfl | rfl | rfl | rfl | rfl | rfl | rfl | rfl | rfl <;> decide +kernel
theorem t_pf5 {p : Nat} (h : t_isP p = true) : t_okf p 4 5 0 = true := by rcases t_isPc h with rfl | rfl | rfl | rfl | rfl | rfl | rfl | rfl | rfl <;> decide +kernel
theorem t_pf6 {p : Nat} (h : t_isP p = true) : t_okf p 4 6 0 = true := by rcases t_isPc h with rfl | rfl | rfl | rfl | rfl | rfl | rfl | rfl | rfl <;> decide +kernel
theorem t_pf10 {p : Nat} (h : t_isP p = true) : t_okf p 4 10 0 = true := by rcases t_isPc h with rfl | rfl | rfl | rfl | rfl | rfl | rfl | rfl | rfl <;> decide +kernel
theorem t_pr7 {p : Nat} (h : t_isP p = true) : t_okr p 4 7 (p + 1) = true := by rcases t_isPc h with rfl | rfl | rfl | rfl | rfl | rfl | rfl | rfl | rfl <;> decide +kernel
theorem t_pa7 {p : Nat} (h : t_isP p = true) : t_oka (p + 1) 1 8 = true := by rcases t_isPc h with rfl | rfl | rfl | rfl | rfl | rfl | rfl | rfl | rfl <;> decide +kernel
theorem t_pr8 {p : Nat} (h : t_isP p = true) : t_okr p 4 8 (p + 2) = true := by rcases t_isPc h with rfl | rfl | rfl | rfl | rfl | rfl | rfl | rfl | rfl <;> decide +kernel
theorem t_pa8 {p : Nat} (h : t_isP p = true) : t_oka (p + 2) 1 8 = true := by rcases t_isPc h with rfl | rfl | rfl | rfl | rfl | rfl | rfl | rfl | rfl <;> decide +kernel
theorem t_pr9 {p : Nat} (h : t_isP p = true) : t_okr p 4 9 (p + 3) = true := by rcases t_isPc h with rfl | rfl | rfl | rfl | rfl | rfl | rfl | rfl | rfl <;> decide +kernel
theorem t_pa9 {p : Nat} (h : t_isP p = true) : t_oka (p + 3) 1 8 = true := by rcases t_isPc h with rfl | rfl | rfl | rfl | rfl | rfl | rfl | rfl | rfl <;> decide +kernel
theorem t_pr11 {p : Nat} (h : t_isP p = true) : t_okr p 4 11 (p + 4) = true := by rcases t_isPc h with rfl | rfl | rfl | rfl | rfl | rfl | rfl | rfl | rfl <;> decide +kernel
theorem t_pa11 {p : Nat} (h : t_isP p = true) : t_oka (p + 4) 1 4 = true := by rcases t_isPc h with rfl | rfl | rfl | rfl | rfl | rfl | rfl | rfl | rfl <;> decide +kernel
theorem t_pr12 {p : Nat} (h : t_isP p = true) : t_okr p 4 12 (p + 5) = true := by rcases t_isPc h with rfl | rfl | rfl | rfl | rfl | rfl | rfl | rfl | rfl <;> decide +kernel
theorem t_pa12 {p : Nat} (h : t_isP p = true) : t_oka (p + 5) 1 6 = true := by rcases t_isPc h with rfl | rfl | rfl | rfl | rfl | rfl | rfl | rfl | rfl <;> decide +kernel
theorem t_pr13 {p : Nat} (h : t_isP p = true) : t_okr p 4 13 (p + 6) = true := by rcases t_isPc h with rfl | rfl | rfl | rfl | rfl | rfl | rfl | rfl | rfl <;> decide +kernel
theorem t_pa13 {p : Nat} (h : t_isP p = true) : t_oka (p + 6) 1 6 = true := by rcases t_isPc h with rfl | rfl | rfl | rfl | rfl | rfl | rfl | rfl | rfl <;> decide +kernel
theorem t_pr14 {p : Nat} (h : t_isP p = true) : t_okr p 4 14 (p + 7) = true := by rcases t_isPc h with rfl | rfl | rfl | rfl | rfl | rfl | rfl | rfl | rfl <;> decide +kernel
theorem t_pa14 {p : Nat} (h : t_isP p = true) : t_oka (p + 7) 1 6 = true := by rcases t_isPc h with rfl | rfl | rfl | rfl | rfl | rfl | rfl | rfl | rfl <;> decide +kernel
theorem t_pr15 {p : Nat} (h : t_isP p = true) : t_okr p 4 15 (p + 8) = true := by rcases t_isPc h with rfl | rfl | rfl | rfl | rfl | rfl | rfl | rfl | rfl <;> decide +kernel
theorem t_pa15 {p : Nat} (h : t_isP p = true) : t_oka (p + 8) 1 48 = true := by rcases t_isPc h with rfl | rfl | rfl | rfl | rfl | rfl | rfl | rfl | rfl <;> decide +kernel
theorem t_pr16 {p : Nat} (h : t_isP p = true) : t_okr p 4 16 (p + 9) = true := by rcases t_isPc h with rfl | rfl | rfl | rfl | rfl | rfl | rfl | rfl | rfl <;> decide +kernel
theorem t_pa16 {p : Nat} (h : t_isP p = true) : t_oka (p + 9) 2 4 = true := by rcases t_isPc h with rfl | rfl | rfl | rfl | rfl | rfl | rfl | rfl | rfl <;> decide +kernel
theorem t_posK {T : Type} {c P : Prop} [Decidable c] {A B : Option T} {Q : T → Prop} (h : t_hk (if c then A else B) Q) (z : c) (k : t_hk A Q → P) : P := k (t_pos h z)
theorem t_negK {T : Type} {c P : Prop} [Decidable c] {A B : Option T} {Q : T → Prop} (h : t_hk (if c then A else B) Q) (z : ¬ c) (k : t_hk B Q → P) : P := k (t_neg h z)
theorem t_posTK {T : Type} {c P : Prop} [Decidable c] {A B : T} {Q : T → Prop} (h : t_ht (if c then A else B) Q) (z : c) (k : t_ht A Q → P) : P := k (t_posT h z)
theorem t_negTK {T : Type} {c P : Prop} [Decidable c] {A B : T} {Q : T → Prop} (h : t_ht (if c then A else B) Q) (z : ¬ c) (k : t_ht B Q → P) : P := k (t_negT h z)
theorem t_chkK {T : Type} {c P : Prop} [Decidable c] {A : Option T} {Q : T → Prop} (h : t_hk (if c then A else none) Q) (k : c → t_hk A Q → P) : P := k (t_chk h).1 (t_chk h).2
theorem t_bndK {T U : Type} {P : Prop} {o : Option U} {f : U → Option T} {Q : T → Prop} (h : t_hk (o.bind f) Q) (k : ∀ y, o = some y → t_hk (f y) Q → P) : P := by
  obtain ⟨y, e, h2⟩ := t_bnd h
  exact k y e h2
theorem t_mapK {T U : Type} {P : Prop} {o : Option U} {f : U → T} {Q : T → Prop} (h : t_hk (o.map f) Q) (k : t_hk o (fun r => Q (f r)) → P) : P := k (t_map h)
theorem t_somK {T : Type} {P : Prop} {x : T} {Q : T → Prop} (h : t_hk (some x) Q) (k : Q x → P) : P := k (t_som h)
theorem t_letE {A T : Type} {a z : A} {f : A → Option T} {Q : T → Prop} {P : Prop} (h : t_hk (t_let a f) Q) (w : z = a) (k : t_hk (f z) Q → P) : P := by
  subst w
  exact k h
section TK
variable {D : va_G} {cy : Nat → ClassId} {ad : Nat → Nat} {bs : Nat} {X : State → Heap → Prop} {cc : ByteArray} {nL : Nat} {own : String} {rt : Option FieldType} {nm : String} {d mc ms : Nat} {post : Option Value → t_S → Prop} {pc : Nat} {lv : List (Nat × Value)} {st : List Value} {s : t_S} {cells slots : Nat}
theorem t_putIK {idx ci kf a : Nat} {ty : FieldType} {v : Int32} (hd : decode cc pc = .ok (.putfield idx, 3)) (f : mj_fl own idx ci kf ty false) (hs : t_okf a ci kf 0 = true) (hft : mj_fit ty (.int v) = true) (kk : ∀ s2, s2 = t_setI s a kf v → mj_G D cy ad bs X cc nL own rt nm d mc ms 1065 (t_P post) (pc + 3) lv (st) (t_m s2) 1065 cells slots) : mj_G D cy ad bs X cc nL own rt nm d mc ms 1065 (t_P post) (pc) lv (.int v :: .ref a :: st) (t_m s) 1065 cells slots := t_putI hd f hs hft (kk _ rfl)
theorem t_putJK {idx ci kf a : Nat} {ty : FieldType} {v : Int64} (hd : decode cc pc = .ok (.putfield idx, 3)) (f : mj_fl own idx ci kf ty false) (hs : t_okf a ci kf 1 = true) (hft : mj_fit ty (.long v) = true) (kk : ∀ s2, s2 = t_setJ s a kf v → mj_G D cy ad bs X cc nL own rt nm d mc ms 1065 (t_P post) (pc + 3) lv (st) (t_m s2) 1065 cells slots) : mj_G D cy ad bs X cc nL own rt nm d mc ms 1065 (t_P post) (pc) lv (.long v :: .ref a :: st) (t_m s) 1065 cells slots := t_putJ hd f hs hft (kk _ rfl)
theorem t_putDK {idx ci kf a : Nat} {ty : FieldType} {v : Nat} (hd : decode cc pc = .ok (.putfield idx, 3)) (f : mj_fl own idx ci kf ty false) (hs : t_okf a ci kf 3 = true) (hft : mj_fit ty (.ref v) = true) (kk : ∀ s2, s2 = t_setR s a kf v → mj_G D cy ad bs X cc nL own rt nm d mc ms 1065 (t_P post) (pc + 3) lv (st) (t_m s2) 1065 cells slots) : mj_G D cy ad bs X cc nL own rt nm d mc ms 1065 (t_P post) (pc) lv (.ref v :: .ref a :: st) (t_m s) 1065 cells slots := t_putD hd f hs hft (kk _ rfl)
theorem t_iastK {a len : Nat} {i x : Int32} (hd : decode cc pc = .ok (.iastore, 1)) (hs : t_oka a 1 len = true) (hi : vp_in i len) (kk : ∀ s2, s2 = t_setI s a i.toNatClampNeg x → mj_G D cy ad bs X cc nL own rt nm d mc ms 1065 (t_P post) (pc + 1) lv (st) (t_m s2) 1065 cells slots) : mj_G D cy ad bs X cc nL own rt nm d mc ms 1065 (t_P post) (pc) lv (.int x :: .int i :: .ref a :: st) (t_m s) 1065 cells slots := t_iast hd hs hi (kk _ rfl)
theorem t_bastK {a len : Nat} {i x : Int32} (hd : decode cc pc = .ok (.bastore, 1)) (hs : t_oka a 0 len = true) (hi : vp_in i len) (kk : ∀ s2, s2 = t_setI s a i.toNatClampNeg (x.toInt8.toInt32) → mj_G D cy ad bs X cc nL own rt nm d mc ms 1065 (t_P post) (pc + 1) lv (st) (t_m s2) 1065 cells slots) : mj_G D cy ad bs X cc nL own rt nm d mc ms 1065 (t_P post) (pc) lv (.int x :: .int i :: .ref a :: st) (t_m s) 1065 cells slots := t_bast hd hs hi (kk _ rfl)
theorem t_zastK {a len : Nat} {i x : Int32} (hd : decode cc pc = .ok (.bastore, 1)) (hs : t_oka a 3 len = true) (hi : vp_in i len) (hx : x = 0 ∨ x = 1) (kk : ∀ s2, s2 = t_setI s a i.toNatClampNeg x → mj_G D cy ad bs X cc nL own rt nm d mc ms 1065 (t_P post) (pc + 1) lv (st) (t_m s2) 1065 cells slots) : mj_G D cy ad bs X cc nL own rt nm d mc ms 1065 (t_P post) (pc) lv (.int x :: .int i :: .ref a :: st) (t_m s) 1065 cells slots := t_zast hd hs hi hx (kk _ rfl)
theorem t_lastK {a len : Nat} {i : Int32} {x : Int64} (hd : decode cc pc = .ok (.lastore, 1)) (hs : t_oka a 2 len = true) (hi : vp_in i len) (kk : ∀ s2, s2 = t_setJ s a i.toNatClampNeg x → mj_G D cy ad bs X cc nL own rt nm d mc ms 1065 (t_P post) (pc + 1) lv (st) (t_m s2) 1065 cells slots) : mj_G D cy ad bs X cc nL own rt nm d mc ms 1065 (t_P post) (pc) lv (.long x :: .int i :: .ref a :: st) (t_m s) 1065 cells slots := t_last hd hs hi (kk _ rfl)
end TK
section TC
variable {D : va_G} {cy : Nat → ClassId} {ad : Nat → Nat} {bs : Nat} {X : State → Heap → Prop} {cc : ByteArray} {nL : Nat} {own : String} {rt : Option FieldType} {nm : String} {d mc ms : Nat} {post : Option Value → t_S → Prop} {pc : Nat} {lv : List (Nat × Value)} {st : List Value} {s : t_S} {cells slots : Nat} {y : MethodName} {cc2 : ByteArray} {maxL2 : Nat} {rt2 : Option FieldType} {d2 na idx : Nat} {As sk : List Value}
theorem t_callViE {a ci : Nat} {r : Int32 × t_S} (hd : decode cc pc = .ok (.invokevirtual idx, 3)) (f : mj_mf y cc2 maxL2 rt2 na) (hC : t_C y cc2 maxL2 rt2 d2 (.ref a :: As) s (fun v s' => v = some (.int r.1) ∧ s' = r.2)) (hlk : Cond.methodLink own idx y ∈ mj_TG) (hi : Cond.instanceMethod y ∈ mj_TG) (hse : Cond.selects y.cls y y ∈ mj_TG) (ha : t_okc a ci = true) (hci : (vwCl[ci]?).map (fun q => q.1) = some y.cls) (hna : As.length = na) (hsk : sk = As.reverse ++ .ref a :: st) (hdd : d2 + 1 ≤ d) (hst : (st.map fun v => v.category).sum ≤ 8) (hcs : cells ≤ mc) (hss : slots ≤ ms) (kk : mj_G D cy ad bs X cc nL own rt nm d mc ms 1065 (t_P post) (pc + 3) lv (.int r.1 :: st) (t_m r.2) 1065 cells slots) : mj_G D cy ad bs X cc nL own rt nm d mc ms 1065 (t_P post) (pc) lv (sk) (t_m s) 1065 cells slots := by
  refine t_callV hd f hC hlk hi hse ha hci hna hsk hdd hst hcs hss (fun v s2 hp => ?_)
  obtain ⟨rfl, rfl⟩ := hp
  exact kk
theorem t_callViP {a ci : Nat} {r : Int32} (hd : decode cc pc = .ok (.invokevirtual idx, 3)) (f : mj_mf y cc2 maxL2 rt2 na) (hC : t_C y cc2 maxL2 rt2 d2 (.ref a :: As) s (fun v s' => v = some (.int r) ∧ s' = s)) (hlk : Cond.methodLink own idx y ∈ mj_TG) (hi : Cond.instanceMethod y ∈ mj_TG) (hse : Cond.selects y.cls y y ∈ mj_TG) (ha : t_okc a ci = true) (hci : (vwCl[ci]?).map (fun q => q.1) = some y.cls) (hna : As.length = na) (hsk : sk = As.reverse ++ .ref a :: st) (hdd : d2 + 1 ≤ d) (hst : (st.map fun v => v.category).sum ≤ 8) (hcs : cells ≤ mc) (hss : slots ≤ ms) (kk : mj_G D cy ad bs X cc nL own rt nm d mc ms 1065 (t_P post) (pc + 3) lv (.int r :: st) (t_m s) 1065 cells slots) : mj_G D cy ad bs X cc nL own rt nm d mc ms 1065 (t_P post) (pc) lv (sk) (t_m s) 1065 cells slots := by
  refine t_callV hd f hC hlk hi hse ha hci hna hsk hdd hst hcs hss (fun v s2 hp => ?_)
  obtain ⟨rfl, rfl⟩ := hp
  exact kk
theorem t_callVlE {a ci : Nat} {r : Int64 × t_S} (hd : decode cc pc = .ok (.invokevirtual idx, 3)) (f : mj_mf y cc2 maxL2 rt2 na) (hC : t_C y cc2 maxL2 rt2 d2 (.ref a :: As) s (fun v s' => v = some (.long r.1) ∧ s' = r.2)) (hlk : Cond.methodLink own idx y ∈ mj_TG) (hi : Cond.instanceMethod y ∈ mj_TG) (hse : Cond.selects y.cls y y ∈ mj_TG) (ha : t_okc a ci = true) (hci : (vwCl[ci]?).map (fun q => q.1) = some y.cls) (hna : As.length = na) (hsk : sk = As.reverse ++ .ref a :: st) (hdd : d2 + 1 ≤ d) (hst : (st.map fun v => v.category).sum ≤ 8) (hcs : cells ≤ mc) (hss : slots ≤ ms) (kk : mj_G D cy ad bs X cc nL own rt nm d mc ms 1065 (t_P post) (pc + 3) lv (.long r.1 :: st) (t_m r.2) 1065 cells slots) : mj_G D cy ad bs X cc nL own rt nm d mc ms 1065 (t_P post) (pc) lv (sk) (t_m s) 1065 cells slots := by
  refine t_callV hd f hC hlk hi hse ha hci hna hsk hdd hst hcs hss (fun v s2 hp => ?_)
  obtain ⟨rfl, rfl⟩ := hp
  exact kk
theorem t_callVlP {a ci : Nat} {r : Int64} (hd : decode cc pc = .ok (.invokevirtual idx, 3)) (f : mj_mf y cc2 maxL2 rt2 na) (hC : t_C y cc2 maxL2 rt2 d2 (.ref a :: As) s (fun v s' => v = some (.long r) ∧ s' = s)) (hlk : Cond.methodLink own idx y ∈ mj_TG) (hi : Cond.instanceMethod y ∈ mj_TG) (hse : Cond.selects y.cls y y ∈ mj_TG) (ha : t_okc a ci = true) (hci : (vwCl[ci]?).map (fun q => q.1) = some y.cls) (hna : As.length = na) (hsk : sk = As.reverse ++ .ref a :: st) (hdd : d2 + 1 ≤ d) (hst : (st.map fun v => v.category).sum ≤ 8) (hcs : cells ≤ mc) (hss : slots ≤ ms) (kk : mj_G D cy ad bs X cc nL own rt nm d mc ms 1065 (t_P post) (pc + 3) lv (.long r :: st) (t_m s) 1065 cells slots) : mj_G D cy ad bs X cc nL own rt nm d mc ms 1065 (t_P post) (pc) lv (sk) (t_m s) 1065 cells slots := by
  refine t_callV hd f hC hlk hi hse ha hci hna hsk hdd hst hcs hss (fun v s2 hp => ?_)
  obtain ⟨rfl, rfl⟩ := hp
  exact kk
theorem t_callVvE {a ci : Nat} {r : t_S} (hd : decode cc pc = .ok (.invokevirtual idx, 3)) (f : mj_mf y cc2 maxL2 rt2 na) (hC : t_C y cc2 maxL2 rt2 d2 (.ref a :: As) s (fun v s' => v = none ∧ s' = r)) (hlk : Cond.methodLink own idx y ∈ mj_TG) (hi : Cond.instanceMethod y ∈ mj_TG) (hse : Cond.selects y.cls y y ∈ mj_TG) (ha : t_okc a ci = true) (hci : (vwCl[ci]?).map (fun q => q.1) = some y.cls) (hna : As.length = na) (hsk : sk = As.reverse ++ .ref a :: st) (hdd : d2 + 1 ≤ d) (hst : (st.map fun v => v.category).sum ≤ 8) (hcs : cells ≤ mc) (hss : slots ≤ ms) (kk : mj_G D cy ad bs X cc nL own rt nm d mc ms 1065 (t_P post) (pc + 3) lv (st) (t_m r) 1065 cells slots) : mj_G D cy ad bs X cc nL own rt nm d mc ms 1065 (t_P post) (pc) lv (sk) (t_m s) 1065 cells slots := by
  refine t_callV hd f hC hlk hi hse ha hci hna hsk hdd hst hcs hss (fun v s2 hp => ?_)
  obtain ⟨rfl, rfl⟩ := hp
  exact kk
theorem t_callVvP {a ci : Nat} (hd : decode cc pc = .ok (.invokevirtual idx, 3)) (f : mj_mf y cc2 maxL2 rt2 na) (hC : t_C y cc2 maxL2 rt2 d2 (.ref a :: As) s (fun v s' => v = none ∧ s' = s)) (hlk : Cond.methodLink own idx y ∈ mj_TG) (hi : Cond.instanceMethod y ∈ mj_TG) (hse : Cond.selects y.cls y y ∈ mj_TG) (ha : t_okc a ci = true) (hci : (vwCl[ci]?).map (fun q => q.1) = some y.cls) (hna : As.length = na) (hsk : sk = As.reverse ++ .ref a :: st) (hdd : d2 + 1 ≤ d) (hst : (st.map fun v => v.category).sum ≤ 8) (hcs : cells ≤ mc) (hss : slots ≤ ms) (kk : mj_G D cy ad bs X cc nL own rt nm d mc ms 1065 (t_P post) (pc + 3) lv (st) (t_m s) 1065 cells slots) : mj_G D cy ad bs X cc nL own rt nm d mc ms 1065 (t_P post) (pc) lv (sk) (t_m s) 1065 cells slots := by
  refine t_callV hd f hC hlk hi hse ha hci hna hsk hdd hst hcs hss (fun v s2 hp => ?_)
  obtain ⟨rfl, rfl⟩ := hp
  exact kk
theorem t_callSiE {r : Int32 × t_S} (hd : decode cc pc = .ok (.invokestatic idx, 3)) (f : mj_mf y cc2 maxL2 rt2 na) (hC : t_C y cc2 maxL2 rt2 d2 As s (fun v s' => v = some (.int r.1) ∧ s' = r.2)) (hlk : Cond.methodLink own idx y ∈ mj_TG) (hi : Cond.static y ∈ mj_TG) (hna : As.length = na) (hsk : sk = As.reverse ++ st) (hdd : d2 + 1 ≤ d) (hst : (st.map fun v => v.category).sum ≤ 8) (hcs : cells ≤ mc) (hss : slots ≤ ms) (kk : mj_G D cy ad bs X cc nL own rt nm d mc ms 1065 (t_P post) (pc + 3) lv (.int r.1 :: st) (t_m r.2) 1065 cells slots) : mj_G D cy ad bs X cc nL own rt nm d mc ms 1065 (t_P post) (pc) lv (sk) (t_m s) 1065 cells slots := by
  refine t_callS hd f hC hlk hi hna hsk hdd hst hcs hss (fun v s2 hp => ?_)
  obtain ⟨rfl, rfl⟩ := hp
  exact kk
theorem t_callSiP {r : Int32} (hd : decode cc pc = .ok (.invokestatic idx, 3)) (f : mj_mf y cc2 maxL2 rt2 na) (hC : t_C y cc2 maxL2 rt2 d2 As s (fun v s' => v = some (.int r) ∧ s' = s)) (hlk : Cond.methodLink own idx y ∈ mj_TG) (hi : Cond.static y ∈ mj_TG) (hna : As.length = na) (hsk : sk = As.reverse ++ st) (hdd : d2 + 1 ≤ d) (hst : (st.map fun v => v.category).sum ≤ 8) (hcs : cells ≤ mc) (hss : slots ≤ ms) (kk : mj_G D cy ad bs X cc nL own rt nm d mc ms 1065 (t_P post) (pc + 3) lv (.int r :: st) (t_m s) 1065 cells slots) : mj_G D cy ad bs X cc nL own rt nm d mc ms 1065 (t_P post) (pc) lv (sk) (t_m s) 1065 cells slots := by
  refine t_callS hd f hC hlk hi hna hsk hdd hst hcs hss (fun v s2 hp => ?_)
  obtain ⟨rfl, rfl⟩ := hp
  exact kk
theorem t_callSlE {r : Int64 × t_S} (hd : decode cc pc = .ok (.invokestatic idx, 3)) (f : mj_mf y cc2 maxL2 rt2 na) (hC : t_C y cc2 maxL2 rt2 d2 As s (fun v s' => v = some (.long r.1) ∧ s' = r.2)) (hlk : Cond.methodLink own idx y ∈ mj_TG) (hi : Cond.static y ∈ mj_TG) (hna : As.length = na) (hsk : sk = As.reverse ++ st) (hdd : d2 + 1 ≤ d) (hst : (st.map fun v => v.category).sum ≤ 8) (hcs : cells ≤ mc) (hss : slots ≤ ms) (kk : mj_G D cy ad bs X cc nL own rt nm d mc ms 1065 (t_P post) (pc + 3) lv (.long r.1 :: st) (t_m r.2) 1065 cells slots) : mj_G D cy ad bs X cc nL own rt nm d mc ms 1065 (t_P post) (pc) lv (sk) (t_m s) 1065 cells slots := by
  refine t_callS hd f hC hlk hi hna hsk hdd hst hcs hss (fun v s2 hp => ?_)
  obtain ⟨rfl, rfl⟩ := hp
  exact kk
theorem t_callSlP {r : Int64} (hd : decode cc pc = .ok (.invokestatic idx, 3)) (f : mj_mf y cc2 maxL2 rt2 na) (hC : t_C y cc2 maxL2 rt2 d2 As s (fun v s' => v = some (.long r) ∧ s' = s)) (hlk : Cond.methodLink own idx y ∈ mj_TG) (hi : Cond.static y ∈ mj_TG) (hna : As.length = na) (hsk : sk = As.reverse ++ st) (hdd : d2 + 1 ≤ d) (hst : (st.map fun v => v.category).sum ≤ 8) (hcs : cells ≤ mc) (hss : slots ≤ ms) (kk : mj_G D cy ad bs X cc nL own rt nm d mc ms 1065 (t_P post) (pc + 3) lv (.long r :: st) (t_m s) 1065 cells slots) : mj_G D cy ad bs X cc nL own rt nm d mc ms 1065 (t_P post) (pc) lv (sk) (t_m s) 1065 cells slots := by
  refine t_callS hd f hC hlk hi hna hsk hdd hst hcs hss (fun v s2 hp => ?_)
  obtain ⟨rfl, rfl⟩ := hp
  exact kk
theorem t_callSvE {r : t_S} (hd : decode cc pc = .ok (.invokestatic idx, 3)) (f : mj_mf y cc2 maxL2 rt2 na) (hC : t_C y cc2 maxL2 rt2 d2 As s (fun v s' => v = none ∧ s' = r)) (hlk : Cond.methodLink own idx y ∈ mj_TG) (hi : Cond.static y ∈ mj_TG) (hna : As.length = na) (hsk : sk = As.reverse ++ st) (hdd : d2 + 1 ≤ d) (hst : (st.map fun v => v.category).sum ≤ 8) (hcs : cells ≤ mc) (hss : slots ≤ ms) (kk : mj_G D cy ad bs X cc nL own rt nm d mc ms 1065 (t_P post) (pc + 3) lv (st) (t_m r) 1065 cells slots) : mj_G D cy ad bs X cc nL own rt nm d mc ms 1065 (t_P post) (pc) lv (sk) (t_m s) 1065 cells slots := by
  refine t_callS hd f hC hlk hi hna hsk hdd hst hcs hss (fun v s2 hp => ?_)
  obtain ⟨rfl, rfl⟩ := hp
  exact kk
theorem t_callSvP (hd : decode cc pc = .ok (.invokestatic idx, 3)) (f : mj_mf y cc2 maxL2 rt2 na) (hC : t_C y cc2 maxL2 rt2 d2 As s (fun v s' => v = none ∧ s' = s)) (hlk : Cond.methodLink own idx y ∈ mj_TG) (hi : Cond.static y ∈ mj_TG) (hna : As.length = na) (hsk : sk = As.reverse ++ st) (hdd : d2 + 1 ≤ d) (hst : (st.map fun v => v.category).sum ≤ 8) (hcs : cells ≤ mc) (hss : slots ≤ ms) (kk : mj_G D cy ad bs X cc nL own rt nm d mc ms 1065 (t_P post) (pc + 3) lv (st) (t_m s) 1065 cells slots) : mj_G D cy ad bs X cc nL own rt nm d mc ms 1065 (t_P post) (pc) lv (sk) (t_m s) 1065 cells slots := by
  refine t_callS hd f hC hlk hi hna hsk hdd hst hcs hss (fun v s2 hp => ?_)
  obtain ⟨rfl, rfl⟩ := hp
  exact kk
end TC
