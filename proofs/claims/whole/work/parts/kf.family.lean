/-! Level 2: what working out an exp keeps of what templs have been told: the family K. -/
/-- how many operations 34 lie below y -/
def q34 (c : t_S) (y : Nat) : Nat := sm (fun i => if c.1 335 i = 34 then 1 else 0) y
theorem q34_up {c : t_S} {x y : Nat} (h : x ≤ y) : q34 c x ≤ q34 c y := by
  obtain ⟨d, rfl⟩ : ∃ d, y = x + d := ⟨y - x, by omega⟩
  exact sm_mono d x
/-- what told templates may still want, those that are not yet prepared in this round -/
def rem (wt : Nat → Nat) (r : t_S) : Nat := sm (fun u => if r.1 1030 u = r.1 950 133 then 0 else wt u) 60
/-- a told template's slots are prepared (a slot 13000 tells that it has an ERROR) -/
def RD (P : Nat → Int64) (TS : Nat → Nat → Nat → Prop) (u : Nat) (r : t_S) : Prop := ∀ n pp, TS u n pp → n < 13000 ∧ ∃ pe nn mm f, f ≤ 120 ∧ r.1 1026 n = nI pe ∧ pe + mm ≤ 370000 ∧ pe + mm ≤ (r.1 950 135).toNatClampNeg ∧ VW P (r.2.1 1027) f pp pe nn mm
def Tld (P : Nat → Int64) (TS : Nat → Nat → Nat → Prop) (r : t_S) : Prop := ∀ u, u < 60 → r.1 1030 u = r.1 950 133 → RD P TS u r
/-- the class -/
def KcZ (Z : Nat → Prop) (c c' : t_S) : Prop := (∀ t, Z t → c'.2.1 361 t = c.2.1 361 t ∧ c'.2.1 362 t = c.2.1 362 t) ∧ ∀ τ, KM τ c → ∃ τ', KM τ' c'
/-- the reference: its memo's stamp -/
def Sgm (x y : Nat) (r r' : t_S) : Prop := ∀ σ, KN σ r → (r.1 950 138 ≠ 0 → σ + y < 2 ^ 30 + x → ∃ σ', KN σ' r' ∧ σ' + x ≤ σ + y) ∧ (r.1 950 138 = 0 → σ < 2 ^ 30 → 1000000000 + y < 2 ^ 30 + x → ∃ σ', KN σ' r' ∧ (σ' ≤ σ ∨ σ' + x ≤ 1000000000 + y))
/-- .. the round's stamp -/
def Stm (r r' : t_S) : Prop := ∀ ρ, KS2 ρ r → ∃ ρ', KS2 ρ' r' ∧ (r.1 950 138 ≠ 0 → ρ' = ρ)
/-- .. within a round, without ERROR -/
def Rnd (c0 : t_S) (P : Nat → Int64) (TS : Nat → Nat → Nat → Prop) (wt : Nat → Nat) (Y : Nat → Prop) (x y : Nat) (r r' : t_S) : Prop :=
  (∀ pc, r.1 950 135 = nI pc → pc + 240 * rem wt r + 240 * q34 c0 y ≤ 360000 + 240 * q34 c0 x → ∃ pc', r'.1 950 135 = nI pc' ∧ pc ≤ pc' ∧ pc' + 240 * rem wt r' + 240 * q34 c0 x ≤ pc + 240 * rem wt r + 240 * q34 c0 y ∧ (∀ j, j < pc → r'.2.1 1027 j = r.2.1 1027 j) ∧ (Tld P TS r → Tld P TS r')) ∧
  (∀ n, Y n → r'.1 1026 n = r.1 1026 n) ∧ (∀ u, u < 60 → r.1 1030 u = r.1 950 133 → r'.1 1030 u = r'.1 950 133)
def KrZ (c0 : t_S) (P : Nat → Int64) (TS : Nat → Nat → Nat → Prop) (wt : Nat → Nat) (Y : Nat → Prop) (x y : Nat) (r r' : t_S) : Prop :=
  x ≤ y ∧ r'.1 950 138 = r.1 950 138 ∧ Sgm x y r r' ∧ Stm r r' ∧ (r'.1 950 97 = 0 → r.1 950 97 = 0 ∧ (r.1 950 138 ≠ 0 → Rnd c0 P TS wt Y x y r r'))
section
variable {c0 : t_S} {P : Nat → Int64} {TS : Nat → Nat → Nat → Prop} {wt : Nat → Nat} {Z Y : Nat → Prop} {x y z : Nat} {a b d : t_S}
theorem KM.same {τ : Nat} (h : KM τ a) (e : b.1 353 13 = a.1 353 13) (e2 : ∀ j, b.1 424 j = a.1 424 j) : KM τ b := ⟨e.trans h.1, h.2.1, fun j hj => by rw [e2]; exact h.2.2 j hj⟩
theorem KN.same {σ : Nat} (h : KN σ a) (e : b.1 950 137 = a.1 950 137) (e2 : ∀ j, b.1 1028 j = a.1 1028 j) : KN σ b := ⟨e.trans h.1, fun j hj => by rw [e2]; exact h.2 j hj⟩
theorem KS2.same {ρ : Nat} (h : KS2 ρ a) (e : b.1 950 133 = a.1 950 133) (e2 : ∀ j, b.1 1030 j = a.1 1030 j) : KS2 ρ b := ⟨e.trans h.1, h.2.1, fun j hj => by rw [e2]; exact h.2.2 j hj⟩
/-- nothing that counts is written -/
theorem KrZ.plain (h : x ≤ y) (h97 : b.1 950 97 = 0 → a.1 950 97 = 0) (f : l2_fr eBr a b) : KrZ c0 P TS wt Y x y a b := by
  have e : ∀ q j, (q = 950 ∧ 133 ≤ j) ∨ (1026 ≤ q ∧ q ≤ 1033) → b.1 q j = a.1 q j ∧ b.2.1 q j = a.2.1 q j := fun q j h => by
    have := f q j (by unfold eBr; omega)
    exact ⟨this.1, this.2.1⟩
  have e33 := (e 950 133 (by omega)).1
  have e35 := (e 950 135 (by omega)).1
  have er : rem wt b = rem wt a := sm_cg 60 (fun u _ => by rw [(e 1030 u (by omega)).1, e33])
  refine ⟨h, (e 950 138 (by omega)).1, fun σ k => ⟨fun _ _ => ⟨σ, k.same (e 950 137 (by omega)).1 (fun j => (e 1028 j (by omega)).1), by omega⟩, fun _ _ _ => ⟨σ, k.same (e 950 137 (by omega)).1 (fun j => (e 1028 j (by omega)).1), Or.inl (Nat.le_refl _)⟩⟩, fun ρ k => ⟨ρ, k.same e33 (fun j => (e 1030 j (by omega)).1), fun _ => rfl⟩, fun z => ⟨h97 z, fun _ => ⟨fun pc p1 p2 => ⟨pc, e35.trans p1, Nat.le_refl _, by rw [er]; have := q34_up (c := c0) h; omega, fun j _ => (e 1027 j (by omega)).2, fun T u hu hs => ?_⟩, fun n _ => (e 1026 n (by omega)).1, fun u _ hs => by rw [(e 1030 u (by omega)).1, e33]; exact hs⟩⟩⟩
  rw [(e 1030 u (by omega)).1, e33] at hs
  intro n pp ht
  obtain ⟨g0, pe, nn, mm, f, g1, g2, g3, g4, g5⟩ := T u hu hs n pp ht
  exact ⟨g0, pe, nn, mm, f, g1, (e 1026 n (by omega)).1.trans g2, g3, by rw [e35]; exact g4, VW.copy _ _ _ _ _ _ _ g5 (fun _ _ => rfl) (fun q _ => (e 1027 _ (by omega)).2)⟩
theorem KrZ.trans (h : KrZ c0 P TS wt Y x y a b) (g : KrZ c0 P TS wt Y y z b d) : KrZ c0 P TS wt Y x z a d := by
  obtain ⟨h1, h2, h3, h4, h5⟩ := h
  obtain ⟨g1, g2, g3, g4, g5⟩ := g
  refine ⟨by omega, g2.trans h2, fun σ k => ⟨fun n m => ?_, fun n m m2 => ?_⟩, fun ρ k => ?_, fun q => ?_⟩
  · obtain ⟨σ1, k1, k2⟩ := (h3 σ k).1 n (by omega)
    obtain ⟨σ2, k3, k4⟩ := (g3 σ1 k1).1 (by rw [h2]; exact n) (by omega)
    exact ⟨σ2, k3, by omega⟩
  · obtain ⟨σ1, k1, k2⟩ := (h3 σ k).2 n m (by omega)
    obtain ⟨σ2, k3, k4⟩ := (g3 σ1 k1).2 (by rw [h2]; exact n) (by omega) (by omega)
    exact ⟨σ2, k3, by omega⟩
  · obtain ⟨ρ1, k1, k2⟩ := h4 ρ k
    obtain ⟨ρ2, k3, k4⟩ := g4 ρ1 k1
    exact ⟨ρ2, k3, fun n => (k4 (by rw [h2]; exact n)).trans (k2 n)⟩
  · obtain ⟨b97, gR⟩ := g5 q
    obtain ⟨a97, hR⟩ := h5 b97
    refine ⟨a97, fun n => ?_⟩
    obtain ⟨r1, r2, r3⟩ := hR n
    obtain ⟨s1, s2, s3⟩ := gR (by rw [h2]; exact n)
    have qy := q34_up (c := c0) h1
    have qz := q34_up (c := c0) g1
    refine ⟨fun pc p1 p2 => ?_, fun n hn => (s2 n hn).trans (r2 n hn), fun u hu hs => s3 u hu (r3 u hu hs)⟩
    obtain ⟨pc1, t1, t2, t3, t4, t5⟩ := r1 pc p1 (by omega)
    obtain ⟨pc2, v1, v2, v3, v4, v5⟩ := s1 pc1 t1 (by omega)
    exact ⟨pc2, v1, by omega, by omega, fun j hj => (v4 j (by omega)).trans (t4 j hj), fun T => v5 (t5 T)⟩
theorem rem_cg (e33 : b.1 950 133 = a.1 950 133) (e : ∀ u, u < 60 → b.1 1030 u = a.1 1030 u) : rem wt b = rem wt a := sm_cg 60 (fun u hu => by rw [e u hu, e33])
theorem q34_s {c : t_S} {i : Nat} (h : c.1 335 i = 34) : q34 c (i + 1) = q34 c i + 1 := by
  unfold q34
  rw [sm_s]
  show _ + (if c.1 335 i = 34 then 1 else 0) = _
  rw [if_pos h]
theorem EK_Z : EK (KcZ Z) (KrZ c0 P TS wt Y) := by
  refine ⟨⟨fun c c' f => ⟨fun t _ => ?_, fun τ k => ⟨τ, k.same ?_ (fun j => ?_)⟩⟩, fun a b d h g => ⟨fun t ht => ⟨(g.1 t ht).1.trans (h.1 t ht).1, (g.1 t ht).2.trans (h.1 t ht).2⟩, fun τ k => ?_⟩⟩, fun x y r r' h h97 f => KrZ.plain h h97 f, fun x y z a b d h g => h.trans g⟩
  · exact ⟨(f 361 t (by unfold eBc; omega)).2.1, (f 362 t (by unfold eBc; omega)).2.1⟩
  · exact (f 353 13 (by unfold eBc; omega)).1
  · exact (f 424 j (by unfold eBc; omega)).1
  · obtain ⟨τ1, k1⟩ := h.2 τ k
    exact g.2 τ1 k1
end
attribute [irreducible] rem q34
