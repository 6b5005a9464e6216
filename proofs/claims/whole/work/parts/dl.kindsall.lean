/-! Level 2: statements by their word. -/
def so_L : List Nat := [0, 0, 0, 0, 0, 0, 0, 0, 0, 1, 0, 0, 0, 0, 0, 0, 0, 0, 0, 0, 0, 0, 0, 0, 0, 0, 0, 0, 0, 0, 0, 0, 0, 0, 0, 0, 0, 3, 0, 4, 5, 6, 0, 7, 0, 0, 0, 8, 9, 10, 14, 15, 16, 17, 0, 18, 0, 0, 19, 20, 21, 0, 11, 0, 12, 13]
def so_n (i : Nat) : Nat := so_L.getD i 0
theorem so_kw (s : t_S) : ∀ i, i < 66 → f_X6_sortOf (nI (200 + i)) s = nI (so_n i) := by
  unfold f_X6_sortOf
  decide +kernel
theorem so_w (s : t_S) : f_X6_sortOf 1 s = nI 2 := by
  unfold f_X6_sortOf
  decide
theorem so_no (s : t_S) {x : Int32} (h1 : x ≠ 1) (h : ∀ i, i < 66 → x ≠ nI (200 + i)) : f_X6_sortOf x s = 0 := by
  have g : ∀ i, i < 66 → ¬ x.toInt = ((200 + i : Nat) : Int) := fun i hi e => h i hi (by
    rw [← Int32.toInt_inj, e, nI_toInt (by omega)])
  unfold f_X6_sortOf
  rw [if_neg (fun e => h1 (by rw [← Int32.toInt_inj, e]; rfl)), if_neg (show ¬ x.toInt = 209 from g 9 (by decide)), if_neg (show ¬ x.toInt = 237 from g 37 (by decide)), if_neg (show ¬ x.toInt = 239 from g 39 (by decide)), if_neg (show ¬ x.toInt = 240 from g 40 (by decide)), if_neg (show ¬ x.toInt = 241 from g 41 (by decide)), if_neg (show ¬ x.toInt = 243 from g 43 (by decide)), if_neg (show ¬ x.toInt = 247 from g 47 (by decide)), if_neg (show ¬ x.toInt = 248 from g 48 (by decide)), if_neg (show ¬ x.toInt = 249 from g 49 (by decide)), if_neg (show ¬ x.toInt = 250 from g 50 (by decide)), if_neg (show ¬ x.toInt = 251 from g 51 (by decide)), if_neg (show ¬ x.toInt = 252 from g 52 (by decide)), if_neg (show ¬ x.toInt = 253 from g 53 (by decide)), if_neg (show ¬ x.toInt = 255 from g 55 (by decide)), if_neg (show ¬ x.toInt = 258 from g 58 (by decide)), if_neg (show ¬ x.toInt = 259 from g 59 (by decide)), if_neg (show ¬ x.toInt = 260 from g 60 (by decide)), if_neg (show ¬ x.toInt = 262 from g 62 (by decide)), if_neg (show ¬ x.toInt = 264 from g 64 (by decide)), if_neg (show ¬ x.toInt = 265 from g 65 (by decide))]
theorem bs_kw {r : t_S} (h5 : r.1 950 5 = 1) : ∀ i, i < 66 → r.1 950 10 = nI (pv i) → f_X13_beginsStatement r = if so_n i = 0 then 0 else 1 := by
  intro i hi h10
  unfold f_X13_beginsStatement k_X13_beginsStatement_131 f_X13_in
  rw [if_pos h5, h10]
  clear h10
  revert i
  decide +kernel
theorem bs_w {r : t_S} (h5 : r.1 950 5 = 1) (h10 : r.1 950 10 < 0) : f_X13_beginsStatement r = 1 := by
  unfold f_X13_beginsStatement k_X13_beginsStatement_131
  rw [if_pos h5, if_pos h10]
theorem bs_no {r : t_S} (h5 : r.1 950 5 ≠ 1) : f_X13_beginsStatement r = 0 := by
  unfold f_X13_beginsStatement
  rw [if_neg h5]
/-- a simple statement: its word, the class's sort, the reference's kind -/
def smp (i so K : Nat) : Prop := (i = 9 ∧ so = 1 ∧ K = 1) ∨ (i = 40 ∧ so = 5 ∧ K = 5) ∨ (i = 58 ∧ so = 19 ∧ K = 17) ∨ (i = 41 ∧ so = 6 ∧ K = 6) ∨ (i = 43 ∧ so = 7 ∧ K = 7) ∨ (i = 47 ∧ so = 8 ∧ K = 8) ∨ (i = 48 ∧ so = 9 ∧ K = 9) ∨ (i = 50 ∧ so = 14 ∧ K = 12) ∨ (i = 51 ∧ so = 15 ∧ K = 13) ∨ (i = 60 ∧ so = 21 ∧ K = 19) ∨ (i = 52 ∧ so = 16 ∧ K = 14) ∨ (i = 53 ∧ so = 17 ∧ K = 15) ∨ (i = 55 ∧ so = 18 ∧ K = 16) ∨ (i = 59 ∧ so = 20 ∧ K = 18)
def so_k (i : Nat) : Nat := ([0, 0, 0, 0, 0, 0, 0, 0, 0, 1, 0, 0, 0, 0, 0, 0, 0, 0, 0, 0, 0, 0, 0, 0, 0, 0, 0, 0, 0, 0, 0, 0, 0, 0, 0, 0, 0, 0, 0, 0, 5, 6, 0, 7, 0, 0, 0, 8, 9, 0, 12, 13, 14, 15, 0, 16, 0, 0, 17, 18, 19, 0, 0, 0, 0, 0] : List Nat).getD i 0
def smp_d (i so K : Nat) : Decidable (smp i so K) := by
  unfold smp
  exact @instDecidableOr _ _ _ (@instDecidableOr _ _ _ (@instDecidableOr _ _ _ (@instDecidableOr _ _ _ (@instDecidableOr _ _ _ (@instDecidableOr _ _ _ (@instDecidableOr _ _ _ inferInstance))))))
theorem so_al0 : ∀ i, i < 66 → so_n i ≠ 0 → (so_n i = 3 ∧ i = 37) ∨ (so_n i = 4 ∧ i = 39) ∨ (so_n i = 10 ∧ i = 49) ∨ (so_n i = 11 ∧ i = 62) ∨ (so_n i = 12 ∧ i = 64) ∨ (so_n i = 13 ∧ i = 65) ∨ (so_k i < 30 ∧ @decide (smp i (so_n i) (so_k i)) (smp_d _ _ _) = true) := by
  decide +kernel
theorem so_all : ∀ i, i < 66 → so_n i ≠ 0 → (so_n i = 3 ∧ i = 37) ∨ (so_n i = 4 ∧ i = 39) ∨ (so_n i = 10 ∧ i = 49) ∨ (so_n i = 11 ∧ i = 62) ∨ (so_n i = 12 ∧ i = 64) ∨ (so_n i = 13 ∧ i = 65) ∨ (∃ K, K < 30 ∧ smp i (so_n i) K) := fun i h1 h2 => (so_al0 i h1 h2).imp id (Or.imp id (Or.imp id (Or.imp id (Or.imp id (Or.imp id (fun x => ⟨_, x.1, @of_decide_eq_true _ (smp_d _ _ _) x.2⟩))))))
/-- the class's body of it -/
noncomputable def cG (so ln : Nat) (c : t_S) : Option t_S := if so = 16 ∨ so = 17 ∨ so = 18 ∨ so = 20 then f_X6_readOfComponents (nI ln) (nI so) c else f_X6_readPlain (nI ln) (nI so) c
section
variable {P : pc_S} {nt : Nat → Nat} {f n n2 n3 Y a g f2 p0 ln i so K V : Nat} {L v : Nat → Nat} {ka : Int32} {k k0 k' : Nat → Nat} {c0 r0 c r c1 r1 c' r' : t_S} {A B : Nat → Prop}
theorem sI.all (h : sI P nt f n2 n3 Y n L v ka a g ln 0 k c r c0 r0) (hs : smp i so K) : t_h2 (cG so ln c) (f_X13_simple (nI ln) (nI (pv i)) r) (sO P nt f n2 n3 Y n v ka a g ln so K k c r c0 r0) := by
  rcases hs with ⟨rfl, rfl, rfl⟩ | ⟨rfl, rfl, rfl⟩ | ⟨rfl, rfl, rfl⟩ | ⟨rfl, rfl, rfl⟩ | ⟨rfl, rfl, rfl⟩ | ⟨rfl, rfl, rfl⟩ | ⟨rfl, rfl, rfl⟩ | ⟨rfl, rfl, rfl⟩ | ⟨rfl, rfl, rfl⟩ | ⟨rfl, rfl, rfl⟩ | ⟨rfl, rfl, rfl⟩ | ⟨rfl, rfl, rfl⟩ | ⟨rfl, rfl, rfl⟩ | ⟨rfl, rfl, rfl⟩
  · unfold cG; rw [if_neg (by decide)]; exact h.var
  · unfold cG; rw [if_neg (by decide)]; exact h.ret
  · unfold cG; rw [if_neg (by decide)]; exact h.stop
  · unfold cG; rw [if_neg (by decide)]; exact h.call
  · unfold cG; rw [if_neg (by decide)]; exact h.set
  · unfold cG; rw [if_neg (by decide)]; exact h.log
  · unfold cG; rw [if_neg (by decide)]; exact h.send
  · unfold cG; rw [if_neg (by decide)]; exact h.begin
  · unfold cG; rw [if_neg (by decide)]; exact h.halt
  · unfold cG; rw [if_neg (by decide)]; exact h.unusual
  · unfold cG; rw [if_pos (by decide)]; exact h.create
  · unfold cG; rw [if_pos (by decide)]; exact h.start
  · unfold cG; rw [if_pos (by decide)]; exact h.connect
  · unfold cG; rw [if_pos (by decide)]; exact h.usual
theorem bh_all (z : zS f f2 p0 c0 c) (y : yS P f f2 p0 r0 r) (hl : ln < 400) (hf : f < 40) (hs : smp i so K) : t_h2 (cG so ln c) (f_X13_simple (nI ln) (nI (pv i)) r) (bO P f f2 p0 c0 r0) := by
  rcases hs with ⟨rfl, rfl, rfl⟩ | ⟨rfl, rfl, rfl⟩ | ⟨rfl, rfl, rfl⟩ | ⟨rfl, rfl, rfl⟩ | ⟨rfl, rfl, rfl⟩ | ⟨rfl, rfl, rfl⟩ | ⟨rfl, rfl, rfl⟩ | ⟨rfl, rfl, rfl⟩ | ⟨rfl, rfl, rfl⟩ | ⟨rfl, rfl, rfl⟩ | ⟨rfl, rfl, rfl⟩ | ⟨rfl, rfl, rfl⟩ | ⟨rfl, rfl, rfl⟩ | ⟨rfl, rfl, rfl⟩
  · unfold cG; rw [if_neg (by decide)]; exact bh_var z y hl hf
  · unfold cG; rw [if_neg (by decide)]; exact bh_ret z y hl
  · unfold cG; rw [if_neg (by decide)]; exact bh_stop z y hl
  · unfold cG; rw [if_neg (by decide)]; exact bh_call z y hl
  · unfold cG; rw [if_neg (by decide)]; exact bh_set z y hl
  · unfold cG; rw [if_neg (by decide)]; exact bh_log z y hl
  · unfold cG; rw [if_neg (by decide)]; exact bh_send z y hl
  · unfold cG; rw [if_neg (by decide)]; exact bh_begin z y hl
  · unfold cG; rw [if_neg (by decide)]; exact bh_halt z y hl
  · unfold cG; rw [if_neg (by decide)]; exact bh_unusual z y hl
  · unfold cG; rw [if_pos (by decide)]; exact bh_create z y hl
  · unfold cG; rw [if_pos (by decide)]; exact bh_start z y hl
  · unfold cG; rw [if_pos (by decide)]; exact bh_connect z y hl
  · unfold cG; rw [if_pos (by decide)]; exact bh_usual z y hl
/-- the class's statement behind its word -/
theorem k98_s {rc : RT_X6_readAlts} {l1 l4 : Int32} {l5 : Nat} (hs : smp i so K) (hl : l4 = nI ln) : k_X6_readStatement_98 rc l1 (nI so) l4 l5 c = (cG so ln c).bind (fun x => (f_X2_need 59 x).bind (fun r1 => some (l4, r1))) := by
  subst hl
  rcases hs with ⟨rfl, rfl, rfl⟩ | ⟨rfl, rfl, rfl⟩ | ⟨rfl, rfl, rfl⟩ | ⟨rfl, rfl, rfl⟩ | ⟨rfl, rfl, rfl⟩ | ⟨rfl, rfl, rfl⟩ | ⟨rfl, rfl, rfl⟩ | ⟨rfl, rfl, rfl⟩ | ⟨rfl, rfl, rfl⟩ | ⟨rfl, rfl, rfl⟩ | ⟨rfl, rfl, rfl⟩ | ⟨rfl, rfl, rfl⟩ | ⟨rfl, rfl, rfl⟩ | ⟨rfl, rfl, rfl⟩ <;> unfold k_X6_readStatement_98 cG
  · rw [if_pos (by decide), if_neg (by decide)]; rfl
  · rw [if_neg (by decide), if_neg (by decide), if_neg (by decide), if_neg (by decide), if_pos (by decide), if_neg (by decide)]; rfl
  · rw [if_neg (by decide), if_neg (by decide), if_neg (by decide), if_neg (by decide), if_neg (by decide), if_neg (by decide), if_neg (by decide), if_neg (by decide), if_neg (by decide), if_neg (by decide), if_neg (by decide), if_neg (by decide), if_neg (by decide), if_neg (by decide), if_neg (by decide), if_neg (by decide), if_neg (by decide), if_neg (by decide), if_pos (by decide), if_neg (by decide)]; rfl
  · rw [if_neg (by decide), if_neg (by decide), if_neg (by decide), if_neg (by decide), if_neg (by decide), if_pos (by decide), if_neg (by decide)]; rfl
  · rw [if_neg (by decide), if_neg (by decide), if_neg (by decide), if_neg (by decide), if_neg (by decide), if_neg (by decide), if_pos (by decide), if_neg (by decide)]; rfl
  · rw [if_neg (by decide), if_neg (by decide), if_neg (by decide), if_neg (by decide), if_neg (by decide), if_neg (by decide), if_neg (by decide), if_pos (by decide), if_neg (by decide)]; rfl
  · rw [if_neg (by decide), if_neg (by decide), if_neg (by decide), if_neg (by decide), if_neg (by decide), if_neg (by decide), if_neg (by decide), if_neg (by decide), if_pos (by decide), if_neg (by decide)]; rfl
  · rw [if_neg (by decide), if_neg (by decide), if_neg (by decide), if_neg (by decide), if_neg (by decide), if_neg (by decide), if_neg (by decide), if_neg (by decide), if_neg (by decide), if_neg (by decide), if_neg (by decide), if_neg (by decide), if_neg (by decide), if_pos (by decide), if_neg (by decide)]; rfl
  · rw [if_neg (by decide), if_neg (by decide), if_neg (by decide), if_neg (by decide), if_neg (by decide), if_neg (by decide), if_neg (by decide), if_neg (by decide), if_neg (by decide), if_neg (by decide), if_neg (by decide), if_neg (by decide), if_neg (by decide), if_neg (by decide), if_pos (by decide), if_neg (by decide)]; rfl
  · rw [if_pos (by decide), if_neg (by decide)]; rfl
  · rw [if_neg (by decide), if_neg (by decide), if_neg (by decide), if_neg (by decide), if_neg (by decide), if_neg (by decide), if_neg (by decide), if_neg (by decide), if_neg (by decide), if_neg (by decide), if_neg (by decide), if_neg (by decide), if_neg (by decide), if_neg (by decide), if_neg (by decide), if_pos (by decide), if_pos (by decide)]; rfl
  · rw [if_neg (by decide), if_neg (by decide), if_neg (by decide), if_neg (by decide), if_neg (by decide), if_neg (by decide), if_neg (by decide), if_neg (by decide), if_neg (by decide), if_neg (by decide), if_neg (by decide), if_neg (by decide), if_neg (by decide), if_neg (by decide), if_neg (by decide), if_neg (by decide), if_pos (by decide), if_pos (by decide)]; rfl
  · rw [if_neg (by decide), if_neg (by decide), if_neg (by decide), if_neg (by decide), if_neg (by decide), if_neg (by decide), if_neg (by decide), if_neg (by decide), if_neg (by decide), if_neg (by decide), if_neg (by decide), if_neg (by decide), if_neg (by decide), if_neg (by decide), if_neg (by decide), if_neg (by decide), if_neg (by decide), if_pos (by decide), if_pos (by decide)]; rfl
  · rw [if_neg (by decide), if_neg (by decide), if_neg (by decide), if_neg (by decide), if_neg (by decide), if_neg (by decide), if_neg (by decide), if_neg (by decide), if_neg (by decide), if_neg (by decide), if_neg (by decide), if_neg (by decide), if_neg (by decide), if_neg (by decide), if_neg (by decide), if_neg (by decide), if_neg (by decide), if_neg (by decide), if_neg (by decide), if_pos (by decide)]; rfl
end
