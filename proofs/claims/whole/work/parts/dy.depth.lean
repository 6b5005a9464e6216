/-! Level 2: blocks and alts at every depth. -/
section
variable {P : pc_S} {nt : Nat → Nat} {f n n2 n3 Y a g f2 p0 dd : Nat} {L : Nat → Nat} {ka up : Int32} {k : Nat → Nat} {c0 r0 c r : t_S}
theorem rb_eta (o : Option (Int32 × t_S)) : o.bind (fun x => some (x.1, x.2)) = o := by cases o <;> rfl
theorem bkC_R (i : Nat) : bkC (R_X6_readAlts (i + 2)) := fun f f2 p0 c0 c x up h => by
  refine ⟨?_, ?_⟩
  · show t_hk ((m_X6_readBraces (R_X6_readAlts i) x up 0 c).bind (fun x => some (x.1, x.2))) _
    rw [rb_eta]
    exact h.braces0 x up 0
  · show t_hk ((m_X6_readBraces (R_X6_readAlts i) x up 1 c).bind (fun x => some (x.1, x.2))) _
    rw [rb_eta]
    exact h.braces0 x up 1
theorem bkR_R (j : Nat) : bkR (R_X13_block (j + 1)) := fun P f f2 p0 r0 r x up h => ⟨bk_behind (rcR := R_X13_block j) h x, ak_behind (rcR := R_X13_block j) h x⟩
theorem bkG_of {i j d : Nat} (hd : d ≤ 17) (hB : d ≤ 16 → ∃ i' j', i = i' + 3 ∧ j = j' + 2 ∧ bkG (R_X6_readAlts (i' + 2)) (R_X13_block (j' + 1)) (d + 1)) : bkG (R_X6_readAlts (i + 2)) (R_X13_block (j + 1)) d := fun P nt f n2 n3 Y n L ka a g k c r up S hf hu => by
  refine ⟨?_, ?_⟩
  · show t_h2 ((m_X6_readBraces (R_X6_readAlts i) (nI d) up 0 c).bind (fun x => some (x.1, x.2))) (m_X13_block (R_X13_block j) up (nI d) r) _
    rw [rb_eta]
    refine bk_whole S hf hu hd (fun h16 n L k c r S hu => ?_)
    obtain ⟨i', j', rfl, rfl, hG⟩ := hB h16
    exact st_all S hf hu (by omega) hG (bkC_R i') (bkR_R j')
  · show t_h2 ((m_X6_readBraces (R_X6_readAlts i) (nI d) up 1 c).bind (fun x => some (x.1, x.2))) (m_X13_branches (R_X13_block j) up (nI d) r) _
    rw [rb_eta]
    refine ak_whole S hf hu hd (fun h16 n L k c r S hu => ?_)
    obtain ⟨i', j', rfl, rfl, hG⟩ := hB h16
    exact br_all S hf hu hG (bkC_R i') (bkR_R j')
theorem bkG_all : ∀ m, m ≤ 17 → ∀ i j, 3 * m ≤ i → 2 * m ≤ j → bkG (R_X6_readAlts (i + 2)) (R_X13_block (j + 1)) (17 - m) := by
  intro m
  induction m with
  | zero => exact fun _ i j _ _ => bkG_of (by omega) (fun h => by omega)
  | succ m ih =>
    intro hm i j hi hj
    refine bkG_of (by omega) (fun _ => ⟨i - 3, j - 2, by omega, by omega, ?_⟩)
    have h := ih (by omega) (i - 3) (j - 2) (by omega) (by omega)
    rw [show 17 - (m + 1) + 1 = 17 - m by omega]
    exact h
theorem bl_all (S : fs P nt f n2 Y n L ka a g k c r) (hf : f < n3) : t_h2 (f_X6_readBlock 0 (-1) c) (f_X13_block (-1) 0 r) (bk_O P nt f n2 n3 Y n L ka a g k c r) := (bkG_all 17 (Nat.le_refl _) 98 99 (by decide) (by decide) P nt f n2 n3 Y n L ka a g k c r (-1) S hf (Or.inl rfl)).1
theorem zS.block (h : zS f f2 p0 c0 c) (x up : Int32) : t_hk (f_X6_readBlock x up c) (fun y => zS f f2 p0 c0 y.2) := (bkC_R 98 f f2 p0 c0 c x up h).1
theorem rS.block (h : rS P f f2 p0 r0 r) (x up : Int32) : t_hk (f_X13_block up x r) (fun y => yS P f f2 p0 r0 y.2) := (bkR_R 99 P f f2 p0 r0 r x up h).1
end
