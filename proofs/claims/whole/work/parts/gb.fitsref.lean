/-! Level 2: what the reference's FITS reads. -/
section
variable {s t : t_S}
/-- the cells that the reference's types and VALUES are -/
def rt_E (s t : t_S) : Prop := t.1 950 40 = s.1 950 40 ∧ (∀ b, (b = 955 ∨ b = 959 ∨ b = 960 ∨ b = 964 ∨ b = 965) → t.1 b = s.1 b) ∧ t.2.1 957 = s.2.1 957 ∧ t.2.1 958 = s.2.1 958 ∧ t.2.1 1006 = s.2.1 1006
theorem rt_E.of {W : Nat → Nat → Prop} (f : l2_fr W s t) (w : ∀ b j, ((b = 950 ∧ j = 40) ∨ b = 955 ∨ b = 957 ∨ b = 958 ∨ b = 959 ∨ b = 960 ∨ b = 964 ∨ b = 965 ∨ b = 1006) → ¬ W b j) : rt_E s t := by
  refine ⟨(f 950 40 (w _ _ (by omega))).1, fun b hb => funext fun j => (f b j (w _ _ (by omega))).1, funext fun j => (f 957 j (w _ _ (by omega))).2.1, funext fun j => (f 958 j (w _ _ (by omega))).2.1, funext fun j => (f 1006 j (w _ _ (by omega))).2.1⟩
theorem endOf_st {x : Int32} (e : t.2.1 1006 = s.2.1 1006) : f_X13_endOf 1006 x t = f_X13_endOf 1006 x s := by
  unfold f_X13_endOf
  refine lp_cgg (fun y => y.1 = 1006) ?_ ?_ _ _ rfl
  · rintro ⟨a, l2, l3⟩ rfl
    show k_X13_endOf_4 1006 l2 l3 t = k_X13_endOf_4 1006 l2 l3 s
    unfold k_X13_endOf_4 k_X13_endOf_124 f_X13_packs
    simp only [e]
  · rintro ⟨a, l2, l3⟩ y rfl h
    have q : t_pq (k_X13_endOf_4 1006 l2 l3 s) (fun w => Sum.elim (fun z => z.1 = 1006) (fun _ => True) w) := by
      unfold k_X13_endOf_4 k_X13_endOf_124
      repeat' first
        | exact pc_none
        | exact pc_mp (pc_some trivial)
        | exact pc_some rfl
        | refine pc_if (fun _ => ?_) (fun _ => ?_)
        | refine pc_bd pc_any (fun _ _ => ?_)
    exact q _ h
theorem fits_st (h : rt_E s t) : ∀ g, (∀ x y, (R_X13_fitsAt g).1 x y t = (R_X13_fitsAt g).1 x y s) ∧ ∀ x y, (R_X13_fitsAt g).2 x y t = (R_X13_fitsAt g).2 x y s := by
  obtain ⟨e40, ei, e7, e8, e6⟩ := h
  have e5 := ei 955 (by omega)
  have e9 := ei 959 (by omega)
  have e0 := ei 960 (by omega)
  have e4 := ei 964 (by omega)
  have e65 := ei 965 (by omega)
  have eo : ∀ x, f_X13_endOf 1006 x t = f_X13_endOf 1006 x s := fun x => endOf_st e6
  have b1 : b_X13_meant_2 t = b_X13_meant_2 s := funext fun y => by
    show k_X13_meant_2 _ t = k_X13_meant_2 _ s
    unfold k_X13_meant_2
    rw [e5, e40, e7, e65]
    simp only [fd_stg (fun j => congrFun e4 j)]
  have b2 : b_X13_inRanges_24 t = b_X13_inRanges_24 s := funext fun y => by
    show k_X13_inRanges_24 _ _ _ t = k_X13_inRanges_24 _ _ _ s
    unfold k_X13_inRanges_24 k_X13_inRanges_55 k_X13_inRanges_60 f_X13_in
    rw [e7, e8, e0]
  have b3 : b_X13_hasPart_11 t = b_X13_hasPart_11 s := funext fun y => by
    show k_X13_hasPart_11 _ _ _ t = k_X13_hasPart_11 _ _ _ s
    unfold k_X13_hasPart_11 k_X13_hasPart_33 k_X13_hasPart_38
    rw [e7, e0]
  have b4 : b_X13_fieldNode_8 t = b_X13_fieldNode_8 s := funext fun y => by
    show k_X13_fieldNode_8 _ _ t = k_X13_fieldNode_8 _ _ s
    unfold k_X13_fieldNode_8
    rw [e7, e0]
  have b5 : b_X13_partOf_34 t = b_X13_partOf_34 s := funext fun y => by
    show k_X13_partOf_34 _ _ _ t = k_X13_partOf_34 _ _ _ s
    unfold k_X13_partOf_34
    simp only [eo]
  have pt : ∀ x y, f_X13_partOf x y t = f_X13_partOf x y s := fun x y => by
    unfold f_X13_partOf k_X13_partOf_29
    rw [e6, b5]
  have b6 : b_X13_fieldOf_3 t = b_X13_fieldOf_3 s := funext fun y => by
    show k_X13_fieldOf_3 _ _ _ t = k_X13_fieldOf_3 _ _ _ s
    unfold k_X13_fieldOf_3
    simp only [e6, pt]
  have mt : ∀ x, f_X13_meant x t = f_X13_meant x s := fun x => by unfold f_X13_meant; rw [b1]
  have ir : ∀ x y, f_X13_inRanges x y t = f_X13_inRanges x y s := fun x y => by
    unfold f_X13_inRanges k_X13_inRanges_14
    rw [b2, e9]
  have hp : ∀ x y, f_X13_hasPart x y t = f_X13_hasPart x y s := fun x y => by
    unfold f_X13_hasPart
    rw [b3, e9]
  have fn : ∀ x y, f_X13_fieldNode x y t = f_X13_fieldNode x y s := fun x y => by
    unfold f_X13_fieldNode
    rw [b4, e9]
  have fo : ∀ x y, f_X13_fieldOf x y t = f_X13_fieldOf x y s := fun x y => by
    unfold f_X13_fieldOf
    rw [b6]
  intro g
  induction g with
  | zero => exact ⟨fun _ _ => rfl, fun _ _ => rfl⟩
  | succ g ih =>
    obtain ⟨i1, i2⟩ := ih
    have c1 : b_X13_fitsAt_260 (R_X13_fitsAt g) t = b_X13_fitsAt_260 (R_X13_fitsAt g) s := funext fun y => by
      show k_X13_fitsAt_260 _ _ _ _ _ t = k_X13_fitsAt_260 _ _ _ _ _ s
      unfold k_X13_fitsAt_260
      simp only [e6, pt, e9, i1]
    have c2 : b_X13_fitsRecord_72 (R_X13_fitsAt g) t = b_X13_fitsRecord_72 (R_X13_fitsAt g) s := funext fun y => by
      show k_X13_fitsRecord_72 _ _ _ t = k_X13_fitsRecord_72 _ _ _ s
      unfold k_X13_fitsRecord_72 k_X13_fitsRecord_103
      simp only [e7, e8, e0, fo]
    have c3 : b_X13_fitsRecord_2 (R_X13_fitsAt g) t = b_X13_fitsRecord_2 (R_X13_fitsAt g) s := funext fun y => by
      show k_X13_fitsRecord_2 _ _ _ _ t = k_X13_fitsRecord_2 _ _ _ _ s
      unfold k_X13_fitsRecord_2
      simp only [e6, c2, e9, fn, pt, i1]
    constructor
    · intro x y
      show m_X13_fitsAt _ x y t = m_X13_fitsAt _ x y s
      unfold m_X13_fitsAt k_X13_fitsAt_254 k_X13_fitsAt_255 k_X13_fitsAt_189 f_X13_in
      simp only [mt, e5, e6, ir, hp, fn, e7, e8, e9, c1, i1, i2]
    · intro x y
      show m_X13_fitsRecord _ x y t = m_X13_fitsRecord _ x y s
      unfold m_X13_fitsRecord
      rw [c3]
end
