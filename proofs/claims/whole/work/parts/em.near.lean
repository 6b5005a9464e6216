/-! Level 2: late faults: two sets that differ only behind what they share. -/
section
variable {f p f' p' : Int32} {S S' : Nat → Int32 → Prop}
/-- S goes into S', but for what stands behind something shared -/
def lN_R (S S' : Nat → Int32 → Prop) : Prop := ∀ a b, S a b → S' a b ∨ ∃ a' b', S a' b' ∧ S' a' b' ∧ b'.toInt < b.toInt
theorem ls_R.near (h : ls_R f p S) (h' : ls_R f' p' S') (g : lN_R S S') (g' : lN_R S' S) : f = f' ∧ (f ≠ 0 → p = p') := by
  rcases h with ⟨h1, h2⟩ | ⟨k, h1, h2, h4, h5⟩
  · rcases h' with ⟨g1, g2⟩ | ⟨k', g1, g2, g4, g5⟩
    · exact ⟨h1.trans g1.symm, fun y => absurd h1 y⟩
    · rcases g' k' p' g4 with z | ⟨a, b, _, z, _⟩
      · exact absurd z (h2 _ _)
      · exact absurd z (h2 _ _)
  · rcases h' with ⟨g1, g2⟩ | ⟨k', g1, g2, g4, g5⟩
    · rcases g k p h4 with z | ⟨a, b, _, z, _⟩
      · exact absurd z (g2 _ _)
      · exact absurd z (g2 _ _)
    · have m1 : S' k p := by
        rcases g k p h4 with z | ⟨a, b, y, _, lt⟩
        · exact z
        · rcases h5 a b y with q | ⟨q, _⟩
          · omega
          · rw [q] at lt; omega
      have m2 : S k' p' := by
        rcases g' k' p' g4 with z | ⟨a, b, y, _, lt⟩
        · exact z
        · rcases g5 a b y with q | ⟨q, _⟩
          · omega
          · rw [q] at lt; omega
      have a1 := h5 k' p' m2
      have a2 := g5 k p m1
      have e1 : p = p' := by
        rcases a1 with a1 | ⟨a1, _⟩
        · rcases a2 with a2 | ⟨a2, _⟩
          · omega
          · exact a2.symm
        · exact a1
      subst e1
      have e2 : k = k' := by omega
      rw [h2, g2, e2]
      exact ⟨rfl, fun _ => rfl⟩
end
