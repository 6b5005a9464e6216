/-! Level 2: FITS on both sides. -/
section
variable {T a m : Nat} {R : Nat → Nat → Prop} {s s1 : t_S} {l i0 : Nat}
/-- the reference's walk over a record's VALUES, then over the type's fields -/
theorem rr_go {rc : RT_X13_fitsAt} {p kd vt v : Nat} {G X O Y B : Nat → Nat} {nk : Nat → Nat} {W : Nat → Int32} (hp : p + 2 + v < 626600) (hv1 : s.2.1 1006 (p + 1) = lN v) (hv : v ≤ 120) (hn : kd < 13000) (hvt : vt ≤ 16) (hc : ch_R s kd vt G) (hG : ∀ j, j < vt → s.2.1 957 (G j) = lN (X j) ∧ X j < 7934 ∧ O j ≤ 1 ∧ s.2.1 958 (G j) = lN (O j) ∧ s.1 959 (G j) = nI (nk j)) (hY : ∀ j, j < v → s.2.1 1006 (p + 2 + j) = lN (Y j) ∧ Y j < 7934) (hB : ∀ j, j < v → f_X13_partOf (nI p) (nI j) s = some (nI (B j)) ∧ (ff X (Y j) vt 0 < vt → rc.1 (nI (B j)) (nI (nk (ff X (Y j) vt 0))) s = some (W j) ∧ (W j = 0 ∨ W j = 1))) (hf : ∀ x, x < 7934 → ∃ b, f_X13_fieldOf (nI p) (lN x) s = some b ∧ ((0 : Int32) ≤ b ↔ ∃ q, q < v ∧ Y q = x)) : ∃ w : Int32, (w = 0 ∨ w = 1) ∧ m_X13_fitsRecord rc (nI p) (nI kd) s = some w ∧ (w = 1 ↔ (∀ j, j < v → ff X (Y j) vt 0 < vt ∧ W j = 1) ∧ sy_cn (fn_S O X Y v) vt = 0) := by
  have ix1 : t_ix (nI p + 1) 626600 = true := by rw [nI_1]; exact l2_ix (by omega) (by decide)
  have ixk : t_ix (nI kd) 13000 = true := l2_ix hn (by decide)
  -- over the type's fields
  have tail : ∃ w : Int32, (w = 0 ∨ w = 1) ∧ t_loop (b_X13_fitsRecord_72 rc s) t_N (nI p, (if 0 < vt then nI (G 0) else -1)) = some w ∧ (w = 1 ↔ sy_cn (fn_S O X Y v) vt = 0) := by
    obtain ⟨q1, q2, q3⟩ := fz_at (W := fun j => if fn_S O X Y v j = 0 then (1 : Int32) else 0) (v := vt)
    generalize fz (fun j => if fn_S O X Y v j = 0 then (1 : Int32) else 0) vt = z at *
    have q2 : ∀ j, j < z → fn_S O X Y v j = 0 := fun j hj => by
      have y := q2 j hj
      refine Classical.byContradiction (fun c => y ?_)
      show (if fn_S O X Y v j = 0 then (1 : Int32) else 0) = 0
      rw [if_neg c]
    have q3 : z < vt → fn_S O X Y v z ≠ 0 := fun hz c => by
      have y := q3 hz
      have y : (if fn_S O X Y v z = 0 then (1 : Int32) else 0) = 0 := y
      rw [if_pos c] at y
      exact absurd y (by decide)
    have un : ∀ j, fn_S O X Y v j = 0 ↔ ¬ (O j = 0 ∧ ∀ q, q < v → Y q ≠ X j) := fun j => by
      unfold fn_S
      by_cases c : O j = 0 ∧ ∀ q, q < v → Y q ≠ X j
      · rw [if_pos c]; exact ⟨fun y => absurd y (by decide), fun y => absurd c y⟩
      · rw [if_neg c]; exact ⟨fun _ => c, fun _ => rfl⟩
    refine ⟨if z < vt then 0 else 1, by split; exact Or.inl rfl; exact Or.inr rfl, ?_, ?_⟩
    · refine l2_srch (b := b_X13_fitsRecord_72 rc s) (Y := fun j => (nI p, (if j < vt then nI (G j) else -1))) (j := z) (by omega) (fun j hj => ?_) ?_
      · have jv : j < vt := by omega
        obtain ⟨c1, c2, c3, c4⟩ := hc.2 j jv
        obtain ⟨f1, f2, f3, f4, f5⟩ := hG j jv
        have nz := (un j).mp (q2 j hj)
        show k_X13_fitsRecord_72 rc (nI p) (if j < vt then nI (G j) else -1) s = _
        unfold k_X13_fitsRecord_72 k_X13_fitsRecord_103
        have ix : t_ix (nI (G j)) 13000 = true := l2_ix c1 (by decide)
        rw [if_pos jv, if_neg (nI_pos (by omega)), if_pos ix, nI_clamp (n := G j) (by omega), if_pos ix, f4, f1, c3]
        by_cases o : O j = 0
        · obtain ⟨b, b1, b2⟩ := hf (X j) f2
          rw [if_pos (l2_cmp0.mpr (by rw [o]; rfl)), b1, l2_bs, if_pos (b2.mpr (Classical.byContradiction (fun y => nz ⟨o, fun q hq e => y ⟨q, hq, e⟩⟩)))]
        · rw [if_neg (show ¬ lg_cmp (lN (O j)) (0 : Int64) = 0 from fun y => o ((lN_eq (b := 0) (by omega) (by decide)).mp (show lN (O j) = lN 0 from l2_cmp0.mp y)))]
      · show k_X13_fitsRecord_72 rc (nI p) (if z < vt then nI (G z) else -1) s = _
        unfold k_X13_fitsRecord_72
        by_cases c : z < vt
        · obtain ⟨c1, c2, c3, c4⟩ := hc.2 z c
          obtain ⟨f1, f2, f3, f4, f5⟩ := hG z c
          obtain ⟨o, o2⟩ := Classical.byContradiction (fun y => q3 c ((un z).mpr y))
          obtain ⟨b, b1, b2⟩ := hf (X z) f2
          have ix : t_ix (nI (G z)) 13000 = true := l2_ix c1 (by decide)
          rw [if_pos c, if_neg (nI_pos (by omega)), if_pos ix, nI_clamp (n := G z) (by omega), f4, f1, if_pos (l2_cmp0.mpr (by rw [o]; rfl)), b1, l2_bs, if_neg (fun y => by
            obtain ⟨q, hq, e⟩ := b2.mp y
            exact o2 q hq e), if_pos c]
          rfl
        · rw [if_neg c, if_pos (by decide), if_neg c]
          rfl
    · by_cases c : z < vt
      · rw [if_pos c]
        refine ⟨fun y => absurd y (by decide), fun y => absurd ((sy_cn_z vt).mp y z c) (q3 c)⟩
      · rw [if_neg c]
        exact ⟨fun _ => (sy_cn_z vt).mpr (fun j hj => q2 j (by omega)), fun _ => rfl⟩
  obtain ⟨wt, t1, t2, t3⟩ := tail
  -- over the VALUE's fields
  obtain ⟨q1, q2, q3⟩ := fz_at (W := fun j => @ite Int32 (ff X (Y j) vt 0 < vt ∧ W j = 1) (Classical.propDecidable _) 1 0) (v := v)
  generalize fz (fun j => @ite Int32 (ff X (Y j) vt 0 < vt ∧ W j = 1) (Classical.propDecidable _) 1 0) v = z at *
  have q2 : ∀ j, j < z → ff X (Y j) vt 0 < vt ∧ W j = 1 := fun j hj => by
    have y := q2 j hj
    refine Classical.byContradiction (fun c => y ?_)
    show @ite Int32 (ff X (Y j) vt 0 < vt ∧ W j = 1) (Classical.propDecidable _) 1 0 = 0
    rw [if_neg c]
  have q3 : z < v → ¬ (ff X (Y z) vt 0 < vt ∧ W z = 1) := fun hz c => by
    have y := q3 hz
    have y : @ite Int32 (ff X (Y z) vt 0 < vt ∧ W z = 1) (Classical.propDecidable _) 1 0 = 0 := y
    rw [if_pos c] at y
    exact absurd y (by decide)
  have all : (∀ j, j < v → ff X (Y j) vt 0 < vt ∧ W j = 1) ↔ ¬ z < v := ⟨fun y c => q3 c (y z c), fun c j hj => q2 j (by omega)⟩
  have fo : ∀ j, j < v → f_X13_fieldNode (nI kd) (lN (Y j)) s = some (if ff X (Y j) vt 0 < vt then nI (G (ff X (Y j) vt 0)) else -1) := fun j hj => mt_fr hn hvt hc (fun j hj => ⟨(hG j hj).1, (hG j hj).2.1⟩) (hY j hj).2
  refine ⟨if z < v then 0 else wt, by split; exact Or.inl rfl; exact t1, ?_, ?_⟩
  · unfold m_X13_fitsRecord
    refine l2_srch (b := b_X13_fitsRecord_2 rc s) (Y := fun j => (nI p, nI kd, nI j)) (j := z) (by omega) (fun j hj => ?_) ?_
    · have jv : j < v := by omega
      obtain ⟨e1, e2⟩ := q2 j hj
      obtain ⟨b1, b2⟩ := hB j jv
      obtain ⟨b3, _⟩ := b2 e1
      have cG := (hc.2 _ e1).1
      show k_X13_fitsRecord_2 rc (nI p) (nI kd) (nI j) s = _
      unfold k_X13_fitsRecord_2
      rw [if_pos ix1, nI_1, nI_clamp (n := p + 1) (by omega), hv1, lN_i, if_neg (nI_ge jv (by omega)), show (2 : Int32) = nI 2 from rfl, nI_add, nI_add, if_pos (l2_ix (by omega) (by decide)), nI_clamp (n := p + 2 + j) (by omega), (hY j jv).1, fo j jv, if_pos e1, l2_bs, if_neg (nI_pos (by omega)), b1, l2_bs, if_pos (l2_ix cG (by decide)), nI_clamp (n := G (ff X (Y j) vt 0)) (by omega), (hG _ e1).2.2.2.2, b3, l2_bs, e2, if_neg (show ¬ (1 : Int32) = 0 by decide), nI_1]
    · show k_X13_fitsRecord_2 rc (nI p) (nI kd) (nI z) s = _
      unfold k_X13_fitsRecord_2
      rw [if_pos ix1, nI_1, nI_clamp (n := p + 1) (by omega), hv1, lN_i]
      by_cases c : z < v
      · obtain ⟨b1, b2⟩ := hB z c
        rw [if_neg (nI_ge c (by omega)), show (2 : Int32) = nI 2 from rfl, nI_add, nI_add, if_pos (l2_ix (by omega) (by decide)), nI_clamp (n := p + 2 + z) (by omega), (hY z c).1, fo z c, if_pos c, l2_bs]
        by_cases e : ff X (Y z) vt 0 < vt
        · obtain ⟨b3, b4⟩ := b2 e
          have cG := (hc.2 _ e).1
          have w0 : W z = 0 := b4.resolve_right (fun y => q3 c ⟨e, y⟩)
          rw [if_pos e, if_neg (nI_pos (by omega)), b1, l2_bs, if_pos (l2_ix cG (by decide)), nI_clamp (n := G (ff X (Y z) vt 0)) (by omega), (hG _ e).2.2.2.2, b3, l2_bs, w0, if_pos rfl]
          rfl
        · rw [if_neg e, if_pos (by decide)]
          rfl
      · have e : z = v := by omega
        subst e
        rw [if_pos (nI_le (Nat.le_refl _) (by omega)), if_pos ixk, nI_clamp (n := kd) (by omega), hc.1, t2, if_neg c]
        rfl
  · by_cases c : z < v
    · rw [if_pos c]
      exact ⟨fun y => absurd y (by decide), fun y => absurd c (all.mp y.1)⟩
    · rw [if_neg c, t3]
      exact ⟨fun y => ⟨all.mpr c, y⟩, fun y => y.2⟩
end
