/-! Level 2: the reference looks for a place for one: f_X13_finds. -/
section
variable {m R : Nat} {A : Nat → Nat → Prop}
/-- which one can have which place -/
def rN (m R : Nat) (A : Nat → Nat → Prop) (l e : Nat) : Prop := l < m ∧ A l e ∧ e < R
def rfW (b _j : Nat) : Prop := b = 1032 ∨ b = 1033
/-- what has been asked -/
def AK (s : t_S) (U : Nat → Prop) : Prop := ∀ e, e < 16 → (U e → s.1 1033 e = 1) ∧ (¬ U e → s.1 1033 e = 0)
theorem rf_go (hm : m ≤ 16) (hR : R ≤ 16) : ∀ (g d : Nat) (U : Nat → Prop) (w : Nat → Option Nat) (s : t_S) (l : Nat), 17 ≤ g + d → Dp U d → l < m → (∀ l, l < m → BS (s.1 1031 l) 16 (A l)) → OW s 1032 m w → AK s U → ∃ s', l2_fr rfW s s' ∧ ((∃ w', KS (rN m R A) w U l w' ∧ OW s' 1032 m w' ∧ R_X13_finds g (nI l) (nI R) s = some (1, s')) ∨ ∃ U', KF (rN m R A) w U l U' ∧ OW s' 1032 m w ∧ AK s' U' ∧ R_X13_finds g (nI l) (nI R) s = some (0, s')) := by
  intro g
  induction g with
  | zero => intro d U w s l h1 h2; have := h2.le; omega
  | succ g ih =>
    intro d U w s l hg hd hl hA hw hu
    have d16 := hd.le
    have e0 : R_X13_finds (g + 1) (nI l) (nI R) s = t_loop (b_X13_finds_2 (R_X13_finds g)) t_N (nI l, nI R, nI 0, s) := rfl
    rw [e0]
    have lp : ∀ (j k : Nat) (s1 : t_S) (Uc : Nat → Prop) (n : Nat), k + j = R → j < n → l2_fr rfW s s1 → (∀ e, U e → Uc e) → (∀ e, e < k → rN m R A l e → Uc e) → (∀ e, Uc e → ¬ U e → ∃ l', w e = some l' ∧ ∀ e2, rN m R A l' e2 → Uc e2) → OW s1 1032 m w → AK s1 Uc → ∃ s', l2_fr rfW s s' ∧ ((∃ w', KS (rN m R A) w U l w' ∧ OW s' 1032 m w' ∧ t_loop (b_X13_finds_2 (R_X13_finds g)) n (nI l, nI R, nI k, s1) = some (1, s')) ∨ ∃ U', KF (rN m R A) w U l U' ∧ OW s' 1032 m w ∧ AK s' U' ∧ t_loop (b_X13_finds_2 (R_X13_finds g)) n (nI l, nI R, nI k, s1) = some (0, s')) := by
      intro j
      induction j with
      | zero =>
        intro k s1 Uc n hk hn f h1 h2 h3 h4 h5
        obtain ⟨n, rfl⟩ : ∃ y, n = y + 1 := ⟨n - 1, by omega⟩
        refine ⟨s1, f, Or.inr ⟨Uc, ⟨h1, fun e he => h2 e ?_ he, h3⟩, h4, h5, l2_lpR ?_⟩⟩
        · have := he.2.2
          omega
        · show k_X13_finds_2 _ (nI l) (nI R) (nI k) s1 = _
          unfold k_X13_finds_2
          rw [if_pos (nI_le (show R ≤ k by omega) (by omega))]
          rfl
      | succ j ihj =>
        intro k s1 Uc n hk hn f h1 h2 h3 h4 h5
        obtain ⟨n, rfl⟩ : ∃ y, n = y + 1 := ⟨n - 1, by omega⟩
        have hA1 : ∀ l, l < m → BS (s1.1 1031 l) 16 (A l) := fun l hl => by rw [(f 1031 _ (by unfold rfW; omega)).1]; exact hA l hl
        have hb := ((hA1 l hl).test (e := k) (by omega) (by omega)).1
        have st : b_X13_finds_2 (R_X13_finds g) (nI l, nI R, nI k, s1) = (if ((s1.1 1031 l) >>> (nI k &&& 31)) &&& (1 : Int32) = (1 : Int32) then (if s1.1 1033 k = (0 : Int32) then (t_let (t_setI s1 1033 k 1) (fun s1 => if (s1.1 1032 k) < (0 : Int32) then some (.inr (1, t_setI s1 1032 k (nI l))) else ((R_X13_finds g (s1.1 1032 k) (nI R) s1).bind (fun r3 => if r3.1 = (0 : Int32) then some (.inl (nI l, nI R, nI (k + 1), r3.2)) else some (.inr (1, t_setI r3.2 1032 k (nI l))))))) else some (.inl (nI l, nI R, nI (k + 1), s1))) else some (.inl (nI l, nI R, nI (k + 1), s1))) := by
          show k_X13_finds_2 _ (nI l) (nI R) (nI k) s1 = _
          unfold k_X13_finds_2 k_X13_finds_69 k_X13_finds_60
          rw [if_neg (nI_ge (show k < R by omega) (by omega)), if_pos (l2_ix (by omega) (by decide)), nI_clamp (n := l) (by omega), nI_clamp (n := k) (by omega), nI_1]
          simp only [if_pos (l2_ix (j := k) (n := 16) (by omega) (by decide))]
          rfl
        have skip : (b_X13_finds_2 (R_X13_finds g) (nI l, nI R, nI k, s1) = some (.inl (nI l, nI R, nI (k + 1), s1))) → ¬ (A l k ∧ ¬ Uc k) → ∃ s', l2_fr rfW s s' ∧ ((∃ w', KS (rN m R A) w U l w' ∧ OW s' 1032 m w' ∧ t_loop (b_X13_finds_2 (R_X13_finds g)) (n + 1) (nI l, nI R, nI k, s1) = some (1, s')) ∨ ∃ U', KF (rN m R A) w U l U' ∧ OW s' 1032 m w ∧ AK s' U' ∧ t_loop (b_X13_finds_2 (R_X13_finds g)) (n + 1) (nI l, nI R, nI k, s1) = some (0, s')) := fun e q => by
          rw [l2_lpS e]
          refine ihj (k + 1) s1 Uc n (by omega) (by omega) f h1 (fun e he hN => ?_) h3 h4 h5
          by_cases ce : e = k
          · subst ce
            exact Classical.byContradiction (fun y => q ⟨hN.2.1, y⟩)
          · exact h2 e (by omega) hN
        by_cases c : A l k
        · rw [if_pos (hb.mpr c)] at st
          by_cases cu : Uc k
          · rw [(h5 k (by omega)).1 cu, if_neg (show ¬ (1 : Int32) = 0 by decide)] at st
            exact skip st (fun y => y.2 cu)
          · rw [if_pos ((h5 k (by omega)).2 cu), t_let] at st
            have Nk : rN m R A l k := ⟨hl, c, by omega⟩
            obtain ⟨s2, hs2⟩ : ∃ s2, s2 = t_setI s1 1033 k 1 := ⟨_, rfl⟩
            have f2 : l2_fr (fun b j => b = 1033) s1 s2 := by rw [hs2]; exact l2_fr.set rfl
            have u2 : AK s2 (fun e => Uc e ∨ e = k) := fun e he => by
              rw [hs2, l2_g]
              by_cases ce : e = k
              · rw [if_pos (by omega)]
                exact ⟨fun _ => rfl, fun y => absurd (Or.inr ce) y⟩
              · rw [if_neg (by omega)]
                exact ⟨fun y => (h5 e he).1 (y.resolve_right ce), fun y => (h5 e he).2 (fun z => y (Or.inl z))⟩
            have w2 : OW s2 1032 m w := fun e he => by rw [(f2 1032 e (by omega)).1]; exact h4 e he
            rw [← hs2] at st
            have q := w2 k (by omega)
            rw [q.1] at st
            by_cases cn : w k = none
            · rw [if_pos ((ow_lt (fun l y => by have := q.2 l y; omega)).mpr cn)] at st
              refine ⟨_, (f.trans (f2.mono (fun b j y => Or.inr y))).trans (l2_fr.set (Or.inl rfl)), Or.inl ⟨ku w k l, KS.weak h1 (KS.free cu Nk cn), w2.set hl, l2_lpR st⟩⟩
            · rw [if_neg (fun y => cn ((ow_lt (fun l y => by have := q.2 l y; omega)).mp y))] at st
              cases hw' : w k with
              | none => exact absurd hw' cn
              | some l' =>
                have l'm := q.2 l' hw'
                rw [hw'] at st
                obtain ⟨s3, f3, O⟩ := ih (d + 1) (fun x => Uc x ∨ x = k) w s2 l' (by omega) ((hd.mono h1).succ (by omega) cu) l'm (fun l hl => by rw [(f2 1031 _ (by omega)).1]; exact hA1 l hl) w2 u2
                have ff := (f.trans (f2.mono (fun b j y => Or.inr y))).trans f3
                rcases O with ⟨w', k1, k2, k3⟩ | ⟨U', k1, k2, k3, k4⟩
                · rw [show ow (some l') = nI l' from rfl, k3, l2_bs, if_neg (show ¬ (1 : Int32) = 0 by decide)] at st
                  exact ⟨_, ff.trans (l2_fr.set (Or.inl rfl)), Or.inl ⟨ku w' k l, KS.weak h1 (KS.push cu Nk hw' k1), k2.set hl, l2_lpR st⟩⟩
                · rw [show ow (some l') = nI l' from rfl, k4, l2_bs, if_pos rfl] at st
                  rw [l2_lpS st]
                  refine ihj (k + 1) s3 U' n (by omega) (by omega) ff (fun e he => k1.1 e (Or.inl (h1 e he))) (fun e he hN => ?_) (fun e he hnu => ?_) k2 k3
                  · by_cases ce : e = k
                    · exact k1.1 e (Or.inr ce)
                    · exact k1.1 e (Or.inl (h2 e (by omega) hN))
                  · by_cases cu' : Uc e
                    · obtain ⟨l2, q1, q2⟩ := h3 e cu' hnu
                      exact ⟨l2, q1, fun e2 he2 => k1.1 e2 (Or.inl (q2 e2 he2))⟩
                    · by_cases ce : e = k
                      · subst ce
                        exact ⟨l', hw', k1.2.1⟩
                      · exact k1.2.2 e he (fun y => y.elim cu' ce)
        · rw [if_neg (fun y => c (hb.mp y))] at st
          exact skip st (fun y => c y.1)
    exact lp R 0 s U t_N (by omega) (by have := l2_N; omega) (l2_fr.rf) (fun _ y => y) (fun e he => by omega) (fun e he hn => absurd he hn) hw hu
end
