/-! Level 2: the class looks for an element for one part: f_X10_findsElement. -/
/-- who has an element, as a number -/
def ow (o : Option Nat) : Int32 := match o with
  | none => -1
  | some l => nI l
def OW (s : t_S) (b m : Nat) (w : Nat → Option Nat) : Prop := ∀ e, e < 16 → s.1 b e = ow (w e) ∧ ∀ l, w e = some l → l < m
/-- d elements have been looked at -/
def Dp (U : Nat → Prop) (d : Nat) : Prop := ∃ f : Nat → Nat, (∀ i, i < d → f i < 16 ∧ U (f i)) ∧ ∀ i j, i < j → j < d → f i ≠ f j
theorem Dp.le {U : Nat → Prop} {d : Nat} (h : Dp U d) : d ≤ 16 := by
  obtain ⟨f, h1, h2⟩ := h
  refine Classical.byContradiction (fun y => ?_)
  obtain ⟨a, b, a1, a2, a3⟩ := pg_h 16 f (fun i hi => (h1 i (by omega)).1)
  exact h2 a b a1 (by omega) a3
theorem Dp.mono {U V : Nat → Prop} {d : Nat} (h : Dp U d) (hv : ∀ e, U e → V e) : Dp V d := by
  obtain ⟨f, h1, h2⟩ := h
  exact ⟨f, fun i hi => ⟨(h1 i hi).1, hv _ (h1 i hi).2⟩, h2⟩
theorem Dp.succ {U : Nat → Prop} {d e : Nat} (h : Dp U d) (he : e < 16) (hu : ¬ U e) : Dp (fun x => U x ∨ x = e) (d + 1) := by
  obtain ⟨f, h1, h2⟩ := h
  refine ⟨fun i => if i = d then e else f i, fun i hi => ?_, fun i j hij hj => ?_⟩
  · show (if i = d then e else f i) < 16 ∧ (U (if i = d then e else f i) ∨ (if i = d then e else f i) = e)
    by_cases c : i = d
    · rw [if_pos c]; exact ⟨he, Or.inr rfl⟩
    · rw [if_neg c]
      have := h1 i (by omega)
      exact ⟨this.1, Or.inl this.2⟩
  · show (if i = d then e else f i) ≠ (if j = d then e else f j)
    rw [if_neg (show ¬ i = d by omega)]
    by_cases c : j = d
    · rw [if_pos c]
      intro y
      have := (h1 i (by omega)).2
      rw [y] at this
      exact hu this
    · rw [if_neg c]
      exact h2 i j hij (by omega)
theorem ow_lt {o : Option Nat} (h : ∀ l, o = some l → l < 1000) : (ow o < (0 : Int32)) ↔ o = none := by
  cases o with
  | none => exact ⟨fun _ => rfl, fun _ => by decide⟩
  | some l => exact ⟨fun y => absurd y (nI_pos (by have := h l rfl; omega)), fun y => no_sn y⟩
theorem OW.set {s : t_S} {b m k l : Nat} {w : Nat → Option Nat} (h : OW s b m w) (hl : l < m) : OW (t_setI s b k (nI l)) b m (ku w k l) := by
  intro e he
  by_cases c : e = k
  · subst c
    rw [l2_g, if_pos rfl, ku_at]
    exact ⟨rfl, fun l' y => by cases y; exact hl⟩
  · rw [l2_g, if_neg c, ku_ne c]
    exact h e he
section
variable {s : t_S} {R0 m : Nat} {A : Nat → Nat → Prop} {B : Nat → Prop}
/-- which part can have which element -/
def eN (m : Nat) (A : Nat → Nat → Prop) (B : Nat → Prop) (l e : Nat) : Prop := l < m ∧ A l e ∧ B e
def fW (b j : Nat) : Prop := b = 427 ∨ (b = 353 ∧ j = 20)
theorem fe_go (hm : m ≤ 12) (hR : R0 + 12 ≤ 1212) : ∀ (g d : Nat) (U : Nat → Prop) (w : Nat → Option Nat) (s : t_S) (l : Nat), 17 ≤ g + d → Dp U d → l < m → (∀ l, l < m → BS (s.1 426 (R0 + l)) 16 (A l)) → OW s 427 m w → BS (s.1 353 20) 16 (fun e => B e ∧ ¬ U e) → ∃ s', l2_fr fW s s' ∧ ((∃ w', KS (eN m A B) w U l w' ∧ OW s' 427 m w' ∧ R_X10_findsElement g (nI R0) (nI l) (nI d) s = some (1, s')) ∨ ∃ U', KF (eN m A B) w U l U' ∧ OW s' 427 m w ∧ BS (s'.1 353 20) 16 (fun e => B e ∧ ¬ U' e) ∧ R_X10_findsElement g (nI R0) (nI l) (nI d) s = some (0, s')) := by
  intro g
  induction g with
  | zero => intro d U w s l h1 h2; have := h2.le; omega
  | succ g ih =>
    intro d U w s l hg hd hl hA hw hu
    have d16 := hd.le
    have e0 : R_X10_findsElement (g + 1) (nI R0) (nI l) (nI d) s = t_loop (b_X10_findsElement_11 (R_X10_findsElement g)) t_N (nI R0, nI l, nI d, nI 0, s) := by
      show m_X10_findsElement (R_X10_findsElement g) (nI R0) (nI l) (nI d) s = _
      unfold m_X10_findsElement
      rw [if_pos (show nI d ≤ (16 : Int32) from nI_le (b := 16) (by omega) (by decide))]
      rfl
    rw [e0]
    have lp : ∀ (j k : Nat) (s1 : t_S) (Uc : Nat → Prop) (n : Nat), k + j = 16 → j < n → l2_fr fW s s1 → (∀ e, U e → Uc e) → (∀ e, e < k → eN m A B l e → Uc e) → (∀ e, Uc e → ¬ U e → ∃ l', w e = some l' ∧ ∀ e2, eN m A B l' e2 → Uc e2) → OW s1 427 m w → BS (s1.1 353 20) 16 (fun e => B e ∧ ¬ Uc e) → ∃ s', l2_fr fW s s' ∧ ((∃ w', KS (eN m A B) w U l w' ∧ OW s' 427 m w' ∧ t_loop (b_X10_findsElement_11 (R_X10_findsElement g)) n (nI R0, nI l, nI d, nI k, s1) = some (1, s')) ∨ ∃ U', KF (eN m A B) w U l U' ∧ OW s' 427 m w ∧ BS (s'.1 353 20) 16 (fun e => B e ∧ ¬ U' e) ∧ t_loop (b_X10_findsElement_11 (R_X10_findsElement g)) n (nI R0, nI l, nI d, nI k, s1) = some (0, s')) := by
      intro j
      induction j with
      | zero =>
        intro k s1 Uc n hk hn f h1 h2 h3 h4 h5
        obtain ⟨n, rfl⟩ : ∃ y, n = y + 1 := ⟨n - 1, by omega⟩
        refine ⟨s1, f, Or.inr ⟨Uc, ⟨h1, fun e he => h2 e ?_ he, h3⟩, h4, h5, l2_lpR ?_⟩⟩
        · have := (hA l hl).lt he.2.1
          omega
        · show k_X10_findsElement_11 _ (nI R0) (nI l) (nI d) (nI k) s1 = _
          unfold k_X10_findsElement_11
          rw [if_pos (show (16 : Int32) ≤ nI k from nI_le (a := 16) (by omega) (by omega))]
          rfl
      | succ j ihj =>
        intro k s1 Uc n hk hn f h1 h2 h3 h4 h5
        obtain ⟨n, rfl⟩ : ∃ y, n = y + 1 := ⟨n - 1, by omega⟩
        have hA1 : ∀ l, l < m → BS (s1.1 426 (R0 + l)) 16 (A l) := fun l hl => by rw [(f 426 _ (by unfold fW; omega)).1]; exact hA l hl
        have hb := ((hA1 l hl).and h5).and (BS.bit (e := k) (n := 16) (by omega) (by omega))
        have hz := hb.z (by omega)
        have st : b_X10_findsElement_11 (R_X10_findsElement g) (nI R0, nI l, nI d, nI k, s1) = (if (((s1.1 426 (R0 + l)) &&& (s1.1 353 20)) &&& ((1 : Int32) <<< (nI k &&& 31))) = (0 : Int32) then some (.inl (nI R0, nI l, nI d, nI (k + 1), s1)) else (t_let (t_setI s1 353 20 ((s1.1 353 20) &&& (((1 : Int32) <<< (nI k &&& 31)) ^^^ (-1 : Int32)))) (fun s1 => if (s1.1 427 k) < (0 : Int32) then some (.inr (1, t_setI s1 427 k (nI l))) else ((R_X10_findsElement g (nI R0) (s1.1 427 k) (nI (d + 1)) s1).bind (fun r3 => if r3.1 = (0 : Int32) then some (.inl (nI R0, nI l, nI d, nI (k + 1), r3.2)) else some (.inr (1, t_setI r3.2 427 k (nI l)))))))) := by
          show k_X10_findsElement_11 _ (nI R0) (nI l) (nI d) (nI k) s1 = _
          unfold k_X10_findsElement_11 k_X10_findsElement_92 k_X10_findsElement_82
          rw [if_neg (show ¬ (16 : Int32) ≤ nI k from nI_ge (show k < 16 by omega) (by decide)), nI_add, if_pos (l2_ix (by omega) (by decide)), nI_clamp (n := R0 + l) (by omega), nI_clamp (n := k) (by omega), nI_1, nI_1]
          simp only [if_pos (l2_ix (j := k) (n := 16) (by omega) (by decide))]
          rfl
        by_cases c : (((s1.1 426 (R0 + l)) &&& (s1.1 353 20)) &&& ((1 : Int32) <<< (nI k &&& 31))) = (0 : Int32)
        · rw [if_pos c] at st
          rw [l2_lpS st]
          refine ihj (k + 1) s1 Uc n (by omega) (by omega) f h1 (fun e he hN => ?_) h3 h4 h5
          by_cases ce : e = k
          · subst ce
            refine Classical.byContradiction (fun y => hz.mp c e ⟨⟨hN.2.1, hN.2.2, y⟩, rfl⟩)
          · exact h2 e (by omega) hN
        · rw [if_neg c, t_let] at st
          have hk' : A l k ∧ B k ∧ ¬ Uc k := Classical.byContradiction (fun y => c (hz.mpr (fun e he => y (by obtain ⟨⟨q1, q2, q3⟩, rfl⟩ := he; exact ⟨q1, q2, q3⟩))))
          have Nk : eN m A B l k := ⟨hl, hk'.1, hk'.2.1⟩
          obtain ⟨s2, hs2⟩ : ∃ s2, s2 = t_setI s1 353 20 ((s1.1 353 20) &&& (((1 : Int32) <<< (nI k &&& 31)) ^^^ (-1 : Int32))) := ⟨_, rfl⟩
          have f2 : l2_fr (fun b j => b = 353 ∧ j = 20) s1 s2 := by rw [hs2]; exact l2_fr.set ⟨rfl, rfl⟩
          have u2 : BS (s2.1 353 20) 16 (fun e => B e ∧ ¬ (Uc e ∨ e = k)) := by
            rw [hs2, l2_g, if_pos rfl]
            exact (h5.off (by omega) (by omega)).iff (fun e => ⟨fun y => ⟨y.1.1, fun z => z.elim y.1.2 y.2⟩, fun y => ⟨⟨y.1, fun z => y.2 (Or.inl z)⟩, fun z => y.2 (Or.inr z)⟩⟩)
          have w2 : OW s2 427 m w := fun e he => by rw [(f2 427 e (by omega)).1]; exact h4 e he
          rw [← hs2] at st
          have q := w2 k (by omega)
          rw [q.1] at st
          by_cases cn : w k = none
          · rw [if_pos ((ow_lt (fun l y => by have := q.2 l y; omega)).mpr cn)] at st
            refine ⟨_, (f.trans (f2.mono (fun b j y => Or.inr y))).trans (l2_fr.set (Or.inl rfl)), Or.inl ⟨ku w k l, KS.weak h1 (KS.free hk'.2.2 Nk cn), w2.set hl, l2_lpR st⟩⟩
          · rw [if_neg (fun y => cn ((ow_lt (fun l y => by have := q.2 l y; omega)).mp y))] at st
            cases hw' : w k with
            | none => exact absurd hw' cn
            | some l' =>
              have l'm := q.2 l' hw'
              rw [hw'] at st
              obtain ⟨s3, f3, O⟩ := ih (d + 1) (fun x => Uc x ∨ x = k) w s2 l' (by omega) ((hd.mono h1).succ (by omega) hk'.2.2) l'm (fun l hl => by rw [(f2 426 _ (by omega)).1]; exact hA1 l hl) w2 u2
              have ff := (f.trans (f2.mono (fun b j y => Or.inr y))).trans f3
              rcases O with ⟨w', k1, k2, k3⟩ | ⟨U', k1, k2, k3, k4⟩
              · rw [show ow (some l') = nI l' from rfl, k3, l2_bs, if_neg (show ¬ (1 : Int32) = 0 by decide)] at st
                exact ⟨_, ff.trans (l2_fr.set (Or.inl rfl)), Or.inl ⟨ku w' k l, KS.weak h1 (KS.push hk'.2.2 Nk hw' k1), k2.set hl, l2_lpR st⟩⟩
              · rw [show ow (some l') = nI l' from rfl, k4, l2_bs, if_pos rfl] at st
                rw [l2_lpS st]
                refine ihj (k + 1) s3 U' n (by omega) (by omega) ff (fun e he => k1.1 e (Or.inl (h1 e he))) (fun e he hN => ?_) (fun e he hnu => ?_) k2 k3
                · by_cases ce : e = k
                  · exact k1.1 e (Or.inr ce)
                  · exact k1.1 e (Or.inl (h2 e (by omega) hN))
                · by_cases cu : Uc e
                  · obtain ⟨l2, q1, q2⟩ := h3 e cu hnu
                    exact ⟨l2, q1, fun e2 he2 => k1.1 e2 (Or.inl (q2 e2 he2))⟩
                  · by_cases ce : e = k
                    · subst ce
                      exact ⟨l', hw', k1.2.1⟩
                    · exact k1.2.2 e he (fun y => y.elim cu ce)
    exact lp 16 0 s U t_N (by omega) (by have := l2_N; omega) (l2_fr.rf) (fun _ y => y) (fun e he => by omega) (fun e he hn => absurd he hn) hw hu
end
