/-! Level 2: FITS: any VALUE, any type, both sides at once. -/
section
variable {T a m : Nat} {R : Nat → Nat → Prop} {s s1 : t_S} {l i0 : Nat}
theorem w333 {s s1 : t_S} (f : l2_fr (fun b _ => b = 333) s s1) : (∀ b j, b ≠ 333 → s1.1 b j = s.1 b j) ∧ ∀ b j, b ≠ 333 → s1.2.1 b j = s.2.1 b j := ⟨fun b j hb => (f b j hb).1, fun b j hb => (f b j hb).2.1⟩
theorem om_1 {i n u I0 Iv : Nat} (q2 : u ≤ i + 1 + Iv - (i + 1 + I0)) (e0 : i + 1 + I0 = i + 1) (ev : i + 1 + Iv = i + n) (hn : 0 < n) : 1 + u ≤ n := by omega
theorem om_2 {i n j I0 Iv : Nat} (h : j ≤ i ∨ i + n ≤ j) (e0 : i + 1 + I0 = i + 1) (ev : i + 1 + Iv = i + n) : j < i + 1 + I0 ∨ i + 1 + Iv ≤ j := by omega
theorem om_3 {i n j Ib Iv : Nat} (h : j ≤ i ∨ i + n ≤ j) (ev : i + 1 + Iv = i + n) (q : Ib < Iv) : j ≠ i + 1 + Ib := by omega
theorem om_4 {i n j Ib Iv : Nat} (h : j ≤ i ∨ i + n ≤ j) (ev : i + 1 + Iv = i + n) (q : Ib + 1 < Iv) : j ≠ i + 1 + Ib + 1 := by omega
theorem ft_go (h : MT T a m R s) (hl : l ≠ 333) (hok : t_oka l 2 (t_ln l) = true) (hL : t_ln l < 1000000000) : ∀ f i p n q, VW (fun j => s.2.1 l (i0 + j)) (s.2.1 1006) f i p n q → p + q < 626600 → f ≤ 400 → ∀ nd kd g, R nd kd → 2 * f ≤ g → ∃ w : Int32, (w = 0 ∨ w = 1) ∧ (R_X13_fitsAt g).1 (nI p) (nI kd) s = some w ∧ ftC s l i0 i n nd w := by
  intro f
  induction f with
  | zero => intro i p n q hV; exact hV.elim
  | succ f ih =>
    intro i p n q hV hq hf nd kd g hR hg
    obtain ⟨g, rfl⟩ : ∃ y, g = y + 2 := ⟨g - 2, by omega⟩
    obtain ⟨nd', kd', R', n8, rs, rm, _, _⟩ := mt_meant h hR
    obtain ⟨a1, a2, K, K1, K7, e1, e2, hK⟩ := mt_at h R' n8
    have bn := (h.2.1 nd kd hR).1
    have a3 := h.1.1
    have hm2 := hV.m2
    obtain ⟨⟨hn, hn2, hm⟩, t, k, hc, hr, h6⟩ := hV
    have hc : vl_c t n k (s.2.1 l (i0 + i)) := hc
    have k8 : k ≤ 8 := by
      rcases h6 with ⟨y, _⟩ | ⟨y, _⟩ | ⟨y, _⟩ | ⟨v, y, _⟩ | ⟨y, _⟩ | ⟨v, I, P, y, _⟩ | ⟨v, I, P, X, y, _⟩ <;> omega
    have hp1 : p + 1 < 626600 := by omega
    have rs' : ∀ s1, l2_fr (fun b _ => b = 333) s s1 → f_X11_resolve (nI nd) s1 = some (nI nd') := fun s1 fr => by rw [(hs_st fr).1]; exact rs
    have hc1 : ∀ s1 : t_S, l2_fr (fun b _ => b = 333) s s1 → vl_c t n k (s1.2.1 l (i0 + i)) := fun s1 fr => by rw [(fr l _ hl).2.1]; exact hc
    have leaf : ∀ w : Int32, (w = 0 ∨ w = 1) → (R_X13_fitsAt (g + 2)).1 (nI p) (nI kd) s = some w → (∀ s1, l2_fr (fun b _ => b = 333) s s1 → i < 120 → i0 + i < t_ln l → f_X11_holdsHere l (nI i0) (nI i) (nI nd') s1 = some (w, s1)) → ∃ w : Int32, (w = 0 ∨ w = 1) ∧ (R_X13_fitsAt (g + 2)).1 (nI p) (nI kd) s = some w ∧ ftC s l i0 i n nd w := fun w h01 hr hh => ⟨w, h01, hr, ft_leaf hn (by omega) h01 rs' hh⟩
    have M : (R_X13_fitsAt (g + 2)).1 (nI p) (nI kd) s = m_X13_fitsAt (R_X13_fitsAt (g + 1)) (nI p) (nI kd) s := rfl
    have e1' : ∀ s1 : t_S, l2_fr (fun b _ => b = 333) s s1 → s1.1 317 nd' = nI K := fun s1 fr => ((w333 fr).1 317 nd' (by decide)).trans e1
    rcases hK with ⟨rfl, hI⟩ | rfl | ⟨rfl, hS⟩ | ⟨rfl, hE⟩ | ⟨hK, vt, F, G, X, O, v16, v6, h21, hcF, hcG, hX, hF⟩ | ⟨rfl, hS, n', k', h18, h9, hR'⟩ | ⟨rfl, _⟩
    · -- numbers
      by_cases z : k = 0
      · subst z
        rcases h6 with ⟨y, y2, y3, y4⟩ | ⟨y, _⟩ | ⟨y, _⟩ | ⟨v, y, _⟩ | ⟨y, _⟩ | ⟨v, I, P, y, _⟩ | ⟨v, I, P, X, y, _⟩
        · obtain ⟨w, w1, w2, w3⟩ := mt_range a1 a2 hI (x := s.2.1 1006 (p + 1)) (by rw [y4]; omega)
          refine leaf w w1 ?_ (fun s1 fr b1 b2 => ?_)
          · rw [M, rh1 (by omega) a2 rm e2 hr k8, if_pos rfl, w3, l2_bs]
            rcases w1 with rfl | rfl <;> rfl
          · have et : f_X8_told (s1.2.1 l (i0 + i)) s1 = s.2.1 1006 (p + 1) := Int64.toInt_inj.mp ((vl_told (hc1 s1 fr)).trans y4.symm)
            rw [hh1 hok hL b2 a1 (e1' s1 fr) (hc1 s1 fr) k8, if_pos rfl, et, (hs_st fr).2.1, w2, l2_bs]
            rcases w1 with rfl | rfl <;> rfl
        all_goals omega
      · refine leaf 0 (Or.inl rfl) ?_ (fun s1 fr b1 b2 => ?_)
        · rw [M, rh1 hp1 a2 rm e2 hr k8, if_neg z]
        · rw [hh1 hok hL b2 a1 (e1' s1 fr) (hc1 s1 fr) k8, if_neg z]
    · -- truths
      by_cases z : k = 1
      · refine leaf 1 (Or.inr rfl) ?_ (fun s1 fr b1 b2 => ?_)
        · rw [M, rh2 hp1 a2 rm e2 hr k8, if_pos z]
        · rw [hh2 hok hL b2 a1 (e1' s1 fr) (hc1 s1 fr) k8, if_pos z]
      · refine leaf 0 (Or.inl rfl) ?_ (fun s1 fr b1 b2 => ?_)
        · rw [M, rh2 hp1 a2 rm e2 hr k8, if_neg z]
        · rw [hh2 hok hL b2 a1 (e1' s1 fr) (hc1 s1 fr) k8, if_neg z]
    · -- texts
      obtain ⟨lo, hi, s1', s2', s3, s4, s5, s6⟩ := hS
      by_cases z : k = 2
      · subst z
        rcases h6 with ⟨y, _⟩ | ⟨y, _⟩ | ⟨y, _⟩ | ⟨v, _, y2, y3, y4, y5, y6, _⟩ | ⟨y, _⟩ | ⟨v, I, P, y, _⟩ | ⟨v, I, P, X, y, _⟩
        · omega
        · omega
        · omega
        · have ls : (lN v).toInt = v ∧ (lN lo).toInt = lo ∧ (lN hi).toInt = hi := ⟨pk_lT (by omega), pk_lT (by omega), pk_lT (by omega)⟩
          refine leaf (if lo ≤ v ∧ v ≤ hi then 1 else 0) (by split; exact Or.inr rfl; exact Or.inl rfl) ?_ (fun s1 fr b1 b2 => ?_)
          · rw [M, rh3 hp1 a2 rm e2 hr k8, if_pos rfl, y6, s5, s6, fin_r, ls.1, ls.2.1, ls.2.2]
            by_cases c : lo ≤ v ∧ v ≤ hi
            · rw [if_pos (show ((lo : Int) ≤ v ∧ (v : Int) ≤ hi) by omega), if_neg (by decide), if_pos c]
            · rw [if_neg (show ¬ ((lo : Int) ≤ v ∧ (v : Int) ≤ hi) by omega), if_pos rfl, if_neg c]
          · have et : f_X8_told (s1.2.1 l (i0 + i)) s1 = lN v := Int64.toInt_inj.mp ((vl_told (hc1 s1 fr)).trans (by rw [ls.1]; exact y2))
            rw [hh3 hok hL b2 a1 (e1' s1 fr) (hc1 s1 fr) k8, if_pos rfl, et, (w333 fr).2 322 nd' (by decide), (w333 fr).2 323 nd' (by decide), s3, s4]
            by_cases c1 : v < lo
            · rw [if_pos (t_cmp_lt.mpr (by rw [ls.1, ls.2.1]; omega)), if_neg (by omega)]
            · rw [if_neg (fun y => by have y := t_cmp_lt.mp y; rw [ls.1, ls.2.1] at y; omega)]
              by_cases c2 : hi < v
              · rw [if_pos (t_cmp_gt.mpr (by rw [ls.1, ls.2.2]; omega)), if_neg (by omega)]
              · rw [if_neg (fun y => by have y := t_cmp_gt.mp y; rw [ls.1, ls.2.2] at y; omega), if_pos (by omega)]
        · omega
        · omega
        · omega
      · refine leaf 0 (Or.inl rfl) ?_ (fun s1 fr b1 b2 => ?_)
        · rw [M, rh3 hp1 a2 rm e2 hr k8, if_neg z]
        · rw [hh3 hok hL b2 a1 (e1' s1 fr) (hc1 s1 fr) k8, if_neg z]
    · -- words
      obtain ⟨v, g0, G, X, v0, v16, h21, h18, hg0, hcG, hG, hX⟩ := hE
      by_cases z : k = 3
      · subst z
        rcases h6 with ⟨y, _⟩ | ⟨_, y2, y3, Z, y4, y5, y6⟩ | ⟨y, _⟩ | ⟨v, y, _⟩ | ⟨y, _⟩ | ⟨v, I, P, y, _⟩ | ⟨v, I, P, X, y, _⟩
        · omega
        · have hw := mt_hp (x := Z) a2 v16 hcG (fun j hj => ⟨(hG j hj).2.2.2.1, (hG j hj).2.2.1⟩) y4
          have hm := mt_me (x := Z) a1 v16 h21 h18 hg0 (fun j hj => ⟨(hG j hj).2.2.2.2, (hG j hj).2.2.1⟩) y4
          refine leaf (if ff X Z v 0 < v then 1 else 0) (by split; exact Or.inr rfl; exact Or.inl rfl) ?_ (fun s1 fr b1 b2 => ?_)
          · rw [M, rh4 hp1 a2 rm e2 hr k8, if_pos rfl, y6, hw, l2_bs]
            by_cases c : ff X Z v 0 < v
            · rw [if_pos c, if_neg (by decide)]
            · rw [if_neg c, if_pos rfl]
          · have ew : f_X8_wordOf (s1.2.1 l (i0 + i)) s1 = nI (66 + Z) := by
              unfold f_X8_wordOf
              have := hc1 s1 fr
              rw [y5] at this
              rw [vl_i32 (v := Z + 66) this (by omega), Nat.add_comm]
            rw [hh4 hok hL b2 a1 (e1' s1 fr) (hc1 s1 fr) k8, if_pos rfl, ew, (hs_st fr).2.2.1, hm, l2_bs]
            by_cases c : ff X Z v 0 < v
            · rw [if_pos c, if_pos c, if_neg (nI_pos (by omega))]
            · rw [if_neg c, if_neg c, if_pos (by decide)]
        all_goals omega
      · refine leaf 0 (Or.inl rfl) ?_ (fun s1 fr b1 b2 => ?_)
        · rw [M, rh4 hp1 a2 rm e2 hr k8, if_neg z]
        · rw [hh4 hok hL b2 a1 (e1' s1 fr) (hc1 s1 fr) k8, if_neg z]
    · rcases hK with rfl | rfl
      · -- records
        by_cases z : k = 6
        · subst z
          rcases h6 with ⟨y, _⟩ | ⟨y, _⟩ | ⟨y, _⟩ | ⟨v, y, _⟩ | ⟨y, _⟩ | ⟨v, I, P, y, _⟩ | ⟨v, I, P, Y, _, y2, y3, y4, I0, P0, Iv, Pv, hj⟩
          · omega
          · omega
          · omega
          · omega
          · omega
          · omega
          · -- a record of fields
              have hv : v ≤ 59 := by
                have q := vr_mono (I := I) (v := v) 2 (fun j jv => by have := (hj j jv).1; omega) v (by omega)
                omega
              have mono : ∀ a b, a < b → b ≤ v → I a + 1 < I b := by
                intro a b hab
                induction b with
                | zero => omega
                | succ b ihb =>
                  intro hb
                  have := (hj b (by omega)).1
                  by_cases e : a = b
                  · rw [e]; omega
                  · have := ihb (by omega) (by omega); omega
              have Ylt : ∀ a b, a < b → b < v → Y a < Y b := by
                intro a b hab
                induction b with
                | zero => omega
                | succ b ihb =>
                  intro hb
                  have := (hj b (by omega)).2.1.2.1 hb
                  by_cases e : a = b
                  · rw [e]; exact this
                  · have := ihb (by omega) (by omega); omega
              -- children of the type's fields
              obtain ⟨nn, hnn⟩ := l2_ch (P := fun j n' => ∃ k', s.1 318 (F j) = nI n' ∧ s.1 959 (G j) = nI k' ∧ R n' k') (v := vt) (fun j jv => (hF j jv).2.2.2)
              obtain ⟨nk, hnk⟩ := l2_ch (P := fun j k' => s.1 318 (F j) = nI (nn j) ∧ s.1 959 (G j) = nI k' ∧ R (nn j) k') (v := vt) (fun j jv => hnn j jv)
              obtain ⟨W, hW⟩ := l2_ch (P := fun j w => ff X (Y j) vt 0 < vt → (w = (0 : Int32) ∨ w = 1) ∧ (R_X13_fitsAt (g + 1 - 1)).1 (nI (p + 2 + v + P j)) (nI (nk (ff X (Y j) vt 0))) s = some w ∧ ftC s l i0 (i + 1 + I j + 1) (I (j + 1) - I j - 1) (nn (ff X (Y j) vt 0)) w) (v := v) (fun j jv => by
                by_cases c : ff X (Y j) vt 0 < vt
                · obtain ⟨w, w1, w2, w3⟩ := ih _ _ _ _ (hj j jv).2.2.2 (by have := (hj j jv).1; have := (hj j jv).2.2.2.pos; omega) (by omega) _ _ g (hnk _ c).2.2 (by omega)
                  exact ⟨w, fun _ => ⟨w1, w2, w3⟩⟩
                · exact ⟨0, fun y => absurd y c⟩)
              have part : ∀ j, j ≤ v → f_X13_partOf (nI p) (nI j) s = some (nI (p + 2 + v + P j)) := fun j jv => vw_part (k := 6) (v := v) (q0 := p + 2 + v) (c := fun j => s.2.1 l (i0 + j)) (f := f) (I := fun j => i + 1 + I j + 1) (L := fun j => I (j + 1) - I j - 1) hr (by decide) (by rw [if_pos rfl]) (fun _ => y3) (by omega) P0 (fun j jv => ⟨(hj j jv).1.2.1, by have := (hj j jv).1; omega, (hj j jv).2.2.2⟩) (by omega) hp1 jv
              have fld : ∀ x, x < 7934 → ∃ b, f_X13_fieldOf (nI p) (lN x) s = some b ∧ ((0 : Int32) ≤ b ↔ ∃ q, q < v ∧ Y q = x) := fun x hx => by
                have := vw_field (v := v) (c := fun j => s.2.1 l (i0 + j)) (f := f) (I := fun j => i + 1 + I j + 1) (L := fun j => I (j + 1) - I j - 1) (X := Y) hr y3 (by omega) P0 (fun j jv => ⟨(hj j jv).1.2.1, by have := (hj j jv).1; omega, (hj j jv).2.2.2⟩) (by omega) (by omega) (fun j jv => ⟨(hj j jv).2.1.2.2.2, (hj j jv).2.1.1⟩) hx
                refine ⟨_, this, ?_⟩
                obtain ⟨f1, f2, f3, f4⟩ := ff_at (X := Y) (x := x) v 0
                by_cases c : ff Y x v 0 < v
                · rw [if_pos c]
                  refine ⟨fun _ => ⟨_, c, f4 (by omega)⟩, fun _ => nI_pos' (by have := (hj _ c).1; have := (hj _ c).2.2.2.pos; omega)⟩
                · rw [if_neg c]
                  exact ⟨fun y => absurd y (by decide), fun ⟨q, hq, e⟩ => absurd e (f3 q (Nat.zero_le _) (by omega))⟩
              obtain ⟨w, w1, w2, w3⟩ := rr_go (rc := R_X13_fitsAt g) (s := s) (p := p) (kd := kd') (vt := vt) (v := v) (G := G) (X := X) (O := O) (Y := Y) (B := fun j => p + 2 + v + P j) (nk := nk) (W := W) (by omega) y3 (by omega) a2 v16 hcG (fun j jv => ⟨(hF j jv).2.1.2.2.2.2.1, (hF j jv).2.1.2.2.1, (hF j jv).2.1.2.2.2.2.2.1, (hF j jv).2.1.2.2.2.2.2.2.2, (hnk j jv).2.1⟩) (fun j jv => ⟨(hj j jv).2.1.2.2.2, (hj j jv).2.1.1⟩) (fun j jv => ⟨part j (by omega), fun c => ⟨(hW j jv c).2.1, (hW j jv c).1⟩⟩) fld
              refine ⟨w, w1, ?_, ?_⟩
              · have e : (R_X13_fitsAt (g + 1)).2 (nI p) (nI kd') s = m_X13_fitsRecord (R_X13_fitsAt g) (nI p) (nI kd') s := rfl
                rw [M, rh5 hp1 a2 rm e2 hr k8, if_pos rfl, e, w2, l2_bs]
                rcases w1 with rfl | rfl <;> rfl
              · intro sz s1 h1 h2 h3 fr hw hm
                have e31 : ∀ b j, b ≠ 333 → s1.1 b j = s.1 b j := (w333 fr).1
                have cF1 : cc_R s1 nd' vt F := ⟨(e31 318 nd' (by decide)).trans hcF.1, fun j jv => ⟨(hcF.2 j jv).1, (hcF.2 j jv).2.1, (e31 319 _ (by decide)).trans (hcF.2 j jv).2.2.1, (hcF.2 j jv).2.2.2⟩⟩
                have pe : (s.2.1 l (i0 + i) >>> ((12 : Int32).toInt64 &&& 63)).toInt32 = nI v := by
                  have := hc
                  rw [y2] at this
                  exact vl_i32 this (by omega)
                have HR := hr_go (s := s) (s1 := s1) (l := l) (i0 := i0) (i := i) (nd := nd') (vt := vt) (v := v) (F := F) (X := X) (O := O) (Y := Y) (A := fun j => i + 1 + I j) (nn := nn) hok hl hL a1 ((e31 321 nd' (by decide)).trans h21) v16 cF1 (fun j jv => ⟨(e31 320 _ (by decide)).trans (hF j jv).2.1.2.2.2.1, (hF j jv).2.1.2.2.1, (hF j jv).2.1.2.2.2.2.2.1, (e31 321 _ (by decide)).trans (hF j jv).2.1.2.2.2.2.2.2.1, (e31 318 _ (by decide)).trans (hnk j jv).1⟩) hX (by omega) (fun a b h1 h2 => by have := Ylt a b h1 h2; omega) ((fr l _ hl).2.1) pe (by omega) (by omega) (by show i + 1 + I 0 = i + 1; omega) (fun j jv => by
                  have b := (hj j jv).1
                  have hd := (VW.vr _ _ _ _ _ (hj j jv).2.2.2).head
                  obtain ⟨t', k', hd, _⟩ := hd
                  have hd : vl_c t' (I (j + 1) - I j - 1) k' (s.2.1 l (i0 + (i + 1 + I j + 1))) := hd
                  have hy := (hj j jv).2.1.2.2.1
                  have hy : vl_c (Y j + 66) 1 9 (s.2.1 l (i0 + (i + 1 + I j))) := hy
                  refine ⟨by show i + 1 + I j + 1 < i + 1 + I (j + 1); omega, by show i + 1 + I (j + 1) ≤ 120; omega, by show i0 + (i + 1 + I (j + 1)) ≤ t_ln l; omega, (hj j jv).2.1.1, ?_, t', k', ?_⟩
                  · show vl_c ((Y j + 66 : Nat) : Int) 1 9 (s1.2.1 l (i0 + (i + 1 + I j)))
                    rw [(fr l _ hl).2.1]
                    exact hy
                  · show vl_c t' (i + 1 + I (j + 1) - (i + 1 + I j) - 1) k' (s1.2.1 l (i0 + (i + 1 + I j) + 1))
                    rw [(fr l _ hl).2.1, show i + 1 + I (j + 1) - (i + 1 + I j) - 1 = I (j + 1) - I j - 1 by omega, show i0 + (i + 1 + I j) + 1 = i0 + (i + 1 + I j + 1) by omega]
                    exact hd)
                by_cases cU : ∃ j, j < v ∧ vt ≤ ff X (Y j) vt 0
                · rw [if_pos cU] at HR
                  have hh : f_X11_holdsHere l (nI i0) (nI i) (nI nd') s1 = some (0, ftS s1 (fun j => i + 1 + I j + 1) (fun j => nI (nn (ff X (Y j) vt 0))) (fz (fun j => if vt ≤ ff X (Y j) vt 0 then 0 else 1) v)) := by
                    rw [hh5 hok hL (by omega) a1 (e1' s1 fr) (hc1 s1 fr) k8, if_pos rfl, HR, l2_bs]
                    rfl
                  have t1 := ft_turn (l := l) (i0 := i0) (by omega) h2 hw (by omega) (rs' s1 fr) hh
                  rw [if_pos rfl] at t1
                  have w0 : w = 0 := w1.resolve_right (fun y => by
                    obtain ⟨j, j1, j2⟩ := cU
                    have := ((w3.mp y).1 j j1).1
                    omega)
                  exact Or.inr ⟨w0, 0, _, _, by omega, l2_tn.nil, t1, fr.trans (ftS.fr _)⟩
                · rw [if_neg cU] at HR
                  have known : ∀ j, j < v → ff X (Y j) vt 0 < vt := fun j jv => Nat.lt_of_not_le (fun y => cU ⟨j, jv, y⟩)
                  by_cases cN : sy_cn (fn_S O X Y v) vt = 0
                  · rw [if_pos cN] at HR
                    have hh : f_X11_holdsHere l (nI i0) (nI i) (nI nd') s1 = some (1, ftS s1 (fun j => i + 1 + I j + 1) (fun j => nI (nn (ff X (Y j) vt 0))) v) := by
                      rw [hh5 hok hL (by omega) a1 (e1' s1 fr) (hc1 s1 fr) k8, if_pos rfl, HR, l2_bs]
                      rfl
                    have t1 := ft_turn (l := l) (i0 := i0) (by omega) h2 hw (by omega) (rs' s1 fr) hh
                    rw [if_neg (show ¬ (1 : Int32) = 0 by decide)] at t1
                    have e0 : i + 1 + I 0 = i + 1 := by omega
                    have ev : i + 1 + I v = i + n := by omega
                    have nx := ft_parts (s := s) (l := l) (i0 := i0) (sz := sz) (g := 1) (v := v) (A := fun j => i + 1 + I j) (N := fun j => I (j + 1) - I j - 1) (nd := fun j => nn (ff X (Y j) vt 0)) (W := W) h2 h3 (fun j jv => ⟨by have := (hj j jv).1; show i + 1 + I (j + 1) = i + 1 + I j + 1 + (I (j + 1) - I j - 1); omega, by have := (hj j jv).1; omega, (hW j jv (known j jv)).2.2, (hW j jv (known j jv)).1⟩) (by show i + 1 + I v ≤ sz; omega) v 0 (ftS s1 (fun j => i + 1 + I j + 1) (fun j => nI (nn (ff X (Y j) vt 0))) v) (by omega) (Nat.zero_le _) (fr.trans (ftS.fr _)) (fun j _ jv => ⟨ftS.in (A := fun j => i + 1 + I j + 1) (x := fun j => nI (nn (ff X (Y j) vt 0))) v j (fun a b h1 h2 => by have := mono a b h1 (by omega); omega) jv, fun y y1 y2 y3 => by
                      have y1 : i + 1 + I j ≤ y := y1
                      have y2 : y < i + 1 + I (j + 1) := y2
                      have y3 : y ≠ i + 1 + I j + 1 := y3
                      have := (hj j jv).1
                      rw [ftS.out v (fun b bv e => by
                        have e : y = i + 1 + I b + 1 := e
                        by_cases cb : b < j
                        · have := mono b j cb (by omega); omega
                        · by_cases cb2 : b = j
                          · subst cb2; exact y3 e
                          · by_cases cb3 : b = j + 1
                            · subst cb3; omega
                            · have := mono (j + 1) b (by omega) (by omega); omega)]
                      exact hm y (by omega) (by omega)⟩)
                    rcases nx with ⟨q1, u, s2, q2, _, q3, q4, q5⟩ | ⟨⟨j, _, q1, q1'⟩, u, y, s2, q2, _, q3, q4, q5⟩
                    · have q3 : l2_tn b_X11_holds_31 u (l, nI i0, nI sz, nI (i + 1 + I 0), _) (l, nI i0, nI sz, nI (i + 1 + I v), s2) := q3
                      have q2 : u ≤ i + 1 + I v - (i + 1 + I 0) := q2
                      rw [e0, ev] at q3
                      refine Or.inl ⟨w3.mpr ⟨fun j jv => ⟨known j jv, q1 j (Nat.zero_le _) jv⟩, cN⟩, 1 + u, s2, om_1 q2 e0 ev hn, (l2_tn.one t1).trans q3, q4, fun j hj' => ?_⟩
                      have q5 : ∀ j, j < i + 1 + I 0 ∨ i + 1 + I v ≤ j → s2.1 333 j = _ := q5
                      have iv0 : I 0 ≤ I v := by omega
                      rw [q5 j (om_2 hj' e0 ev), ftS.out v (fun b bv => om_4 hj' ev (mono b v bv (Nat.le_refl _)))]
                    · have q3 : l2_tn b_X11_holds_31 u (l, nI i0, nI sz, nI (i + 1 + I 0), _) y := q3
                      have q2 : u ≤ i + 1 + I v - (i + 1 + I 0) := q2
                      rw [e0] at q3
                      have w0 : w = 0 := w1.resolve_right (fun y => by
                        have := ((w3.mp y).1 j q1).2
                        rw [q1'] at this
                        exact absurd this (by decide))
                      exact Or.inr ⟨w0, 1 + u, y, s2, om_1 q2 e0 ev hn, (l2_tn.one t1).trans q3, q4, q5⟩
                  · rw [if_neg cN] at HR
                    have hh : f_X11_holdsHere l (nI i0) (nI i) (nI nd') s1 = some (0, ftS s1 (fun j => i + 1 + I j + 1) (fun j => nI (nn (ff X (Y j) vt 0))) v) := by
                      rw [hh5 hok hL (by omega) a1 (e1' s1 fr) (hc1 s1 fr) k8, if_pos rfl, HR, l2_bs]
                      rfl
                    have t1 := ft_turn (l := l) (i0 := i0) (by omega) h2 hw (by omega) (rs' s1 fr) hh
                    rw [if_pos rfl] at t1
                    have w0 : w = 0 := w1.resolve_right (fun y => cN (w3.mp y).2)
                    exact Or.inr ⟨w0, 0, _, _, by omega, l2_tn.nil, t1, fr.trans (ftS.fr _)⟩
        · refine leaf 0 (Or.inl rfl) ?_ (fun s1 fr b1 b2 => ?_)
          · rw [M, rh5 hp1 a2 rm e2 hr k8, if_neg z]
          · rw [hh5 hok hL b2 a1 (e1' s1 fr) (hc1 s1 fr) k8, if_neg z]
      · -- choices
        by_cases z : k = 7
        · subst z
          rcases h6 with ⟨y, _⟩ | ⟨y, _⟩ | ⟨y, _⟩ | ⟨v, y, _⟩ | ⟨_, y2, y3, Z, y4, y5, y6, y7, y8⟩ | ⟨v, I, P, y, _⟩ | ⟨v, I, P, Y, y, _⟩
          · omega
          · omega
          · omega
          · omega
          · have fo := mt_fr (x := Z) a2 v16 hcG (fun j hj => ⟨(hF j hj).2.1.2.2.2.2.1, (hF j hj).2.1.2.2.1⟩) y4
            have fc := mt_fc (x := Z) a1 v16 h21 hcF (fun j hj => ⟨(hF j hj).2.1.2.2.2.1, (hF j hj).2.1.2.2.1⟩) y4
            have ew : ∀ s1 : t_S, l2_fr (fun b _ => b = 333) s s1 → f_X8_wordOf (s1.2.1 l (i0 + i)) s1 = nI (66 + Z) := fun s1 fr => by
              unfold f_X8_wordOf
              have := hc1 s1 fr
              rw [y5] at this
              rw [vl_i32 (v := Z + 66) this (by omega), Nat.add_comm]
            by_cases c : ff X Z vt 0 < vt
            · obtain ⟨⟨c1, c2⟩, _, _, n', k', c3, c4, c5⟩ := hF _ c
              obtain ⟨w, w1, w2, w3⟩ := ih (i + 1) (p + 2) (n - 1) (q - 2) y8 (by omega) (by omega) n' k' (g + 1) c5 (by omega)
              have bn' := (h.2.1 n' k' c5).1
              refine ⟨w, w1, ?_, ?_⟩
              · rw [M, rh6 hp1 a2 rm e2 hr k8, if_pos rfl, y6, fo, if_pos c, l2_bs]
                unfold k_X13_fitsAt_189
                rw [if_neg (nI_pos (by have := (hcG.2 _ c).1; omega)), if_pos (l2_ix (by have := (hcG.2 _ c).1; omega) (by decide)), nI_clamp (n := G (ff X Z vt 0)) (by have := (hcG.2 _ c).1; omega), c4, show (2 : Int32) = nI 2 from rfl, nI_add, w2, l2_bs]
                rcases w1 with rfl | rfl <;> rfl
              · intro sz s1 h1 h2 h3 fr hw hm
                have S1 := (l2_fr.set rfl : l2_fr (fun b _ => b = 333) s1 (t_setI s1 333 (i + 1) (nI n')))
                have hh : f_X11_holdsHere l (nI i0) (nI i) (nI nd') s1 = some (1, t_setI s1 333 (i + 1) (nI n')) := by
                  rw [hh6 hok hL (by omega) a1 (e1' s1 fr) (hc1 s1 fr) k8, if_pos rfl, ew s1 fr, (hs_st fr).2.2.2, fc, if_pos c, l2_bs]
                  unfold k_X11_holdsHere_243 k_X11_holdsHere_265
                  have cF := (hcF.2 _ c).1
                  rw [if_neg (nI_pos (by omega)), if_pos (l2_ix (by omega) (by decide)), nI_1, if_pos (l2_ix (by omega) (by decide)), nI_clamp (n := F (ff X Z vt 0)) (by omega), nI_clamp (n := i + 1) (by omega), (w333 fr).1 318 _ (by decide), c3]
                  show (if nI (F (ff X Z vt 0)) < (0 : Int32) then _ else _) = _
                  rw [if_neg (nI_pos (by omega))]
                have t1 := ft_turn (l := l) (i0 := i0) (by omega) h2 hw (by omega) (rs' s1 fr) hh
                rw [if_neg (show ¬ (1 : Int32) = 0 by decide)] at t1
                have nx := w3 sz (t_setI s1 333 (i + 1) (nI n')) (by omega) h2 h3 (fr.trans S1) (by rw [l2_g, if_pos rfl]) (fun j j1 j2 => by rw [l2_g, if_neg (by omega)]; exact hm j (by omega) (by omega))
                rcases nx with ⟨q1, u, s2, q2, q3, q4, q5⟩ | ⟨q1, u, y, s2, q2, q3, q4, q5⟩
                · refine Or.inl ⟨q1, 1 + u, s2, by omega, ?_, q4, fun j hj => ?_⟩
                  · have := (l2_tn.one t1).trans q3
                    rw [show i + 1 + (n - 1) = i + n by omega] at this
                    exact this
                  · rw [q5 j (by omega), l2_g, if_neg (by omega)]
                · exact Or.inr ⟨q1, 1 + u, y, s2, by omega, (l2_tn.one t1).trans q3, q4, q5⟩
            · refine leaf 0 (Or.inl rfl) ?_ (fun s1 fr b1 b2 => ?_)
              · rw [M, rh6 hp1 a2 rm e2 hr k8, if_pos rfl, y6, fo, if_neg c, l2_bs]
                unfold k_X13_fitsAt_189
                rw [if_pos (by decide)]
              · rw [hh6 hok hL b2 a1 (e1' s1 fr) (hc1 s1 fr) k8, if_pos rfl, ew s1 fr, (hs_st fr).2.2.2, fc, if_neg c, l2_bs]
                unfold k_X11_holdsHere_243 k_X11_holdsHere_265
                rw [if_pos (show (-1 : Int32) < 0 by decide), if_pos (show (-1 : Int32) < 0 by decide)]
          · omega
          · omega
        · refine leaf 0 (Or.inl rfl) ?_ (fun s1 fr b1 b2 => ?_)
          · rw [M, rh6 hp1 a2 rm e2 hr k8, if_neg z]
          · rw [hh6 hok hL b2 a1 (e1' s1 fr) (hc1 s1 fr) k8, if_neg z]
    · -- lists
      obtain ⟨lo, hi, s1', s2', s3, s4, s5, s6⟩ := hS
      by_cases z : k = 8
      · subst z
        rcases h6 with ⟨y, _⟩ | ⟨y, _⟩ | ⟨y, _⟩ | ⟨v, y, _⟩ | ⟨y, _⟩ | ⟨v, I, P, _, y2, y3, y4, y5, I0, P0, Iv, Pv, hj⟩ | ⟨v, I, P, X, y, _⟩
        · omega
        · omega
        · omega
        · omega
        · omega
        · -- a list of elements
          have ls : (lN v).toInt = v ∧ (lN lo).toInt = lo ∧ (lN hi).toInt = hi := ⟨pk_lT (by omega), pk_lT (by omega), pk_lT (by omega)⟩
          have pe : ∀ s1 : t_S, l2_fr (fun b _ => b = 333) s s1 → f_X8_partsOf (s1.2.1 l (i0 + i)) s1 = nI v := fun s1 fr => by
            unfold f_X8_partsOf
            have := hc1 s1 fr
            rw [y2] at this
            exact vl_i32 this (by omega)
          have c32 : ∀ s1 : t_S, l2_fr (fun b _ => b = 333) s s1 → s1.2.1 322 nd' = lN lo ∧ s1.2.1 323 nd' = lN hi := fun s1 fr => ⟨((w333 fr).2 322 nd' (by decide)).trans s3, ((w333 fr).2 323 nd' (by decide)).trans s4⟩
          by_cases c : lo ≤ v ∧ v ≤ hi
          · obtain ⟨W, hW⟩ := l2_ch (P := fun j w => (w = (0 : Int32) ∨ w = 1) ∧ (R_X13_fitsAt (g + 1)).1 (nI (p + 2 + P j)) (nI k') s = some w ∧ ftC s l i0 (i + 1 + I j) (I (j + 1) - I j) n' w) (v := v) (fun j jv => ih _ _ _ _ (hj j jv).2.2 (by have := (hj j jv).1; have := (hj j jv).2.2.pos; omega) (by omega) n' k' (g + 1) hR' (by omega))
            have bn' := (h.2.1 n' k' hR').1
            obtain ⟨z1, z2, z3⟩ := fz_at (W := W) (v := v)
            refine ⟨if fz W v < v then 0 else 1, by split; exact Or.inl rfl; exact Or.inr rfl, ?_, ?_⟩
            · rw [M, rh7 hp1 a2 rm e2 hr k8, if_pos rfl, y4, s5, s6, fin_r, ls.1, ls.2.1, ls.2.2, if_pos (show ((lo : Int) ≤ v ∧ (v : Int) ≤ hi) by omega), if_neg (by decide)]
              refine rl_go hp1 y4 y3 a2 h9 (B := fun j => p + 2 + P j) (fun j jv => ⟨?_, (hW j jv).2.1, (hW j jv).1⟩)
              exact vw_part (k := 8) (v := v) (q0 := p + 2) (c := fun j => s.2.1 l (i0 + j)) (f := f) (I := fun j => i + 1 + I j) (L := fun j => I (j + 1) - I j) hr (by decide) (by rw [if_neg (by decide)]) (fun y => absurd y (by decide)) (by omega) P0 (fun j jv => ⟨(hj j jv).1.2.1, by have := (hj j jv).1; omega, (hj j jv).2.2⟩) (by omega) hp1 (by omega)
            · intro sz s1 h1 h2 h3 fr hw hm
              have hh : f_X11_holdsHere l (nI i0) (nI i) (nI nd') s1 = some (1, ftS s1 (fun j => i + 1 + I j) (fun _ => nI n') v) := by
                rw [hh7 hok hL (by omega) a1 (e1' s1 fr) (hc1 s1 fr) k8, if_pos rfl]
                have : f_X11_holdsList l (nI i0) (nI i) (nI nd') s1 = some (1, ftS s1 (fun j => i + 1 + I j) (fun _ => nI n') v) := by
                  unfold f_X11_holdsList
                  rw [if_pos hok, nI_add, if_pos (l2_ix (by omega) (by omega)), if_pos (l2_ix (by omega) (by decide)), nI_clamp (n := i0 + i) (by omega), nI_clamp (n := nd') (by omega), pe s1 fr, nI_l (by omega), (c32 s1 fr).1, (c32 s1 fr).2, if_neg (fun y => by have y := t_cmp_lt.mp y; rw [ls.1, ls.2.1] at y; omega), if_pos (Int32.not_lt.mp (fun y => by have y := t_cmp_gt.mp y; rw [ls.1, ls.2.2] at y; omega)), nI_1]
                  have := hl_go (s1 := s1) (i := i) (l := l) (i0 := i0) (nd := nd') (n' := n') (v := v) (A := fun j => i + 1 + I j) (N := fun j => I (j + 1) - I j) hok hl hL (by omega) (((w333 fr).1 318 nd' (by decide)).trans h18) y3 (fun j jv => by
                    have b := (hj j jv).1
                    have hd := (VW.vr _ _ _ _ _ (hj j jv).2.2).head
                    obtain ⟨t', k', hd, _⟩ := hd
                    have hd : vl_c t' (I (j + 1) - I j) k' (s.2.1 l (i0 + (i + 1 + I j))) := hd
                    refine ⟨by show i + 1 + I (j + 1) = i + 1 + I j + (I (j + 1) - I j); omega, by omega, by omega, t', k', ?_⟩
                    show vl_c t' (I (j + 1) - I j) k' (s1.2.1 l (i0 + (i + 1 + I j)))
                    rw [(fr l _ hl).2.1]
                    exact hd)
                  have e00 : i + 1 + I 0 = i + 1 := by omega
                  have this : t_loop (b_X11_holdsList_48) t_N (l, nI i0, nI nd', nI v, nI (i + 1 + I 0), 0, s1) = _ := this
                  rw [e00] at this
                  exact this
                rw [this, l2_bs]
                rfl
              have t1 := ft_turn (l := l) (i0 := i0) (by omega) h2 hw (by omega) (rs' s1 fr) hh
              rw [if_neg (show ¬ (1 : Int32) = 0 by decide)] at t1
              have Afr := ftS.fr (s1 := s1) (A := fun j => i + 1 + I j) (x := fun _ => nI n') v
              have mono : ∀ a b, a < b → b ≤ v → I a < I b := by
                intro a b hab
                induction b with
                | zero => omega
                | succ b ihb =>
                  intro hb
                  have := (hj b (by omega)).1
                  by_cases e : a = b
                  · rw [e]; omega
                  · have := ihb (by omega) (by omega); omega
              have e0 : i + 1 + I 0 = i + 1 := by omega
              have ev : i + 1 + I v = i + n := by omega
              have nx := ft_parts (s := s) (l := l) (i0 := i0) (sz := sz) (g := 0) (v := v) (A := fun j => i + 1 + I j) (N := fun j => I (j + 1) - I j) (nd := fun _ => n') (W := W) h2 h3 (fun j jv => ⟨by have := (hj j jv).1; omega, by have := (hj j jv).1; omega, (hW j jv).2.2, (hW j jv).1⟩) (by show i + 1 + I v ≤ sz; omega) v 0 (ftS s1 (fun j => i + 1 + I j) (fun _ => nI n') v) (by omega) (Nat.zero_le _) (fr.trans Afr) (fun j _ jv => ⟨ftS.in v j (fun a b h1 h2 => by have := mono a b h1 (by omega); omega) jv, fun y y1 y2 y3 => by
                rw [ftS.out v (fun b bv e => by
                  have e : y = i + 1 + I b := e
                  have y1 : i + 1 + I j ≤ y := y1
                  have y2 : y < i + 1 + I (j + 1) := y2
                  by_cases cb : b < j
                  · have := mono b j cb (by omega); omega
                  · by_cases cb2 : b = j
                    · subst cb2; exact y3 e
                    · have := mono j b (by omega) (by omega)
                      by_cases cb3 : b = j + 1
                      · subst cb3; omega
                      · have := mono (j + 1) b (by omega) (by omega); omega)]
                have y1 : i + 1 + I j ≤ y := y1
                have y2 : y < i + 1 + I (j + 1) := y2
                have := (hj j jv).1
                exact hm y (by omega) (by omega)⟩)
              rcases nx with ⟨q1, u, s2, q2, _, q3, q4, q5⟩ | ⟨⟨j, _, q1, q1'⟩, u, y, s2, q2, _, q3, q4, q5⟩
              · have q3 : l2_tn b_X11_holds_31 u (l, nI i0, nI sz, nI (i + 1 + I 0), _) (l, nI i0, nI sz, nI (i + 1 + I v), s2) := q3
                have q2 : u ≤ i + 1 + I v - (i + 1 + I 0) := q2
                rw [e0, ev] at q3
                rw [if_neg (fun y => absurd (q1 _ (Nat.zero_le _) y) (by rw [z3 y]; decide))]
                refine Or.inl ⟨rfl, 1 + u, s2, om_1 q2 e0 ev hn, (l2_tn.one t1).trans q3, q4, fun j hj' => ?_⟩
                have q5 : ∀ j, j < i + 1 + I 0 ∨ i + 1 + I v ≤ j → s2.1 333 j = _ := q5
                rw [q5 j (om_2 hj' e0 ev), ftS.out v (fun b bv => om_3 hj' ev (mono b v bv (Nat.le_refl _)))]
              · have q3 : l2_tn b_X11_holds_31 u (l, nI i0, nI sz, nI (i + 1 + I 0), _) y := q3
                have q2 : u ≤ i + 1 + I v - (i + 1 + I 0) := q2
                rw [e0] at q3
                rw [if_pos (Nat.lt_of_not_le (fun y => z2 j (by omega) q1'))]
                exact Or.inr ⟨rfl, 1 + u, y, s2, om_1 q2 e0 ev hn, (l2_tn.one t1).trans q3, q4, q5⟩
          · refine leaf 0 (Or.inl rfl) ?_ (fun s1 fr b1 b2 => ?_)
            · rw [M, rh7 hp1 a2 rm e2 hr k8, if_pos rfl, y4, s5, s6, fin_r, ls.1, ls.2.1, ls.2.2, if_neg (show ¬ ((lo : Int) ≤ v ∧ (v : Int) ≤ hi) by omega), if_pos rfl]
            · rw [hh7 hok hL b2 a1 (e1' s1 fr) (hc1 s1 fr) k8, if_pos rfl]
              have : f_X11_holdsList l (nI i0) (nI i) (nI nd') s1 = some (0, s1) := by
                unfold f_X11_holdsList
                rw [if_pos hok, nI_add, if_pos (l2_ix (by omega) (by omega)), if_pos (l2_ix (by omega) (by decide)), nI_clamp (n := i0 + i) (by omega), nI_clamp (n := nd') (by omega), pe s1 fr, nI_l (by omega), (c32 s1 fr).1, (c32 s1 fr).2]
                by_cases c1 : v < lo
                · rw [if_pos (t_cmp_lt.mpr (by rw [ls.1, ls.2.1]; omega))]
                · rw [if_neg (fun y => by have y := t_cmp_lt.mp y; rw [ls.1, ls.2.1] at y; omega), if_neg (fun y => Int32.not_lt.mpr y (t_cmp_gt.mpr (by rw [ls.1, ls.2.2]; omega)))]
              rw [this, l2_bs]
              rfl
        · omega
      · refine leaf 0 (Or.inl rfl) ?_ (fun s1 fr b1 b2 => ?_)
        · rw [M, rh7 hp1 a2 rm e2 hr k8, if_neg z]
        · rw [hh7 hok hL b2 a1 (e1' s1 fr) (hc1 s1 fr) k8, if_neg z]
    · exact absurd e1 n8
end
