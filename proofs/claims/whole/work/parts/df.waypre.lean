/-! Level 2: an assignment: one step to a part, its beginning. -/
section
variable {P : pc_S} {nt : Nat → Nat} {f n n2 n3 Y a g f2 p0 ln w lo vv : Nat} {L v EE G : Nat → Nat} {ka : Int32} {k kb k' : Nat → Nat} {c0 r0 cb rb c r c1 r1 c' r' : t_S} {A B : Nat → Prop} {E : en_S}
/-- between two steps: vv of them have been read since kb -/
def wI (P : pc_S) (nt : Nat → Nat) (f n2 Y n : Nat) (L v : Nat → Nat) (ka : Int32) (a g ln w lo : Nat) (kb : Nat → Nat) (cb rb : t_S) (vv : Nat) (EE G : Nat → Nat) (k : Nat → Nat) (c r : t_S) : Prop := fs P nt f n2 Y n L ka a g k c r ∧ r.1 950 32 = 0 ∧ (k 9 = kb 9 ∧ kb 0 ≤ k 0 ∧ (∀ x, kb 4 + x ≤ 2 * kb 1 + 2 * kb 9 → k 4 + x ≤ 2 * k 1 + 2 * k 9)) ∧ (∀ n3, sn n2 n3 f n ln (fun _ => False) (fun _ => False) kb cb rb k c r) ∧ vv ≤ k 1 ∧ kb 2 ≤ w ∧ ∀ n3, f < n3 → mB False n2 n3 cb c r (kb 6) (k 6) (kb 8) (k 8) (w + 1) (k 2) ln ln ∧ wv_R n2 n3 (E_f f n v) c r k w lo vv EE G
def wy_W (m w vv : Nat) (G : Nat → Nat) (b j : Nat) : Prop := xn_W m b j ∨ rn_W b j ∨ (b = 959 ∧ j = w ∧ vv = 0) ∨ (b = 960 ∧ 0 < vv ∧ j = G (vv - 1))
/-- a node, its sign, the node hung there -/
theorem wy_pre {T U : Type} {FF F : t_S → Option T} {K : Int32 → t_S → Option U} {Q : T → U → Prop} {kk x : Nat} (hx : (kk = 68 ∧ x = 46) ∨ (kk = 69 ∧ x = 91)) (I : wI P nt f n2 Y n L v ka a g ln w lo kb cb rb vv EE G k c r) (t : c.1 1 8 = nI x) (hV : en_V n 1 L v) (gc : l2_fr mo_Wc c0 cb) (gr' : l2_fr mo_Wr r0 rb) (hF : ∀ c1 y, c1.1 1 8 = nI x → f_X2_take (nI x) c1 = some y → y.1 = 1 → FF c1 = F y.2) (hg : ∀ c' r', fs P nt f n2 Y n L ka a g (ck (k 0 + 1) (k 1 + 1) (k 2 + 1) (k 3) (k 4) (k 5) (k 6) (k 7) (k 8) (k 9)) c' r' → r'.1 950 32 = 0 → l2_fr (fun b j => (b = 845 ∧ j = 10) ∨ la_W b j) c c' → l2_fr (wy_W (k 2) w vv G) r r' → r'.1 955 (k 2) = nI kk → r'.1 959 (k 2) = -1 → ch_R r' w (vv + 1) G → k 2 < 12999 → k 1 < 3000 → t_h2 (F c') (K (nI (k 2)) r') Q) (hb0 : ∀ f2 p0 j c' r', zS f f2 p0 c0 c' → yS P f f2 p0 r0 r' → j < 13000 → t_h2 (FF c') (K (nI j) r') Q) (hb : ∀ f2 p0 j c' r', zS f f2 p0 c0 c' → yS P f f2 p0 r0 r' → j < 13000 → t_h2 (F c') (K (nI j) r') Q) : t_h2 ((f_X6_node c).bind FF) ((f_X13_node (nI kk) 1 r).bind (fun y => (f_X13_next y.2).bind (fun z => (f_X13_hang (nI w) y.1 z).bind (fun h => K y.1 h)))) Q := by
  obtain ⟨S, h32, ⟨k9, k00, slk⟩, sn0, vk, kw, rest⟩ := I
  obtain ⟨_, W⟩ := rest (f + 1) (Nat.lt_succ_self _)
  obtain ⟨W1, W2, W3, W4, W5, W6, W7, W8⟩ := W
  have gc1 := (sn0 0).mc gc
  have gr1 := (sn0 0).mr gr'
  obtain ⟨X, B⟩ := S.1.xp (S.en hV) h32
  have ml := X.1.mle (by decide)
  have kk8 : kk < 100 ∧ ¬ (20 ≤ kk ∧ kk ≤ 41) := by omega
  have x6 : 5 < x ∧ x < 300 := by omega
  refine h2_bb _ (xp_node (K := kk) X kk8.1 (k 7)) (fun c1 y hy => ?_)
  obtain ⟨y0, r1⟩ := y
  rcases hy with ⟨hq, g1, hm, y1, y2, y3, y4, X1⟩ | ⟨g1, f2', p0, y1, y2, ⟨j, j1, j2, j3⟩, _, _⟩
  rotate_left
  · have j3 : y0 = nI j := j3
    subst j3
    have z1 : zS f f2' p0 c0 c1 := S.z y1 g1 gc1
    have w1 : yS P f f2' p0 r0 r1 := S.yx y2 gr1
    obtain ⟨r2, e2, w2⟩ := w1.next
    show t_h2 _ ((f_X13_next r1).bind _) Q
    rw [e2, l2_bs, w2.1.hang, l2_bs]
    exact hb0 f2' p0 j c1 r2 z1 w2 j2
  have y1 : y0 = nI (k 2) := y1
  subst y1
  rw [if_neg kk8.2] at X1
  have X1 : xp P (E_f f n v) (k 0) 0 1 (k 1 + 1) (k 2 + 1) (k 3) (k 4) (k 5) (k 6) 0 0 (k 7) (k 8) 0 c1 r1 := X1
  have y2 : l2_fr (xn_W (k 2)) r r1 := y2
  have y3 : nd_at r1 (k 2) (nI kk) (r.1 950 6) := y3
  obtain ⟨d1, d2, d3, d4, d5, d6, d7⟩ := y3
  have t1 : c1.1 1 8 = nI x := by rw [(g1 1 8 (by omega)).1]; exact t
  obtain ⟨⟨u0, c2⟩, r2, e1, e2, a1, a2, a3, a4⟩ := xp_took X1 (by decide) (x := x) x6 t1
  have a1 : u0 = 1 := a1
  subst a1
  have a2 : l2_fr la_W c1 c2 := a2
  rw [hF c1 _ t1 e1 rfl]
  show t_h2 (F c2) ((f_X13_next r1).bind _) Q
  rw [e2, l2_bs]
  have C2 : l2_fr (fun b j => (b = 845 ∧ j = 10) ∨ la_W b j) c c2 := (g1.mono (fun b j y => Or.inl y)).trans (a2.mono (fun b j y => Or.inr y))
  have R2 : l2_fr (fun b j => xn_W (k 2) b j ∨ rn_W b j) r r2 := (y2.mono (fun b j y => Or.inl y)).trans (a3.mono (fun b j y => Or.inr y))
  rcases a4 with ⟨X2, l1, l2⟩ | ⟨f2', p0, q1, q2⟩
  rotate_left
  · have lk := S.lk
    have z1 : zS f f2' p0 c0 c2 := by
      refine ⟨⟨S.1.mF q1 ?_ ?_ ?_, gc1.trans (C2.mono (fun b j y => by unfold la_W at y; unfold mo_Wc; omega))⟩, ?_, ?_⟩
      · rw [(C2 334 2 (by unfold la_W; omega)).1]
      · rw [(C2 845 9 (by unfold la_W; omega)).1]
      · rw [(C2 845 7 (by unfold la_W; omega)).1]
      · obtain ⟨l, l1, l2⟩ := lk
        exact ⟨l, l1, by rw [(C2 846 6 (by unfold la_W; omega)).1]; exact l2⟩
      · rw [(C2 845 12 (by unfold la_W; omega)).1]
        exact S.1.2.2.2.1.2.2.1
    have w1 : yS P f f2' p0 r0 r2 := ⟨⟨q2, gr1.trans (R2.mono (fun b j y => by unfold xn_W rn_W at y; unfold mo_Wr; omega))⟩, by
      rw [(R2 950 33 (by unfold xn_W rn_W; omega)).1]
      exact S.2.2.2.2.1⟩
    rw [w1.1.hang, l2_bs]
    exact hb f2' p0 (k 2) c2 r2 z1 w1 (by omega)
  have X2 : xp P (E_f f n v) (k 0 + 1) 0 0 (k 1 + 1) (k 2 + 1) (k 3) (k 4) (k 5) (k 6) 0 0 (k 7) (k 8) 0 c2 r2 := X2
  have mono : ∀ j, j < vv → G j < k 2 := fun j hj => by
    have := (W8 j hj).2.1
    have := (W8 j hj).2.2.1
    omega
  have ch2 : ch_R r2 w vv G := W3.cp (m := k 2) (s := 0) R2 (fun b j y => by unfold xn_W rn_W at y; omega) W1 mono
  have n960 : r2.1 960 (k 2) = -1 := by rw [(a3 960 _ (by unfold rn_W; omega)).1]; exact d6
  obtain ⟨r3, e3, h3, f3⟩ := ch_hang (x := k 2) ch2 W1 (by omega) (by omega) X2.1.f0.2 n960 mono
  have eG : va_up G vv (k 2) = G := by
    rw [← W6]
    exact va_self G vv
  rw [eG] at h3
  rw [e3, l2_bs]
  have R3 : l2_fr (wy_W (k 2) w vv G) r r3 := (R2.mono (fun b j y => y.elim Or.inl (fun z => Or.inr (Or.inl z)))).trans (f3.mono (fun b j y => Or.inr (Or.inr y)))
  have X3 := X2.own (l2_fr.rf (W := fun _ _ => False)) f3 (fun b j y => y.elim) (fun b j y => by omega)
  have b := S.1.2.2.2.2.2
  have C2x : l2_fr (xWc (k 3) (k 4) (k 5) (k 6) 0 0) c c2 := C2.mono (fun b j y => by
    rcases y with ⟨rfl, rfl⟩ | y
    · exact xWc.i845 (by decide)
    · exact x_la y)
  have gn : ∀ j, wy_W (k 2) w vv G 950 j → (2 ≤ j ∧ j ≤ 10) ∨ j = 24 ∨ j = 26 ∨ j = 28 := fun j y => by
    unfold wy_W xn_W rn_W at y
    omega
  have R3x : l2_fr (xWr 0 (k 7)) r r3 := R3.mono (fun b j y => by
    unfold wy_W xn_W rn_W at y
    unfold xWr
    omega)
  have S3 := S.ofX X3 C2x R3x (Nat.le_succ _) (Nat.le_succ _) (by omega)
  have n9 : ∀ b, b ≠ 959 → b ≠ 960 → r3.1 b (k 2) = r2.1 b (k 2) := fun b x y => (f3 b _ (by omega)).1
  refine hg c2 r3 S3 ?_ C2 R3 ?_ ?_ h3 hm hq
  · rw [(R3 950 32 (fun y => by have := gn _ y; omega)).1]; exact h32
  · rw [n9 955 (by decide) (by decide), (a3 955 _ (by unfold rn_W; omega)).1]; exact d1
  · rw [(f3 959 _ (by omega)).1, (a3 959 _ (by unfold rn_W; omega)).1]; exact d5
end
