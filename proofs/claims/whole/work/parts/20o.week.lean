
/-! A WEEK: all of it as one change of the row. -/
theorem bxF_off {nl h sz lm nc : Nat} {W0 : Int32} : ∀ (t p : Nat) (s : Nat → Int32) (hl wo : Int32), bxF nl h sz lm nc t p s hl (W0 + wo) = ((bxF nl h sz lm nc t p s hl wo).1, (bxF nl h sz lm nc t p s hl wo).2.1, W0 + (bxF nl h sz lm nc t p s hl wo).2.2)
  | 0, p, s, hl, wo => rfl
  | t + 1, p, s, hl, wo => by
    rw [bxF, bxF]
    cases chF s nl h sz lm nc with
    | none => exact bxF_off t (p + 1) _ _ _
    | some q =>
      dsimp only
      rw [Int32.add_assoc]
      exact bxF_off t (p + 1) _ _ _
theorem hsF_off {nl lm nc wk h : Nat} {s : Nat → Int32} {H0 W0 H W : Int32} : hsF nl lm nc wk h s (H0 + H) (W0 + W) = ((hsF nl lm nc wk h s H W).1, H0 + (hsF nl lm nc wk h s H W).2.1, W0 + (hsF nl lm nc wk h s H W).2.2) := by
  unfold hsF
  by_cases q : (s (1702 + 40 * h) >>> (nI wk &&& 31)) &&& 1 = 1
  · rw [if_pos q, if_pos q]
  · rw [if_neg q, if_neg q, bxF_off]
    dsimp only
    rw [Int32.add_assoc]
theorem bsF_off {nl lm nc nh wk : Nat} {H0 W0 : Int32} : ∀ (t k : Nat) (s : Nat → Int32) (H W : Int32), bsF nl lm nc nh wk t k s (H0 + H) (W0 + W) = ((bsF nl lm nc nh wk t k s H W).1, H0 + (bsF nl lm nc nh wk t k s H W).2.1, W0 + (bsF nl lm nc nh wk t k s H W).2.2)
  | 0, k, s, H, W => rfl
  | t + 1, k, s, H, W => by
    rw [bsF, bsF, hsF_off]
    exact bsF_off t (k + 1) _ _ _
theorem spF_off {S0 : Int32} : ∀ (t l : Nat) (s : Nat → Int32) (S : Int32), spF t l s (S0 + S) = ((spF t l s S).1, S0 + (spF t l s S).2)
  | 0, l, s, S => rfl
  | t + 1, l, s, S => by
    rw [spF, spF]
    by_cases q : spP s l (s (250 + 6 * l)).toNatClampNeg
    · rw [if_pos q, if_pos q]
      exact spF_off t (l + 1) _ _
    · rw [if_neg q, if_neg q, Int32.add_assoc]
      exact spF_off t (l + 1) _ _
/-! numbers that a week leaves as they are -/
theorem pkF_lo {k : Nat} (hk : k < 150) (h3 : k ≠ 3) (h6 : ¬ k % 10 = 6 ∨ k < 50) : ∀ (t : Nat) (s : Nat → Int32) (left : Int32), pkF t s left k = s k
  | 0, _, _ => rfl
  | t + 1, s, left => by
    unfold pkF
    cases nxt s (fun _ => 0) 8 with
    | none => rfl
    | some b =>
      dsimp only
      by_cases q : 0 < left ∧ s 3 < 240
      · rw [if_pos q, pkF_lo hk h3 h6 t]
        unfold pick1
        rw [setB_ne (by omega), lotY_ne h3 (by omega) (by omega)]
      · rw [if_neg q]
theorem bxF_lo {nl h sz lm nc k : Nat} (hk : k < 250) (h8 : ¬ k % 10 = 8 ∨ k < 50) : ∀ (t p : Nat) (s : Nat → Int32) (hl wo : Int32), (bxF nl h sz lm nc t p s hl wo).1 k = s k
  | 0, _, _, _, _ => rfl
  | t + 1, p, s, hl, wo => by
    rw [bxF]
    cases chF s nl h sz lm nc with
    | none =>
      dsimp only
      rw [bxF_lo hk h8 t]
      unfold plN
      rw [zuf_ne _ _ (by omega), zuf_ne _ _ (by omega)]
    | some q =>
      dsimp only
      rw [bxF_lo hk h8 t]
      unfold plY
      rw [zuf_ne _ _ (by omega), zuf_ne _ _ (by omega), zuf_ne _ _ (by omega), zuf_ne _ _ (by omega), zuf_ne _ _ (by omega), zuf_ne _ _ (by omega), zuf_ne _ _ (by omega), zuf_ne _ _ (by omega)]
theorem hsF_lo {nl lm nc wk h k : Nat} {s : Nat → Int32} {H W : Int32} (hk : k < 250) (h8 : ¬ k % 10 = 8 ∨ k < 50) : (hsF nl lm nc wk h s H W).1 k = s k := by
  unfold hsF
  by_cases q : (s (1702 + 40 * h) >>> (nI wk &&& 31)) &&& 1 = 1
  · rw [if_pos q]
    exact zuf_ne _ _ (by omega)
  · rw [if_neg q]
    dsimp only
    rw [zuf_ne _ _ (by omega), bxF_lo hk h8, bx0_ne (by omega) (by omega) (fun r hr => by omega), zuf_ne _ _ (by omega)]
theorem bsF_lo {nl lm nc nh wk k : Nat} (hk : k < 250) (h8 : ¬ k % 10 = 8 ∨ k < 50) : ∀ (t j : Nat) (s : Nat → Int32) (H W : Int32), (bsF nl lm nc nh wk t j s H W).1 k = s k
  | 0, _, _, _, _ => rfl
  | t + 1, j, s, H, W => by
    rw [bsF, bsF_lo hk h8 t, hsF_lo hk h8]
theorem spF_lo {k : Nat} (hk : k < 250) (h9 : ¬ k % 10 = 9 ∨ k < 50) : ∀ (t l : Nat) (s : Nat → Int32) (S : Int32), (spF t l s S).1 k = s k
  | 0, _, _, _ => rfl
  | t + 1, l, s, S => by
    rw [spF]
    by_cases q : spP s l (s (250 + 6 * l)).toNatClampNeg
    · rw [if_pos q, spF_lo hk h9 t]
    · rw [if_neg q, spF_lo hk h9 t]
      unfold spS
      rw [zuf_ne _ _ (by omega), zuf_ne _ _ (by omega)]
/-- the row when it has grown, been picked; been closed -/
def wP (s : Nat → Int32) : Nat → Int32 := pkF 8 (growN s (s 0).toNatClampNeg 8) (growN s (s 0).toNatClampNeg 8 1)
def wX (s : Nat → Int32) : Nat → Int32 := endN (wP s) 8
def wBx (s : Nat → Int32) : (Nat → Int32) × Int32 × Int32 := bsF (wX s 3).toNatClampNeg (wX s 5).toNatClampNeg (wX s 2).toNatClampNeg (wX s 4).toNatClampNeg (wX s 0).toNatClampNeg (wX s 4).toNatClampNeg 0 (wX s) 0 0
def wSp (s : Nat → Int32) : (Nat → Int32) × Int32 := spF (wX s 3).toNatClampNeg 0 (wBx s).1 0
def wkS (s : Nat → Int32) : Nat → Int32 := zuf (wSp s).1 0 ((wSp s).1 0 + 1)
section
variable {M : zM} {n : Nat} {c c' : mS} {kp bt : Nat → Option Nat} {la : Nat} {s : Nat → Int32} {nc nh nl lm wk : Nat}
theorem GR.cb (h : GR M n c kp bt la s) (b : Nat) (hb : b < 8) : s (150 + 10 * b) = -1 ∨ ∃ i, i < 8 ∧ s (150 + 10 * b) = nI i := by
  obtain ⟨nc, nh, nl, lm, wk, g1, g2, g3, -⟩ := h
  rcases (g3 b hb).1 with z | ⟨i, a, z1, z2, -⟩
  · exact Or.inl z.1
  · exact Or.inr ⟨i, by have := g1.2.1; omega, z2⟩
theorem GK.cb (h : GK M n c kp bt la s) (b : Nat) (hb : b < 8) : s (150 + 10 * b) = -1 ∨ ∃ i, i < 8 ∧ s (150 + 10 * b) = nI i := by
  obtain ⟨nc, nh, nl, lm, wk, g1, g2, g3, -⟩ := h
  rcases (g3 b hb).1 with z | ⟨i, a, z1, z2, -⟩
  · exact Or.inl z.1
  · exact Or.inr ⟨i, by have := g1.2.1; omega, z2⟩
theorem GK.cbn (h : GK M n c kp bt la s) (h2 : s 2 = nI nc) (h8 : nc ≤ 8) (b : Nat) (hb : b < 8) : s (150 + 10 * b) = -1 ∨ ∃ i, i < nc ∧ s (150 + 10 * b) = nI i := by
  obtain ⟨nc', nh, nl, lm, wk, g1, g2, g3, -⟩ := h
  have e : nc' = nc := zn_inj (by have := g1.2.1; omega) (by omega) (g1.1.symm.trans h2)
  subst e
  rcases (g3 b hb).1 with z | ⟨i, a, z1, z2, -⟩
  · exact Or.inl z.1
  · exact Or.inr ⟨i, z1, z2⟩
/-- after the growing -/
theorem GR.grown (h : GR M n c kp bt la s) (hc : ∀ j, ¬ (20 ≤ j ∧ j < 28) → c' j = c j) (hb : ∀ nc, nc ≤ 8 → s 2 = nI nc → ∀ b, b < 8 → PBk M n c' bt (growN s wk 8) nc b) : GK M n c' kp bt la (growN s wk 8) := by
  obtain ⟨nc, nh, nl, lm, wk', hN, h2, h3, h4, h5, h6, h7, h8⟩ := h
  have g1 : nc ≤ 8 := hN.2.1
  have g2 : nh ≤ 10 := hN.2.2.2.1
  have g3 : nl ≤ 240 := hN.2.2.2.2.2.1
  have g4 : lm ≤ 20 := hN.2.2.2.2.2.2.2.1
  have hy : ∀ k, ¬ (150 ≤ k ∧ k < 230) → growN s wk 8 k = s k := fun k hk => growN_ne 8 k (by omega)
  have hbb := hb nc g1 hN.1
  refine ⟨nc, nh, nl, lm, wk', ?_, h2.cg g1 (fun k hk => hy k (by omega)), hbb, h4.cg g3 (fun k hk => hy k (by omega)) (fun j hj => hc _ (by omega)), h5.cg g3 (fun k hk => hy k (by omega)) (fun j hj => hc _ (by omega)), h6.cg g2 (fun k hk => hy k (by omega)) (fun j hj => hc _ (by omega)), h7.cg (fun k hk => hy k (by omega)) (hc 7 (by omega)), h8.cg g4 (fun k hk => hy k (by omega))⟩
  unfold PN at hN ⊢
  rw [hy 2 (by omega), hy 4 (by omega), hy 3 (by omega), hy 5 (by omega), hy 0 (by omega), hy 1 (by omega), hc 0 (by omega)]
  obtain ⟨N1, N2, N3, N4, N5, N6, N7, N8, N9, N10, N11, N12, N13, N14, N15, N16, N17⟩ := hN
  refine ⟨N1, N2, N3, N4, N5, N6, N7, N8, N9, N10, N11, N12, N13, N14, N15, fun q a b k a2 b2 => by rw [hy _ (by omega)]; exact N16 q a b k a2 b2, fun b hb => ?_, fun q hq => by rw [hc _ (by omega)]; exact N17.2 q hq⟩
  rcases (hbb b hb).2.2.2.2.2 with ⟨-, z, -⟩ | ⟨-, z | ⟨z, -⟩⟩
  · exact Or.inr z
  · exact Or.inl z
  · exact Or.inr z
theorem GR.gh (h : GR M n c kp bt la s) : ∃ nc nh nl lm wk, GH (todo wk nh 0) M n c kp bt la s nc nh nl lm wk := by
  obtain ⟨nc, nh, nl, lm, wk, hN, h2, h3, h4, h5, h6, h7, h8⟩ := h
  exact ⟨nc, nh, nl, lm, wk, hN, h2, h3, h4, h5, fun q hq => ⟨PHi.up (h6 q hq), fun _ => h6 q hq⟩, h7, h8⟩
theorem GH.gt {D : Nat → Prop} (h : GH D M n c kp bt la s nc nh nl lm wk) : GT M n c kp bt la s nc nh nl lm wk := by
  obtain ⟨hN, h2, h3, h4, h5, h6, h7, h8⟩ := h
  exact ⟨hN, h2, h3, h4, h5, fun q hq => (h6 q hq).1, h7, h8⟩
theorem GT.next (h : GT M n c kp bt la s nc nh nl lm wk) (hwk : wk < 30) : GR M n (zuf c 0 (zuf (c 0) 2 (c 0 2 + 1))) kp bt la (zuf s 0 (s 0 + 1)) := by
  obtain ⟨hN, h2, h3, h4, h5, h6, h7, h8⟩ := h
  obtain ⟨N1, N2, N3, N4, N5, N6, N7, N8, N9, N10, N11, N12, N13, N14, N15, N16, N17⟩ := hN
  have hy : ∀ k, k ≠ 0 → zuf s 0 (s 0 + 1) k = s k := fun k hk => zuf_ne _ _ hk
  have hc : ∀ j, j ≠ 0 → zuf c 0 (zuf (c 0) 2 (c 0 2 + 1)) j = c j := fun j hj => zuf_ne _ _ hj
  refine ⟨nc, nh, nl, lm, wk + 1, ⟨N1, N2, N3, N4, N5, N6, N7, N8, ?_, by omega, N11, N12, ?_, N14, N15, fun q a b k a2 b2 => by rw [hy _ (by omega)]; exact N16 q a b k a2 b2, fun b hb => by rw [hc _ (by omega)]; exact N17.1 b hb, fun q hq => by rw [hc _ (by omega)]; exact N17.2 q hq⟩, h2.cg N2 (fun k hk => hy k (by omega)), h3.cg N2 (fun k hk => hy k (by omega)) (fun b hb => hc _ (by omega)), fun l hl => ?_, h5.cg N6 (fun k hk => hy k (by omega)) (fun j hj => hc _ (by omega)), h6.cg N4 (fun k hk => hy k (by omega)) (fun j hj => hc _ (by omega)), h7.cg (fun k hk => hy k (by omega)) (hc 7 (by omega)), h8.cg N8 (fun k hk => hy k (by omega))⟩
  · rw [zuf_self, N9, zI_s]
  · show c 0 2 + 1 = s 0 + 1
    rw [N13]
  · obtain ⟨z1, z2, z3, k, z4, z5, z6⟩ := h4 l hl
    rw [hy _ (by omega), hy _ (by omega), hy _ (by omega)]
    exact ⟨fun j hj => by rw [hc _ (by omega), hy _ (by omega)]; exact z1 j hj, z2, z3, k, z4, z5, by omega⟩
end
theorem wP_lo {s : Nat → Int32} {k : Nat} (hk : k < 150) (h3 : k ≠ 3) (h6 : ¬ k % 10 = 6 ∨ k < 50) : wP s k = s k := by
  unfold wP
  rw [pkF_lo hk h3 h6, growN_ne 8 _ (by omega)]
/-- what is lost in a week, by the sums of the crops -/
theorem wk_lost {s : Nat → Int32} {nc : Nat} (h8 : nc ≤ 8) (hc : ∀ b, b < 8 → wP s (150 + 10 * b) = -1 ∨ ∃ i, i < nc ∧ wP s (150 + 10 * b) = nI i) : lostSum (wkS s) nc = lostSum s nc + lossN (wP s) 8 := by
  rw [← lostSum_cg (s := s) (s' := wP s) nc (fun i hi => wP_lo (by omega) (by omega) (by omega)), ← lossN_sum h8 hc 8 (by omega)]
  refine lostSum_cg nc (fun i hi => ?_)
  unfold wkS wSp
  rw [zuf_ne _ _ (by omega), spF_lo (by omega) (by omega)]
  unfold wBx
  rw [bsF_lo (by omega) (by omega)]
  rfl
