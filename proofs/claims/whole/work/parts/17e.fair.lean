
/-! fair. -/
def fUp (nh : Nat) (sz : Nat → Int32) (gt : Nat → Nat) (A : Nat → Nat → Prop) (r : Nat) : Prop := ∀ h o, A h o → h < nh → o < nh → sz h = sz o → gt h ≤ gt o + r
def fAt (nh : Nat) (sz : Nat → Int32) (gt : Nat → Nat) (r : Nat) : Prop := r = 0 ∨ ∃ h o, h < nh ∧ o < nh ∧ sz h = sz o ∧ gt h = gt o + r
theorem fAt_le {nh : Nat} {sz : Nat → Int32} {gt : Nat → Nat} {r1 r2 : Nat} (h1 : fAt nh sz gt r1) (h2 : fUp nh sz gt (fun _ _ => True) r2) : r1 ≤ r2 := by
  rcases h1 with h | ⟨h, o, a, b, c, e⟩
  · omega
  · have := h2 h o trivial a b c
    omega
theorem nI_diff {a b : Nat} (ha : a ≤ 2000) (hb : b ≤ 2000) : (nI a - nI b).toInt = (a : Int) - b := by
  rw [Int32.toInt_sub, nI_toInt (by omega), nI_toInt (by omega), Int.bmod_eq_of_le (by omega) (by omega)]
theorem abs_diff {a b : Nat} (ha : a ≤ 2000) (hb : b ≤ 2000) : (if nI a - nI b < 0 then -(nI a - nI b) else nI a - nI b) = nI ((a - b) + (b - a)) := by
  have h := nI_diff ha hb
  by_cases q : nI a - nI b < 0
  · rw [if_pos q]
    rw [Int32.lt_iff_toInt_lt, h, show (0 : Int32).toInt = 0 by decide] at q
    apply Int32.toInt_inj.mp
    rw [Int32.toInt_neg, h, nI_toInt (by omega), Int.bmod_eq_of_le (by omega) (by omega)]
    omega
  · rw [if_neg q]
    rw [Int32.lt_iff_toInt_lt, h, show (0 : Int32).toInt = 0 by decide] at q
    apply Int32.toInt_inj.mp
    rw [h, nI_toInt (by omega)]
    omega
section
variable {M : zM} {c : mS} {kp bt : Nat → Option Nat} {la nh : Nat} {sz : Nat → Int32} {gt : Nat → Nat} {d n w : Nat} {Q : Option Value → Nat → Nat → zM → Prop}
/-- the class: pairs of one house -/
theorem gdI {g : Nat} (hG : Gc M g c kp bt la) (hnh : nh ≤ 10) (hs : ∀ h, h < nh → c (30 + h) 0 = sz h ∧ c (30 + h) 3 = nI (gt h) ∧ gt h ≤ 1620) {i : Nat} (hi : i < nh)
    (hQ : ∀ r, r ≤ 1620 → fUp nh sz gt (fun h o => (h < i + 1 ∧ o < i + 1)) r → fAt nh sz gt r → zR ztb (d + 1) kX2_greatestDifference 1 73 [some (.ref g), some (.int (nI r)), some (.int (nI i)), some (.int (nI i))] [] n w M Q) : ∀ (t j r : Nat), j + t = i → r ≤ 1620 → fUp nh sz gt (fun h o => (h < i ∧ o < i) ∨ (h = i ∧ o < j) ∨ (o = i ∧ h < j)) r → fAt nh sz gt r → zR ztb (d + 1) kX2_greatestDifference 1 14 [some (.ref g), some (.int (nI r)), some (.int (nI i)), some (.int (nI j))] [] n w M Q
  | 0, j, r, h, hr, h1, h2 => by
    have e2 : j = i := by omega
    subst e2
    have e : ¬ nI j < nI j := zI_nlt (Nat.le_refl _) (by omega)
    repeat (first | with_reducible refine zR.hold (pc := 73) ?_ | ((with_reducible refine zR.stored ?_); dsimp only [zsto, zclr, zset, zget, zc2, cond_false, cond_true]) | ((with_reducible refine zR.atLit ?_); first | refine zR.step rfl ?_) | rw [zcc1] | rw [zcc2] | rw [zcc3] | rw [zcc4] | rw [zn1 (e)] | rw [zn2 (e)] | rw [zn3 (e)] | rw [zn4 (e)])
    refine ⟨trivial, hQ r hr (fun h o a b e f => ?_) h2⟩
    by_cases q1 : h = j
    · by_cases q2 : o = j
      · subst q1; subst q2; omega
      · exact h1 h o (by omega) b e f
    · exact h1 h o (by omega) b e f
  | t + 1, j, r, h, hr, h1, h2 => by
    have e : nI j < nI i := zI_ylt (by omega) (by omega)
    obtain ⟨a1, a2, a3⟩ := hs i hi
    obtain ⟨b1, b2, b3⟩ := hs j (by omega)
    have r1 := hrow_y (g := g) (i := i) (by omega)
    have r2 := hrow_y (g := g) (i := j) (by omega)
    refine zR.step rfl ?_
    repeat (first | ((with_reducible refine zR.stored ?_); dsimp only [zsto, zclr, zset, zget, zc2, cond_false, cond_true]) | ((with_reducible refine zR.atLit ?_); first | refine zR.step rfl ?_ | refine zR.getf rfl (hG.o) rfl ?_ | (refine zR.aald rfl hG.hr (Or.inr (Or.inr (Or.inl rfl))) (i := i) rfl (by omega) (by decide) ?_; rw [r1]) | (refine zR.aald rfl hG.hr (Or.inr (Or.inr (Or.inl rfl))) (i := j) rfl (by omega) (by decide) ?_; rw [r2]) | refine zR.getf rfl (hG.h0 (i := i) (by omega)) rfl ?_ | refine zR.getf rfl (hG.h0 (i := j) (by omega)) rfl ?_) | rw [zcc1] | rw [zcc2] | rw [zcc3] | rw [zcc4] | rw [zb1 (e)] | rw [zb2 (e)] | rw [zb3 (e)] | rw [zb4 (e)] | rw [a1] | rw [b1])
    by_cases q : sz i = sz j
    · have em : (if nI r < nI ((gt i - gt j) + (gt j - gt i)) then nI ((gt i - gt j) + (gt j - gt i)) else nI r) = nI (max r ((gt i - gt j) + (gt j - gt i))) := by
        by_cases z : r < (gt i - gt j) + (gt j - gt i)
        · rw [if_pos (zI_ylt z (by omega)), Nat.max_eq_right (by omega)]
        · rw [if_neg (zI_nlt (by omega) (by omega)), Nat.max_eq_left (by omega)]
      have ea := abs_diff (a := gt i) (b := gt j) (by omega) (by omega)
      have ih := gdI hG hnh hs hi hQ t (j + 1) (max r ((gt i - gt j) + (gt j - gt i))) (by omega) (by omega) (fun h o a b e f => by
        rcases a with a | a | a
        · have := h1 h o (Or.inl a) b e f
          omega
        · by_cases z : o = j
          · obtain ⟨a, -⟩ := a
            subst a; subst z
            omega
          · have := h1 h o (Or.inr (Or.inl (by omega))) b e f
            omega
        · by_cases z : h = j
          · obtain ⟨a, -⟩ := a
            subst a; subst z
            omega
          · have := h1 h o (Or.inr (Or.inr (by omega))) b e f
            omega) (by
        by_cases z : r < (gt i - gt j) + (gt j - gt i)
        · rw [Nat.max_eq_right (by omega)]
          by_cases y : gt j ≤ gt i
          · exact Or.inr ⟨i, j, hi, by omega, q, by omega⟩
          · exact Or.inr ⟨j, i, by omega, hi, q.symm, by omega⟩
        · rw [Nat.max_eq_left (by omega)]
          exact h2)
      rw [← zI_s] at ih
      rw [← em, ← ea] at ih
      rw [ze2 q]
      repeat (first | with_reducible refine zR.hold (pc := 14) ?_ | ((with_reducible refine zR.stored ?_); dsimp only [zsto, zclr, zset, zget, zc2, cond_false, cond_true]) | ((with_reducible refine zR.atLit ?_); first | refine zR.step rfl ?_ | refine zR.getf rfl (hG.o) rfl ?_ | (refine zR.aald rfl hG.hr (Or.inr (Or.inr (Or.inl rfl))) (i := i) rfl (by omega) (by decide) ?_; rw [r1]) | (refine zR.aald rfl hG.hr (Or.inr (Or.inr (Or.inl rfl))) (i := j) rfl (by omega) (by decide) ?_; rw [r2]) | (refine zR.getf rfl (hG.h0 (i := i) (by omega)) rfl ?_; rw [a2]) | (refine zR.getf rfl (hG.h0 (i := j) (by omega)) rfl ?_; rw [b2]) | refine zR.cs rfl rfl rfl rfl rfl (zCalP.of (c_abs _) ?_) | refine zR.cs rfl rfl rfl rfl rfl (zCalP.of (c_max _ _) ?_)) | rw [zcc1] | rw [zcc2] | rw [zcc3] | rw [zcc4])
      exact ⟨trivial, ih⟩
    · have ih := gdI hG hnh hs hi hQ t (j + 1) r (by omega) hr (fun h o a b e f => by
        rcases a with a | a | a
        · exact h1 h o (Or.inl a) b e f
        · by_cases z : o = j
          · obtain ⟨a, -⟩ := a
            subst a; subst z
            exact absurd f q
          · exact h1 h o (Or.inr (Or.inl (by omega))) b e f
        · by_cases z : h = j
          · obtain ⟨a, -⟩ := a
            subst a; subst z
            exact absurd f.symm q
          · exact h1 h o (Or.inr (Or.inr (by omega))) b e f) h2
      rw [← zI_s] at ih
      rw [zd2 q]
      repeat (first | with_reducible refine zR.hold (pc := 14) ?_ | ((with_reducible refine zR.stored ?_); dsimp only [zsto, zclr, zset, zget, zc2, cond_false, cond_true]) | ((with_reducible refine zR.atLit ?_); first | refine zR.step rfl ?_) | rw [zcc1] | rw [zcc2] | rw [zcc3] | rw [zcc4])
      exact ⟨trivial, ih⟩
theorem gdO {g : Nat} (hG : Gc M g c kp bt la) (h01 : c 0 1 = nI nh) (hnh : nh ≤ 10) (hs : ∀ h, h < nh → c (30 + h) 0 = sz h ∧ c (30 + h) 3 = nI (gt h) ∧ gt h ≤ 1620) (hQ : ∀ r, r ≤ 1620 → fUp nh sz gt (fun _ _ => True) r → fAt nh sz gt r → Q (some (.int (nI r))) n w M) : ∀ (t i r : Nat) (x3 : Option Value), i + t = nh → r ≤ 1620 → fUp nh sz gt (fun h o => h < i ∧ o < i) r → fAt nh sz gt r → zR ztb (d + 1) kX2_greatestDifference 1 4 [some (.ref g), some (.int (nI r)), some (.int (nI i)), x3] [] n w M Q
  | 0, i, r, x3, h, hr, h1, h2 => by
    have e2 : i = nh := by omega
    subst e2
    have e : ¬ nI i < c 0 1 := by rw [h01]; exact zI_nlt (Nat.le_refl _) (by omega)
    repeat (first | ((with_reducible refine zR.stored ?_); dsimp only [zsto, zclr, zset, zget, zc2, cond_false, cond_true]) | ((with_reducible refine zR.atLit ?_); first | refine zR.step rfl ?_ | refine zR.getf rfl (hG.o) rfl ?_) | rw [zcc1] | rw [zcc2] | rw [zcc3] | rw [zcc4] | rw [zn1 (e)] | rw [zn2 (e)] | rw [zn3 (e)] | rw [zn4 (e)])
    exact zR.ret rfl rfl (hQ r hr (fun h o _ b e f => h1 h o ⟨b, e⟩ b e f) h2)
  | t + 1, i, r, x3, h, hr, h1, h2 => by
    have e : nI i < c 0 1 := by rw [h01]; exact zI_ylt (by omega) (by omega)
    refine zR.step rfl ?_
    repeat (first | with_reducible refine zR.hold (pc := 14) ?_ | ((with_reducible refine zR.stored ?_); dsimp only [zsto, zclr, zset, zget, zc2, cond_false, cond_true]) | ((with_reducible refine zR.atLit ?_); first | refine zR.step rfl ?_ | refine zR.getf rfl (hG.o) rfl ?_) | rw [zcc1] | rw [zcc2] | rw [zcc3] | rw [zcc4] | rw [zb1 (e)] | rw [zb2 (e)] | rw [zb3 (e)] | rw [zb4 (e)])
    refine ⟨trivial, gdI (d := d) hG hnh hs (by omega) (fun r2 hr2 g1 g2 => ?_) i 0 r (by omega) hr (fun h o a b e f => h1 h o (by omega) b e f) h2⟩
    have ih := gdO hG h01 hnh hs hQ t (i + 1) r2 (some (.int (nI i))) (by omega) hr2 g1 g2
    rw [← zI_s] at ih
    repeat (first | with_reducible refine zR.hold (pc := 4) ?_ | ((with_reducible refine zR.stored ?_); dsimp only [zsto, zclr, zset, zget, zc2, cond_false, cond_true]) | ((with_reducible refine zR.atLit ?_); first | refine zR.step rfl ?_) | rw [zcc1] | rw [zcc2] | rw [zcc3] | rw [zcc4])
    exact ⟨trivial, ih⟩
end
section
variable {M : zM} {σ : mS} {nh : Nat} {gt : Nat → Nat} {d n w : Nat} {Q : Option Value → Nat → Nat → zM → Prop}
def szR (σ : mS) (h : Nat) : Int32 := σ 0 (1700 + 40 * h + 0)
/-- the reference: pairs of one house -/
theorem frI (hR : Rf M σ) (h4 : σ 0 4 = nI nh) (hnh : nh ≤ 10) (hs : ∀ h, h < nh → σ 0 (1700 + 40 * h + 3) = nI (gt h) ∧ gt h ≤ 1620) {i : Nat} (hi : i < nh)
    (hQ : ∀ r x4, r ≤ 1620 → fUp nh (szR σ) gt (fun h o => h < i + 1) r → fAt nh (szR σ) gt r → zR ztb (d + 1) kX12_fair 1 75 [some (.ref 287), some (.int (nI r)), some (.int (nI i)), some (.int (nI nh)), x4] [] n w M Q) : ∀ (t j r : Nat) (x4 : Option Value), j + t = nh → r ≤ 1620 → fUp nh (szR σ) gt (fun h o => h < i ∨ (h = i ∧ o < j)) r → fAt nh (szR σ) gt r → zR ztb (d + 1) kX12_fair 1 16 [some (.ref 287), some (.int (nI r)), some (.int (nI i)), some (.int (nI j)), x4] [] n w M Q
  | 0, j, r, x4, h, hr, h1, h2 => by
    have e2 : j = nh := by omega
    subst e2
    have e : ¬ nI j < σ 0 4 := by rw [h4]; exact zI_nlt (Nat.le_refl _) (by omega)
    repeat (first | with_reducible refine zR.hold (pc := 75) ?_ | ((with_reducible refine zR.stored ?_); dsimp only [zsto, zclr, zset, zget, zc2, cond_false, cond_true]) | ((with_reducible refine zR.atLit ?_); first | refine zR.step rfl ?_ | refine zR.getf rfl (hR.1) rfl ?_ | refine zR.ilR0 hR rfl (by (try simp only [zn_lit, zn_add, zn_mul]); rfl) (by omega) ?_) | rw [zcc1] | rw [zcc2] | rw [zcc3] | rw [zcc4] | rw [zn1 (e)] | rw [zn2 (e)] | rw [zn3 (e)] | rw [zn4 (e)])
    exact ⟨trivial, hQ r _ hr (fun h o a b e f => h1 h o (by omega) b e f) h2⟩
  | t + 1, j, r, x4, h, hr, h1, h2 => by
    have e : nI j < σ 0 4 := by rw [h4]; exact zI_ylt (by omega) (by omega)
    obtain ⟨a2, a3⟩ := hs i hi
    obtain ⟨b2, b3⟩ := hs j (by omega)
    have hd := nI_diff (a := gt i) (b := gt j) (by omega) (by omega)
    refine zR.step rfl ?_
    repeat (first | ((with_reducible refine zR.stored ?_); dsimp only [zsto, zclr, zset, zget, zc2, cond_false, cond_true]) | ((with_reducible refine zR.atLit ?_); first | refine zR.step rfl ?_ | refine zR.getf rfl (hR.1) rfl ?_ | refine zR.ilR0 hR rfl (by (try simp only [zn_lit, zn_add, zn_mul]); rfl) (by omega) ?_ | (refine zR.cv rfl rfl rfl hR.1 rfl rfl (zCalP.of (c_houseIs hR i 3 (by omega)) ?_); rw [a2]) | (refine zR.cv rfl rfl rfl hR.1 rfl rfl (zCalP.of (c_houseIs hR j 3 (by omega)) ?_); rw [b2]) | refine zR.cv rfl rfl rfl hR.1 rfl rfl (zCalP.of (c_houseIs hR i 0 (by omega)) ?_) | refine zR.cv rfl rfl rfl hR.1 rfl rfl (zCalP.of (c_houseIs hR j 0 (by omega)) ?_)) | rw [zcc1] | rw [zcc2] | rw [zcc3] | rw [zcc4] | rw [zb1 (e)] | rw [zb2 (e)] | rw [zb3 (e)] | rw [zb4 (e)])
    have keep : ¬ (szR σ i = szR σ j ∧ gt j + r < gt i) → zR ztb (d + 1) kX12_fair 1 16 [some (.ref 287), some (.int (nI r)), some (.int (nI i)), some (.int (nI j + 1)), some (.int (nI (gt i) - nI (gt j)))] [] n w M Q := fun hn => by
      have ih := frI hR h4 hnh hs hi hQ t (j + 1) r (some (.int (nI (gt i) - nI (gt j)))) (by omega) hr (fun h o a b e f => by
        by_cases z : h = i ∧ o = j
        · obtain ⟨z1, z2⟩ := z
          rw [z1, z2] at f ⊢
          have : ¬ gt j + r < gt i := fun y => hn ⟨f, y⟩
          omega
        · exact h1 h o (by omega) b e f) h2
      rw [← zI_s] at ih
      exact ih
    by_cases q : szR σ i = szR σ j
    · have q' : σ 0 (1700 + 40 * i + 0) = σ 0 (1700 + 40 * j + 0) := q
      by_cases z : gt j + r < gt i
      · have z1 : nI r < nI (gt i) - nI (gt j) := by rw [Int32.lt_iff_toInt_lt, hd, nI_toInt (by omega)]; omega
        have e3 : nI (gt i) - nI (gt j) = nI (gt i - gt j) := zI_sub (by omega) (by omega)
        have ih := frI hR h4 hnh hs hi hQ t (j + 1) (gt i - gt j) (some (.int (nI (gt i) - nI (gt j)))) (by omega) (by omega) (fun h o a b e f => by
          by_cases z : h = i ∧ o = j
          · obtain ⟨z1, z2⟩ := z
            subst z1; subst z2
            omega
          · have := h1 h o (by omega) b e f
            omega) (Or.inr ⟨i, j, hi, by omega, q, by omega⟩)
        rw [← zI_s] at ih
        rw [← e3] at ih
        rw [ze2 q']
        repeat (first | with_reducible refine zR.hold (pc := 16) ?_ | ((with_reducible refine zR.stored ?_); dsimp only [zsto, zclr, zset, zget, zc2, cond_false, cond_true]) | ((with_reducible refine zR.atLit ?_); first | refine zR.step rfl ?_) | rw [zcc1] | rw [zcc2] | rw [zcc3] | rw [zcc4] | rw [zb1 (z1)] | rw [zb2 (z1)] | rw [zb3 (z1)] | rw [zb4 (z1)])
        exact ⟨trivial, ih⟩
      · have z1 : ¬ nI r < nI (gt i) - nI (gt j) := by rw [Int32.lt_iff_toInt_lt, hd, nI_toInt (by omega)]; omega
        rw [ze2 q']
        repeat (first | with_reducible refine zR.hold (pc := 16) ?_ | ((with_reducible refine zR.stored ?_); dsimp only [zsto, zclr, zset, zget, zc2, cond_false, cond_true]) | ((with_reducible refine zR.atLit ?_); first | refine zR.step rfl ?_) | rw [zcc1] | rw [zcc2] | rw [zcc3] | rw [zcc4] | rw [zn1 (z1)] | rw [zn2 (z1)] | rw [zn3 (z1)] | rw [zn4 (z1)])
        exact ⟨trivial, keep (fun y => z y.2)⟩
    · have q' : ¬ σ 0 (1700 + 40 * i + 0) = σ 0 (1700 + 40 * j + 0) := q
      rw [zd2 q']
      repeat (first | with_reducible refine zR.hold (pc := 16) ?_ | ((with_reducible refine zR.stored ?_); dsimp only [zsto, zclr, zset, zget, zc2, cond_false, cond_true]) | ((with_reducible refine zR.atLit ?_); first | refine zR.step rfl ?_) | rw [zcc1] | rw [zcc2] | rw [zcc3] | rw [zcc4])
      exact ⟨trivial, keep (fun y => q y.1)⟩
theorem frO (hR : Rf M σ) (h4 : σ 0 4 = nI nh) (hnh : nh ≤ 10) (hs : ∀ h, h < nh → σ 0 (1700 + 40 * h + 3) = nI (gt h) ∧ gt h ≤ 1620) (hQ : ∀ r, r ≤ 1620 → fUp nh (szR σ) gt (fun _ _ => True) r → fAt nh (szR σ) gt r → Q (some (.int (nI r))) n w M) : ∀ (t i r : Nat) (x3 x4 : Option Value), i + t = nh → r ≤ 1620 → fUp nh (szR σ) gt (fun h o => h < i) r → fAt nh (szR σ) gt r → zR ztb (d + 1) kX12_fair 1 4 [some (.ref 287), some (.int (nI r)), some (.int (nI i)), x3, x4] [] n w M Q
  | 0, i, r, x3, x4, h, hr, h1, h2 => by
    have e2 : i = nh := by omega
    subst e2
    have e : ¬ nI i < σ 0 4 := by rw [h4]; exact zI_nlt (Nat.le_refl _) (by omega)
    repeat (first | ((with_reducible refine zR.stored ?_); dsimp only [zsto, zclr, zset, zget, zc2, cond_false, cond_true]) | ((with_reducible refine zR.atLit ?_); first | refine zR.step rfl ?_ | refine zR.getf rfl (hR.1) rfl ?_ | refine zR.ilR0 hR rfl (by (try simp only [zn_lit, zn_add, zn_mul]); rfl) (by omega) ?_) | rw [zcc1] | rw [zcc2] | rw [zcc3] | rw [zcc4] | rw [zn1 (e)] | rw [zn2 (e)] | rw [zn3 (e)] | rw [zn4 (e)])
    exact zR.ret rfl rfl (hQ r hr (fun h o _ b e f => h1 h o b b e f) h2)
  | t + 1, i, r, x3, x4, h, hr, h1, h2 => by
    have e : nI i < σ 0 4 := by rw [h4]; exact zI_ylt (by omega) (by omega)
    refine zR.step rfl ?_
    repeat (first | with_reducible refine zR.hold (pc := 16) ?_ | ((with_reducible refine zR.stored ?_); dsimp only [zsto, zclr, zset, zget, zc2, cond_false, cond_true]) | ((with_reducible refine zR.atLit ?_); first | refine zR.step rfl ?_ | refine zR.getf rfl (hR.1) rfl ?_ | refine zR.ilR0 hR rfl (by (try simp only [zn_lit, zn_add, zn_mul]); rfl) (by omega) ?_) | rw [zcc1] | rw [zcc2] | rw [zcc3] | rw [zcc4] | rw [zb1 (e)] | rw [zb2 (e)] | rw [zb3 (e)] | rw [zb4 (e)])
    refine ⟨trivial, frI (d := d) hR h4 hnh hs (by omega) (fun r2 y4 hr2 g1 g2 => ?_) nh 0 r _ (by omega) hr (fun h o a b e f => h1 h o (by omega) b e f) h2⟩
    have ih := frO hR h4 hnh hs hQ t (i + 1) r2 (some (.int (nI nh))) y4 (by omega) hr2 g1 g2
    rw [← zI_s] at ih
    repeat (first | with_reducible refine zR.hold (pc := 4) ?_ | ((with_reducible refine zR.stored ?_); dsimp only [zsto, zclr, zset, zget, zc2, cond_false, cond_true]) | ((with_reducible refine zR.atLit ?_); first | refine zR.step rfl ?_) | rw [zcc1] | rw [zcc2] | rw [zcc3] | rw [zcc4])
    exact ⟨trivial, ih⟩
end
theorem o_fair {L : Nat} {xs : Nat → Int32} : op_fair (Inv L xs) := by
  intro  M σ n w hI
  have hI' := hI
  obtain ⟨t, tr, c0, c1, c2, k0, k1, k2, b0, b1, b2, l0, l1, l2, hR, ⟨hT, hG0, hG1, hG2⟩, hg, hk, ht, hx, hn⟩ := hI
  have h25 := hT.1
  have hg' := hg
  obtain ⟨nc, nh, nl, lm, wk, hN, ⟨hC, hCn⟩, hB, hL, hSt, hH, hW, hX⟩ := hg'
  obtain ⟨N1, N2, N3, N4, N5, N6, N7, N8, N9, N10, N11, N12, N13, N14, N15, N16, N17⟩ := hN
  have hgt : ∀ h, h < nh → σ 0 (1700 + 40 * h + 3) = nI ((σ 0 (1700 + 40 * h + 3)).toInt.toNat) ∧ (σ 0 (1700 + 40 * h + 3)).toInt.toNat ≤ 1620 := fun h hh => by
    obtain ⟨k, k1, -, k2⟩ := (hH h hh).2.2.2.2.2.1
    rw [show 1700 + 40 * h + 3 = 1703 + 40 * h by omega, k1, nI_toInt (by omega)]
    exact ⟨by rw [Int.toNat_natCast], by rw [Int.toNat_natCast]; omega⟩
  show zR ztb _ kX11_fair 1 0 [some (.ref 25)] [] _ _ _ _
  repeat (first | ((with_reducible refine zR.stored ?_); dsimp only [zsto, zclr, zset, zget, zc2, cond_false, cond_true]) | ((with_reducible refine zR.atLit ?_); first | refine zR.step rfl ?_ | refine zR.getf rfl (h25) rfl ?_) | rw [zcc1] | rw [zcc2] | rw [zcc3] | rw [zcc4])
  refine zR.cv rfl rfl rfl hG0.o rfl rfl ?_
  show zR ztb _ kX2_greatestDifference 1 0 [some (.ref 48), none, none, none] [] _ _ _ _
  iterate 4 refine zR.step rfl ?_
  refine gdO (d := 997) (sz := szR σ) (gt := fun h => (σ 0 (1700 + 40 * h + 3)).toInt.toNat) hG0 (N12.trans N3) N4 (fun h hh => ⟨(hH h hh).1 0 (by omega), ((hH h hh).1 3 (by omega)).trans (hgt h hh).1, (hgt h hh).2⟩) (fun r hr u1 u2 => ?_) nh 0 0 _ (by omega) (by omega) (fun h o a b e f => by omega) (Or.inl rfl)
  repeat (first | ((with_reducible refine zR.stored ?_); dsimp only [zsto, zclr, zset, zget, zc2, cond_false, cond_true]) | ((with_reducible refine zR.atLit ?_); first | refine zR.step rfl ?_) | rw [zcc1] | rw [zcc2] | rw [zcc3] | rw [zcc4])
  refine zR.ret rfl rfl ⟨_, rfl, ⟨_, hR.1⟩, rfl, ?_⟩
  show zR ztb _ kX12_fair 1 0 [some (.ref 287), none, none, none, none] [] _ _ _ _
  iterate 4 refine zR.step rfl ?_
  refine frO (d := 998) (gt := fun h => (σ 0 (1700 + 40 * h + 3)).toInt.toNat) hR N3 N4 hgt (fun r2 hr2 v1 v2 => ?_) nh 0 0 _ _ (by omega) (by omega) (fun h o a b e f => by omega) (Or.inl rfl)
  have e : r2 = r := Nat.le_antisymm (fAt_le v2 u1) (fAt_le u2 v1)
  exact ⟨by rw [e], by omega, by omega, σ, hI'⟩
