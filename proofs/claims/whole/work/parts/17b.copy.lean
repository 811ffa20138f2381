
/-! A GARDEN COPIED INTO ANOTHER. -/
/-- what a copy agrees in -/
def CAg (l : Nat) (c2 c : mS) : Prop := (∀ k, k < 5 → c 0 k = c2 0 k) ∧ (∀ j, j < 6 → ∀ k, k < l → c (1 + j) k = c2 (1 + j) k) ∧ (∀ k, k < 30 → c 7 k = c2 7 k) ∧ (∀ j, j < 5 → ∀ k, k < 8 → c (8 + j) k = c2 (8 + j) k) ∧ (∀ i, i < 8 → c (20 + i) = c2 (20 + i)) ∧ (∀ i, i < 10 → c (30 + i) = c2 (30 + i) ∧ (∀ k, k < 8 → c (40 + i) k = c2 (40 + i) k) ∧ ∀ k, k < 6 → c (50 + i) k = c2 (50 + i) k ∧ c (60 + i) k = c2 (60 + i) k ∧ c (70 + i) k = c2 (70 + i) k)
section
variable {g g2 : Nat} {c2 : mS} {kp2 bt2 : Nat → Option Nat} {la la2 : Nat} {d n w : Nat} {M0 : zM} {Q : Option Value → Nat → Nat → zM → Prop}
/-- crops -/
theorem cp_crops {c : mS} {bt : Nat → Option Nat} {x2 : Option Value} (hgg : g + 76 ≤ g2 ∨ g2 + 76 ≤ g) (hK : ∀ i, i < 8 → kp2 i = none ∨ ∃ a fs, kp2 i = some a ∧ M0 a = .inr (1, fs) ∧ (a < g ∨ g + 76 ≤ a))
    (hQ : ∀ M kp, Gc M g c kp bt la → Gc M g2 c2 kp2 bt2 la2 → (∀ k, k < g ∨ g + 76 ≤ k → M k = M0 k) → (∀ i, i < 8 → kp i = kp2 i) → zR ztb d kX2_copyFrom 0 66 [some (.ref g), some (.ref g2), some (.int (nI 8))] [] n w M Q) : ∀ (t i : Nat) (M : zM) (kp : Nat → Option Nat), i + t = 8 → Gc M g c kp bt la → Gc M g2 c2 kp2 bt2 la2 → (∀ k, k < g ∨ g + 76 ≤ k → M k = M0 k) → (∀ q, q < i → kp q = kp2 q) → zR ztb d kX2_copyFrom 0 42 [some (.ref g), some (.ref g2), some (.int (nI i))] [] n w M Q
  | 0, i, M, kp, h, hG, hH, hF, hp => by
    have e2 : i = 8 := by omega
    subst e2
    have e : ¬ nI 8 < 8 := by decide
    repeat (first | with_reducible refine zR.hold (pc := 66) ?_ | ((with_reducible refine zR.stored ?_); dsimp only [zsto, zclr, zset, zget, zc2, cond_false, cond_true]) | ((with_reducible refine zR.atLit ?_); first | refine zR.step rfl ?_) | rw [zcc1] | rw [zcc2] | rw [zcc3] | rw [zcc4] | rw [zn1 (e)] | rw [zn2 (e)] | rw [zn3 (e)] | rw [zn4 (e)])
    exact ⟨trivial, hQ M kp hG hH hF hp⟩
  | t + 1, i, M, kp, h, hG, hH, hF, hp => by
    have e : nI i < 8 := zI_ylt (b := 8) (by omega) (by omega)
    refine zR.step rfl ?_
    repeat (first | ((with_reducible refine zR.stored ?_); dsimp only [zsto, zclr, zset, zget, zc2, cond_false, cond_true]) | ((with_reducible refine zR.atLit ?_); first | refine zR.step rfl ?_ | refine zR.getf rfl (hG.o) rfl ?_ | refine zR.getf rfl (hH.o) rfl ?_ | refine zR.aald rfl hH.kr (Or.inl rfl) (i := i) rfl (by omega) (by decide) ?_) | rw [zcc1] | rw [zcc2] | rw [zcc3] | rw [zcc4] | rw [zb1 (e)] | rw [zb2 (e)] | rw [zb3 (e)] | rw [zb4 (e)])
    have key : ∀ M1, Gc M1 g c (zuf kp i (kp2 i)) bt la → Gc M1 g2 c2 kp2 bt2 la2 → (∀ k, k < g ∨ g + 76 ≤ k → M1 k = M0 k) → zR ztb d kX2_copyFrom 0 60 [some (.ref g), some (.ref g2), some (.int (nI i))] [] n w M1 Q := by
      intro M1 h1 h2 h3
      have ih := cp_crops (x2 := none) hgg hK hQ t (i + 1) M1 (zuf kp i (kp2 i)) (by omega) h1 h2 h3 (fun q hq => by
        by_cases eq : q = i
        · subst eq
          exact zuf_self _ _ _
        · rw [zuf_ne _ _ eq]
          exact hp q (by omega))
      rw [← zI_s] at ih
      repeat (first | with_reducible refine zR.hold (pc := 42) ?_ | ((with_reducible refine zR.stored ?_); dsimp only [zsto, zclr, zset, zget, zc2, cond_false, cond_true]) | ((with_reducible refine zR.atLit ?_); first | refine zR.step rfl ?_) | rw [zcc1] | rw [zcc2] | rw [zcc3] | rw [zcc4])
      exact ⟨trivial, ih⟩
    rcases hK i (by omega) with hn | ⟨a, fs, ha, hM, hag⟩
    · rw [hn] at key ⊢
      refine zR.aastN rfl hG.kr (Or.inl rfl) (i := i) rfl (by omega) (by decide) ?_
      exact key _ (hG.upK _) (hH.out (by omega)) (fun k hk => by rw [zup_ne _ _ (by omega)]; exact hF k hk)
    · rw [ha] at key ⊢
      refine zR.aast rfl hG.kr ((hF a hag).trans hM) (Or.inl rfl) rfl (i := i) rfl (by omega) (by decide) ?_
      exact key _ (hG.upK _) (hH.out (by omega)) (fun k hk => by rw [zup_ne _ _ (by omega)]; exact hF k hk)
/-- beds -/
theorem cp_beds {c1 : mS} {kp : Nat → Option Nat} (hgg : g + 76 ≤ g2 ∨ g2 + 76 ≤ g) (hb7 : ∀ i, i < 8 → (c2 (20 + i) 7 = 0 ∨ c2 (20 + i) 7 = 1) ∧ (c2 (20 + i) 8 = 0 ∨ c2 (20 + i) 8 = 1))
    (hQ : ∀ M c bt, Gc M g c kp bt la → Gc M g2 c2 kp2 bt2 la2 → (∀ k, k < g ∨ g + 76 ≤ k → M k = M0 k) → (∀ i, i < 8 → c (20 + i) = c2 (20 + i) ∧ bt i = bt2 i) → (∀ j, ¬ (20 ≤ j ∧ j < 28) → c j = c1 j) → zR ztb (d + 1) kX2_copyFrom 0 95 [some (.ref g), some (.ref g2), some (.int (nI 8))] [] n w M Q) : ∀ (t i : Nat) (M : zM) (c : mS) (bt : Nat → Option Nat), i + t = 8 → Gc M g c kp bt la → Gc M g2 c2 kp2 bt2 la2 → (∀ k, k < g ∨ g + 76 ≤ k → M k = M0 k) → (∀ q, q < i → c (20 + q) = c2 (20 + q) ∧ bt q = bt2 q) → (∀ j, ¬ (20 ≤ j ∧ j < 28) → c j = c1 j) → zR ztb (d + 1) kX2_copyFrom 0 68 [some (.ref g), some (.ref g2), some (.int (nI i))] [] n w M Q
  | 0, i, M, c, bt, h, hG, hH, hF, hp, hc => by
    have e2 : i = 8 := by omega
    subst e2
    have e : ¬ nI 8 < 8 := by decide
    repeat (first | with_reducible refine zR.hold (pc := 95) ?_ | ((with_reducible refine zR.stored ?_); dsimp only [zsto, zclr, zset, zget, zc2, cond_false, cond_true]) | ((with_reducible refine zR.atLit ?_); first | refine zR.step rfl ?_) | rw [zcc1] | rw [zcc2] | rw [zcc3] | rw [zcc4] | rw [zn1 (e)] | rw [zn2 (e)] | rw [zn3 (e)] | rw [zn4 (e)])
    exact ⟨trivial, hQ M c bt hG hH hF hp hc⟩
  | t + 1, i, M, c, bt, h, hG, hH, hF, hp, hc => by
    have e : nI i < 8 := zI_ylt (b := 8) (by omega) (by omega)
    have r1 := brow_y (g := g) (i := i) (by omega)
    have r2 := brow_y (g := g2) (i := i) (by omega)
    refine zR.step rfl ?_
    repeat (first | ((with_reducible refine zR.stored ?_); dsimp only [zsto, zclr, zset, zget, zc2, cond_false, cond_true]) | ((with_reducible refine zR.atLit ?_); first | refine zR.step rfl ?_ | refine zR.getf rfl (hG.o) rfl ?_ | refine zR.getf rfl (hH.o) rfl ?_ | (refine zR.aald rfl hH.br (Or.inr (Or.inl rfl)) (i := i) rfl (by omega) (by decide) ?_; rw [r2]) | (refine zR.aald rfl hG.br (Or.inr (Or.inl rfl)) (i := i) rfl (by omega) (by decide) ?_; rw [r1])) | rw [zcc1] | rw [zcc2] | rw [zcc3] | rw [zcc4] | rw [zb1 (e)] | rw [zb2 (e)] | rw [zb3 (e)] | rw [zb4 (e)])
    refine zR.cv rfl rfl rfl (hG.b (i := i) (by omega)) rfl rfl (zCalP.of (c_Bed_copy (hG.b (i := i) (by omega)) (hH.b (i := i) (by omega)) (by omega) (hb7 i (by omega)).1 (hb7 i (by omega)).2) ?_)
    have ih := cp_beds hgg hb7 hQ t (i + 1) _ _ _ (by omega) (hG.upB (i := i) (by omega) (bt2 i) (c2 (20 + i))) (hH.out (by omega)) (fun k hk => by rw [zup_ne _ _ (by omega)]; exact hF k hk) (fun q hq => by
      by_cases eq : q = i
      · subst eq
        exact ⟨zuf_self _ _ _, zuf_self _ _ _⟩
      · rw [zuf_ne _ _ (by omega), zuf_ne _ _ eq]
        exact hp q (by omega)) (fun j hj => by rw [zuf_ne _ _ (by omega)]; exact hc j hj)
    rw [← zI_s] at ih
    repeat (first | with_reducible refine zR.hold (pc := 68) ?_ | ((with_reducible refine zR.stored ?_); dsimp only [zsto, zclr, zset, zget, zc2, cond_false, cond_true]) | ((with_reducible refine zR.atLit ?_); first | refine zR.step rfl ?_) | rw [zcc1] | rw [zcc2] | rw [zcc3] | rw [zcc4])
    exact ⟨trivial, ih⟩
/-- houses -/
theorem cp_houses {c1 : mS} {kp bt : Nat → Option Nat} (hgg : g + 76 ≤ g2 ∨ g2 + 76 ≤ g) (hb6 : ∀ i, i < 10 → (c2 (30 + i) 6 = 0 ∨ c2 (30 + i) 6 = 1))
    (hQ : ∀ M c, Gc M g c kp bt la → Gc M g2 c2 kp2 bt2 la2 → (∀ k, k < g ∨ g + 76 ≤ k → M k = M0 k) → (∀ i, i < 10 → c (30 + i) = c2 (30 + i) ∧ (∀ k, k < 8 → c (40 + i) k = c2 (40 + i) k) ∧ ∀ k, k < 6 → c (50 + i) k = c2 (50 + i) k ∧ c (60 + i) k = c2 (60 + i) k ∧ c (70 + i) k = c2 (70 + i) k) → (∀ j, j < 30 → c j = c1 j) → zR ztb (d + 1) kX2_copyFrom 0 124 [some (.ref g), some (.ref g2), some (.int (nI 10))] [] n w M Q) : ∀ (t i : Nat) (M : zM) (c : mS), i + t = 10 → Gc M g c kp bt la → Gc M g2 c2 kp2 bt2 la2 → (∀ k, k < g ∨ g + 76 ≤ k → M k = M0 k) → (∀ q, q < i → c (30 + q) = c2 (30 + q) ∧ (∀ k, k < 8 → c (40 + q) k = c2 (40 + q) k) ∧ ∀ k, k < 6 → c (50 + q) k = c2 (50 + q) k ∧ c (60 + q) k = c2 (60 + q) k ∧ c (70 + q) k = c2 (70 + q) k) → (∀ j, j < 30 → c j = c1 j) → zR ztb (d + 1) kX2_copyFrom 0 97 [some (.ref g), some (.ref g2), some (.int (nI i))] [] n w M Q
  | 0, i, M, c, h, hG, hH, hF, hp, hc => by
    have e2 : i = 10 := by omega
    subst e2
    have e : ¬ nI 10 < 10 := by decide
    repeat (first | with_reducible refine zR.hold (pc := 124) ?_ | ((with_reducible refine zR.stored ?_); dsimp only [zsto, zclr, zset, zget, zc2, cond_false, cond_true]) | ((with_reducible refine zR.atLit ?_); first | refine zR.step rfl ?_) | rw [zcc1] | rw [zcc2] | rw [zcc3] | rw [zcc4] | rw [zn1 (e)] | rw [zn2 (e)] | rw [zn3 (e)] | rw [zn4 (e)])
    exact ⟨trivial, hQ M c hG hH hF hp hc⟩
  | t + 1, i, M, c, h, hG, hH, hF, hp, hc => by
    have e : nI i < 10 := zI_ylt (b := 10) (by omega) (by omega)
    have r1 := hrow_y (g := g) (i := i) (by omega)
    have r2 := hrow_y (g := g2) (i := i) (by omega)
    refine zR.step rfl ?_
    repeat (first | ((with_reducible refine zR.stored ?_); dsimp only [zsto, zclr, zset, zget, zc2, cond_false, cond_true]) | ((with_reducible refine zR.atLit ?_); first | refine zR.step rfl ?_ | refine zR.getf rfl (hG.o) rfl ?_ | refine zR.getf rfl (hH.o) rfl ?_ | (refine zR.aald rfl hH.hr (Or.inr (Or.inr (Or.inl rfl))) (i := i) rfl (by omega) (by decide) ?_; rw [r2]) | (refine zR.aald rfl hG.hr (Or.inr (Or.inr (Or.inl rfl))) (i := i) rfl (by omega) (by decide) ?_; rw [r1])) | rw [zcc1] | rw [zcc2] | rw [zcc3] | rw [zcc4] | rw [zb1 (e)] | rw [zb2 (e)] | rw [zb3 (e)] | rw [zb4 (e)])
    refine zR.cv rfl rfl rfl (hG.h0 (i := i) (by omega)) rfl rfl (zR.mono (c_House_copy hG hH hgg (by omega) (hb6 i (by omega))) (fun v n1 w1 M1 hv => ?_))
    obtain ⟨rfl, rfl, rfl, ⟨x4, x5, x6, x7, hG1, z4, z5⟩, hF1⟩ := hv
    have ih := cp_houses hgg hb6 hQ t (i + 1) _ _ (by omega) hG1 (hH.same (fun k a b => hF1 k (by omega))) (fun k hk => by rw [hF1 k hk]; exact hF k hk) (fun q hq => by
      by_cases eq : q = i
      · subst eq
        rw [zuf_self, zuf_ne _ _ (show 60 + q ≠ 70 + q by omega), zuf_self, zuf_ne _ _ (show 50 + q ≠ 70 + q by omega), zuf_ne _ _ (show 50 + q ≠ 60 + q by omega), zuf_self, zuf_ne _ _ (show 40 + q ≠ 70 + q by omega), zuf_ne _ _ (show 40 + q ≠ 60 + q by omega), zuf_ne _ _ (show 40 + q ≠ 50 + q by omega), zuf_self, zuf_ne _ _ (show 30 + q ≠ 70 + q by omega), zuf_ne _ _ (show 30 + q ≠ 60 + q by omega), zuf_ne _ _ (show 30 + q ≠ 50 + q by omega), zuf_ne _ _ (show 30 + q ≠ 40 + q by omega), zuf_self]
        exact ⟨rfl, z4, z5⟩
      · have zz : ∀ b, b = 30 ∨ b = 40 ∨ b = 50 ∨ b = 60 ∨ b = 70 → zuf (zuf (zuf (zuf (zuf c (30 + i) (c2 (30 + i))) (40 + i) x4) (50 + i) x5) (60 + i) x6) (70 + i) x7 (b + q) = c (b + q) := fun b hb => by rw [zuf_ne _ _ (by omega), zuf_ne _ _ (by omega), zuf_ne _ _ (by omega), zuf_ne _ _ (by omega), zuf_ne _ _ (by omega)]
        rw [zz 30 (by omega), zz 40 (by omega), zz 50 (by omega), zz 60 (by omega), zz 70 (by omega)]
        exact hp q (by omega)) (fun j hj => by rw [zuf_ne _ _ (by omega), zuf_ne _ _ (by omega), zuf_ne _ _ (by omega), zuf_ne _ _ (by omega), zuf_ne _ _ (by omega)]; exact hc j hj)
    rw [← zI_s] at ih
    repeat (first | with_reducible refine zR.hold (pc := 97) ?_ | ((with_reducible refine zR.stored ?_); dsimp only [zsto, zclr, zset, zget, zc2, cond_false, cond_true]) | ((with_reducible refine zR.atLit ?_); first | refine zR.step rfl ?_) | rw [zcc1] | rw [zcc2] | rw [zcc3] | rw [zcc4])
    exact ⟨trivial, ih⟩
end
