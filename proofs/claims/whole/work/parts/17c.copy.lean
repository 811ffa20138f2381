
/-! A GARDEN COPIED INTO ANOTHER: all of it. -/
theorem c_Garden_copy {g g2 : Nat} {c c2 : mS} {kp bt kp2 bt2 : Nat → Option Nat} {la la2 : Nat} {d n w l : Nat} {M : zM} (hG : Gc M g c kp bt la) (hH : Gc M g2 c2 kp2 bt2 la2) (hgg : g + 76 ≤ g2 ∨ g2 + 76 ≤ g) (hK : ∀ i, i < 8 → kp2 i = none ∨ ∃ a fs, kp2 i = some a ∧ M a = .inr (1, fs) ∧ (a < g ∨ g + 76 ≤ a)) (hb7 : ∀ i, i < 8 → (c2 (20 + i) 7 = 0 ∨ c2 (20 + i) 7 = 1) ∧ (c2 (20 + i) 8 = 0 ∨ c2 (20 + i) 8 = 1)) (hb6 : ∀ i, i < 10 → (c2 (30 + i) 6 = 0 ∨ c2 (30 + i) 6 = 1)) (h4 : c2 0 4 = nI l) (hl : l ≤ 240) : zCalP (d + 1) 10 [.ref g, .ref g2] n w M (fun v n' w' M' => v = none ∧ n = n' ∧ w = w' ∧ (∃ c' kp' bt', Gc M' g c' kp' bt' la2 ∧ (∀ i, i < 8 → kp' i = kp2 i ∧ bt' i = bt2 i) ∧ CAg l c2 c') ∧ ∀ k, k < g ∨ g + 76 ≤ k → M' k = M k) := by
  show zR ztb _ kX2_copyFrom 0 0 [some (.ref g), some (.ref g2), none] [] _ _ _ _
  have hb2 : ∀ x, zup M g x g2 = _ := fun x => (zup_ne _ _ (by omega)).trans hH.o
  repeat (first | ((with_reducible refine zR.stored ?_); dsimp only [zsto, zclr, zset, zget, zc2, cond_false, cond_true]) | ((with_reducible refine zR.atLit ?_); first | refine zR.step rfl ?_ | refine zR.getf rfl (hH.o) rfl ?_) | rw [zcc1] | rw [zcc2] | rw [zcc3] | rw [zcc4])
  refine zR.putf rfl hG.o rfl rfl ?_
  repeat (first | ((with_reducible refine zR.stored ?_); dsimp only [zsto, zclr, zset, zget, zc2, cond_false, cond_true]) | ((with_reducible refine zR.atLit ?_); first | refine zR.step rfl ?_ | refine zR.getf rfl (hb2 _) rfl ?_) | rw [zcc1] | rw [zcc2] | rw [zcc3] | rw [zcc4])
  refine zR.putf rfl (zup_self _ _ _) rfl rfl ?_
  rw [zup_up]
  repeat (first | ((with_reducible refine zR.stored ?_); dsimp only [zsto, zclr, zset, zget, zc2, cond_false, cond_true]) | ((with_reducible refine zR.atLit ?_); first | refine zR.step rfl ?_ | refine zR.getf rfl (hb2 _) rfl ?_) | rw [zcc1] | rw [zcc2] | rw [zcc3] | rw [zcc4])
  refine zR.putf rfl (zup_self _ _ _) rfl rfl ?_
  rw [zup_up]
  repeat (first | ((with_reducible refine zR.stored ?_); dsimp only [zsto, zclr, zset, zget, zc2, cond_false, cond_true]) | ((with_reducible refine zR.atLit ?_); first | refine zR.step rfl ?_ | refine zR.getf rfl (hb2 _) rfl ?_) | rw [zcc1] | rw [zcc2] | rw [zcc3] | rw [zcc4])
  refine zR.putf rfl (zup_self _ _ _) rfl rfl ?_
  rw [zup_up]
  repeat (first | ((with_reducible refine zR.stored ?_); dsimp only [zsto, zclr, zset, zget, zc2, cond_false, cond_true]) | ((with_reducible refine zR.atLit ?_); first | refine zR.step rfl ?_ | refine zR.getf rfl (hb2 _) rfl ?_) | rw [zcc1] | rw [zcc2] | rw [zcc3] | rw [zcc4])
  refine zR.putf rfl (zup_self _ _ _) rfl rfl ?_
  rw [zup_up]
  have hG1 : Gc (zup M g (.inr (2, gob g la2 (c2 0 0) (c2 0 1) (c2 0 2) (c2 0 3)))) g (zuf c 0 (zuf (c2 0) 4 (c 0 4))) kp bt la2 := by
    obtain ⟨h0, h1, h2, h3, h4', h5, h6, h7, h8, h9, h10⟩ := hG
    refine ⟨by rw [zup_self]; rfl, by rw [zup_ne _ _ (by omega)]; exact h1, by rw [zup_ne _ _ (by omega)]; exact h2, by rw [zup_ne _ _ (by omega)]; exact h3, by rw [zup_ne _ _ (by omega)]; exact h4', fun j hj => by rw [zup_ne _ _ (by omega), zuf_ne _ _ (by omega)]; exact h5 j hj, by rw [zup_ne _ _ (by omega)]; exact h6, fun j hj => by rw [zup_ne _ _ (by omega), zuf_ne _ _ (by omega)]; exact h7 j hj, by rw [zup_ne _ _ (by omega)]; exact h8, fun i hi => by rw [zup_ne _ _ (by omega), zuf_ne _ _ (by omega)]; exact h9 i hi, fun i hi => ?_⟩
    obtain ⟨a1, a2, a3, a4, a5⟩ := h10 i hi
    rw [zup_ne _ _ (by omega), zup_ne _ _ (by omega), zup_ne _ _ (by omega), zup_ne _ _ (by omega), zup_ne _ _ (by omega), zuf_ne _ _ (by omega), zuf_ne _ _ (by omega), zuf_ne _ _ (by omega), zuf_ne _ _ (by omega), zuf_ne _ _ (by omega)]
    exact ⟨a1, a2, a3, a4, a5⟩
  have hH1 := hH.out (a := g) (x := .inr (2, gob g la2 (c2 0 0) (c2 0 1) (c2 0 2) (c2 0 3))) (by omega)
  refine zR.step rfl ?_
  refine zR.step rfl ?_
  refine cp_crops (M0 := M) (x2 := none) hgg hK (fun M1 kp1 hG1 hH1 hF1 hk1 => ?_) 8 0 _ _ (by omega) hG1 hH1 (fun k hk => zup_ne _ _ (by omega)) (fun q hq => by omega)
  refine zR.step rfl ?_
  refine zR.step rfl ?_
  refine cp_beds (M0 := M) (c1 := zuf c 0 (zuf (c2 0) 4 (c 0 4))) hgg hb7 (fun M2 c3 bt3 hG2 hH2 hF2 hk2 hc2 => ?_) 8 0 _ _ _ (by omega) hG1 hH1 hF1 (fun q hq => by omega) (fun _ _ => rfl)
  refine zR.step rfl ?_
  refine zR.step rfl ?_
  refine cp_houses (M0 := M) (c1 := c3) hgg hb6 (fun M3 c4 hG3 hH3 hF3 hk3 hc3 => ?_) 10 0 _ _ (by omega) hG2 hH2 hF2 (fun q hq => by omega) (fun _ _ => rfl)
  have c40 : c4 0 = zuf (c2 0) 4 (c 0 4) := by rw [hc3 0 (by omega), hc2 0 (by omega), zuf_self]
  repeat (first | ((with_reducible refine zR.stored ?_); dsimp only [zsto, zclr, zset, zget, zc2, cond_false, cond_true]) | ((with_reducible refine zR.atLit ?_); first | refine zR.step rfl ?_ | refine zR.getf rfl (hG3.o) rfl ?_ | refine zR.getf rfl (hH3.o) rfl ?_) | rw [zcc1] | rw [zcc2] | rw [zcc3] | rw [zcc4])
  refine zR.cv rfl rfl rfl hG3.lo rfl rfl (zR.mono (c_Lots_copy hG3 hH3 hgg h4 hl) (fun v n' w' M4 hv => ?_))
  obtain ⟨rfl, rfl, rfl, ⟨x1, x2, x3, x4, x5, x6, hG4, z⟩, hF4'⟩ := hv
  have hH4 : Gc M4 g2 c2 kp2 bt2 la2 := hH3.same (fun k a b => hF4' k (by omega))
  have hF4 : ∀ k, k < g ∨ g + 76 ≤ k → M4 k = M k := fun k hk => (hF4' k hk).trans (hF3 k hk)
  clear hF4'
  repeat (first | ((with_reducible refine zR.stored ?_); dsimp only [zsto, zclr, zset, zget, zc2, cond_false, cond_true]) | ((with_reducible refine zR.atLit ?_); first | refine zR.step rfl ?_ | refine zR.getf rfl (hG4.o) rfl ?_ | refine zR.getf rfl (hH4.o) rfl ?_) | rw [zcc1] | rw [zcc2] | rw [zcc3] | rw [zcc4])
  refine zR.acpy rfl hH4.wr hG4.wr (i := 0) (j := 0) (m := 30) rfl rfl rfl (by omega) (by omega) (by omega) (by omega) rfl ?_
  generalize e0 : va_cpy (c2 7) ((zuf (zuf (zuf (zuf (zuf (zuf (zuf c4 0 (zuf (c4 0) 4 (nI l))) 1 x1) 2 x2) 3 x3) 4 x4) 5 x5) 6 x6) 7) 0 0 30 = y0
  have hy0 : ∀ k, k < 30 → y0 k = c2 7 k := fun k hk => by rw [← e0]; exact cpy_lt hk
  have hG5 := hG4.upW y0
  have hH5 := hH4.out (a := g + 11) (x := .inl (0, 30, .inl y0)) (by omega)
  repeat (first | ((with_reducible refine zR.stored ?_); dsimp only [zsto, zclr, zset, zget, zc2, cond_false, cond_true]) | ((with_reducible refine zR.atLit ?_); first | refine zR.step rfl ?_ | refine zR.getf rfl (hG5.o) rfl ?_ | refine zR.getf rfl (hH5.o) rfl ?_) | rw [zcc1] | rw [zcc2] | rw [zcc3] | rw [zcc4])
  refine zR.acpy rfl hH5.s0 hG5.s0 (i := 0) (j := 0) (m := 8) rfl rfl rfl (by omega) (by omega) (by omega) (by omega) rfl ?_
  generalize e1 : va_cpy (c2 8) ((zuf (zuf (zuf (zuf (zuf (zuf (zuf (zuf c4 0 (zuf (c4 0) 4 (nI l))) 1 x1) 2 x2) 3 x3) 4 x4) 5 x5) 6 x6) 7 y0) 8) 0 0 8 = y1
  have hy1 : ∀ k, k < 8 → y1 k = c2 8 k := fun k hk => by rw [← e1]; exact cpy_lt hk
  have hG6 := hG5.upS (j := 0) (by omega) y1
  have hH6 := hH5.out (a := g + 12) (x := .inl (0, 8, .inl y1)) (by omega)
  repeat (first | ((with_reducible refine zR.stored ?_); dsimp only [zsto, zclr, zset, zget, zc2, cond_false, cond_true]) | ((with_reducible refine zR.atLit ?_); first | refine zR.step rfl ?_ | refine zR.getf rfl (hG6.o) rfl ?_ | refine zR.getf rfl (hH6.o) rfl ?_) | rw [zcc1] | rw [zcc2] | rw [zcc3] | rw [zcc4])
  refine zR.acpy rfl hH6.s1 hG6.s1 (i := 0) (j := 0) (m := 8) rfl rfl rfl (by omega) (by omega) (by omega) (by omega) rfl ?_
  generalize e2 : va_cpy (c2 9) ((zuf (zuf (zuf (zuf (zuf (zuf (zuf (zuf (zuf c4 0 (zuf (c4 0) 4 (nI l))) 1 x1) 2 x2) 3 x3) 4 x4) 5 x5) 6 x6) 7 y0) 8 y1) 9) 0 0 8 = y2
  have hy2 : ∀ k, k < 8 → y2 k = c2 9 k := fun k hk => by rw [← e2]; exact cpy_lt hk
  have hG7 := hG6.upS (j := 1) (by omega) y2
  have hH7 := hH6.out (a := g + 13) (x := .inl (0, 8, .inl y2)) (by omega)
  repeat (first | ((with_reducible refine zR.stored ?_); dsimp only [zsto, zclr, zset, zget, zc2, cond_false, cond_true]) | ((with_reducible refine zR.atLit ?_); first | refine zR.step rfl ?_ | refine zR.getf rfl (hG7.o) rfl ?_ | refine zR.getf rfl (hH7.o) rfl ?_) | rw [zcc1] | rw [zcc2] | rw [zcc3] | rw [zcc4])
  refine zR.acpy rfl hH7.s2 hG7.s2 (i := 0) (j := 0) (m := 8) rfl rfl rfl (by omega) (by omega) (by omega) (by omega) rfl ?_
  generalize e3 : va_cpy (c2 10) ((zuf (zuf (zuf (zuf (zuf (zuf (zuf (zuf (zuf (zuf c4 0 (zuf (c4 0) 4 (nI l))) 1 x1) 2 x2) 3 x3) 4 x4) 5 x5) 6 x6) 7 y0) 8 y1) 9 y2) 10) 0 0 8 = y3
  have hy3 : ∀ k, k < 8 → y3 k = c2 10 k := fun k hk => by rw [← e3]; exact cpy_lt hk
  have hG8 := hG7.upS (j := 2) (by omega) y3
  have hH8 := hH7.out (a := g + 14) (x := .inl (0, 8, .inl y3)) (by omega)
  repeat (first | ((with_reducible refine zR.stored ?_); dsimp only [zsto, zclr, zset, zget, zc2, cond_false, cond_true]) | ((with_reducible refine zR.atLit ?_); first | refine zR.step rfl ?_ | refine zR.getf rfl (hG8.o) rfl ?_ | refine zR.getf rfl (hH8.o) rfl ?_) | rw [zcc1] | rw [zcc2] | rw [zcc3] | rw [zcc4])
  refine zR.acpy rfl hH8.s3 hG8.s3 (i := 0) (j := 0) (m := 8) rfl rfl rfl (by omega) (by omega) (by omega) (by omega) rfl ?_
  generalize e4 : va_cpy (c2 11) ((zuf (zuf (zuf (zuf (zuf (zuf (zuf (zuf (zuf (zuf (zuf c4 0 (zuf (c4 0) 4 (nI l))) 1 x1) 2 x2) 3 x3) 4 x4) 5 x5) 6 x6) 7 y0) 8 y1) 9 y2) 10 y3) 11) 0 0 8 = y4
  have hy4 : ∀ k, k < 8 → y4 k = c2 11 k := fun k hk => by rw [← e4]; exact cpy_lt hk
  have hG9 := hG8.upS (j := 3) (by omega) y4
  have hH9 := hH8.out (a := g + 15) (x := .inl (0, 8, .inl y4)) (by omega)
  repeat (first | ((with_reducible refine zR.stored ?_); dsimp only [zsto, zclr, zset, zget, zc2, cond_false, cond_true]) | ((with_reducible refine zR.atLit ?_); first | refine zR.step rfl ?_ | refine zR.getf rfl (hG9.o) rfl ?_ | refine zR.getf rfl (hH9.o) rfl ?_) | rw [zcc1] | rw [zcc2] | rw [zcc3] | rw [zcc4])
  refine zR.acpy rfl hH9.s4 hG9.s4 (i := 0) (j := 0) (m := 8) rfl rfl rfl (by omega) (by omega) (by omega) (by omega) rfl ?_
  generalize e5 : va_cpy (c2 12) ((zuf (zuf (zuf (zuf (zuf (zuf (zuf (zuf (zuf (zuf (zuf (zuf c4 0 (zuf (c4 0) 4 (nI l))) 1 x1) 2 x2) 3 x3) 4 x4) 5 x5) 6 x6) 7 y0) 8 y1) 9 y2) 10 y3) 11 y4) 12) 0 0 8 = y5
  have hy5 : ∀ k, k < 8 → y5 k = c2 12 k := fun k hk => by rw [← e5]; exact cpy_lt hk
  have hG10 := hG9.upS (j := 4) (by omega) y5
  have hH10 := hH9.out (a := g + 16) (x := .inl (0, 8, .inl y5)) (by omega)
  repeat (first | ((with_reducible refine zR.stored ?_); dsimp only [zsto, zclr, zset, zget, zc2, cond_false, cond_true]) | ((with_reducible refine zR.atLit ?_); first | refine zR.step rfl ?_ | refine zR.getf rfl (hG10.o) rfl ?_ | refine zR.getf rfl (hH10.o) rfl ?_) | rw [zcc1] | rw [zcc2] | rw [zcc3] | rw [zcc4])
  refine zR.ret rfl rfl ⟨rfl, rfl, rfl, ⟨zuf (zuf (zuf (zuf (zuf (zuf (zuf (zuf (zuf (zuf (zuf (zuf (zuf c4 0 (zuf (c4 0) 4 (nI l))) 1 x1) 2 x2) 3 x3) 4 x4) 5 x5) 6 x6) 7 y0) 8 y1) 9 y2) 10 y3) 11 y4) 12 y5, kp1, bt3, hG10, fun i hi => ⟨hk1 i hi, (hk2 i hi).2⟩, ?_⟩, fun k hk => by rw [zup_ne _ _ (by omega), zup_ne _ _ (by omega), zup_ne _ _ (by omega), zup_ne _ _ (by omega), zup_ne _ _ (by omega), zup_ne _ _ (by omega)]; exact hF4 k hk⟩
  have big : ∀ j, 13 ≤ j → (zuf (zuf (zuf (zuf (zuf (zuf (zuf (zuf (zuf (zuf (zuf (zuf (zuf c4 0 (zuf (c4 0) 4 (nI l))) 1 x1) 2 x2) 3 x3) 4 x4) 5 x5) 6 x6) 7 y0) 8 y1) 9 y2) 10 y3) 11 y4) 12 y5) j = c4 j := fun j hj => by rw [zuf_ne _ _ (by omega), zuf_ne _ _ (by omega), zuf_ne _ _ (by omega), zuf_ne _ _ (by omega), zuf_ne _ _ (by omega), zuf_ne _ _ (by omega), zuf_ne _ _ (by omega), zuf_ne _ _ (by omega), zuf_ne _ _ (by omega), zuf_ne _ _ (by omega), zuf_ne _ _ (by omega), zuf_ne _ _ (by omega), zuf_ne _ _ (by omega)]
  refine ⟨fun k hk => ?_, fun j hj k hk => ?_, hy0, fun j hj k hk => ?_, fun i hi => ?_, fun i hi => ?_⟩
  · show zuf (c4 0) 4 (nI l) k = c2 0 k
    rw [c40]
    by_cases e : k = 4
    · subst e
      rw [zuf_self, h4]
    · rw [zuf_ne _ _ e, zuf_ne _ _ e]
  · obtain ⟨z1, z2, z3, z4, z5, z6⟩ := z k hk
    match j, hj with
    | 0, _ => exact z1
    | 1, _ => exact z2
    | 2, _ => exact z3
    | 3, _ => exact z4
    | 4, _ => exact z5
    | 5, _ => exact z6
  · match j, hj with
    | 0, _ => exact hy1 k hk
    | 1, _ => exact hy2 k hk
    | 2, _ => exact hy3 k hk
    | 3, _ => exact hy4 k hk
    | 4, _ => exact hy5 k hk
  · rw [big _ (by omega), hc3 _ (by omega)]
    exact (hk2 i hi).1
  · rw [big _ (by omega), big _ (by omega), big _ (by omega), big _ (by omega), big _ (by omega)]
    exact hk3 i hi
theorem GR.copy {M M' : zM} {n l : Nat} {c c2 : mS} {kp bt kp2 bt2 : Nat → Option Nat} {la2 : Nat} {s : Nat → Int32} (h : GR M n c2 kp2 bt2 la2 s) (hs : ∀ k, (40 ≤ k ∧ k < 48) ∨ 300 ≤ k → k < n → M' k = M k) (h4 : c2 0 4 = nI l) (hl : l ≤ 240) (hk : ∀ i, i < 8 → kp i = kp2 i ∧ bt i = bt2 i) (ha : CAg l c2 c) : GR M' n c kp bt la2 s := by
  have h' := h.mv hs (Nat.le_refl n)
  obtain ⟨nc, nh, nl, lm, wk, h1, h2, h3, h4', h5, h6, h7, h8⟩ := h'
  obtain ⟨N1, N2, N3, N4, N5, N6, N7, N8, N9, N10, N11, N12, N13, N14, N15, N16, N17⟩ := h1
  obtain ⟨a0, a1, a2, a3, a4, a5⟩ := ha
  have el : nl = l := zn_inj (by omega) (by omega) (N5.symm.trans (N15.symm.trans h4))
  subst el
  refine ⟨nc, nh, nl, lm, wk, ⟨N1, N2, N3, N4, N5, N6, N7, N8, N9, N10, by rw [a0 0 (by omega)]; exact N11, by rw [a0 1 (by omega)]; exact N12, by rw [a0 2 (by omega)]; exact N13, by rw [a0 3 (by omega)]; exact N14, by rw [a0 4 (by omega)]; exact N15, N16, fun b hb => by rw [a4 b hb]; exact N17.1 b hb, fun q hq => by rw [(a5 q hq).1]; exact N17.2 q hq⟩, ⟨fun i hi => ?_, fun i h1 h2' => by rw [(hk i h2').1]; exact h2.2 i h1 h2'⟩, fun b hb => ?_, fun q hq => ?_, fun i hi => ?_, fun q hq => ?_, fun j hj => by rw [a2 j hj]; exact h7 j hj, h8⟩
  · obtain ⟨⟨a, q1, q2⟩, q3⟩ := h2.1 i hi
    exact ⟨⟨a, by rw [(hk i (by omega)).1]; exact q1, q2⟩, q3⟩
  · obtain ⟨q1, q2, q3⟩ := h3 b hb
    rw [(hk b hb).2, a4 b hb]
    exact ⟨q1, q2, q3⟩
  · obtain ⟨q1, q2⟩ := h4' q hq
    exact ⟨fun j hj => by rw [a1 j hj q hq]; exact q1 j hj, q2⟩
  · obtain ⟨q1, q2, q3, q4, q5⟩ := h5 i hi
    exact ⟨(a3 0 (by omega) i hi).trans q1, (a3 1 (by omega) i hi).trans q2, (a3 2 (by omega) i hi).trans q3, (a3 3 (by omega) i hi).trans q4, (a3 4 (by omega) i hi).trans q5⟩
  · obtain ⟨q1, q2, q3, q4, q5, q6, q7, q8⟩ := h6 q hq
    obtain ⟨b1, b2, b3⟩ := a5 q (by omega)
    refine ⟨fun k hk => by rw [b1]; exact q1 k hk, fun k hk => by rw [b2 k hk]; exact q2 k hk, q3, q4, q5, q6, q7, fun z p hp hp2 => ?_⟩
    obtain ⟨b4, b5, b6⟩ := b3 p hp
    rw [b4, b5, b6]
    exact q8 z p hp hp2
