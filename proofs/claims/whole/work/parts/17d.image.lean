
/-! image, back. -/
theorem GR.ext {M : zM} {n : Nat} {c : mS} {kp bt : Nat → Option Nat} {la : Nat} {s y : Nat → Int32} (h : GR M n c kp bt la s) (hy : ∀ k, k < 2700 → y k = s k) : GR M n c kp bt la y := by
  obtain ⟨nc, nh, nl, lm, wk, h1, h2, h3, h4, h5, h6, h7, h8⟩ := h
  obtain ⟨N1, N2, N3, N4, N5, N6, N7, N8, N9, N10, N11, N12, N13, N14, N15, N16, N17⟩ := h1
  refine ⟨nc, nh, nl, lm, wk, ?_, h2.cg N2 (fun i hi => hy i (by omega)), h3.cg N2 (fun i hi => hy i (by omega)) (fun b hb => rfl), h4.cg N6 (fun i hi => hy i (by omega)) (fun j hj => rfl), h5.cg N6 (fun i hi => hy i (by omega)) (fun j hj => rfl), h6.cg N4 (fun i hi => hy i (by omega)) (fun j hj => rfl), h7.cg (fun i hi => hy i (by omega)) rfl, h8.cg N8 (fun i hi => hy i (by omega))⟩
  unfold PN
  rw [hy 2 (by omega), hy 4 (by omega), hy 3 (by omega), hy 5 (by omega), hy 0 (by omega), hy 1 (by omega)]
  exact ⟨N1, N2, N3, N4, N5, N6, N7, N8, N9, N10, N11, N12, N13, N14, N15, fun h a b k a2 b2 => by rw [hy _ (by omega)]; exact N16 h a b k a2 b2, N17⟩
theorem Tc.r0 {M : zM} {t : mS} {tr : Option Nat} (h : Tc M t tr) {x : Nat → Int32} (hx : ∀ k, 3 ≤ k → x k = t 0 k) : Tc (zup M 25 (.inr (11, tob (zuf t 0 x)))) (zuf t 0 x) tr := by
  obtain ⟨h1, h2, h3, h4, h5, h6, h7, h8, h9, h10⟩ := h
  refine ⟨zup_self _ _ _, ?_, ?_, ?_, fun j hj => ?_, ⟨?_, fun j hj => ?_⟩, ?_, ?_, ?_, fun j hj => ?_⟩
  · rw [zup_ne _ _ (by omega), zuf_self, hx 3 (by omega)]; exact h2
  · rw [zup_ne _ _ (by omega), zuf_ne _ _ (by omega)]; exact h3
  · rw [zup_ne _ _ (by omega), zuf_self, hx 4 (by omega)]; exact h4
  · rw [zup_ne _ _ (by omega), zuf_ne _ _ (by omega)]; exact h5 j hj
  · rw [zup_ne _ _ (by omega)]; unfold rob; rw [zuf_self, hx 5 (by omega), hx 6 (by omega), hx 7 (by omega), hx 8 (by omega), hx 9 (by omega), hx 10 (by omega), hx 11 (by omega)]; exact h6.1
  · rw [zup_ne _ _ (by omega), zuf_ne _ _ (by omega)]; exact h6.2 j hj
  · rw [zup_ne _ _ (by omega), zuf_self, hx 12 (by omega)]; exact h7
  · rw [zup_ne _ _ (by omega), zuf_ne _ _ (by omega)]; exact h8
  · rw [zup_ne _ _ (by omega)]; exact h9
  · obtain ⟨a1, a2⟩ := h10 j hj
    rw [zup_ne _ _ (by omega), zup_ne _ _ (by omega), zuf_ne _ _ (by omega), zuf_ne _ _ (by omega)]
    exact ⟨a1, a2⟩
/-- what a copy needs of a garden -/
theorem GR.src {M : zM} {n : Nat} {c : mS} {kp bt : Nat → Option Nat} {la : Nat} {s : Nat → Int32} (h : GR M n c kp bt la s) (g : Nat) (hg : g + 76 ≤ 300) : (∀ i, i < 8 → kp i = none ∨ ∃ a fs, kp i = some a ∧ M a = .inr (1, fs) ∧ (a < g ∨ g + 76 ≤ a)) ∧ (∀ i, i < 8 → (c (20 + i) 7 = 0 ∨ c (20 + i) 7 = 1) ∧ (c (20 + i) 8 = 0 ∨ c (20 + i) 8 = 1)) ∧ (∀ i, i < 10 → (c (30 + i) 6 = 0 ∨ c (30 + i) 6 = 1)) ∧ ∃ l, c 0 4 = nI l ∧ l ≤ 240 := by
  obtain ⟨nc, nh, nl, lm, wk, h1, h2, h3, h4, h5, h6, h7, h8⟩ := h
  obtain ⟨N1, N2, N3, N4, N5, N6, N7, N8, N9, N10, N11, N12, N13, N14, N15, N16, N17⟩ := h1
  refine ⟨fun i hi => ?_, fun i hi => ?_, N17.2, nl, N15.trans N5, N6⟩
  · by_cases q : i < nc
    · obtain ⟨⟨a, q1, q2⟩, -⟩ := h2.1 i q
      exact Or.inr ⟨a, _, q1, q2.2.2, Or.inr (by have := q2.1; omega)⟩
    · exact Or.inl (h2.2 i (by omega) hi)
  · obtain ⟨q1, q2, q3, -⟩ := h3 i hi
    rw [q2 7 (by omega) (by omega), show 150 + 10 * i + 7 = 157 + 10 * i by omega]
    exact ⟨q3, N17.1 i hi⟩
/-- the reference's copies -/
theorem im_loop {M0 : zM} {σ : mS} {d n w : Nat} {Q : Option Value → Nat → Nat → zM → Prop}
    (hQ : ∀ M y, Rf M (zuf σ 1 y) → Sm M0 M → (∀ k, k < 2700 → y k = σ 0 k) → zR ztb d kX12_image 1 27 [some (.ref 287), some (.int (nI 2700))] [] n w M Q) : ∀ (t k : Nat) (M : zM) (y : Nat → Int32), k + t = 2700 → Rf M (zuf σ 1 y) → Sm M0 M → (∀ q, q < k → y q = σ 0 q) → zR ztb d kX12_image 1 2 [some (.ref 287), some (.int (nI k))] [] n w M Q
  | 0, k, M, y, h, hR, hS, h1 => by
    have e2 : k = 2700 := by omega
    subst e2
    have e : ¬ nI 2700 < 2700 := by decide
    repeat (first | with_reducible refine zR.hold (pc := 27) ?_ | ((with_reducible refine zR.stored ?_); dsimp only [zsto, zclr, zset, zget, zc2, cond_false, cond_true]) | ((with_reducible refine zR.atLit ?_); first | refine zR.step rfl ?_) | rw [zcc1] | rw [zcc2] | rw [zcc3] | rw [zcc4] | rw [zn1 (e)] | rw [zn2 (e)] | rw [zn3 (e)] | rw [zn4 (e)])
    exact ⟨trivial, hQ M y hR hS h1⟩
  | t + 1, k, M, y, h, hR, hS, h1 => by
    have e : nI k < 2700 := zI_ylt (b := 2700) (by omega) (by omega)
    refine zR.step rfl ?_
    repeat (first | ((with_reducible refine zR.stored ?_); dsimp only [zsto, zclr, zset, zget, zc2, cond_false, cond_true]) | ((with_reducible refine zR.atLit ?_); first | refine zR.step rfl ?_ | refine zR.getf rfl (hR.1) rfl ?_ | refine zR.ilR0 hR rfl (i := k) rfl (by omega) ?_) | rw [zcc1] | rw [zcc2] | rw [zcc3] | rw [zcc4] | rw [zb1 (e)] | rw [zb2 (e)] | rw [zb3 (e)] | rw [zb4 (e)])
    refine zR.isR1 hR hS rfl (i := k) rfl (by omega) (fun M1 hR1 hS1 => ?_)
    have hz : zuf (zuf σ 1 y) 1 (zuf (zuf σ 1 y 1) k (zuf σ 1 y 0 k)) = zuf σ 1 (zuf y k (σ 0 k)) := by rw [zuf_self, zuf_uf]; rfl
    rw [hz] at hR1
    have ih := im_loop (d := d) hQ t (k + 1) M1 (zuf y k (σ 0 k)) (by omega) hR1 hS1 (fun q hq => by
      by_cases eq : q = k
      · subst eq
        rw [zuf_self]
      · rw [zuf_ne _ _ eq]
        exact h1 q (by omega))
    rw [← zI_s] at ih
    repeat (first | with_reducible refine zR.hold (pc := 2) ?_ | ((with_reducible refine zR.stored ?_); dsimp only [zsto, zclr, zset, zget, zc2, cond_false, cond_true]) | ((with_reducible refine zR.atLit ?_); first | refine zR.step rfl ?_) | rw [zcc1] | rw [zcc2] | rw [zcc3] | rw [zcc4])
    exact ⟨trivial, ih⟩
theorem bk_loop {M0 : zM} {σ : mS} {d n w : Nat} {Q : Option Value → Nat → Nat → zM → Prop}
    (hQ : ∀ M y, Rf M (zuf σ 0 y) → Sm M0 M → (∀ k, k < 2700 → y k = σ 1 k) → zR ztb d kX12_back 1 65 [some (.ref 287), some (.int (nI 2700))] [] n w M Q) : ∀ (t k : Nat) (M : zM) (y : Nat → Int32), k + t = 2700 → Rf M (zuf σ 0 y) → Sm M0 M → (∀ q, q < k → y q = σ 1 q) → zR ztb d kX12_back 1 40 [some (.ref 287), some (.int (nI k))] [] n w M Q
  | 0, k, M, y, h, hR, hS, h1 => by
    have e2 : k = 2700 := by omega
    subst e2
    have e : ¬ nI 2700 < 2700 := by decide
    repeat (first | with_reducible refine zR.hold (pc := 65) ?_ | ((with_reducible refine zR.stored ?_); dsimp only [zsto, zclr, zset, zget, zc2, cond_false, cond_true]) | ((with_reducible refine zR.atLit ?_); first | refine zR.step rfl ?_) | rw [zcc1] | rw [zcc2] | rw [zcc3] | rw [zcc4] | rw [zn1 (e)] | rw [zn2 (e)] | rw [zn3 (e)] | rw [zn4 (e)])
    exact ⟨trivial, hQ M y hR hS h1⟩
  | t + 1, k, M, y, h, hR, hS, h1 => by
    have e : nI k < 2700 := zI_ylt (b := 2700) (by omega) (by omega)
    refine zR.step rfl ?_
    repeat (first | ((with_reducible refine zR.stored ?_); dsimp only [zsto, zclr, zset, zget, zc2, cond_false, cond_true]) | ((with_reducible refine zR.atLit ?_); first | refine zR.step rfl ?_ | refine zR.getf rfl (hR.1) rfl ?_ | refine zR.ilR1 hR rfl (i := k) rfl (by omega) ?_) | rw [zcc1] | rw [zcc2] | rw [zcc3] | rw [zcc4] | rw [zb1 (e)] | rw [zb2 (e)] | rw [zb3 (e)] | rw [zb4 (e)])
    refine zR.isY hR hS rfl (i := k) rfl (by omega) (fun M1 hR1 hS1 => ?_)
    have ih := bk_loop (d := d) hQ t (k + 1) M1 (zuf y k (σ 1 k)) (by omega) hR1 hS1 (fun q hq => by
      by_cases eq : q = k
      · subst eq
        rw [zuf_self]
      · rw [zuf_ne _ _ eq]
        exact h1 q (by omega))
    rw [← zI_s] at ih
    repeat (first | with_reducible refine zR.hold (pc := 40) ?_ | ((with_reducible refine zR.stored ?_); dsimp only [zsto, zclr, zset, zget, zc2, cond_false, cond_true]) | ((with_reducible refine zR.atLit ?_); first | refine zR.step rfl ?_) | rw [zcc1] | rw [zcc2] | rw [zcc3] | rw [zcc4])
    exact ⟨trivial, ih⟩
theorem o_image {L : Nat} {xs : Nat → Int32} : op_image (Inv L xs) := by
  intro  M σ n w hI
  have hI' := hI
  obtain ⟨t, tr, c0, c1, c2, k0, k1, k2, b0, b1, b2, l0, l1, l2, hR, ⟨hT, hG0, hG1, hG2⟩, hg, hk, ht, hx, hn⟩ := hI
  have h25 := hT.1
  have hg' := hg
  obtain ⟨nc, nh, nl, lm, wk, hN, ⟨hC, hCn⟩, hB, hL, hSt, hH, hW, hX⟩ := hg'
  obtain ⟨N1, N2, N3, N4, N5, N6, N7, N8, N9, N10, N11, N12, N13, N14, N15, N16, N17⟩ := hN
  obtain ⟨s1, s2, s3, l, s4, s5⟩ := hg.src 124 (by omega)
  show zR ztb _ kX11_image 1 0 [some (.ref 25)] [] _ _ _ _
  repeat (first | ((with_reducible refine zR.stored ?_); dsimp only [zsto, zclr, zset, zget, zc2, cond_false, cond_true]) | ((with_reducible refine zR.atLit ?_); first | refine zR.step rfl ?_ | refine zR.getf rfl (h25) rfl ?_) | rw [zcc1] | rw [zcc2] | rw [zcc3] | rw [zcc4])
  refine zR.cv rfl rfl rfl hG1.o rfl rfl (zR.mono (c_Garden_copy hG1 hG0 (by omega) s1 s2 s3 s4 s5) (fun v n' w' M' hv => ?_))
  obtain ⟨rfl, rfl, rfl, ⟨c1', k1', b1', hG1', hkb, hca⟩, hF⟩ := hv
  have hT' : Tc M' t tr := hT.same (fun k hk => hF k (by omega))
  have fr : ∀ k, k ≠ 25 → (k < 124 ∨ 200 ≤ k) → zup (zup M' 25 (.inr (11, tob (zuf t 0 (zuf (t 0) 0 1))))) 25 (.inr (11, tob (tst (zuf t 0 (zuf (t 0) 0 1)) 0))) k = M k := fun k h1 h2 => by rw [zup_ne _ _ h1, zup_ne _ _ h1, hF k (by omega)]
  repeat (first | ((with_reducible refine zR.stored ?_); dsimp only [zsto, zclr, zset, zget, zc2, cond_false, cond_true]) | ((with_reducible refine zR.atLit ?_); first | refine zR.step rfl ?_) | rw [zcc1] | rw [zcc2] | rw [zcc3] | rw [zcc4])
  refine zR.putf rfl hT'.1 rfl rfl ?_
  have hT2 := hT'.r0 (x := zuf (t 0) 0 1) (fun k hk => zuf_ne _ _ (by omega))
  repeat (first | ((with_reducible refine zR.stored ?_); dsimp only [zsto, zclr, zset, zget, zc2, cond_false, cond_true]) | ((with_reducible refine zR.atLit ?_); first | refine zR.step rfl ?_) | rw [zcc1] | rw [zcc2] | rw [zcc3] | rw [zcc4])
  refine zR.cv rfl rfl rfl hT2.1 rfl rfl (zCalP.of (c_doneC hT2.1 _) ?_)
  repeat (first | ((with_reducible refine zR.stored ?_); dsimp only [zsto, zclr, zset, zget, zc2, cond_false, cond_true]) | ((with_reducible refine zR.atLit ?_); first | refine zR.step rfl ?_) | rw [zcc1] | rw [zcc2] | rw [zcc3] | rw [zcc4])
  replace hR : Rf (zup (zup M' 25 (.inr (11, tob (zuf t 0 (zuf (t 0) 0 1))))) 25 (.inr (11, tob (tst (zuf t 0 (zuf (t 0) 0 1)) 0)))) σ := Rf.out (Rf.out ⟨by rw [hF _ (by omega)]; exact hR.1, fun j hj => by rw [hF _ (by omega)]; exact hR.2 j hj⟩ (by omega)) (by omega)
  refine zR.ret rfl rfl ⟨_, rfl, ⟨_, hR.1⟩, by rw [zup_ne _ _ (by omega), zup_ne _ _ (by omega), hF _ (by omega)], ?_⟩
  show zR ztb _ kX12_image 1 0 [some (.ref 287), none] [] _ _ _ _
  iterate 2 refine zR.step rfl ?_
  refine im_loop (fun M1 y hR hS hy => ?_) 2700 0 _ (σ 1) (by omega) (by rw [zuf_id rfl]; exact hR) Sm.rf (fun q hq => by omega)
  repeat (first | ((with_reducible refine zR.stored ?_); dsimp only [zsto, zclr, zset, zget, zc2, cond_false, cond_true]) | ((with_reducible refine zR.atLit ?_); first | refine zR.step rfl ?_) | rw [zcc1] | rw [zcc2] | rw [zcc3] | rw [zcc4])
  refine zR.putR hR hS rfl rfl rfl rfl (fun M2 hR hS => ?_)
  repeat (first | ((with_reducible refine zR.stored ?_); dsimp only [zsto, zclr, zset, zget, zc2, cond_false, cond_true]) | ((with_reducible refine zR.atLit ?_); first | refine zR.step rfl ?_) | rw [zcc1] | rw [zcc2] | rw [zcc3] | rw [zcc4])
  refine zR.cv rfl rfl rfl hR.1 rfl rfl (zR.mono (c_done hR _) (fun v n' w' M' hv => ?_))
  obtain ⟨rfl, rfl, rfl, hR2, hS2⟩ := hv
  repeat (first | rw [zcc1] | rw [zcc2] | rw [zcc3] | rw [zcc4] | refine zR.step rfl ?_)
  refine zR.ret rfl rfl ⟨rfl, by omega, by omega, _, inv_of hR2 (hS.trans hS2) ⟨hT2.st 0, hG0.same (fun k a b => fr k (by omega) (by omega)), (hG1'.out (by omega)).out (by omega), hG2.same (fun k a b => fr k (by omega) (by omega))⟩ (hg.mv (fun k a b => fr k (by omega) (by omega)) (Nat.le_refl _)) (fun _ => (hg.copy (fun k a b => fr k (by omega) (by omega)) s4 s5 hkb hca).ext hy) (TR.st ?_ 0) (fun k hk => by rw [fr k (by omega) (by omega)]; exact hx k hk) hn⟩
  obtain ⟨r1, r2, r3, r4, r5, r6, r7, r8, r9, r10, r11, r12⟩ := ht
  refine ⟨rfl, Or.inr rfl, r3, r4, r5, r6, r7, r8, r9, r10, r11, fun i hi => ?_⟩
  rw [zuf_ne _ _ (show 20 + i ≠ 0 by omega), zuf_ne _ _ (show 30 + i ≠ 0 by omega)]
  exact r12 i hi
theorem o_back {L : Nat} {xs : Nat → Int32} : op_back (Inv L xs) := by
  intro  M σ n w hI
  have hI' := hI
  obtain ⟨t, tr, c0, c1, c2, k0, k1, k2, b0, b1, b2, l0, l1, l2, hR, ⟨hT, hG0, hG1, hG2⟩, hg, hk, ht, hx, hn⟩ := hI
  have h25 := hT.1
  have hg' := hg
  obtain ⟨nc, nh, nl, lm, wk, hN, ⟨hC, hCn⟩, hB, hL, hSt, hH, hW, hX⟩ := hg'
  obtain ⟨N1, N2, N3, N4, N5, N6, N7, N8, N9, N10, N11, N12, N13, N14, N15, N16, N17⟩ := hN
  have ht' := ht
  obtain ⟨r1, r2, r3, ⟨tb, r4, -, r4b⟩, r5, r6, r7, r8, r9, r10, r11, r12⟩ := ht'
  show zR ztb _ kX11_back 1 0 [some (.ref 25)] [] _ _ _ _
  by_cases hb : tb = 10
  · have w1 : ¬ t 0 1 < 10 := by rw [r3, r4, hb]; decide
    have w2 : σ 12 4 = 10 := by rw [r4, hb]; rfl
    repeat (first | ((with_reducible refine zR.stored ?_); dsimp only [zsto, zclr, zset, zget, zc2, cond_false, cond_true]) | ((with_reducible refine zR.atLit ?_); first | refine zR.step rfl ?_ | refine zR.getf rfl (h25) rfl ?_) | rw [zcc1] | rw [zcc2] | rw [zcc3] | rw [zcc4] | rw [zn1 (w1)] | rw [zn2 (w1)] | rw [zn3 (w1)] | rw [zn4 (w1)])
    refine zR.cv rfl rfl rfl h25 rfl rfl (zCalP.of (c_refuse h25 _) ?_)
    repeat (first | rw [zcc1] | rw [zcc2] | rw [zcc3] | rw [zcc4] | refine zR.step rfl ?_)
    refine zR.ret rfl rfl ⟨_, rfl, ⟨_, (hR.out (by omega)).1⟩, rfl, ?_⟩
    replace hR : Rf (zup M 25 (.inr (11, tob (tst t 2)))) σ := hR.out (by omega)
    have hS : Sm (zup M 25 (.inr (11, tob (tst t 2)))) (zup M 25 (.inr (11, tob (tst t 2)))) := Sm.rf
    show zR ztb _ kX12_back 1 0 [some (.ref 287), none] [] _ _ _ _
    repeat (first | ((with_reducible refine zR.stored ?_); dsimp only [zsto, zclr, zset, zget, zc2, cond_false, cond_true]) | ((with_reducible refine zR.atLit ?_); first | refine zR.step rfl ?_ | refine zR.getf rfl (hR.1) rfl ?_) | rw [zcc1] | rw [zcc2] | rw [zcc3] | rw [zcc4] | rw [ze1 (w2)] | rw [ze2 (w2)])
    refine zR.cv rfl rfl rfl hR.1 rfl rfl (zR.mono (c_refused hR _) (fun v n' w' M' hv => ?_))
    obtain ⟨rfl, rfl, rfl, hR2, hS2⟩ := hv
    repeat (first | rw [zcc1] | rw [zcc2] | rw [zcc3] | rw [zcc4] | refine zR.step rfl ?_)
    refine zR.ret rfl rfl ⟨rfl, by omega, by omega, _, inv_fin ⟨hT, hG0, hG1, hG2⟩ hg hk ht hx hn hR2 (hS.trans hS2)⟩
  · have w1 : t 0 1 < 10 := by rw [r3, r4]; exact zI_ylt (b := 10) (by omega) (by omega)
    have w2 : ¬ σ 12 4 = 10 := by rw [r4]; exact fun h => hb (zn_inj (b := 10) (by omega) (by omega) h)
    rcases r2 with q | q
    · have q' : t 0 0 = 0 := r1.trans q
      repeat (first | ((with_reducible refine zR.stored ?_); dsimp only [zsto, zclr, zset, zget, zc2, cond_false, cond_true]) | ((with_reducible refine zR.atLit ?_); first | refine zR.step rfl ?_ | refine zR.getf rfl (h25) rfl ?_) | rw [zcc1] | rw [zcc2] | rw [zcc3] | rw [zcc4] | rw [zb1 (w1)] | rw [zb2 (w1)] | rw [zb3 (w1)] | rw [zb4 (w1)] | rw [q'])
      refine zR.cv rfl rfl rfl h25 rfl rfl (zCalP.of (c_refuse h25 _) ?_)
      repeat (first | rw [zcc1] | rw [zcc2] | rw [zcc3] | rw [zcc4] | refine zR.step rfl ?_)
      refine zR.ret rfl rfl ⟨_, rfl, ⟨_, (hR.out (by omega)).1⟩, rfl, ?_⟩
      replace hR : Rf (zup M 25 (.inr (11, tob (tst t 3)))) σ := hR.out (by omega)
      have hS : Sm (zup M 25 (.inr (11, tob (tst t 3)))) (zup M 25 (.inr (11, tob (tst t 3)))) := Sm.rf
      show zR ztb _ kX12_back 1 0 [some (.ref 287), none] [] _ _ _ _
      repeat (first | ((with_reducible refine zR.stored ?_); dsimp only [zsto, zclr, zset, zget, zc2, cond_false, cond_true]) | ((with_reducible refine zR.atLit ?_); first | refine zR.step rfl ?_ | refine zR.getf rfl (hR.1) rfl ?_) | rw [zcc1] | rw [zcc2] | rw [zcc3] | rw [zcc4] | rw [zd1 (w2)] | rw [zd2 (w2)] | rw [q])
      refine zR.cv rfl rfl rfl hR.1 rfl rfl (zR.mono (c_refused hR _) (fun v n' w' M' hv => ?_))
      obtain ⟨rfl, rfl, rfl, hR2, hS2⟩ := hv
      repeat (first | rw [zcc1] | rw [zcc2] | rw [zcc3] | rw [zcc4] | refine zR.step rfl ?_)
      refine zR.ret rfl rfl ⟨rfl, by omega, by omega, _, inv_fin ⟨hT, hG0, hG1, hG2⟩ hg hk ht hx hn hR2 (hS.trans hS2)⟩
    · have q' : t 0 0 = 1 := r1.trans q
      have hkk := hk q
      obtain ⟨s1, s2, s3, l, s4, s5⟩ := hkk.src 48 (by omega)
      repeat (first | ((with_reducible refine zR.stored ?_); dsimp only [zsto, zclr, zset, zget, zc2, cond_false, cond_true]) | ((with_reducible refine zR.atLit ?_); first | refine zR.step rfl ?_ | refine zR.getf rfl (h25) rfl ?_) | rw [zcc1] | rw [zcc2] | rw [zcc3] | rw [zcc4] | rw [zb1 (w1)] | rw [zb2 (w1)] | rw [zb3 (w1)] | rw [zb4 (w1)] | rw [q'])
      refine zR.putf rfl h25 rfl rfl ?_
      have hT1 := hT.r0 (x := zuf (t 0) 1 (t 0 1 + 1)) (fun k hk => zuf_ne _ _ (by omega))
      have hG0a := hG0.out (a := 25) (x := .inr (11, tob (zuf t 0 (zuf (t 0) 1 (t 0 1 + 1))))) (by omega)
      have hG1a := hG1.out (a := 25) (x := .inr (11, tob (zuf t 0 (zuf (t 0) 1 (t 0 1 + 1))))) (by omega)
      repeat (first | ((with_reducible refine zR.stored ?_); dsimp only [zsto, zclr, zset, zget, zc2, cond_false, cond_true]) | ((with_reducible refine zR.atLit ?_); first | refine zR.step rfl ?_ | refine zR.getf rfl (hT1.1) rfl ?_) | rw [zcc1] | rw [zcc2] | rw [zcc3] | rw [zcc4])
      refine zR.cv rfl rfl rfl hG0a.o rfl rfl (zR.mono (c_Garden_copy hG0a hG1a (by omega) (fun i hi => (s1 i hi).imp id (fun ⟨a, fs, z1, z2, z3⟩ => ⟨a, fs, z1, by rw [zup_ne _ _ (by intro e; subst e; rw [h25] at z2; exact absurd z2 (by simp))]; exact z2, z3⟩)) s2 s3 s4 s5) (fun v n' w' M' hv => ?_))
      obtain ⟨rfl, rfl, rfl, ⟨c0', k0', b0', hG0', hkb, hca⟩, hF⟩ := hv
      have hT' : Tc M' (zuf t 0 (zuf (t 0) 1 (t 0 1 + 1))) tr := hT1.same (fun k hk => hF k (by omega))
      have fr : ∀ k, k ≠ 25 → (k < 48 ∨ 124 ≤ k) → zup M' 25 (.inr (11, tob (tst (zuf t 0 (zuf (t 0) 1 (t 0 1 + 1))) 0))) k = M k := fun k h1 h2 => by rw [zup_ne _ _ h1, hF k (by omega), zup_ne _ _ h1]
      repeat (first | ((with_reducible refine zR.stored ?_); dsimp only [zsto, zclr, zset, zget, zc2, cond_false, cond_true]) | ((with_reducible refine zR.atLit ?_); first | refine zR.step rfl ?_ | refine zR.getf rfl (hT'.1) rfl ?_ | refine zR.getf rfl (hG0'.o) rfl ?_) | rw [zcc1] | rw [zcc2] | rw [zcc3] | rw [zcc4])
      refine zR.cv rfl rfl rfl hT'.1 rfl rfl (zCalP.of (c_doneC hT'.1 _) ?_)
      repeat (first | ((with_reducible refine zR.stored ?_); dsimp only [zsto, zclr, zset, zget, zc2, cond_false, cond_true]) | ((with_reducible refine zR.atLit ?_); first | refine zR.step rfl ?_) | rw [zcc1] | rw [zcc2] | rw [zcc3] | rw [zcc4])
      replace hR : Rf (zup M' 25 (.inr (11, tob (tst (zuf t 0 (zuf (t 0) 1 (t 0 1 + 1))) 0)))) σ := ⟨by rw [fr _ (by omega) (by omega)]; exact hR.1, fun j hj => by rw [fr _ (by omega) (by omega)]; exact hR.2 j hj⟩
      refine zR.ret rfl rfl ⟨_, rfl, ⟨_, hR.1⟩, fr 0 (by omega) (by omega), ?_⟩
      show zR ztb _ kX12_back 1 0 [some (.ref 287), none] [] _ _ _ _
      repeat (first | ((with_reducible refine zR.stored ?_); dsimp only [zsto, zclr, zset, zget, zc2, cond_false, cond_true]) | ((with_reducible refine zR.atLit ?_); first | refine zR.step rfl ?_ | refine zR.getf rfl (hR.1) rfl ?_) | rw [zcc1] | rw [zcc2] | rw [zcc3] | rw [zcc4] | rw [zd1 (w2)] | rw [zd2 (w2)] | rw [q])
      refine zR.putR hR Sm.rf rfl rfl rfl rfl (fun M1 hR hS => ?_)
      iterate 2 refine zR.step rfl ?_
      refine bk_loop (σ := zuf σ 12 (zuf (σ 12) 4 (σ 12 4 + 1))) (fun M1 y hR hS hy => ?_) 2700 0 _ (σ 0) (by omega) (by rw [zuf_id (f := zuf σ 12 (zuf (σ 12) 4 (σ 12 4 + 1))) (i := 0) (v := σ 0) rfl]; exact hR) hS (fun q hq => by omega)
      have y0 : y 0 = σ 1 0 := hy 0 (by omega)
      repeat (first | ((with_reducible refine zR.stored ?_); dsimp only [zsto, zclr, zset, zget, zc2, cond_false, cond_true]) | ((with_reducible refine zR.atLit ?_); first | refine zR.step rfl ?_ | refine zR.getf rfl (hR.1) rfl ?_ | (refine zR.ilY hR rfl (i := 0) rfl (by omega) ?_; rw [y0])) | rw [zcc1] | rw [zcc2] | rw [zcc3] | rw [zcc4])
      refine zR.cv rfl rfl rfl hR.1 rfl rfl (zR.mono (c_done hR _) (fun v n' w' M' hv => ?_))
      obtain ⟨rfl, rfl, rfl, hR2, hS2⟩ := hv
      repeat (first | rw [zcc1] | rw [zcc2] | rw [zcc3] | rw [zcc4] | refine zR.step rfl ?_)
      have hy' : ∀ k, k < 2700 → y k = σ 1 k := hy
      have e2 : c0' 0 2 = σ 1 0 := by
        obtain ⟨nc', nh', nl', lm', wk', hN', -⟩ := hkk
        rw [hca.1 2 (by omega)]
        exact hN'.2.2.2.2.2.2.2.2.2.2.2.2.1
      refine zR.ret rfl rfl ⟨by rw [e2], by omega, by omega, _, inv_of hR2 (hS.trans hS2) ⟨hT'.st 0, hG0'.out (by omega), hG1.same (fun k a b => fr k (by omega) (by omega)), hG2.same (fun k a b => fr k (by omega) (by omega))⟩ ((hkk.copy (fun k a b => fr k (by omega) (by omega)) s4 s5 hkb hca).ext hy') (fun _ => hkk.mv (fun k a b => fr k (by omega) (by omega)) (Nat.le_refl _)) (TR.st ?_ 0) (fun k hk => by rw [fr k (by omega) (by omega)]; exact hx k hk) hn⟩
      refine ⟨r1, Or.inr q, congrArg (· + 1) r3, ⟨tb + 1, ?_, by omega, by omega⟩, r5, r6, r7, r8, r9, r10, r11, fun i hi => ?_⟩
      · show σ 12 4 + 1 = _
        rw [r4, zI_s]
      · rw [zuf_ne _ _ (show 20 + i ≠ 0 by omega), zuf_ne _ _ (show 30 + i ≠ 0 by omega)]
        exact r12 i hi
