
/-! week. -/
theorem GR.c13 {M : zM} {n : Nat} {c : mS} {kp bt : Nat → Option Nat} {la : Nat} {s : Nat → Int32} (h : GR M n c kp bt la s) (z : Nat → Int32) : GR M n (zuf c 13 z) kp bt la s := by
  obtain ⟨nc, nh, nl, lm, wk, hN, h2, h3, h4, h5, h6, h7, h8⟩ := h
  have g1 : nc ≤ 8 := hN.2.1
  have g2 : nh ≤ 10 := hN.2.2.2.1
  have g3 : nl ≤ 240 := hN.2.2.2.2.2.1
  have hc : ∀ j, j ≠ 13 → zuf c 13 z j = c j := fun j hj => zuf_ne _ _ hj
  exact ⟨nc, nh, nl, lm, wk, hN.cg2 (fun k hk => rfl) (fun q a b k a2 b2 => rfl) (hc 0 (by omega)) (fun b hb => by rw [hc _ (by omega)]) (fun q hq => Or.inl (by rw [hc _ (by omega)])), h2, h3.cg g1 (fun k hk => rfl) (fun b hb => hc _ (by omega)), h4.cg g3 (fun k hk => rfl) (fun j hj => hc _ (by omega)), h5.cg g3 (fun k hk => rfl) (fun j hj => hc _ (by omega)), h6.cg g2 (fun k hk => rfl) (fun j hj => hc _ (by omega)), h7.cg (fun k hk => rfl) (hc 7 (by omega)), h8⟩
theorem TR.rs {t σ ρ : mS} (h : TR t σ) (hr : ∀ j, j ≠ 0 → j ≠ 10 → j ≠ 11 → j ≠ 12 → ρ j = σ j) (h12 : ∀ k, k ≠ 26 → k ≠ 27 → k ≠ 28 → ρ 12 k = σ 12 k) : TR t ρ := by
  unfold TR
  rw [h12 3 (by omega) (by omega) (by omega), h12 4 (by omega) (by omega) (by omega), h12 12 (by omega) (by omega) (by omega), h12 6 (by omega) (by omega) (by omega), h12 7 (by omega) (by omega) (by omega), h12 8 (by omega) (by omega) (by omega), h12 14 (by omega) (by omega) (by omega), hr 3 (by omega) (by omega) (by omega) (by omega), hr 7 (by omega) (by omega) (by omega) (by omega), hr 4 (by omega) (by omega) (by omega) (by omega), hr 5 (by omega) (by omega) (by omega) (by omega), hr 6 (by omega) (by omega) (by omega) (by omega)]
  exact h
theorem c_clearSums {M : zM} {g : Nat} {c : mS} {kp bt : Nat → Option Nat} {la : Nat} {d n w : Nat} (hG : Gc M g c kp bt la) : zCall (d + 1) 21 [.ref g] n w M none n w (zup M (g + 17) (.inl (0, 4, .inl (fillF (c 13) 0 4)))) := by
  intro Q hQ
  show zR ztb _ kX2_clearSums 0 0 [some (.ref g)] [] _ _ _ _
  repeat (first | ((with_reducible refine zR.stored ?_); dsimp only [zsto, zclr, zset, zget, zc2, cond_false, cond_true]) | ((with_reducible refine zR.atLit ?_); first | refine zR.step rfl ?_ | refine zR.getf rfl (hG.o) rfl ?_ | refine zR.cs rfl rfl rfl rfl rfl (zCalP.of (c_fill 0 hG.su (by decide)) ?_)) | rw [zcc1] | rw [zcc2] | rw [zcc3] | rw [zcc4])
  exact zR.ret rfl rfl hQ
theorem o_week {L : Nat} {xs : Nat → Int32} : op_week (Inv L xs) := by
  intro  M σ n w hI
  have hI' := hI
  obtain ⟨t, tr, c0, c1, c2, k0, k1, k2, b0, b1, b2, l0, l1, l2, hR, ⟨hT, hG0, hG1, hG2⟩, hg, hk, ht, hx, hn⟩ := hI
  have h25 := hT.1
  have hg' := hg
  obtain ⟨nc, nh, nl, lm, wk, hN, ⟨hC, hCn⟩, hB, hL, hSt, hH, hW, hX⟩ := hg'
  obtain ⟨N1, N2, N3, N4, N5, N6, N7, N8, N9, N10, N11, N12, N13, N14, N15, N16, N17⟩ := hN
  have ho := hG0.o
  rw [N13, N9] at ho
  show zR ztb _ kX11_week 1 0 [some (.ref 25)] [] _ _ _ _
  by_cases hw : wk = 30
  · have e1 : ¬ nI wk < 30 := by rw [hw]; decide
    have e2 : σ 0 0 = 30 := by rw [N9, hw]; rfl
    repeat (first | ((with_reducible refine zR.stored ?_); dsimp only [zsto, zclr, zset, zget, zc2, cond_false, cond_true]) | ((with_reducible refine zR.atLit ?_); first | refine zR.step rfl ?_ | refine zR.getf rfl (h25) rfl ?_ | refine zR.getf rfl (ho) rfl ?_) | rw [zcc1] | rw [zcc2] | rw [zcc3] | rw [zcc4] | rw [zn1 (e1)] | rw [zn2 (e1)] | rw [zn3 (e1)] | rw [zn4 (e1)])
    refine zR.cv rfl rfl rfl h25 rfl rfl (zCalP.of (c_refuse h25 _) ?_)
    repeat (first | rw [zcc1] | rw [zcc2] | rw [zcc3] | rw [zcc4] | refine zR.step rfl ?_)
    refine zR.ret rfl rfl ⟨_, rfl, ⟨_, (hR.out (by omega)).1⟩, rfl, ?_⟩
    replace hR : Rf (zup M 25 (.inr (11, tob (tst t 3)))) σ := hR.out (by omega)
    have hS : Sm (zup M 25 (.inr (11, tob (tst t 3)))) (zup M 25 (.inr (11, tob (tst t 3)))) := Sm.rf
    show zR ztb _ kX12_week 1 0 [some (.ref 287)] [] _ _ _ _
    repeat (first | ((with_reducible refine zR.stored ?_); dsimp only [zsto, zclr, zset, zget, zc2, cond_false, cond_true]) | ((with_reducible refine zR.atLit ?_); first | refine zR.step rfl ?_ | refine zR.getf rfl (hR.1) rfl ?_ | refine zR.ilR0 hR rfl (by (try simp only [zn_lit, zn_add, zn_mul]); rfl) (by omega) ?_) | rw [zcc1] | rw [zcc2] | rw [zcc3] | rw [zcc4] | rw [ze1 (e2)] | rw [ze2 (e2)])
    refine zR.cv rfl rfl rfl hR.1 rfl rfl (zR.mono (c_refused hR _) (fun v n' w' M' hv => ?_))
    obtain ⟨rfl, rfl, rfl, hR2, hS2⟩ := hv
    repeat (first | rw [zcc1] | rw [zcc2] | rw [zcc3] | rw [zcc4] | refine zR.step rfl ?_)
    refine zR.ret rfl rfl ⟨rfl, by omega, by omega, _, inv_fin ⟨hT, hG0, hG1, hG2⟩ hg hk ht hx hn hR2 (hS.trans hS2)⟩
  · have hwk : wk < 30 := by omega
    have e1 : nI wk < 30 := zI_ylt (b := 30) (by omega) (by omega)
    have e2 : ¬ σ 0 0 = 30 := by rw [N9]; exact fun z => hw (zn_inj (b := 30) (by omega) (by omega) z)
    have hGa := hG0.upSu (fillF (c0 13) 0 4)
    have h25a : zup M (48 + 17) (.inl (0, 4, .inl (fillF (c0 13) 0 4))) 25 = .inr (11, tob t) := by rw [zup_ne _ _ (by omega)]; exact h25
    repeat (first | ((with_reducible refine zR.stored ?_); dsimp only [zsto, zclr, zset, zget, zc2, cond_false, cond_true]) | ((with_reducible refine zR.atLit ?_); first | refine zR.step rfl ?_ | refine zR.getf rfl (h25) rfl ?_ | refine zR.getf rfl (ho) rfl ?_ | refine zR.cv rfl rfl rfl hG0.o rfl rfl (zCalP.of (c_clearSums hG0) ?_) | refine zR.getf rfl h25a rfl ?_) | rw [zcc1] | rw [zcc2] | rw [zcc3] | rw [zcc4] | rw [zb1 (e1)] | rw [zb2 (e1)] | rw [zb3 (e1)] | rw [zb4 (e1)])
    refine zR.cv rfl rfl rfl hGa.o rfl rfl (zR.mono (c_doWeek (M0 := M) (nn := n) (by omega) hGa (fun k hk => zup_ne _ _ (by omega)) (hg.c13 _) N9 hwk) (fun v n1 w1 M2 hv => ?_))
    obtain ⟨rfl, rfl, rfl, c', bt', hG', hF', hGR', s0, -, -, -, hWF⟩ := hv
    have hT' : Tc M2 t tr := hT.same (fun k hk => hF' k (by omega))
    have e13 : c' 13 0 = (wBx (σ 0)).2.1 := by
      rw [s0, zuf_self, show fillF (c0 13) 0 4 0 = 0 from rfl, Int32.zero_add]
    generalize hB : (wBx (σ 0)).2.1 = hole at *
    repeat (first | ((with_reducible refine zR.stored ?_); dsimp only [zsto, zclr, zset, zget, zc2, cond_false, cond_true]) | ((with_reducible refine zR.atLit ?_); first | refine zR.step rfl ?_ | refine zR.getf rfl (hT'.1) rfl ?_ | refine zR.getf rfl (hG'.o) rfl ?_ | (refine zR.iald rfl hG'.su (Or.inl rfl) (i := 0) rfl (by omega) (by omega) ?_; rw [e13])) | rw [zcc1] | rw [zcc2] | rw [zcc3] | rw [zcc4])
    refine zR.cv rfl rfl rfl hT'.1 rfl rfl (zCalP.of (c_doneC hT'.1 _) ?_)
    repeat (first | ((with_reducible refine zR.stored ?_); dsimp only [zsto, zclr, zset, zget, zc2, cond_false, cond_true]) | ((with_reducible refine zR.atLit ?_); first | refine zR.step rfl ?_) | rw [zcc1] | rw [zcc2] | rw [zcc3] | rw [zcc4])
    have fr : ∀ k, k ≠ 25 → (k < 48 ∨ 124 ≤ k) → zup M2 25 (.inr (11, tob (tst t 0))) k = M k := fun k h1 h2 => by rw [zup_ne _ _ h1, hF' k (by omega)]
    replace hR : Rf (zup M2 25 (.inr (11, tob (tst t 0)))) σ := ⟨by rw [fr _ (by omega) (by omega)]; exact hR.1, fun j hj => by rw [fr _ (by omega) (by omega)]; exact hR.2 j hj⟩
    refine zR.ret rfl rfl ⟨_, rfl, ⟨_, hR.1⟩, fr 0 (by omega) (by omega), ?_⟩
    show zR ztb _ kX12_week 1 0 [some (.ref 287)] [] _ _ _ _
    repeat (first | ((with_reducible refine zR.stored ?_); dsimp only [zsto, zclr, zset, zget, zc2, cond_false, cond_true]) | ((with_reducible refine zR.atLit ?_); first | refine zR.step rfl ?_ | refine zR.getf rfl (hR.1) rfl ?_ | refine zR.ilR0 hR rfl (by (try simp only [zn_lit, zn_add, zn_mul]); rfl) (by omega) ?_) | rw [zcc1] | rw [zcc2] | rw [zcc3] | rw [zcc4] | rw [zd1 (e2)] | rw [zd2 (e2)])
    refine zR.cv rfl rfl rfl hR.1 rfl rfl (zR.mono (c_week0 (M0 := zup M2 25 (.inr (11, tob (tst t 0)))) (σ := σ) (W := σ 12 27) (S := σ 12 28) hWF ⟨σ, hR, rfl, fun _ _ _ _ _ => rfl, fun _ _ _ _ => rfl, rfl, rfl⟩ Sm.rf) (fun v n3 w3 M3 hv => ?_))
    obtain ⟨rfl, rfl, rfl, hS3, ρ, hR, r0, rr, r12, -, -⟩ := hv
    rw [hB]
    have hS := hS3
    repeat (first | ((with_reducible refine zR.stored ?_); dsimp only [zsto, zclr, zset, zget, zc2, cond_false, cond_true]) | ((with_reducible refine zR.atLit ?_); first | refine zR.step rfl ?_) | rw [zcc1] | rw [zcc2] | rw [zcc3] | rw [zcc4])
    refine zR.cv rfl rfl rfl hR.1 rfl rfl (zR.mono (c_done hR _) (fun v n' w' M' hv => ?_))
    obtain ⟨rfl, rfl, rfl, hR2, hS2⟩ := hv
    repeat (first | rw [zcc1] | rw [zcc2] | rw [zcc3] | rw [zcc4] | refine zR.step rfl ?_)
    have p123 := r12 3 (by omega) (by omega) (by omega)
    have p1 := rr 1 (by omega) (by omega) (by omega) (by omega)
    refine zR.ret rfl rfl ⟨rfl, by omega, by omega, _, inv_fin (M1 := M2) (σ := ρ) ⟨hT', hG', hG1.same (fun k a b => hF' k (by omega)), hG2.same (fun k a b => hF' k (by omega))⟩ (by rw [r0]; exact hGR'.mv (fun k a b => hF' k (by omega)) (Nat.le_refl _)) (fun h => by rw [p1]; exact (hk (by rw [← p123]; exact h)).mv (fun k a b => hF' k (by omega)) (Nat.le_refl _)) (ht.rs rr r12) (fun k hk => by rw [hF' k (by omega)]; exact hx k hk) hn hR2 (hS.trans hS2)⟩
