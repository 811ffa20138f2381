
/-! feed. -/
theorem Tc.tp {M M' : zM} {t : mS} {tr : Option Nat} {f : Nat → Int32} {x : Int32} (h : Tc M t tr) (h26 : M' 26 = .inr (9, [.ref 27, .int x])) (h27 : M' 27 = .inl (1, 200, .inl f)) (hF : ∀ k, k ≠ 26 → k ≠ 27 → M' k = M k) : Tc M' (zuf (zuf t 1 f) 0 (zuf (t 0) 3 x)) tr := by
  obtain ⟨h1, h2, h3, h4, h5, h6, h7, h8, h9, h10⟩ := h
  refine ⟨?_, h26, h27, ?_, fun j hj => ?_, ⟨?_, fun j hj => ?_⟩, ?_, ?_, ?_, fun j hj => ?_⟩
  · rw [hF _ (by omega) (by omega)]; exact h1
  · rw [hF _ (by omega) (by omega)]; exact h4
  · rw [hF _ (by omega) (by omega), zuf_ne _ _ (by omega), zuf_ne _ _ (by omega)]; exact h5 j hj
  · rw [hF _ (by omega) (by omega)]; exact h6.1
  · rw [hF _ (by omega) (by omega), zuf_ne _ _ (by omega), zuf_ne _ _ (by omega)]; exact h6.2 j hj
  · rw [hF _ (by omega) (by omega)]; exact h7
  · rw [hF _ (by omega) (by omega)]; exact h8
  · rw [hF _ (by omega) (by omega)]; exact h9
  · rw [hF _ (by omega) (by omega), hF _ (by omega) (by omega), zuf_ne _ _ (by omega), zuf_ne _ _ (by omega), zuf_ne _ _ (by omega), zuf_ne _ _ (by omega)]; exact h10 j hj
theorem o_feed {L : Nat} {xs : Nat → Int32} : op_feed (Inv L xs) := by
  intro a b M σ n w hI
  have hI' := hI
  obtain ⟨t, tr, c0, c1, c2, k0, k1, k2, b0, b1, b2, l0, l1, l2, hR, ⟨hT, hG0, hG1, hG2⟩, hg, hk, ht, hx, hn⟩ := hI
  have h25 := hT.1
  have hg' := hg
  obtain ⟨nc, nh, nl, lm, wk, hN, ⟨hC, hCn⟩, hB, hL, hSt, hH, hW, hX⟩ := hg'
  obtain ⟨N1, N2, N3, N4, N5, N6, N7, N8, N9, N10, N11, N12, N13, N14, N15, N16, N17⟩ := hN
  have ht' := ht
  obtain ⟨r1, r2, r3, r4, r5, r6, ⟨tp, r7, r7b, r7c⟩, r8, r9, r10, r11, r12⟩ := ht'
  have h26 := hT.2.1
  have h27 := hT.2.2.1
  rw [r6, r7] at h26
  show zR ztb _ kX11_feed 1 0 [some (.ref 25), some (.int a), some (.long b), none] [] _ _ _ _
  rcases inI_nat a 1 8 (by omega) (by omega) with ⟨m, hm1, hm2, rfl, e⟩ | ⟨-, e⟩
  · replace e : inI (nI m) 1 8 = 1 := e
    have ea : nI tp + nI m = nI (tp + m) := zn_add tp m
    by_cases hl : tp + m ≤ 200
    · have el : ¬ (200 : Int32) < nI (tp + m) := zI_nlt (a := 200) (by omega) (by omega)
      repeat (first | ((with_reducible refine zR.stored ?_); dsimp only [zsto, zclr, zset, zget, zc2, cond_false, cond_true]) | ((with_reducible refine zR.atLit ?_); first | refine zR.step rfl ?_ | refine zR.cs rfl rfl rfl rfl rfl (zCalP.of (c_isWithin _ _ _) ?_) | refine zR.getf rfl (h25) rfl ?_ | refine zR.getf rfl (h26) rfl ?_) | rw [zcc1] | rw [zcc2] | rw [zcc3] | rw [zcc4] | rw [e] | rw [ea] | rw [zn1 (el)] | rw [zn2 (el)] | rw [zn3 (el)] | rw [zn4 (el)])
      refine zR.cv rfl rfl rfl h26 rfl rfl ?_
      show zR ztb _ kX9_append 0 0 [some (.ref 26), some (.int (nI m)), some (.long b), none, none] [] _ _ _ _
      iterate 2 refine zR.step rfl ?_
      refine ap_loop (M0 := M) (tp := tp) (f0 := t 1) hl hm2 (fun MA f g26 g27 gF gf1 gf2 => ?_) m 0 M (t 1) (by omega) h26 h27 (fun _ _ _ => rfl) (fun q hq => by omega) (fun _ _ => rfl)
      have hT' := hT.tp g26 g27 gF
      repeat (first | ((with_reducible refine zR.stored ?_); dsimp only [zsto, zclr, zset, zget, zc2, cond_false, cond_true]) | ((with_reducible refine zR.atLit ?_); first | refine zR.step rfl ?_ | refine zR.getf rfl (hT'.1) rfl ?_ | refine zR.getf rfl (g26) rfl ?_) | rw [zcc1] | rw [zcc2] | rw [zcc3] | rw [zcc4])
      refine zR.cv rfl rfl rfl hT'.1 rfl rfl (zCalP.of (c_doneC hT'.1 _) ?_)
      repeat (first | ((with_reducible refine zR.stored ?_); dsimp only [zsto, zclr, zset, zget, zc2, cond_false, cond_true]) | ((with_reducible refine zR.atLit ?_); first | refine zR.step rfl ?_) | rw [zcc1] | rw [zcc2] | rw [zcc3] | rw [zcc4])
      replace hR : Rf (zup MA 25 (.inr (11, tob (tst (zuf (zuf t 1 f) 0 (zuf (t 0) 3 (nI (tp + m)))) 0)))) σ := Rf.out ⟨by rw [gF _ (by omega) (by omega)]; exact hR.1, fun j hj => by rw [gF _ (by omega) (by omega)]; exact hR.2 j hj⟩ (by omega)
      refine zR.ret rfl rfl ⟨_, rfl, ⟨_, hR.1⟩, by rw [zup_ne _ _ (by omega), gF _ (by omega) (by omega)], ?_⟩
      show zR ztb _ kX12_feed 1 0 [some (.ref 287), some (.int (nI m)), some (.long b), none, none] [] _ _ _ _
      have w6 : σ 12 6 = nI tp := r7
      repeat (first | with_reducible refine zR.hold (pc := 37) ?_ | ((with_reducible refine zR.stored ?_); dsimp only [zsto, zclr, zset, zget, zc2, cond_false, cond_true]) | ((with_reducible refine zR.atLit ?_); first | refine zR.step rfl ?_ | refine zR.cs rfl rfl rfl rfl rfl (zCalP.of (c_in _ _ _) ?_) | (refine zR.getf rfl hR.1 rfl ?_; rw [w6])) | rw [zcc1] | rw [zcc2] | rw [zcc3] | rw [zcc4] | rw [e] | rw [ea] | rw [zn1 (el)] | rw [zn2 (el)] | rw [zn3 (el)] | rw [zn4 (el)])
      refine ⟨trivial, fr_loop (σ := σ) (tp := tp) hl hm2 (fun M2 ρ hR hS p1 p2 p3 p4 p5 => ?_) m 0 _ σ (by omega) hR Sm.rf (fun _ _ _ => rfl) (fun _ _ => rfl) w6 (fun q hq => by omega) (fun _ _ => rfl)⟩
      repeat (first | ((with_reducible refine zR.stored ?_); dsimp only [zsto, zclr, zset, zget, zc2, cond_false, cond_true]) | ((with_reducible refine zR.atLit ?_); first | refine zR.step rfl ?_ | (refine zR.getf rfl hR.1 rfl ?_; rw [p3])) | rw [zcc1] | rw [zcc2] | rw [zcc3] | rw [zcc4])
      refine zR.cv rfl rfl rfl hR.1 rfl rfl (zR.mono (c_done hR _) (fun v n' w' M' hv => ?_))
      obtain ⟨rfl, rfl, rfl, hR2, hS2⟩ := hv
      repeat (first | rw [zcc1] | rw [zcc2] | rw [zcc3] | rw [zcc4] | refine zR.step rfl ?_)
      have p0 := p1 0 (by omega) (by omega)
      have p11 := p1 1 (by omega) (by omega)
      have p123 := p2 3 (by omega)
      refine zR.ret rfl rfl ⟨rfl, by omega, by omega, _, inv_fin (M1 := MA) (σ := ρ) ⟨hT', hG0.same (fun k a b => gF k (by omega) (by omega)), hG1.same (fun k a b => gF k (by omega) (by omega)), hG2.same (fun k a b => gF k (by omega) (by omega))⟩ (by rw [p0]; exact hg.mv (fun k a b => gF k (by omega) (by omega)) (Nat.le_refl _)) (fun h => by rw [p11]; exact (hk (by rw [← p123]; exact h)).mv (fun k a b => gF k (by omega) (by omega)) (Nat.le_refl _)) ?_ (fun k hk => by rw [gF k (by omega) (by omega)]; exact hx k hk) hn hR2 (hS.trans hS2)⟩
      refine ⟨r1.trans p123.symm, by rw [p123]; exact r2, r3.trans (p2 4 (by omega)).symm, by rw [p2 4 (by omega)]; exact r4, r5.trans (p2 12 (by omega)).symm, p3.symm, ⟨tp + m, p3, hl, fun i hi => ?_⟩, r8.trans (p2 7 (by omega)).symm, r9.trans (p2 8 (by omega)).symm, r10.trans (p2 14 (by omega)).symm, ?_, fun i hi => ?_⟩
      · show f i &&& 255 = ρ 3 i
        by_cases q : i < tp
        · rw [gf2 i q, p5 i q]
          exact r7c i q
        · have := gf1 (i - tp) (by omega)
          rw [show tp + (i - tp) = i by omega] at this
          have h2 := p4 (i - tp) (by omega)
          rw [show tp + (i - tp) = i by omega] at h2
          rw [this, h2]
          exact fd_all b _ (by omega)
      · rw [p2 14 (by omega), p1 7 (by omega) (by omega)]
        exact r11
      · rw [p1 4 (by omega) (by omega), p1 5 (by omega) (by omega), p1 6 (by omega) (by omega), zuf_ne _ _ (show 20 + i ≠ 0 by omega), zuf_ne _ _ (show 20 + i ≠ 1 by omega), zuf_ne _ _ (show 30 + i ≠ 0 by omega), zuf_ne _ _ (show 30 + i ≠ 1 by omega)]
        exact r12 i hi
    · have el : (200 : Int32) < nI (tp + m) := zI_ylt (a := 200) (by omega) (by omega)
      repeat (first | ((with_reducible refine zR.stored ?_); dsimp only [zsto, zclr, zset, zget, zc2, cond_false, cond_true]) | ((with_reducible refine zR.atLit ?_); first | refine zR.step rfl ?_ | refine zR.cs rfl rfl rfl rfl rfl (zCalP.of (c_isWithin _ _ _) ?_) | refine zR.getf rfl (h25) rfl ?_ | refine zR.getf rfl (h26) rfl ?_) | rw [zcc1] | rw [zcc2] | rw [zcc3] | rw [zcc4] | rw [e] | rw [ea] | rw [zb1 (el)] | rw [zb2 (el)] | rw [zb3 (el)] | rw [zb4 (el)])
      refine zR.cv rfl rfl rfl h25 rfl rfl (zCalP.of (c_refuse h25 _) ?_)
      repeat (first | rw [zcc1] | rw [zcc2] | rw [zcc3] | rw [zcc4] | refine zR.step rfl ?_)
      refine zR.ret rfl rfl ⟨_, rfl, ⟨_, (hR.out (by omega)).1⟩, rfl, ?_⟩
      replace hR : Rf (zup M 25 (.inr (11, tob (tst t 2)))) σ := hR.out (by omega)
      have hS : Sm (zup M 25 (.inr (11, tob (tst t 2)))) (zup M 25 (.inr (11, tob (tst t 2)))) := Sm.rf
      show zR ztb _ kX12_feed 1 0 [some (.ref 287), some (.int (nI m)), some (.long b), none, none] [] _ _ _ _
      have w6 : σ 12 6 = nI tp := r7
      repeat (first | ((with_reducible refine zR.stored ?_); dsimp only [zsto, zclr, zset, zget, zc2, cond_false, cond_true]) | ((with_reducible refine zR.atLit ?_); first | refine zR.step rfl ?_ | refine zR.cs rfl rfl rfl rfl rfl (zCalP.of (c_in _ _ _) ?_) | (refine zR.getf rfl hR.1 rfl ?_; rw [w6])) | rw [zcc1] | rw [zcc2] | rw [zcc3] | rw [zcc4] | rw [e] | rw [ea] | rw [zb1 (el)] | rw [zb2 (el)] | rw [zb3 (el)] | rw [zb4 (el)])
      refine zR.cv rfl rfl rfl hR.1 rfl rfl (zR.mono (c_refused hR _) (fun v n' w' M' hv => ?_))
      obtain ⟨rfl, rfl, rfl, hR2, hS2⟩ := hv
      repeat (first | rw [zcc1] | rw [zcc2] | rw [zcc3] | rw [zcc4] | refine zR.step rfl ?_)
      refine zR.ret rfl rfl ⟨rfl, by omega, by omega, _, inv_fin ⟨hT, hG0, hG1, hG2⟩ hg hk ht hx hn hR2 (hS.trans hS2)⟩
  · replace e : inI a 1 8 = 0 := e
    repeat (first | ((with_reducible refine zR.stored ?_); dsimp only [zsto, zclr, zset, zget, zc2, cond_false, cond_true]) | ((with_reducible refine zR.atLit ?_); first | refine zR.step rfl ?_ | refine zR.cs rfl rfl rfl rfl rfl (zCalP.of (c_isWithin _ _ _) ?_)) | rw [zcc1] | rw [zcc2] | rw [zcc3] | rw [zcc4] | rw [e])
    refine zR.cv rfl rfl rfl h25 rfl rfl (zCalP.of (c_refuse h25 _) ?_)
    repeat (first | rw [zcc1] | rw [zcc2] | rw [zcc3] | rw [zcc4] | refine zR.step rfl ?_)
    refine zR.ret rfl rfl ⟨_, rfl, ⟨_, (hR.out (by omega)).1⟩, rfl, ?_⟩
    replace hR : Rf (zup M 25 (.inr (11, tob (tst t 1)))) σ := hR.out (by omega)
    have hS : Sm (zup M 25 (.inr (11, tob (tst t 1)))) (zup M 25 (.inr (11, tob (tst t 1)))) := Sm.rf
    show zR ztb _ kX12_feed 1 0 [some (.ref 287), some (.int a), some (.long b), none, none] [] _ _ _ _
    repeat (first | ((with_reducible refine zR.stored ?_); dsimp only [zsto, zclr, zset, zget, zc2, cond_false, cond_true]) | ((with_reducible refine zR.atLit ?_); first | refine zR.step rfl ?_ | refine zR.cs rfl rfl rfl rfl rfl (zCalP.of (c_in _ _ _) ?_)) | rw [zcc1] | rw [zcc2] | rw [zcc3] | rw [zcc4] | rw [e])
    refine zR.cv rfl rfl rfl hR.1 rfl rfl (zR.mono (c_refused hR _) (fun v n' w' M' hv => ?_))
    obtain ⟨rfl, rfl, rfl, hR2, hS2⟩ := hv
    repeat (first | rw [zcc1] | rw [zcc2] | rw [zcc3] | rw [zcc4] | refine zR.step rfl ?_)
    refine zR.ret rfl rfl ⟨rfl, by omega, by omega, _, inv_fin ⟨hT, hG0, hG1, hG2⟩ hg hk ht hx hn hR2 (hS.trans hS2)⟩
