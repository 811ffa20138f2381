
/-! buy. -/
theorem c_hasRoom {M : zM} {g : Nat} {c : mS} {kp bt : Nat → Option Nat} {la : Nat} {d n w : Nat} (hG : Gc M g c kp bt la) : zCall d 56 [.ref (g + 4)] n w M (some (.int (if c 0 4 < 240 then 1 else 0))) n w M := by
  intro Q hQ
  show zR ztb _ kX6_hasRoom 2 0 [some (.ref (g + 4))] [] _ _ _ _
  repeat (first | rw [zcc1] | rw [zcc2] | rw [zcc3] | rw [zcc4] | refine zR.step rfl ?_ | refine zR.getf rfl (hG.lo) rfl ?_)
  refine zR.ite (fun h => ?_) (fun h => ?_)
  · rw [if_pos h] at hQ
    repeat (first | rw [zcc1] | rw [zcc2] | rw [zcc3] | rw [zcc4] | refine zR.step rfl ?_)
    exact zR.ret rfl rfl hQ
  · rw [if_neg h] at hQ
    repeat (first | rw [zcc1] | rw [zcc2] | rw [zcc3] | rw [zcc4] | refine zR.step rfl ?_)
    exact zR.ret rfl rfl hQ
theorem o_buy {L : Nat} {xs : Nat → Int32} : op_buy (Inv L xs) := by
  intro a b M σ n w hI
  have hI' := hI
  obtain ⟨t, tr, c0, c1, c2, k0, k1, k2, b0, b1, b2, l0, l1, l2, hR, ⟨hT, hG0, hG1, hG2⟩, hg, hk, ht, hx, hn⟩ := hI
  have h25 := hT.1
  have hg' := hg
  obtain ⟨nc, nh, nl, lm, wk, hN, ⟨hC, hCn⟩, hB, hL, hSt, hH, hW, hX⟩ := hg'
  obtain ⟨N1, N2, N3, N4, N5, N6, N7, N8, N9, N10, N11, N12, N13, N14, N15, N16, N17⟩ := hN
  show zR ztb _ kX11_buy 1 0 [some (.ref 25), some (.int a), some (.int b), none] [] _ _ _ _
  rcases inI_sub a nc (by omega) with ⟨i, hi, rfl, ez⟩ | ⟨-, ez⟩
  · have ec : inI (nI i) 0 (c0 0 0 - 1) = 1 := by rw [N11, N1]; exact ez
    have er : inI (nI i) 0 (σ 0 2 - 1) = 1 := by rw [N1]; exact ez
    obtain ⟨⟨ca, hk1, hc1⟩, -⟩ := hC i hi
    have hcM := hc1.2.2
    by_cases k5 : σ 0 (50 + 10 * i) = 5
    · have k5' : σ 0 (50 + 10 * i + 0) = 5 := k5
      rcases inI_nat b 1 50 (by omega) (by omega) with ⟨x, hx1, hx2, rfl, e⟩ | ⟨-, e⟩
      · replace e : inI (nI x) 1 50 = 1 := e
        by_cases hl : nl < 240
        · have r1 : (if c0 0 4 < 240 then (1 : Int32) else 0) = 1 := by rw [N15, N5]; exact if_pos (zI_ylt (b := 240) (by omega) (by omega))
          have r2 : ¬ σ 0 3 = 240 := by rw [N5]; exact fun h => by have := zn_inj (b := 240) (by omega) (by omega) h; omega
          by_cases hw : wk = 30
          · have w1 : ¬ c0 0 2 < 30 := by rw [N13, N9, hw]; decide
            have w2 : σ 0 0 = 30 := by rw [N9, hw]; rfl
            repeat (first | rw [zcc1] | rw [zcc2] | rw [zcc3] | rw [zcc4] | rw [ze1 (k5)] | rw [ze2 (k5)] | rw [e] | rw [r1] | rw [zn1 (w1)] | rw [zn2 (w1)] | rw [zn3 (w1)] | rw [zn4 (w1)] | refine zR.step rfl ?_ | refine zR.getf rfl (h25) rfl ?_ | refine zR.getf rfl (hG0.o) rfl ?_ | refine zR.cv rfl rfl rfl hG0.o rfl rfl (zCalP.of (c_cropAt_y hG0 ec (by omega) hk1) ?_) | refine zR.getf rfl (hcM) rfl ?_ | refine zR.cs rfl rfl rfl rfl rfl (zCalP.of (c_isWithin _ _ _) ?_) | refine zR.cv rfl rfl rfl hG0.lo rfl rfl (zCalP.of (c_hasRoom hG0) ?_))
            refine zR.cv rfl rfl rfl h25 rfl rfl (zCalP.of (c_refuse h25 _) ?_)
            repeat (first | rw [zcc1] | rw [zcc2] | rw [zcc3] | rw [zcc4] | refine zR.step rfl ?_)
            refine zR.ret rfl rfl ⟨_, rfl, ⟨_, (hR.out (by omega)).1⟩, rfl, ?_⟩
            replace hR : Rf (zup M 25 (.inr (11, tob (tst t 3)))) σ := hR.out (by omega)
            have hS : Sm (zup M 25 (.inr (11, tob (tst t 3)))) (zup M 25 (.inr (11, tob (tst t 3)))) := Sm.rf
            show zR ztb _ kX12_buy 1 0 [some (.ref 287), some (.int (nI i)), some (.int (nI x))] [] _ _ _ _
            repeat (first | rw [zcc1] | rw [zcc2] | rw [zcc3] | rw [zcc4] | rw [er] | rw [ze1 (k5')] | rw [ze2 (k5')] | rw [e] | rw [zd1 (r2)] | rw [zd2 (r2)] | rw [ze1 (w2)] | rw [ze2 (w2)] | refine zR.step rfl ?_ | refine zR.getf rfl (hR.1) rfl ?_ | refine zR.cv rfl rfl rfl hR.1 rfl rfl (zCalP.of (c_isCrop hR _) ?_) | refine zR.cv rfl rfl rfl hR.1 rfl rfl (zCalP.of (c_cropIs hR i 0 (by omega)) ?_) | refine zR.cs rfl rfl rfl rfl rfl (zCalP.of (c_in _ _ _) ?_) | refine zR.ilR0 hR rfl (by (try simp only [zn_lit, zn_add, zn_mul]); rfl) (by omega) ?_)
            refine zR.cv rfl rfl rfl hR.1 rfl rfl (zR.mono (c_refused hR _) (fun v n' w' M' hv => ?_))
            obtain ⟨rfl, rfl, rfl, hR2, hS2⟩ := hv
            repeat (first | rw [zcc1] | rw [zcc2] | rw [zcc3] | rw [zcc4] | refine zR.step rfl ?_)
            refine zR.ret rfl rfl ⟨rfl, by omega, by omega, _, inv_fin ⟨hT, hG0, hG1, hG2⟩ hg hk ht hx hn hR2 (hS.trans hS2)⟩
          · have w1 : c0 0 2 < 30 := by rw [N13, N9]; exact zI_ylt (b := 30) (by omega) (by omega)
            have w2 : ¬ σ 0 0 = 30 := by rw [N9]; exact fun h => hw (zn_inj (b := 30) (by omega) (by omega) h)
            repeat (first | rw [zcc1] | rw [zcc2] | rw [zcc3] | rw [zcc4] | rw [ze1 (k5)] | rw [ze2 (k5)] | rw [e] | rw [r1] | rw [zb1 (w1)] | rw [zb2 (w1)] | rw [zb3 (w1)] | rw [zb4 (w1)] | refine zR.step rfl ?_ | refine zR.getf rfl (h25) rfl ?_ | refine zR.getf rfl (hG0.o) rfl ?_ | refine zR.cv rfl rfl rfl hG0.o rfl rfl (zCalP.of (c_cropAt_y hG0 ec (by omega) hk1) ?_) | refine zR.getf rfl (hcM) rfl ?_ | refine zR.cs rfl rfl rfl rfl rfl (zCalP.of (c_isWithin _ _ _) ?_) | refine zR.cv rfl rfl rfl hG0.lo rfl rfl (zCalP.of (c_hasRoom hG0) ?_))
            refine zR.cv rfl rfl rfl hG0.o rfl rfl (zR.mono (c_addLot hG0 (N15.trans N5) hl (by omega) hcM (by have := hc1.1; omega) (-1) (-1) (nI x)) (fun v' n' w' M' hv => ?_))
            obtain ⟨rfl, rfl, rfl, hG0', hF⟩ := hv
            have hT' : Tc M' t tr := hT.same (fun k hk => hF k (by omega))
            repeat (first | rw [zcc1] | rw [zcc2] | rw [zcc3] | rw [zcc4] | refine zR.step rfl ?_)
            refine zR.cv rfl rfl rfl hT'.1 rfl rfl (zCalP.of (c_doneC hT'.1 _) ?_)
            repeat (first | rw [zcc1] | rw [zcc2] | rw [zcc3] | rw [zcc4] | refine zR.step rfl ?_)
            replace hR : Rf (zup M' 25 (.inr (11, tob (tst t 0)))) σ := Rf.out ⟨by rw [hF _ (by omega)]; exact hR.1, fun j hj => by rw [hF _ (by omega)]; exact hR.2 j hj⟩ (by omega)
            refine zR.ret rfl rfl ⟨_, rfl, ⟨_, hR.1⟩, by rw [zup_ne _ _ (by omega), hF _ (by omega)], ?_⟩
            show zR ztb _ kX12_buy 1 0 [some (.ref 287), some (.int (nI i)), some (.int (nI x))] [] _ _ _ _
            repeat (first | rw [zcc1] | rw [zcc2] | rw [zcc3] | rw [zcc4] | rw [er] | rw [ze1 (k5')] | rw [ze2 (k5')] | rw [e] | rw [zd1 (r2)] | rw [zd2 (r2)] | rw [zd1 (w2)] | rw [zd2 (w2)] | refine zR.step rfl ?_ | refine zR.getf rfl (hR.1) rfl ?_ | refine zR.cv rfl rfl rfl hR.1 rfl rfl (zCalP.of (c_isCrop hR _) ?_) | refine zR.cv rfl rfl rfl hR.1 rfl rfl (zCalP.of (c_cropIs hR i 0 (by omega)) ?_) | refine zR.cs rfl rfl rfl rfl rfl (zCalP.of (c_in _ _ _) ?_) | refine zR.ilR0 hR rfl (by (try simp only [zn_lit, zn_add, zn_mul]); rfl) (by omega) ?_)
            refine zR.cv rfl rfl rfl hR.1 rfl rfl (zR.mono (c_newLot hR.toY Sm.rf N5 hl (by omega) (-1) (-1) (nI x)) (fun v' n' w' M2 hv => ?_))
            obtain ⟨rfl, rfl, rfl, hR1, hS1⟩ := hv
            replace hR := hR1
            repeat (first | rw [zcc1] | rw [zcc2] | rw [zcc3] | rw [zcc4] | refine zR.step rfl ?_)
            refine zR.cv rfl rfl rfl hR.1 rfl rfl (zR.mono (c_done hR _) (fun v n' w' M' hv => ?_))
            obtain ⟨rfl, rfl, rfl, hR2, hS2⟩ := hv
            repeat (first | rw [zcc1] | rw [zcc2] | rw [zcc3] | rw [zcc4] | refine zR.step rfl ?_)
            refine zR.ret rfl rfl ⟨rfl, by omega, by omega, _, inv_now hT hG1 hG2 hk ht hx hn (fun k h1 h2 => hF k (by omega)) (Nat.le_refl _) hG0' ((hg.mv (fun k a b => hF k (by omega)) (Nat.le_refl _)).lot N5 hl (fun nc' h1 h2 => by have := zn_inj (by omega) (by omega) (h1.symm.trans N1); omega) (by rw [nI_toInt (by omega)]; omega)) hR2 (hS1.trans hS2)⟩
        · have r1 : (if c0 0 4 < 240 then (1 : Int32) else 0) = 0 := by rw [N15, N5]; exact if_neg (zI_nlt (b := 240) (by omega) (by omega))
          have r2 : σ 0 3 = 240 := by rw [N5, show nl = 240 by omega]; rfl
          repeat (first | rw [zcc1] | rw [zcc2] | rw [zcc3] | rw [zcc4] | rw [ze1 (k5)] | rw [ze2 (k5)] | rw [e] | rw [r1] | refine zR.step rfl ?_ | refine zR.getf rfl (h25) rfl ?_ | refine zR.getf rfl (hG0.o) rfl ?_ | refine zR.cv rfl rfl rfl hG0.o rfl rfl (zCalP.of (c_cropAt_y hG0 ec (by omega) hk1) ?_) | refine zR.getf rfl (hcM) rfl ?_ | refine zR.cs rfl rfl rfl rfl rfl (zCalP.of (c_isWithin _ _ _) ?_) | refine zR.cv rfl rfl rfl hG0.lo rfl rfl (zCalP.of (c_hasRoom hG0) ?_))
          refine zR.cv rfl rfl rfl h25 rfl rfl (zCalP.of (c_refuse h25 _) ?_)
          repeat (first | rw [zcc1] | rw [zcc2] | rw [zcc3] | rw [zcc4] | refine zR.step rfl ?_)
          refine zR.ret rfl rfl ⟨_, rfl, ⟨_, (hR.out (by omega)).1⟩, rfl, ?_⟩
          replace hR : Rf (zup M 25 (.inr (11, tob (tst t 2)))) σ := hR.out (by omega)
          have hS : Sm (zup M 25 (.inr (11, tob (tst t 2)))) (zup M 25 (.inr (11, tob (tst t 2)))) := Sm.rf
          show zR ztb _ kX12_buy 1 0 [some (.ref 287), some (.int (nI i)), some (.int (nI x))] [] _ _ _ _
          repeat (first | rw [zcc1] | rw [zcc2] | rw [zcc3] | rw [zcc4] | rw [er] | rw [ze1 (k5')] | rw [ze2 (k5')] | rw [e] | rw [ze1 (r2)] | rw [ze2 (r2)] | refine zR.step rfl ?_ | refine zR.getf rfl (hR.1) rfl ?_ | refine zR.cv rfl rfl rfl hR.1 rfl rfl (zCalP.of (c_isCrop hR _) ?_) | refine zR.cv rfl rfl rfl hR.1 rfl rfl (zCalP.of (c_cropIs hR i 0 (by omega)) ?_) | refine zR.cs rfl rfl rfl rfl rfl (zCalP.of (c_in _ _ _) ?_) | refine zR.ilR0 hR rfl (by (try simp only [zn_lit, zn_add, zn_mul]); rfl) (by omega) ?_)
          refine zR.cv rfl rfl rfl hR.1 rfl rfl (zR.mono (c_refused hR _) (fun v n' w' M' hv => ?_))
          obtain ⟨rfl, rfl, rfl, hR2, hS2⟩ := hv
          repeat (first | rw [zcc1] | rw [zcc2] | rw [zcc3] | rw [zcc4] | refine zR.step rfl ?_)
          refine zR.ret rfl rfl ⟨rfl, by omega, by omega, _, inv_fin ⟨hT, hG0, hG1, hG2⟩ hg hk ht hx hn hR2 (hS.trans hS2)⟩
      · replace e : inI b 1 50 = 0 := e
        repeat (first | rw [zcc1] | rw [zcc2] | rw [zcc3] | rw [zcc4] | rw [ze1 (k5)] | rw [ze2 (k5)] | rw [e] | refine zR.step rfl ?_ | refine zR.getf rfl (h25) rfl ?_ | refine zR.cv rfl rfl rfl hG0.o rfl rfl (zCalP.of (c_cropAt_y hG0 ec (by omega) hk1) ?_) | refine zR.getf rfl (hcM) rfl ?_ | refine zR.cs rfl rfl rfl rfl rfl (zCalP.of (c_isWithin _ _ _) ?_))
        refine zR.cv rfl rfl rfl h25 rfl rfl (zCalP.of (c_refuse h25 _) ?_)
        repeat (first | rw [zcc1] | rw [zcc2] | rw [zcc3] | rw [zcc4] | refine zR.step rfl ?_)
        refine zR.ret rfl rfl ⟨_, rfl, ⟨_, (hR.out (by omega)).1⟩, rfl, ?_⟩
        replace hR : Rf (zup M 25 (.inr (11, tob (tst t 1)))) σ := hR.out (by omega)
        have hS : Sm (zup M 25 (.inr (11, tob (tst t 1)))) (zup M 25 (.inr (11, tob (tst t 1)))) := Sm.rf
        show zR ztb _ kX12_buy 1 0 [some (.ref 287), some (.int (nI i)), some (.int b)] [] _ _ _ _
        repeat (first | rw [zcc1] | rw [zcc2] | rw [zcc3] | rw [zcc4] | rw [er] | rw [ze1 (k5')] | rw [ze2 (k5')] | rw [e] | refine zR.step rfl ?_ | refine zR.getf rfl (hR.1) rfl ?_ | refine zR.cv rfl rfl rfl hR.1 rfl rfl (zCalP.of (c_isCrop hR _) ?_) | refine zR.cv rfl rfl rfl hR.1 rfl rfl (zCalP.of (c_cropIs hR i 0 (by omega)) ?_) | refine zR.cs rfl rfl rfl rfl rfl (zCalP.of (c_in _ _ _) ?_))
        refine zR.cv rfl rfl rfl hR.1 rfl rfl (zR.mono (c_refused hR _) (fun v n' w' M' hv => ?_))
        obtain ⟨rfl, rfl, rfl, hR2, hS2⟩ := hv
        repeat (first | rw [zcc1] | rw [zcc2] | rw [zcc3] | rw [zcc4] | refine zR.step rfl ?_)
        refine zR.ret rfl rfl ⟨rfl, by omega, by omega, _, inv_fin ⟨hT, hG0, hG1, hG2⟩ hg hk ht hx hn hR2 (hS.trans hS2)⟩
    · have k5' : ¬ σ 0 (50 + 10 * i + 0) = 5 := k5
      repeat (first | rw [zcc1] | rw [zcc2] | rw [zcc3] | rw [zcc4] | rw [zd1 (k5)] | rw [zd2 (k5)] | refine zR.step rfl ?_ | refine zR.getf rfl (h25) rfl ?_ | refine zR.cv rfl rfl rfl hG0.o rfl rfl (zCalP.of (c_cropAt_y hG0 ec (by omega) hk1) ?_) | refine zR.getf rfl (hcM) rfl ?_)
      refine zR.cv rfl rfl rfl h25 rfl rfl (zCalP.of (c_refuse h25 _) ?_)
      repeat (first | rw [zcc1] | rw [zcc2] | rw [zcc3] | rw [zcc4] | refine zR.step rfl ?_)
      refine zR.ret rfl rfl ⟨_, rfl, ⟨_, (hR.out (by omega)).1⟩, rfl, ?_⟩
      replace hR : Rf (zup M 25 (.inr (11, tob (tst t 1)))) σ := hR.out (by omega)
      have hS : Sm (zup M 25 (.inr (11, tob (tst t 1)))) (zup M 25 (.inr (11, tob (tst t 1)))) := Sm.rf
      show zR ztb _ kX12_buy 1 0 [some (.ref 287), some (.int (nI i)), some (.int b)] [] _ _ _ _
      repeat (first | rw [zcc1] | rw [zcc2] | rw [zcc3] | rw [zcc4] | rw [er] | rw [zd1 (k5')] | rw [zd2 (k5')] | refine zR.step rfl ?_ | refine zR.getf rfl (hR.1) rfl ?_ | refine zR.cv rfl rfl rfl hR.1 rfl rfl (zCalP.of (c_isCrop hR _) ?_) | refine zR.cv rfl rfl rfl hR.1 rfl rfl (zCalP.of (c_cropIs hR i 0 (by omega)) ?_))
      refine zR.cv rfl rfl rfl hR.1 rfl rfl (zR.mono (c_refused hR _) (fun v n' w' M' hv => ?_))
      obtain ⟨rfl, rfl, rfl, hR2, hS2⟩ := hv
      repeat (first | rw [zcc1] | rw [zcc2] | rw [zcc3] | rw [zcc4] | refine zR.step rfl ?_)
      refine zR.ret rfl rfl ⟨rfl, by omega, by omega, _, inv_fin ⟨hT, hG0, hG1, hG2⟩ hg hk ht hx hn hR2 (hS.trans hS2)⟩
  · have ec : inI a 0 (c0 0 0 - 1) = 0 := by rw [N11, N1]; exact ez
    have er : inI a 0 (σ 0 2 - 1) = 0 := by rw [N1]; exact ez
    repeat (first | rw [zcc1] | rw [zcc2] | rw [zcc3] | rw [zcc4] | refine zR.step rfl ?_ | refine zR.getf rfl (h25) rfl ?_ | refine zR.cv rfl rfl rfl hG0.o rfl rfl (zCalP.of (c_cropAt_n hG0 ec) ?_))
    refine zR.cv rfl rfl rfl h25 rfl rfl (zCalP.of (c_refuse h25 _) ?_)
    repeat (first | rw [zcc1] | rw [zcc2] | rw [zcc3] | rw [zcc4] | refine zR.step rfl ?_)
    refine zR.ret rfl rfl ⟨_, rfl, ⟨_, (hR.out (by omega)).1⟩, rfl, ?_⟩
    replace hR : Rf (zup M 25 (.inr (11, tob (tst t 1)))) σ := hR.out (by omega)
    have hS : Sm (zup M 25 (.inr (11, tob (tst t 1)))) (zup M 25 (.inr (11, tob (tst t 1)))) := Sm.rf
    show zR ztb _ kX12_buy 1 0 [some (.ref 287), some (.int a), some (.int b)] [] _ _ _ _
    repeat (first | rw [zcc1] | rw [zcc2] | rw [zcc3] | rw [zcc4] | rw [er] | refine zR.step rfl ?_ | refine zR.getf rfl (hR.1) rfl ?_ | refine zR.cv rfl rfl rfl hR.1 rfl rfl (zCalP.of (c_isCrop hR _) ?_))
    refine zR.cv rfl rfl rfl hR.1 rfl rfl (zR.mono (c_refused hR _) (fun v n' w' M' hv => ?_))
    obtain ⟨rfl, rfl, rfl, hR2, hS2⟩ := hv
    repeat (first | rw [zcc1] | rw [zcc2] | rw [zcc3] | rw [zcc4] | refine zR.step rfl ?_)
    refine zR.ret rfl rfl ⟨rfl, by omega, by omega, _, inv_fin ⟨hT, hG0, hG1, hG2⟩ hg hk ht hx hn hR2 (hS.trans hS2)⟩
