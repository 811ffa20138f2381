
/-! forge: sheets. -/
theorem forge_2 {L : Nat} {xs : Nat → Int32} {b c : Int32} (eb : inI b (-100) 100 = 1) (ec : inI c (-100) 100 = 1) : opOK (Inv L xs) 115 222 [.int 2, .int b, .int c] := by
  intro  M σ n w hI
  have hI' := hI
  obtain ⟨t, tr, c0, c1, c2, k0, k1, k2, b0, b1, b2, l0, l1, l2, hR, ⟨hT, hG0, hG1, hG2⟩, hg, hk, ht, hx, hn⟩ := hI
  have h25 := hT.1
  have hg' := hg
  obtain ⟨nc, nh, nl, lm, wk, hN, ⟨hC, hCn⟩, hB, hL, hSt, hH, hW, hX⟩ := hg'
  obtain ⟨N1, N2, N3, N4, N5, N6, N7, N8, N9, N10, N11, N12, N13, N14, N15, N16, N17⟩ := hN
  obtain ⟨ic, hic⟩ := in100 ec
  obtain ⟨ib, hib⟩ := in100 eb
  obtain ⟨⟨f8, m8⟩, ⟨f4, m4⟩, -⟩ := md8 ic
  obtain ⟨-, -, ⟨f6, m6⟩, -⟩ := md8 ib
  rw [← hic] at f8 m8 f4 m4
  rw [← hib] at f6 m6
  have h8 : (ic.val + 4) % 8 < 8 := Nat.mod_lt _ (by omega)
  have h4 : ic.val % 4 < 4 := Nat.mod_lt _ (by omega)
  have h6 : (ib.val + 2) % 6 < 6 := Nat.mod_lt _ (by omega)
  generalize (ic.val + 4) % 8 = c8 at f8 m8 h8
  generalize ic.val % 4 = t4 at f4 m4 h4
  generalize (ib.val + 2) % 6 = n6 at f6 m6 h6
  have ej : inI 2 0 6 = 1 := by decide
  obtain ⟨T1, T2, T3, ⟨m, T4, -, T5⟩, T6⟩ := ht.2.2.2.2.2.2.2.2.2.2.2 t4 h4
  obtain ⟨hA, hB2⟩ := hT.2.2.2.2.2.2.2.2.2 t4 h4
  rw [T1, T2] at hA
  show zR ztb _ kX11_forge 1 0 [some (.ref 25), some (.int 2), some (.int b), some (.int c)] [] _ _ _ _
  by_cases es : σ 4 t4 = -1
  · skip
    repeat (first | ((with_reducible refine zR.stored ?_); dsimp only [zsto, zclr, zset, zget, zc2, cond_false, cond_true]) | ((with_reducible refine zR.atLit ?_); first | refine zR.step rfl ?_ | refine zR.cs rfl rfl rfl rfl rfl (zCalP.of (c_isWithin _ _ _) ?_) | (refine zR.cs rfl rfl rfl rfl rfl (zCalP.of (c_floorMod _ 4 (by decide)) ?_); rw [f4]) | refine zR.cv rfl rfl rfl h25 rfl rfl (zCalP.of (c_sheetAt_y hT h4) ?_)) | rw [zcc1] | rw [zcc2] | rw [zcc3] | rw [zcc4] | rw [eb] | rw [ec] | rw [zb1 (by decide)] | rw [zb2 (by decide)] | rw [zb3 (by decide)] | rw [zb4 (by decide)] | rw [zn1 (by decide)] | rw [zn2 (by decide)] | rw [zn3 (by decide)] | rw [zn4 (by decide)] | rw [ze1 (by decide)] | rw [ze2 (by decide)] | rw [zd1 (by decide)] | rw [zd2 (by decide)] | rw [zswy (by decide)] | rw [zswn (by decide)] | rw [zsw0])
    refine zR.cv rfl rfl rfl h25 rfl rfl ?_
    show zR ztb _ kX11_readAsShorts 1 0 [some (.ref 25), some (.ref (279 + 2 * t4)), some (.int b)] [] _ _ _ _
    repeat (first | ((with_reducible refine zR.stored ?_); dsimp only [zsto, zclr, zset, zget, zc2, cond_false, cond_true]) | ((with_reducible refine zR.atLit ?_); first | refine zR.step rfl ?_ | refine zR.getf rfl (hA) rfl ?_ | refine zR.cv rfl rfl rfl h25 rfl rfl (zCalP.of (c_refuse h25 _) ?_)) | rw [zcc1] | rw [zcc2] | rw [zcc3] | rw [zcc4] | rw [ze1 (es)] | rw [ze2 (es)])
    refine zR.ret rfl rfl ?_
    repeat (first | ((with_reducible refine zR.stored ?_); dsimp only [zsto, zclr, zset, zget, zc2, cond_false, cond_true]) | ((with_reducible refine zR.atLit ?_); first | refine zR.step rfl ?_) | rw [zcc1] | rw [zcc2] | rw [zcc3] | rw [zcc4])
    refine zR.ret rfl rfl ⟨_, rfl, ⟨_, (hR.out (by omega)).1⟩, rfl, ?_⟩
    replace hR : Rf (zup M 25 (.inr (11, tob (tst t 10)))) σ := hR.out (by omega)
    have hS : Sm (zup M 25 (.inr (11, tob (tst t 10)))) (zup M 25 (.inr (11, tob (tst t 10)))) := Sm.rf
    show zR ztb _ kX12_forge 1 0 [some (.ref 287), some (.int 2), some (.int b), some (.int c), none, none] [] _ _ _ _
    repeat (first | ((with_reducible refine zR.stored ?_); dsimp only [zsto, zclr, zset, zget, zc2, cond_false, cond_true]) | ((with_reducible refine zR.atLit ?_); first | refine zR.step rfl ?_ | refine zR.cs rfl rfl rfl rfl rfl (zCalP.of (c_in _ _ _) ?_) | (refine zR.cs rfl rfl rfl rfl rfl (zCalP.of (c_modulo _ 8 (by decide)) ?_); rw [m8]) | (refine zR.cs rfl rfl rfl rfl rfl (zCalP.of (c_modulo _ 4 (by decide)) ?_); rw [m4]) | refine zR.getf rfl (hR.1) rfl ?_ | refine zR.ilR4 hR rfl (by (try simp only [zn_lit, zn_add, zn_mul]); rfl) (by omega) ?_) | rw [zcc1] | rw [zcc2] | rw [zcc3] | rw [zcc4] | rw [ej] | rw [eb] | rw [ec] | rw [zb1 (by decide)] | rw [zb2 (by decide)] | rw [zb3 (by decide)] | rw [zb4 (by decide)] | rw [zn1 (by decide)] | rw [zn2 (by decide)] | rw [zn3 (by decide)] | rw [zn4 (by decide)] | rw [ze1 (by decide)] | rw [ze2 (by decide)] | rw [zd1 (by decide)] | rw [zd2 (by decide)] | rw [zswy (by decide)] | rw [zswn (by decide)] | rw [zsw0] | rw [ze1 (es)] | rw [ze2 (es)])
    refine zR.cv rfl rfl rfl hR.1 rfl rfl (zR.mono (c_refused hR _) (fun v n' w' M' hv => ?_))
    obtain ⟨rfl, rfl, rfl, hR2, hS2⟩ := hv
    repeat (first | ((with_reducible refine zR.stored ?_); dsimp only [zsto, zclr, zset, zget, zc2, cond_false, cond_true]) | ((with_reducible refine zR.atLit ?_); first | refine zR.step rfl ?_) | rw [zcc1] | rw [zcc2] | rw [zcc3] | rw [zcc4])
    refine zR.ret rfl rfl ⟨rfl, by omega, by omega, _, inv_fin ⟨hT, hG0, hG1, hG2⟩ hg hk ht hx hn hR2 (hS.trans hS2)⟩
  · by_cases e1 : σ 4 t4 = 1
    · rcases inI_sub b m (by omega) with ⟨j, hj, hbj, e2⟩ | ⟨-, e2⟩
      · have e3 : inI b 0 (σ 5 t4 - 1) = 1 := by rw [T4]; exact e2
        have ne : ¬ σ 6 (40 * t4 + j) = 100000 := by
          rcases (T6 j (by omega)).2 with z | z
          · exact absurd (e1.symm.trans z.2) (by decide)
          · exact small_ne z
        have ev : t (30 + t4) j = σ 6 (40 * t4 + j) := by rw [(T6 j (by omega)).1, cvt_ne ne]
        repeat (first | ((with_reducible refine zR.stored ?_); dsimp only [zsto, zclr, zset, zget, zc2, cond_false, cond_true]) | ((with_reducible refine zR.atLit ?_); first | refine zR.step rfl ?_ | refine zR.cs rfl rfl rfl rfl rfl (zCalP.of (c_isWithin _ _ _) ?_) | (refine zR.cs rfl rfl rfl rfl rfl (zCalP.of (c_floorMod _ 4 (by decide)) ?_); rw [f4]) | refine zR.cv rfl rfl rfl h25 rfl rfl (zCalP.of (c_sheetAt_y hT h4) ?_)) | rw [zcc1] | rw [zcc2] | rw [zcc3] | rw [zcc4] | rw [eb] | rw [ec] | rw [zb1 (by decide)] | rw [zb2 (by decide)] | rw [zb3 (by decide)] | rw [zb4 (by decide)] | rw [zn1 (by decide)] | rw [zn2 (by decide)] | rw [zn3 (by decide)] | rw [zn4 (by decide)] | rw [ze1 (by decide)] | rw [ze2 (by decide)] | rw [zd1 (by decide)] | rw [zd2 (by decide)] | rw [zswy (by decide)] | rw [zswn (by decide)] | rw [zsw0])
        refine zR.cv rfl rfl rfl h25 rfl rfl ?_
        show zR ztb _ kX11_readAsShorts 1 0 [some (.ref 25), some (.ref (279 + 2 * t4)), some (.int b)] [] _ _ _ _
        repeat (first | ((with_reducible refine zR.stored ?_); dsimp only [zsto, zclr, zset, zget, zc2, cond_false, cond_true]) | ((with_reducible refine zR.atLit ?_); first | refine zR.step rfl ?_ | refine zR.getf rfl (hA) rfl ?_ | refine zR.cs rfl rfl rfl rfl rfl (zCalP.of (c_isWithin _ _ _) ?_) | (refine zR.iald rfl hB2 (Or.inl rfl) (i := j) hbj (by omega) (by decide) ?_; rw [ev]) | refine zR.cv rfl rfl rfl h25 rfl rfl (zCalP.of (c_doneC h25 _) ?_)) | rw [zcc1] | rw [zcc2] | rw [zcc3] | rw [zcc4] | rw [zd1 (es)] | rw [zd2 (es)] | rw [ze1 (e1)] | rw [ze2 (e1)] | rw [e3])
        refine zR.ret rfl rfl ?_
        repeat (first | ((with_reducible refine zR.stored ?_); dsimp only [zsto, zclr, zset, zget, zc2, cond_false, cond_true]) | ((with_reducible refine zR.atLit ?_); first | refine zR.step rfl ?_) | rw [zcc1] | rw [zcc2] | rw [zcc3] | rw [zcc4])
        refine zR.ret rfl rfl ⟨_, rfl, ⟨_, (hR.out (by omega)).1⟩, rfl, ?_⟩
        replace hR : Rf (zup M 25 (.inr (11, tob (tst t 0)))) σ := hR.out (by omega)
        have hS : Sm (zup M 25 (.inr (11, tob (tst t 0)))) (zup M 25 (.inr (11, tob (tst t 0)))) := Sm.rf
        show zR ztb _ kX12_forge 1 0 [some (.ref 287), some (.int 2), some (.int b), some (.int c), none, none] [] _ _ _ _
        repeat (first | ((with_reducible refine zR.stored ?_); dsimp only [zsto, zclr, zset, zget, zc2, cond_false, cond_true]) | ((with_reducible refine zR.atLit ?_); first | refine zR.step rfl ?_ | refine zR.cs rfl rfl rfl rfl rfl (zCalP.of (c_in _ _ _) ?_) | (refine zR.cs rfl rfl rfl rfl rfl (zCalP.of (c_modulo _ 8 (by decide)) ?_); rw [m8]) | (refine zR.cs rfl rfl rfl rfl rfl (zCalP.of (c_modulo _ 4 (by decide)) ?_); rw [m4]) | refine zR.getf rfl (hR.1) rfl ?_ | refine zR.ilR4 hR rfl (by (try simp only [zn_lit, zn_add, zn_mul]); rfl) (by omega) ?_ | refine zR.ilR5 hR rfl (by (try simp only [zn_lit, zn_add, zn_mul]); rfl) (by omega) ?_ | refine zR.ilR6 hR rfl (i := 40 * t4 + j) (by rw [hbj]; simp only [zn_lit, zn_add, zn_mul]) (by omega) ?_) | rw [zcc1] | rw [zcc2] | rw [zcc3] | rw [zcc4] | rw [ej] | rw [eb] | rw [ec] | rw [zb1 (by decide)] | rw [zb2 (by decide)] | rw [zb3 (by decide)] | rw [zb4 (by decide)] | rw [zn1 (by decide)] | rw [zn2 (by decide)] | rw [zn3 (by decide)] | rw [zn4 (by decide)] | rw [ze1 (by decide)] | rw [ze2 (by decide)] | rw [zd1 (by decide)] | rw [zd2 (by decide)] | rw [zswy (by decide)] | rw [zswn (by decide)] | rw [zsw0] | rw [zd1 (es)] | rw [zd2 (es)] | rw [ze1 (e1)] | rw [ze2 (e1)] | rw [e3])
        refine zR.cv rfl rfl rfl hR.1 rfl rfl (zR.mono (c_done hR _) (fun v n' w' M' hv => ?_))
        obtain ⟨rfl, rfl, rfl, hR2, hS2⟩ := hv
        repeat (first | ((with_reducible refine zR.stored ?_); dsimp only [zsto, zclr, zset, zget, zc2, cond_false, cond_true]) | ((with_reducible refine zR.atLit ?_); first | refine zR.step rfl ?_) | rw [zcc1] | rw [zcc2] | rw [zcc3] | rw [zcc4])
        refine zR.ret rfl rfl ⟨rfl, by omega, by omega, _, inv_fin ⟨hT, hG0, hG1, hG2⟩ hg hk ht hx hn hR2 (hS.trans hS2)⟩
      · have e3 : inI b 0 (σ 5 t4 - 1) = 0 := by rw [T4]; exact e2
        repeat (first | ((with_reducible refine zR.stored ?_); dsimp only [zsto, zclr, zset, zget, zc2, cond_false, cond_true]) | ((with_reducible refine zR.atLit ?_); first | refine zR.step rfl ?_ | refine zR.cs rfl rfl rfl rfl rfl (zCalP.of (c_isWithin _ _ _) ?_) | (refine zR.cs rfl rfl rfl rfl rfl (zCalP.of (c_floorMod _ 4 (by decide)) ?_); rw [f4]) | refine zR.cv rfl rfl rfl h25 rfl rfl (zCalP.of (c_sheetAt_y hT h4) ?_)) | rw [zcc1] | rw [zcc2] | rw [zcc3] | rw [zcc4] | rw [eb] | rw [ec] | rw [zb1 (by decide)] | rw [zb2 (by decide)] | rw [zb3 (by decide)] | rw [zb4 (by decide)] | rw [zn1 (by decide)] | rw [zn2 (by decide)] | rw [zn3 (by decide)] | rw [zn4 (by decide)] | rw [ze1 (by decide)] | rw [ze2 (by decide)] | rw [zd1 (by decide)] | rw [zd2 (by decide)] | rw [zswy (by decide)] | rw [zswn (by decide)] | rw [zsw0])
        refine zR.cv rfl rfl rfl h25 rfl rfl ?_
        show zR ztb _ kX11_readAsShorts 1 0 [some (.ref 25), some (.ref (279 + 2 * t4)), some (.int b)] [] _ _ _ _
        repeat (first | ((with_reducible refine zR.stored ?_); dsimp only [zsto, zclr, zset, zget, zc2, cond_false, cond_true]) | ((with_reducible refine zR.atLit ?_); first | refine zR.step rfl ?_ | refine zR.getf rfl (hA) rfl ?_ | refine zR.cs rfl rfl rfl rfl rfl (zCalP.of (c_isWithin _ _ _) ?_) | refine zR.cv rfl rfl rfl h25 rfl rfl (zCalP.of (c_refuse h25 _) ?_)) | rw [zcc1] | rw [zcc2] | rw [zcc3] | rw [zcc4] | rw [zd1 (es)] | rw [zd2 (es)] | rw [ze1 (e1)] | rw [ze2 (e1)] | rw [e3])
        refine zR.ret rfl rfl ?_
        repeat (first | ((with_reducible refine zR.stored ?_); dsimp only [zsto, zclr, zset, zget, zc2, cond_false, cond_true]) | ((with_reducible refine zR.atLit ?_); first | refine zR.step rfl ?_) | rw [zcc1] | rw [zcc2] | rw [zcc3] | rw [zcc4])
        refine zR.ret rfl rfl ⟨_, rfl, ⟨_, (hR.out (by omega)).1⟩, rfl, ?_⟩
        replace hR : Rf (zup M 25 (.inr (11, tob (tst t 12)))) σ := hR.out (by omega)
        have hS : Sm (zup M 25 (.inr (11, tob (tst t 12)))) (zup M 25 (.inr (11, tob (tst t 12)))) := Sm.rf
        show zR ztb _ kX12_forge 1 0 [some (.ref 287), some (.int 2), some (.int b), some (.int c), none, none] [] _ _ _ _
        repeat (first | ((with_reducible refine zR.stored ?_); dsimp only [zsto, zclr, zset, zget, zc2, cond_false, cond_true]) | ((with_reducible refine zR.atLit ?_); first | refine zR.step rfl ?_ | refine zR.cs rfl rfl rfl rfl rfl (zCalP.of (c_in _ _ _) ?_) | (refine zR.cs rfl rfl rfl rfl rfl (zCalP.of (c_modulo _ 8 (by decide)) ?_); rw [m8]) | (refine zR.cs rfl rfl rfl rfl rfl (zCalP.of (c_modulo _ 4 (by decide)) ?_); rw [m4]) | refine zR.getf rfl (hR.1) rfl ?_ | refine zR.ilR4 hR rfl (by (try simp only [zn_lit, zn_add, zn_mul]); rfl) (by omega) ?_ | refine zR.ilR5 hR rfl (by (try simp only [zn_lit, zn_add, zn_mul]); rfl) (by omega) ?_) | rw [zcc1] | rw [zcc2] | rw [zcc3] | rw [zcc4] | rw [ej] | rw [eb] | rw [ec] | rw [zb1 (by decide)] | rw [zb2 (by decide)] | rw [zb3 (by decide)] | rw [zb4 (by decide)] | rw [zn1 (by decide)] | rw [zn2 (by decide)] | rw [zn3 (by decide)] | rw [zn4 (by decide)] | rw [ze1 (by decide)] | rw [ze2 (by decide)] | rw [zd1 (by decide)] | rw [zd2 (by decide)] | rw [zswy (by decide)] | rw [zswn (by decide)] | rw [zsw0] | rw [zd1 (es)] | rw [zd2 (es)] | rw [ze1 (e1)] | rw [ze2 (e1)] | rw [e3])
        refine zR.cv rfl rfl rfl hR.1 rfl rfl (zR.mono (c_refused hR _) (fun v n' w' M' hv => ?_))
        obtain ⟨rfl, rfl, rfl, hR2, hS2⟩ := hv
        repeat (first | ((with_reducible refine zR.stored ?_); dsimp only [zsto, zclr, zset, zget, zc2, cond_false, cond_true]) | ((with_reducible refine zR.atLit ?_); first | refine zR.step rfl ?_) | rw [zcc1] | rw [zcc2] | rw [zcc3] | rw [zcc4])
        refine zR.ret rfl rfl ⟨rfl, by omega, by omega, _, inv_fin ⟨hT, hG0, hG1, hG2⟩ hg hk ht hx hn hR2 (hS.trans hS2)⟩
    · skip
      repeat (first | ((with_reducible refine zR.stored ?_); dsimp only [zsto, zclr, zset, zget, zc2, cond_false, cond_true]) | ((with_reducible refine zR.atLit ?_); first | refine zR.step rfl ?_ | refine zR.cs rfl rfl rfl rfl rfl (zCalP.of (c_isWithin _ _ _) ?_) | (refine zR.cs rfl rfl rfl rfl rfl (zCalP.of (c_floorMod _ 4 (by decide)) ?_); rw [f4]) | refine zR.cv rfl rfl rfl h25 rfl rfl (zCalP.of (c_sheetAt_y hT h4) ?_)) | rw [zcc1] | rw [zcc2] | rw [zcc3] | rw [zcc4] | rw [eb] | rw [ec] | rw [zb1 (by decide)] | rw [zb2 (by decide)] | rw [zb3 (by decide)] | rw [zb4 (by decide)] | rw [zn1 (by decide)] | rw [zn2 (by decide)] | rw [zn3 (by decide)] | rw [zn4 (by decide)] | rw [ze1 (by decide)] | rw [ze2 (by decide)] | rw [zd1 (by decide)] | rw [zd2 (by decide)] | rw [zswy (by decide)] | rw [zswn (by decide)] | rw [zsw0])
      refine zR.cv rfl rfl rfl h25 rfl rfl ?_
      show zR ztb _ kX11_readAsShorts 1 0 [some (.ref 25), some (.ref (279 + 2 * t4)), some (.int b)] [] _ _ _ _
      repeat (first | ((with_reducible refine zR.stored ?_); dsimp only [zsto, zclr, zset, zget, zc2, cond_false, cond_true]) | ((with_reducible refine zR.atLit ?_); first | refine zR.step rfl ?_ | refine zR.getf rfl (hA) rfl ?_ | refine zR.cv rfl rfl rfl h25 rfl rfl (zCalP.of (c_refuse h25 _) ?_)) | rw [zcc1] | rw [zcc2] | rw [zcc3] | rw [zcc4] | rw [zd1 (es)] | rw [zd2 (es)] | rw [zd1 (e1)] | rw [zd2 (e1)])
      refine zR.ret rfl rfl ?_
      repeat (first | ((with_reducible refine zR.stored ?_); dsimp only [zsto, zclr, zset, zget, zc2, cond_false, cond_true]) | ((with_reducible refine zR.atLit ?_); first | refine zR.step rfl ?_) | rw [zcc1] | rw [zcc2] | rw [zcc3] | rw [zcc4])
      refine zR.ret rfl rfl ⟨_, rfl, ⟨_, (hR.out (by omega)).1⟩, rfl, ?_⟩
      replace hR : Rf (zup M 25 (.inr (11, tob (tst t 11)))) σ := hR.out (by omega)
      have hS : Sm (zup M 25 (.inr (11, tob (tst t 11)))) (zup M 25 (.inr (11, tob (tst t 11)))) := Sm.rf
      show zR ztb _ kX12_forge 1 0 [some (.ref 287), some (.int 2), some (.int b), some (.int c), none, none] [] _ _ _ _
      repeat (first | ((with_reducible refine zR.stored ?_); dsimp only [zsto, zclr, zset, zget, zc2, cond_false, cond_true]) | ((with_reducible refine zR.atLit ?_); first | refine zR.step rfl ?_ | refine zR.cs rfl rfl rfl rfl rfl (zCalP.of (c_in _ _ _) ?_) | (refine zR.cs rfl rfl rfl rfl rfl (zCalP.of (c_modulo _ 8 (by decide)) ?_); rw [m8]) | (refine zR.cs rfl rfl rfl rfl rfl (zCalP.of (c_modulo _ 4 (by decide)) ?_); rw [m4]) | refine zR.getf rfl (hR.1) rfl ?_ | refine zR.ilR4 hR rfl (by (try simp only [zn_lit, zn_add, zn_mul]); rfl) (by omega) ?_) | rw [zcc1] | rw [zcc2] | rw [zcc3] | rw [zcc4] | rw [ej] | rw [eb] | rw [ec] | rw [zb1 (by decide)] | rw [zb2 (by decide)] | rw [zb3 (by decide)] | rw [zb4 (by decide)] | rw [zn1 (by decide)] | rw [zn2 (by decide)] | rw [zn3 (by decide)] | rw [zn4 (by decide)] | rw [ze1 (by decide)] | rw [ze2 (by decide)] | rw [zd1 (by decide)] | rw [zd2 (by decide)] | rw [zswy (by decide)] | rw [zswn (by decide)] | rw [zsw0] | rw [zd1 (es)] | rw [zd2 (es)] | rw [zd1 (e1)] | rw [zd2 (e1)])
      refine zR.cv rfl rfl rfl hR.1 rfl rfl (zR.mono (c_refused hR _) (fun v n' w' M' hv => ?_))
      obtain ⟨rfl, rfl, rfl, hR2, hS2⟩ := hv
      repeat (first | ((with_reducible refine zR.stored ?_); dsimp only [zsto, zclr, zset, zget, zc2, cond_false, cond_true]) | ((with_reducible refine zR.atLit ?_); first | refine zR.step rfl ?_) | rw [zcc1] | rw [zcc2] | rw [zcc3] | rw [zcc4])
      refine zR.ret rfl rfl ⟨rfl, by omega, by omega, _, inv_fin ⟨hT, hG0, hG1, hG2⟩ hg hk ht hx hn hR2 (hS.trans hS2)⟩
