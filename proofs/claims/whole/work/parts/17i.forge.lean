
/-! forge: copies of bytes; forge. -/
theorem forge_3 {L : Nat} {xs : Nat → Int32} {b c : Int32} (eb : inI b (-100) 100 = 1) (ec : inI c (-100) 100 = 1) : opOK (Inv L xs) 115 222 [.int 3, .int b, .int c] := by
  intro  M σ n w hI
  have hI' := hI
  obtain ⟨t, tr, c0, c1, c2, k0, k1, k2, b0, b1, b2, l0, l1, l2, hR, ⟨hT, hG0, hG1, hG2⟩, hg, hk, ht, hx, hn⟩ := hI
  have h25 := hT.1
  have hg' := hg
  obtain ⟨nc, nh, nl, lm, wk, hN, ⟨hC, hCn⟩, hB, hL, hSt, hH, hW, hX⟩ := hg'
  obtain ⟨N1, N2, N3, N4, N5, N6, N7, N8, N9, N10, N11, N12, N13, N14, N15, N16, N17⟩ := hN
  obtain ⟨ic, hic⟩ := in100 ec
  obtain ⟨ib, hib⟩ := in100 eb
  obtain ⟨⟨f8, m8⟩, ⟨f4, m4⟩, -⟩ := md8 ic
  obtain ⟨-, -, ⟨f6, m6⟩, -⟩ := md8 ib
  rw [← hic] at f8 m8 f4 m4
  rw [← hib] at f6 m6
  have h8 : (ic.val + 4) % 8 < 8 := Nat.mod_lt _ (by omega)
  have h4 : ic.val % 4 < 4 := Nat.mod_lt _ (by omega)
  have h6 : (ib.val + 2) % 6 < 6 := Nat.mod_lt _ (by omega)
  generalize (ic.val + 4) % 8 = c8 at f8 m8 h8
  generalize ic.val % 4 = t4 at f4 m4 h4
  generalize (ib.val + 2) % 6 = n6 at f6 m6 h6
  have ej : inI 3 0 6 = 1 := by decide
  obtain ⟨T1, T2, T3, ⟨m, T4, -, T5⟩, T6⟩ := ht.2.2.2.2.2.2.2.2.2.2.2 t4 h4
  obtain ⟨hA, hB2⟩ := hT.2.2.2.2.2.2.2.2.2 t4 h4
  rw [T1, T2] at hA
  show zR ztb _ kX11_forge 1 0 [some (.ref 25), some (.int 3), some (.int b), some (.int c)] [] _ _ _ _
  by_cases es : σ 4 t4 = -1
  · skip
    repeat (first | ((with_reducible refine zR.stored ?_); dsimp only [zsto, zclr, zset, zget, zc2, cond_false, cond_true]) | ((with_reducible refine zR.atLit ?_); first | refine zR.step rfl ?_ | refine zR.cs rfl rfl rfl rfl rfl (zCalP.of (c_isWithin _ _ _) ?_) | (refine zR.cs rfl rfl rfl rfl rfl (zCalP.of (c_floorMod _ 4 (by decide)) ?_); rw [f4]) | refine zR.cv rfl rfl rfl h25 rfl rfl (zCalP.of (c_sheetAt_y hT h4) ?_)) | rw [zcc1] | rw [zcc2] | rw [zcc3] | rw [zcc4] | rw [eb] | rw [ec] | rw [zb1 (by decide)] | rw [zb2 (by decide)] | rw [zb3 (by decide)] | rw [zb4 (by decide)] | rw [zn1 (by decide)] | rw [zn2 (by decide)] | rw [zn3 (by decide)] | rw [zn4 (by decide)] | rw [ze1 (by decide)] | rw [ze2 (by decide)] | rw [zd1 (by decide)] | rw [zd2 (by decide)] | rw [zswy (by decide)] | rw [zswn (by decide)] | rw [zsw0])
    refine zR.cv rfl rfl rfl h25 rfl rfl ?_
    show zR ztb _ kX11_copyAsBytes 1 0 [some (.ref 25), some (.ref (279 + 2 * t4)), some (.int b), none, none] [] _ _ _ _
    repeat (first | ((with_reducible refine zR.stored ?_); dsimp only [zsto, zclr, zset, zget, zc2, cond_false, cond_true]) | ((with_reducible refine zR.atLit ?_); first | refine zR.step rfl ?_ | refine zR.getf rfl (hA) rfl ?_ | refine zR.cv rfl rfl rfl h25 rfl rfl (zCalP.of (c_refuse h25 _) ?_)) | rw [zcc1] | rw [zcc2] | rw [zcc3] | rw [zcc4] | rw [ze1 (es)] | rw [ze2 (es)])
    refine zR.ret rfl rfl ?_
    repeat (first | ((with_reducible refine zR.stored ?_); dsimp only [zsto, zclr, zset, zget, zc2, cond_false, cond_true]) | ((with_reducible refine zR.atLit ?_); first | refine zR.step rfl ?_) | rw [zcc1] | rw [zcc2] | rw [zcc3] | rw [zcc4])
    refine zR.ret rfl rfl ⟨_, rfl, ⟨_, (hR.out (by omega)).1⟩, rfl, ?_⟩
    replace hR : Rf (zup M 25 (.inr (11, tob (tst t 10)))) σ := hR.out (by omega)
    have hS : Sm (zup M 25 (.inr (11, tob (tst t 10)))) (zup M 25 (.inr (11, tob (tst t 10)))) := Sm.rf
    show zR ztb _ kX12_forge 1 0 [some (.ref 287), some (.int 3), some (.int b), some (.int c), none, none] [] _ _ _ _
    repeat (first | ((with_reducible refine zR.stored ?_); dsimp only [zsto, zclr, zset, zget, zc2, cond_false, cond_true]) | ((with_reducible refine zR.atLit ?_); first | refine zR.step rfl ?_ | refine zR.cs rfl rfl rfl rfl rfl (zCalP.of (c_in _ _ _) ?_) | (refine zR.cs rfl rfl rfl rfl rfl (zCalP.of (c_modulo _ 8 (by decide)) ?_); rw [m8]) | (refine zR.cs rfl rfl rfl rfl rfl (zCalP.of (c_modulo _ 4 (by decide)) ?_); rw [m4]) | refine zR.getf rfl (hR.1) rfl ?_ | refine zR.ilR4 hR rfl (by (try simp only [zn_lit, zn_add, zn_mul]); rfl) (by omega) ?_) | rw [zcc1] | rw [zcc2] | rw [zcc3] | rw [zcc4] | rw [ej] | rw [eb] | rw [ec] | rw [zb1 (by decide)] | rw [zb2 (by decide)] | rw [zb3 (by decide)] | rw [zb4 (by decide)] | rw [zn1 (by decide)] | rw [zn2 (by decide)] | rw [zn3 (by decide)] | rw [zn4 (by decide)] | rw [ze1 (by decide)] | rw [ze2 (by decide)] | rw [zd1 (by decide)] | rw [zd2 (by decide)] | rw [zswy (by decide)] | rw [zswn (by decide)] | rw [zsw0] | rw [ze1 (es)] | rw [ze2 (es)])
    refine zR.cv rfl rfl rfl hR.1 rfl rfl (zR.mono (c_refused hR _) (fun v n' w' M' hv => ?_))
    obtain ⟨rfl, rfl, rfl, hR2, hS2⟩ := hv
    repeat (first | ((with_reducible refine zR.stored ?_); dsimp only [zsto, zclr, zset, zget, zc2, cond_false, cond_true]) | ((with_reducible refine zR.atLit ?_); first | refine zR.step rfl ?_) | rw [zcc1] | rw [zcc2] | rw [zcc3] | rw [zcc4])
    refine zR.ret rfl rfl ⟨rfl, by omega, by omega, _, inv_fin ⟨hT, hG0, hG1, hG2⟩ hg hk ht hx hn hR2 (hS.trans hS2)⟩
  · by_cases e1 : σ 4 t4 = 0
    · have ev : ∀ j, j < 40 → t (30 + t4) j = σ 6 (40 * t4 + j) := fun j hj => by
        rcases (T6 j hj).2 with z | z
        · exact absurd (e1.symm.trans z.2) (by decide)
        · rw [(T6 j hj).1, cvt_ne (small_ne z)]
      rcases inI_nat b 0 3 (by omega) (by omega) with ⟨q, -, hq, rfl, e2⟩ | ⟨hb, e2⟩
      · replace e2 : inI (nI q) 0 3 = 1 := e2
        have n0 : ¬ nI q < 0 := nI_nn (by omega)
        have ea : 1 + nI q = nI (1 + q) := zn_add 1 q
        have ee : nI q + nI q = nI (q + q) := zn_add q q
        have n6 : ¬ (6 : Int32) < nI (q + q) := zI_nlt (a := 6) (by omega) (by omega)
        by_cases hm : 1 + q ≤ m
        · have lm : ¬ σ 5 t4 < nI (1 + q) := by rw [T4]; exact zI_nlt (by omega) (by omega)
          match q, hq, hm, eb, hib, f6, m6, e2, n0, ea, ee, n6, lm with
          | 0, _, hm, eb, hib, f6, m6, e2, n0, ea, ee, n6, lm =>
            repeat (first | ((with_reducible refine zR.stored ?_); dsimp only [zsto, zclr, zset, zget, zc2, cond_false, cond_true]) | ((with_reducible refine zR.atLit ?_); first | refine zR.step rfl ?_ | refine zR.cs rfl rfl rfl rfl rfl (zCalP.of (c_isWithin _ _ _) ?_) | (refine zR.cs rfl rfl rfl rfl rfl (zCalP.of (c_floorMod _ 4 (by decide)) ?_); rw [f4]) | refine zR.cv rfl rfl rfl h25 rfl rfl (zCalP.of (c_sheetAt_y hT h4) ?_)) | rw [zcc1] | rw [zcc2] | rw [zcc3] | rw [zcc4] | rw [eb] | rw [ec] | rw [zb1 (by decide)] | rw [zb2 (by decide)] | rw [zb3 (by decide)] | rw [zb4 (by decide)] | rw [zn1 (by decide)] | rw [zn2 (by decide)] | rw [zn3 (by decide)] | rw [zn4 (by decide)] | rw [ze1 (by decide)] | rw [ze2 (by decide)] | rw [zd1 (by decide)] | rw [zd2 (by decide)] | rw [zswy (by decide)] | rw [zswn (by decide)] | rw [zsw0])
            refine zR.cv rfl rfl rfl h25 rfl rfl ?_
            show zR ztb _ kX11_copyAsBytes 1 0 [some (.ref 25), some (.ref (279 + 2 * t4)), some (.int (nI 0)), none, none] [] _ _ _ _
            repeat (first | with_reducible refine zR.hold (pc := 67) ?_ | ((with_reducible refine zR.stored ?_); dsimp only [zsto, zclr, zset, zget, zc2, cond_false, cond_true]) | ((with_reducible refine zR.atLit ?_); first | refine zR.step rfl ?_ | refine zR.getf rfl (hA) rfl ?_) | rw [zcc1] | rw [zcc2] | rw [zcc3] | rw [zcc4] | rw [zd1 (es)] | rw [zd2 (es)] | rw [ze1 (e1)] | rw [ze2 (e1)] | rw [zn1 (n0)] | rw [zn2 (n0)] | rw [zn3 (n0)] | rw [zn4 (n0)] | rw [ea] | rw [zn1 (lm)] | rw [zn2 (lm)] | rw [zn3 (lm)] | rw [zn4 (lm)] | rw [ee] | rw [zn1 (n6)] | rw [zn2 (n6)] | rw [zn3 (n6)] | rw [zn4 (n6)])
            refine And.intro trivial ?_
            refine zR.step rfl ?_
            repeat (first | ((with_reducible refine zR.stored ?_); dsimp only [zsto, zclr, zset, zget, zc2, cond_false, cond_true]) | ((with_reducible refine zR.atLit ?_); first | refine zR.step rfl ?_ | refine zR.getf rfl (hA) rfl ?_ | refine zR.cv rfl rfl rfl h25 rfl rfl (zCalP.of (c_doneC h25 _) ?_)) | rw [zcc1] | rw [zcc2] | rw [zcc3] | rw [zcc4] | rw [zb1 (by decide)] | rw [zb2 (by decide)] | rw [zb3 (by decide)] | rw [zb4 (by decide)] | rw [zn1 (by decide)] | rw [zn2 (by decide)] | rw [zn3 (by decide)] | rw [zn4 (by decide)] | rw [ze1 (by decide)] | rw [ze2 (by decide)] | rw [zd1 (by decide)] | rw [zd2 (by decide)] | rw [zswy (by decide)] | rw [zswn (by decide)] | rw [zsw0])
            refine zR.ret rfl rfl ?_
            repeat (first | ((with_reducible refine zR.stored ?_); dsimp only [zsto, zclr, zset, zget, zc2, cond_false, cond_true]) | ((with_reducible refine zR.atLit ?_); first | refine zR.step rfl ?_) | rw [zcc1] | rw [zcc2] | rw [zcc3] | rw [zcc4])
            refine zR.ret rfl rfl ⟨_, rfl, ⟨_, (hR.out (by omega)).1⟩, rfl, ?_⟩
            replace hR : Rf (zup M 25 (.inr (11, tob (tst t 0)))) σ := hR.out (by omega)
            have hS : Sm (zup M 25 (.inr (11, tob (tst t 0)))) (zup M 25 (.inr (11, tob (tst t 0)))) := Sm.rf
            show zR ztb _ kX12_forge 1 0 [some (.ref 287), some (.int 3), some (.int (nI 0)), some (.int c), none, none] [] _ _ _ _
            repeat (first | ((with_reducible refine zR.stored ?_); dsimp only [zsto, zclr, zset, zget, zc2, cond_false, cond_true]) | ((with_reducible refine zR.atLit ?_); first | refine zR.step rfl ?_ | refine zR.cs rfl rfl rfl rfl rfl (zCalP.of (c_in _ _ _) ?_) | (refine zR.cs rfl rfl rfl rfl rfl (zCalP.of (c_modulo _ 8 (by decide)) ?_); rw [m8]) | (refine zR.cs rfl rfl rfl rfl rfl (zCalP.of (c_modulo _ 4 (by decide)) ?_); rw [m4]) | refine zR.getf rfl (hR.1) rfl ?_ | refine zR.ilR4 hR rfl (by (try simp only [zn_lit, zn_add, zn_mul]); rfl) (by omega) ?_ | refine zR.ilR5 hR rfl (by (try simp only [zn_lit, zn_add, zn_mul]); rfl) (by omega) ?_) | rw [zcc1] | rw [zcc2] | rw [zcc3] | rw [zcc4] | rw [ej] | rw [eb] | rw [ec] | rw [zb1 (by decide)] | rw [zb2 (by decide)] | rw [zb3 (by decide)] | rw [zb4 (by decide)] | rw [zn1 (by decide)] | rw [zn2 (by decide)] | rw [zn3 (by decide)] | rw [zn4 (by decide)] | rw [ze1 (by decide)] | rw [ze2 (by decide)] | rw [zd1 (by decide)] | rw [zd2 (by decide)] | rw [zswy (by decide)] | rw [zswn (by decide)] | rw [zsw0] | rw [zd1 (es)] | rw [zd2 (es)] | rw [ze1 (e1)] | rw [ze2 (e1)] | rw [e2] | rw [ea] | rw [zn1 (lm)] | rw [zn2 (lm)] | rw [zn3 (lm)] | rw [zn4 (lm)])
            refine zR.cv rfl rfl rfl hR.1 rfl rfl ?_
            show zR ztb _ kX12_copied 1 0 [some (.ref 287), some (.int (nI t4)), some (.int (nI 0)), none, none] [] _ _ _ _
            repeat (first | ((with_reducible refine zR.stored ?_); dsimp only [zsto, zclr, zset, zget, zc2, cond_false, cond_true]) | ((with_reducible refine zR.atLit ?_); first | refine zR.step rfl ?_ | refine zR.getf rfl (hR.1) rfl ?_) | rw [zcc1] | rw [zcc2] | rw [zcc3] | rw [zcc4] | rw [zb1 (by decide)] | rw [zb2 (by decide)] | rw [zb3 (by decide)] | rw [zb4 (by decide)] | rw [zn1 (by decide)] | rw [zn2 (by decide)] | rw [zn3 (by decide)] | rw [zn4 (by decide)] | rw [ze1 (by decide)] | rw [ze2 (by decide)] | rw [zd1 (by decide)] | rw [zd2 (by decide)] | rw [zswy (by decide)] | rw [zswn (by decide)] | rw [zsw0])
            refine zR.ret rfl rfl ?_
            repeat (first | ((with_reducible refine zR.stored ?_); dsimp only [zsto, zclr, zset, zget, zc2, cond_false, cond_true]) | ((with_reducible refine zR.atLit ?_); first | refine zR.step rfl ?_) | rw [zcc1] | rw [zcc2] | rw [zcc3] | rw [zcc4])
            refine zR.cv rfl rfl rfl hR.1 rfl rfl (zR.mono (c_done hR _) (fun v n' w' M' hv => ?_))
            obtain ⟨rfl, rfl, rfl, hR2, hS2⟩ := hv
            repeat (first | ((with_reducible refine zR.stored ?_); dsimp only [zsto, zclr, zset, zget, zc2, cond_false, cond_true]) | ((with_reducible refine zR.atLit ?_); first | refine zR.step rfl ?_) | rw [zcc1] | rw [zcc2] | rw [zcc3] | rw [zcc4])
            refine zR.ret rfl rfl ⟨rfl, by omega, by omega, _, inv_fin ⟨hT, hG0, hG1, hG2⟩ hg hk ht hx hn hR2 (hS.trans hS2)⟩
          | 1, _, hm, eb, hib, f6, m6, e2, n0, ea, ee, n6, lm =>
            repeat (first | ((with_reducible refine zR.stored ?_); dsimp only [zsto, zclr, zset, zget, zc2, cond_false, cond_true]) | ((with_reducible refine zR.atLit ?_); first | refine zR.step rfl ?_ | refine zR.cs rfl rfl rfl rfl rfl (zCalP.of (c_isWithin _ _ _) ?_) | (refine zR.cs rfl rfl rfl rfl rfl (zCalP.of (c_floorMod _ 4 (by decide)) ?_); rw [f4]) | refine zR.cv rfl rfl rfl h25 rfl rfl (zCalP.of (c_sheetAt_y hT h4) ?_)) | rw [zcc1] | rw [zcc2] | rw [zcc3] | rw [zcc4] | rw [eb] | rw [ec] | rw [zb1 (by decide)] | rw [zb2 (by decide)] | rw [zb3 (by decide)] | rw [zb4 (by decide)] | rw [zn1 (by decide)] | rw [zn2 (by decide)] | rw [zn3 (by decide)] | rw [zn4 (by decide)] | rw [ze1 (by decide)] | rw [ze2 (by decide)] | rw [zd1 (by decide)] | rw [zd2 (by decide)] | rw [zswy (by decide)] | rw [zswn (by decide)] | rw [zsw0])
            refine zR.cv rfl rfl rfl h25 rfl rfl ?_
            show zR ztb _ kX11_copyAsBytes 1 0 [some (.ref 25), some (.ref (279 + 2 * t4)), some (.int (nI 1)), none, none] [] _ _ _ _
            repeat (first | with_reducible refine zR.hold (pc := 67) ?_ | ((with_reducible refine zR.stored ?_); dsimp only [zsto, zclr, zset, zget, zc2, cond_false, cond_true]) | ((with_reducible refine zR.atLit ?_); first | refine zR.step rfl ?_ | refine zR.getf rfl (hA) rfl ?_) | rw [zcc1] | rw [zcc2] | rw [zcc3] | rw [zcc4] | rw [zd1 (es)] | rw [zd2 (es)] | rw [ze1 (e1)] | rw [ze2 (e1)] | rw [zn1 (n0)] | rw [zn2 (n0)] | rw [zn3 (n0)] | rw [zn4 (n0)] | rw [ea] | rw [zn1 (lm)] | rw [zn2 (lm)] | rw [zn3 (lm)] | rw [zn4 (lm)] | rw [ee] | rw [zn1 (n6)] | rw [zn2 (n6)] | rw [zn3 (n6)] | rw [zn4 (n6)])
            refine And.intro trivial ?_
            refine zR.step rfl ?_
            repeat (first | ((with_reducible refine zR.stored ?_); dsimp only [zsto, zclr, zset, zget, zc2, cond_false, cond_true]) | ((with_reducible refine zR.atLit ?_); first | refine zR.step rfl ?_ | refine zR.getf rfl (hA) rfl ?_ | refine zR.cv rfl rfl rfl h25 rfl rfl (zCalP.of (c_doneC h25 _) ?_) | (refine zR.iald rfl hB2 (Or.inl rfl) (i := 1) (by decide) (by omega) (by decide) ?_; rw [ev 1 (by omega)])) | rw [zcc1] | rw [zcc2] | rw [zcc3] | rw [zcc4] | rw [zb1 (by decide)] | rw [zb2 (by decide)] | rw [zb3 (by decide)] | rw [zb4 (by decide)] | rw [zn1 (by decide)] | rw [zn2 (by decide)] | rw [zn3 (by decide)] | rw [zn4 (by decide)] | rw [ze1 (by decide)] | rw [ze2 (by decide)] | rw [zd1 (by decide)] | rw [zd2 (by decide)] | rw [zswy (by decide)] | rw [zswn (by decide)] | rw [zsw0])
            refine zR.ret rfl rfl ?_
            repeat (first | ((with_reducible refine zR.stored ?_); dsimp only [zsto, zclr, zset, zget, zc2, cond_false, cond_true]) | ((with_reducible refine zR.atLit ?_); first | refine zR.step rfl ?_) | rw [zcc1] | rw [zcc2] | rw [zcc3] | rw [zcc4])
            refine zR.ret rfl rfl ⟨_, rfl, ⟨_, (hR.out (by omega)).1⟩, rfl, ?_⟩
            replace hR : Rf (zup M 25 (.inr (11, tob (tst t 0)))) σ := hR.out (by omega)
            have hS : Sm (zup M 25 (.inr (11, tob (tst t 0)))) (zup M 25 (.inr (11, tob (tst t 0)))) := Sm.rf
            show zR ztb _ kX12_forge 1 0 [some (.ref 287), some (.int 3), some (.int (nI 1)), some (.int c), none, none] [] _ _ _ _
            repeat (first | ((with_reducible refine zR.stored ?_); dsimp only [zsto, zclr, zset, zget, zc2, cond_false, cond_true]) | ((with_reducible refine zR.atLit ?_); first | refine zR.step rfl ?_ | refine zR.cs rfl rfl rfl rfl rfl (zCalP.of (c_in _ _ _) ?_) | (refine zR.cs rfl rfl rfl rfl rfl (zCalP.of (c_modulo _ 8 (by decide)) ?_); rw [m8]) | (refine zR.cs rfl rfl rfl rfl rfl (zCalP.of (c_modulo _ 4 (by decide)) ?_); rw [m4]) | refine zR.getf rfl (hR.1) rfl ?_ | refine zR.ilR4 hR rfl (by (try simp only [zn_lit, zn_add, zn_mul]); rfl) (by omega) ?_ | refine zR.ilR5 hR rfl (by (try simp only [zn_lit, zn_add, zn_mul]); rfl) (by omega) ?_) | rw [zcc1] | rw [zcc2] | rw [zcc3] | rw [zcc4] | rw [ej] | rw [eb] | rw [ec] | rw [zb1 (by decide)] | rw [zb2 (by decide)] | rw [zb3 (by decide)] | rw [zb4 (by decide)] | rw [zn1 (by decide)] | rw [zn2 (by decide)] | rw [zn3 (by decide)] | rw [zn4 (by decide)] | rw [ze1 (by decide)] | rw [ze2 (by decide)] | rw [zd1 (by decide)] | rw [zd2 (by decide)] | rw [zswy (by decide)] | rw [zswn (by decide)] | rw [zsw0] | rw [zd1 (es)] | rw [zd2 (es)] | rw [ze1 (e1)] | rw [ze2 (e1)] | rw [e2] | rw [ea] | rw [zn1 (lm)] | rw [zn2 (lm)] | rw [zn3 (lm)] | rw [zn4 (lm)])
            refine zR.cv rfl rfl rfl hR.1 rfl rfl ?_
            show zR ztb _ kX12_copied 1 0 [some (.ref 287), some (.int (nI t4)), some (.int (nI 1)), none, none] [] _ _ _ _
            repeat (first | ((with_reducible refine zR.stored ?_); dsimp only [zsto, zclr, zset, zget, zc2, cond_false, cond_true]) | ((with_reducible refine zR.atLit ?_); first | refine zR.step rfl ?_ | refine zR.getf rfl (hR.1) rfl ?_ | refine zR.ilR6 hR rfl (i := 40 * t4 + 1) (by first | (simp only [zn_lit, zn_add, zn_mul]; done) | (simp only [zn_lit, zn_add, zn_mul]; rfl)) (by omega) ?_) | rw [zcc1] | rw [zcc2] | rw [zcc3] | rw [zcc4] | rw [zb1 (by decide)] | rw [zb2 (by decide)] | rw [zb3 (by decide)] | rw [zb4 (by decide)] | rw [zn1 (by decide)] | rw [zn2 (by decide)] | rw [zn3 (by decide)] | rw [zn4 (by decide)] | rw [ze1 (by decide)] | rw [ze2 (by decide)] | rw [zd1 (by decide)] | rw [zd2 (by decide)] | rw [zswy (by decide)] | rw [zswn (by decide)] | rw [zsw0])
            refine zR.ret rfl rfl ?_
            repeat (first | ((with_reducible refine zR.stored ?_); dsimp only [zsto, zclr, zset, zget, zc2, cond_false, cond_true]) | ((with_reducible refine zR.atLit ?_); first | refine zR.step rfl ?_) | rw [zcc1] | rw [zcc2] | rw [zcc3] | rw [zcc4])
            refine zR.cv rfl rfl rfl hR.1 rfl rfl (zR.mono (c_done hR _) (fun v n' w' M' hv => ?_))
            obtain ⟨rfl, rfl, rfl, hR2, hS2⟩ := hv
            repeat (first | ((with_reducible refine zR.stored ?_); dsimp only [zsto, zclr, zset, zget, zc2, cond_false, cond_true]) | ((with_reducible refine zR.atLit ?_); first | refine zR.step rfl ?_) | rw [zcc1] | rw [zcc2] | rw [zcc3] | rw [zcc4])
            refine zR.ret rfl rfl ⟨rfl, by omega, by omega, _, inv_fin ⟨hT, hG0, hG1, hG2⟩ hg hk ht hx hn hR2 (hS.trans hS2)⟩
          | 2, _, hm, eb, hib, f6, m6, e2, n0, ea, ee, n6, lm =>
            repeat (first | ((with_reducible refine zR.stored ?_); dsimp only [zsto, zclr, zset, zget, zc2, cond_false, cond_true]) | ((with_reducible refine zR.atLit ?_); first | refine zR.step rfl ?_ | refine zR.cs rfl rfl rfl rfl rfl (zCalP.of (c_isWithin _ _ _) ?_) | (refine zR.cs rfl rfl rfl rfl rfl (zCalP.of (c_floorMod _ 4 (by decide)) ?_); rw [f4]) | refine zR.cv rfl rfl rfl h25 rfl rfl (zCalP.of (c_sheetAt_y hT h4) ?_)) | rw [zcc1] | rw [zcc2] | rw [zcc3] | rw [zcc4] | rw [eb] | rw [ec] | rw [zb1 (by decide)] | rw [zb2 (by decide)] | rw [zb3 (by decide)] | rw [zb4 (by decide)] | rw [zn1 (by decide)] | rw [zn2 (by decide)] | rw [zn3 (by decide)] | rw [zn4 (by decide)] | rw [ze1 (by decide)] | rw [ze2 (by decide)] | rw [zd1 (by decide)] | rw [zd2 (by decide)] | rw [zswy (by decide)] | rw [zswn (by decide)] | rw [zsw0])
            refine zR.cv rfl rfl rfl h25 rfl rfl ?_
            show zR ztb _ kX11_copyAsBytes 1 0 [some (.ref 25), some (.ref (279 + 2 * t4)), some (.int (nI 2)), none, none] [] _ _ _ _
            repeat (first | with_reducible refine zR.hold (pc := 67) ?_ | ((with_reducible refine zR.stored ?_); dsimp only [zsto, zclr, zset, zget, zc2, cond_false, cond_true]) | ((with_reducible refine zR.atLit ?_); first | refine zR.step rfl ?_ | refine zR.getf rfl (hA) rfl ?_) | rw [zcc1] | rw [zcc2] | rw [zcc3] | rw [zcc4] | rw [zd1 (es)] | rw [zd2 (es)] | rw [ze1 (e1)] | rw [ze2 (e1)] | rw [zn1 (n0)] | rw [zn2 (n0)] | rw [zn3 (n0)] | rw [zn4 (n0)] | rw [ea] | rw [zn1 (lm)] | rw [zn2 (lm)] | rw [zn3 (lm)] | rw [zn4 (lm)] | rw [ee] | rw [zn1 (n6)] | rw [zn2 (n6)] | rw [zn3 (n6)] | rw [zn4 (n6)])
            refine And.intro trivial ?_
            refine zR.step rfl ?_
            repeat (first | ((with_reducible refine zR.stored ?_); dsimp only [zsto, zclr, zset, zget, zc2, cond_false, cond_true]) | ((with_reducible refine zR.atLit ?_); first | refine zR.step rfl ?_ | refine zR.getf rfl (hA) rfl ?_ | refine zR.cv rfl rfl rfl h25 rfl rfl (zCalP.of (c_doneC h25 _) ?_) | (refine zR.iald rfl hB2 (Or.inl rfl) (i := 1) (by decide) (by omega) (by decide) ?_; rw [ev 1 (by omega)]) | (refine zR.iald rfl hB2 (Or.inl rfl) (i := 2) (by decide) (by omega) (by decide) ?_; rw [ev 2 (by omega)])) | rw [zcc1] | rw [zcc2] | rw [zcc3] | rw [zcc4] | rw [zb1 (by decide)] | rw [zb2 (by decide)] | rw [zb3 (by decide)] | rw [zb4 (by decide)] | rw [zn1 (by decide)] | rw [zn2 (by decide)] | rw [zn3 (by decide)] | rw [zn4 (by decide)] | rw [ze1 (by decide)] | rw [ze2 (by decide)] | rw [zd1 (by decide)] | rw [zd2 (by decide)] | rw [zswy (by decide)] | rw [zswn (by decide)] | rw [zsw0])
            refine zR.ret rfl rfl ?_
            repeat (first | ((with_reducible refine zR.stored ?_); dsimp only [zsto, zclr, zset, zget, zc2, cond_false, cond_true]) | ((with_reducible refine zR.atLit ?_); first | refine zR.step rfl ?_) | rw [zcc1] | rw [zcc2] | rw [zcc3] | rw [zcc4])
            refine zR.ret rfl rfl ⟨_, rfl, ⟨_, (hR.out (by omega)).1⟩, rfl, ?_⟩
            replace hR : Rf (zup M 25 (.inr (11, tob (tst t 0)))) σ := hR.out (by omega)
            have hS : Sm (zup M 25 (.inr (11, tob (tst t 0)))) (zup M 25 (.inr (11, tob (tst t 0)))) := Sm.rf
            show zR ztb _ kX12_forge 1 0 [some (.ref 287), some (.int 3), some (.int (nI 2)), some (.int c), none, none] [] _ _ _ _
            repeat (first | ((with_reducible refine zR.stored ?_); dsimp only [zsto, zclr, zset, zget, zc2, cond_false, cond_true]) | ((with_reducible refine zR.atLit ?_); first | refine zR.step rfl ?_ | refine zR.cs rfl rfl rfl rfl rfl (zCalP.of (c_in _ _ _) ?_) | (refine zR.cs rfl rfl rfl rfl rfl (zCalP.of (c_modulo _ 8 (by decide)) ?_); rw [m8]) | (refine zR.cs rfl rfl rfl rfl rfl (zCalP.of (c_modulo _ 4 (by decide)) ?_); rw [m4]) | refine zR.getf rfl (hR.1) rfl ?_ | refine zR.ilR4 hR rfl (by (try simp only [zn_lit, zn_add, zn_mul]); rfl) (by omega) ?_ | refine zR.ilR5 hR rfl (by (try simp only [zn_lit, zn_add, zn_mul]); rfl) (by omega) ?_) | rw [zcc1] | rw [zcc2] | rw [zcc3] | rw [zcc4] | rw [ej] | rw [eb] | rw [ec] | rw [zb1 (by decide)] | rw [zb2 (by decide)] | rw [zb3 (by decide)] | rw [zb4 (by decide)] | rw [zn1 (by decide)] | rw [zn2 (by decide)] | rw [zn3 (by decide)] | rw [zn4 (by decide)] | rw [ze1 (by decide)] | rw [ze2 (by decide)] | rw [zd1 (by decide)] | rw [zd2 (by decide)] | rw [zswy (by decide)] | rw [zswn (by decide)] | rw [zsw0] | rw [zd1 (es)] | rw [zd2 (es)] | rw [ze1 (e1)] | rw [ze2 (e1)] | rw [e2] | rw [ea] | rw [zn1 (lm)] | rw [zn2 (lm)] | rw [zn3 (lm)] | rw [zn4 (lm)])
            refine zR.cv rfl rfl rfl hR.1 rfl rfl ?_
            show zR ztb _ kX12_copied 1 0 [some (.ref 287), some (.int (nI t4)), some (.int (nI 2)), none, none] [] _ _ _ _
            repeat (first | ((with_reducible refine zR.stored ?_); dsimp only [zsto, zclr, zset, zget, zc2, cond_false, cond_true]) | ((with_reducible refine zR.atLit ?_); first | refine zR.step rfl ?_ | refine zR.getf rfl (hR.1) rfl ?_ | refine zR.ilR6 hR rfl (i := 40 * t4 + 1) (by first | (simp only [zn_lit, zn_add, zn_mul]; done) | (simp only [zn_lit, zn_add, zn_mul]; rfl)) (by omega) ?_ | refine zR.ilR6 hR rfl (i := 40 * t4 + 2) (by first | (simp only [zn_lit, zn_add, zn_mul]; done) | (simp only [zn_lit, zn_add, zn_mul]; rfl)) (by omega) ?_) | rw [zcc1] | rw [zcc2] | rw [zcc3] | rw [zcc4] | rw [zb1 (by decide)] | rw [zb2 (by decide)] | rw [zb3 (by decide)] | rw [zb4 (by decide)] | rw [zn1 (by decide)] | rw [zn2 (by decide)] | rw [zn3 (by decide)] | rw [zn4 (by decide)] | rw [ze1 (by decide)] | rw [ze2 (by decide)] | rw [zd1 (by decide)] | rw [zd2 (by decide)] | rw [zswy (by decide)] | rw [zswn (by decide)] | rw [zsw0])
            refine zR.ret rfl rfl ?_
            repeat (first | ((with_reducible refine zR.stored ?_); dsimp only [zsto, zclr, zset, zget, zc2, cond_false, cond_true]) | ((with_reducible refine zR.atLit ?_); first | refine zR.step rfl ?_) | rw [zcc1] | rw [zcc2] | rw [zcc3] | rw [zcc4])
            refine zR.cv rfl rfl rfl hR.1 rfl rfl (zR.mono (c_done hR _) (fun v n' w' M' hv => ?_))
            obtain ⟨rfl, rfl, rfl, hR2, hS2⟩ := hv
            repeat (first | ((with_reducible refine zR.stored ?_); dsimp only [zsto, zclr, zset, zget, zc2, cond_false, cond_true]) | ((with_reducible refine zR.atLit ?_); first | refine zR.step rfl ?_) | rw [zcc1] | rw [zcc2] | rw [zcc3] | rw [zcc4])
            refine zR.ret rfl rfl ⟨rfl, by omega, by omega, _, inv_fin ⟨hT, hG0, hG1, hG2⟩ hg hk ht hx hn hR2 (hS.trans hS2)⟩
          | 3, _, hm, eb, hib, f6, m6, e2, n0, ea, ee, n6, lm =>
            repeat (first | ((with_reducible refine zR.stored ?_); dsimp only [zsto, zclr, zset, zget, zc2, cond_false, cond_true]) | ((with_reducible refine zR.atLit ?_); first | refine zR.step rfl ?_ | refine zR.cs rfl rfl rfl rfl rfl (zCalP.of (c_isWithin _ _ _) ?_) | (refine zR.cs rfl rfl rfl rfl rfl (zCalP.of (c_floorMod _ 4 (by decide)) ?_); rw [f4]) | refine zR.cv rfl rfl rfl h25 rfl rfl (zCalP.of (c_sheetAt_y hT h4) ?_)) | rw [zcc1] | rw [zcc2] | rw [zcc3] | rw [zcc4] | rw [eb] | rw [ec] | rw [zb1 (by decide)] | rw [zb2 (by decide)] | rw [zb3 (by decide)] | rw [zb4 (by decide)] | rw [zn1 (by decide)] | rw [zn2 (by decide)] | rw [zn3 (by decide)] | rw [zn4 (by decide)] | rw [ze1 (by decide)] | rw [ze2 (by decide)] | rw [zd1 (by decide)] | rw [zd2 (by decide)] | rw [zswy (by decide)] | rw [zswn (by decide)] | rw [zsw0])
            refine zR.cv rfl rfl rfl h25 rfl rfl ?_
            show zR ztb _ kX11_copyAsBytes 1 0 [some (.ref 25), some (.ref (279 + 2 * t4)), some (.int (nI 3)), none, none] [] _ _ _ _
            repeat (first | with_reducible refine zR.hold (pc := 67) ?_ | ((with_reducible refine zR.stored ?_); dsimp only [zsto, zclr, zset, zget, zc2, cond_false, cond_true]) | ((with_reducible refine zR.atLit ?_); first | refine zR.step rfl ?_ | refine zR.getf rfl (hA) rfl ?_) | rw [zcc1] | rw [zcc2] | rw [zcc3] | rw [zcc4] | rw [zd1 (es)] | rw [zd2 (es)] | rw [ze1 (e1)] | rw [ze2 (e1)] | rw [zn1 (n0)] | rw [zn2 (n0)] | rw [zn3 (n0)] | rw [zn4 (n0)] | rw [ea] | rw [zn1 (lm)] | rw [zn2 (lm)] | rw [zn3 (lm)] | rw [zn4 (lm)] | rw [ee] | rw [zn1 (n6)] | rw [zn2 (n6)] | rw [zn3 (n6)] | rw [zn4 (n6)])
            refine And.intro trivial ?_
            refine zR.step rfl ?_
            repeat (first | ((with_reducible refine zR.stored ?_); dsimp only [zsto, zclr, zset, zget, zc2, cond_false, cond_true]) | ((with_reducible refine zR.atLit ?_); first | refine zR.step rfl ?_ | refine zR.getf rfl (hA) rfl ?_ | refine zR.cv rfl rfl rfl h25 rfl rfl (zCalP.of (c_doneC h25 _) ?_) | (refine zR.iald rfl hB2 (Or.inl rfl) (i := 1) (by decide) (by omega) (by decide) ?_; rw [ev 1 (by omega)]) | (refine zR.iald rfl hB2 (Or.inl rfl) (i := 2) (by decide) (by omega) (by decide) ?_; rw [ev 2 (by omega)]) | (refine zR.iald rfl hB2 (Or.inl rfl) (i := 3) (by decide) (by omega) (by decide) ?_; rw [ev 3 (by omega)])) | rw [zcc1] | rw [zcc2] | rw [zcc3] | rw [zcc4] | rw [zb1 (by decide)] | rw [zb2 (by decide)] | rw [zb3 (by decide)] | rw [zb4 (by decide)] | rw [zn1 (by decide)] | rw [zn2 (by decide)] | rw [zn3 (by decide)] | rw [zn4 (by decide)] | rw [ze1 (by decide)] | rw [ze2 (by decide)] | rw [zd1 (by decide)] | rw [zd2 (by decide)] | rw [zswy (by decide)] | rw [zswn (by decide)] | rw [zsw0])
            refine zR.ret rfl rfl ?_
            repeat (first | ((with_reducible refine zR.stored ?_); dsimp only [zsto, zclr, zset, zget, zc2, cond_false, cond_true]) | ((with_reducible refine zR.atLit ?_); first | refine zR.step rfl ?_) | rw [zcc1] | rw [zcc2] | rw [zcc3] | rw [zcc4])
            refine zR.ret rfl rfl ⟨_, rfl, ⟨_, (hR.out (by omega)).1⟩, rfl, ?_⟩
            replace hR : Rf (zup M 25 (.inr (11, tob (tst t 0)))) σ := hR.out (by omega)
            have hS : Sm (zup M 25 (.inr (11, tob (tst t 0)))) (zup M 25 (.inr (11, tob (tst t 0)))) := Sm.rf
            show zR ztb _ kX12_forge 1 0 [some (.ref 287), some (.int 3), some (.int (nI 3)), some (.int c), none, none] [] _ _ _ _
            repeat (first | ((with_reducible refine zR.stored ?_); dsimp only [zsto, zclr, zset, zget, zc2, cond_false, cond_true]) | ((with_reducible refine zR.atLit ?_); first | refine zR.step rfl ?_ | refine zR.cs rfl rfl rfl rfl rfl (zCalP.of (c_in _ _ _) ?_) | (refine zR.cs rfl rfl rfl rfl rfl (zCalP.of (c_modulo _ 8 (by decide)) ?_); rw [m8]) | (refine zR.cs rfl rfl rfl rfl rfl (zCalP.of (c_modulo _ 4 (by decide)) ?_); rw [m4]) | refine zR.getf rfl (hR.1) rfl ?_ | refine zR.ilR4 hR rfl (by (try simp only [zn_lit, zn_add, zn_mul]); rfl) (by omega) ?_ | refine zR.ilR5 hR rfl (by (try simp only [zn_lit, zn_add, zn_mul]); rfl) (by omega) ?_) | rw [zcc1] | rw [zcc2] | rw [zcc3] | rw [zcc4] | rw [ej] | rw [eb] | rw [ec] | rw [zb1 (by decide)] | rw [zb2 (by decide)] | rw [zb3 (by decide)] | rw [zb4 (by decide)] | rw [zn1 (by decide)] | rw [zn2 (by decide)] | rw [zn3 (by decide)] | rw [zn4 (by decide)] | rw [ze1 (by decide)] | rw [ze2 (by decide)] | rw [zd1 (by decide)] | rw [zd2 (by decide)] | rw [zswy (by decide)] | rw [zswn (by decide)] | rw [zsw0] | rw [zd1 (es)] | rw [zd2 (es)] | rw [ze1 (e1)] | rw [ze2 (e1)] | rw [e2] | rw [ea] | rw [zn1 (lm)] | rw [zn2 (lm)] | rw [zn3 (lm)] | rw [zn4 (lm)])
            refine zR.cv rfl rfl rfl hR.1 rfl rfl ?_
            show zR ztb _ kX12_copied 1 0 [some (.ref 287), some (.int (nI t4)), some (.int (nI 3)), none, none] [] _ _ _ _
            repeat (first | ((with_reducible refine zR.stored ?_); dsimp only [zsto, zclr, zset, zget, zc2, cond_false, cond_true]) | ((with_reducible refine zR.atLit ?_); first | refine zR.step rfl ?_ | refine zR.getf rfl (hR.1) rfl ?_ | refine zR.ilR6 hR rfl (i := 40 * t4 + 1) (by first | (simp only [zn_lit, zn_add, zn_mul]; done) | (simp only [zn_lit, zn_add, zn_mul]; rfl)) (by omega) ?_ | refine zR.ilR6 hR rfl (i := 40 * t4 + 2) (by first | (simp only [zn_lit, zn_add, zn_mul]; done) | (simp only [zn_lit, zn_add, zn_mul]; rfl)) (by omega) ?_ | refine zR.ilR6 hR rfl (i := 40 * t4 + 3) (by first | (simp only [zn_lit, zn_add, zn_mul]; done) | (simp only [zn_lit, zn_add, zn_mul]; rfl)) (by omega) ?_) | rw [zcc1] | rw [zcc2] | rw [zcc3] | rw [zcc4] | rw [zb1 (by decide)] | rw [zb2 (by decide)] | rw [zb3 (by decide)] | rw [zb4 (by decide)] | rw [zn1 (by decide)] | rw [zn2 (by decide)] | rw [zn3 (by decide)] | rw [zn4 (by decide)] | rw [ze1 (by decide)] | rw [ze2 (by decide)] | rw [zd1 (by decide)] | rw [zd2 (by decide)] | rw [zswy (by decide)] | rw [zswn (by decide)] | rw [zsw0])
            refine zR.ret rfl rfl ?_
            repeat (first | ((with_reducible refine zR.stored ?_); dsimp only [zsto, zclr, zset, zget, zc2, cond_false, cond_true]) | ((with_reducible refine zR.atLit ?_); first | refine zR.step rfl ?_) | rw [zcc1] | rw [zcc2] | rw [zcc3] | rw [zcc4])
            refine zR.cv rfl rfl rfl hR.1 rfl rfl (zR.mono (c_done hR _) (fun v n' w' M' hv => ?_))
            obtain ⟨rfl, rfl, rfl, hR2, hS2⟩ := hv
            repeat (first | ((with_reducible refine zR.stored ?_); dsimp only [zsto, zclr, zset, zget, zc2, cond_false, cond_true]) | ((with_reducible refine zR.atLit ?_); first | refine zR.step rfl ?_) | rw [zcc1] | rw [zcc2] | rw [zcc3] | rw [zcc4])
            refine zR.ret rfl rfl ⟨rfl, by omega, by omega, _, inv_fin ⟨hT, hG0, hG1, hG2⟩ hg hk ht hx hn hR2 (hS.trans hS2)⟩
          | q + 4, h, hm, eb, hib, f6, m6, e2, n0, ea, ee, n6, lm => omega
        · have lm : σ 5 t4 < nI (1 + q) := by rw [T4]; exact zI_ylt (by omega) (by omega)
          repeat (first | ((with_reducible refine zR.stored ?_); dsimp only [zsto, zclr, zset, zget, zc2, cond_false, cond_true]) | ((with_reducible refine zR.atLit ?_); first | refine zR.step rfl ?_ | refine zR.cs rfl rfl rfl rfl rfl (zCalP.of (c_isWithin _ _ _) ?_) | (refine zR.cs rfl rfl rfl rfl rfl (zCalP.of (c_floorMod _ 4 (by decide)) ?_); rw [f4]) | refine zR.cv rfl rfl rfl h25 rfl rfl (zCalP.of (c_sheetAt_y hT h4) ?_)) | rw [zcc1] | rw [zcc2] | rw [zcc3] | rw [zcc4] | rw [eb] | rw [ec] | rw [zb1 (by decide)] | rw [zb2 (by decide)] | rw [zb3 (by decide)] | rw [zb4 (by decide)] | rw [zn1 (by decide)] | rw [zn2 (by decide)] | rw [zn3 (by decide)] | rw [zn4 (by decide)] | rw [ze1 (by decide)] | rw [ze2 (by decide)] | rw [zd1 (by decide)] | rw [zd2 (by decide)] | rw [zswy (by decide)] | rw [zswn (by decide)] | rw [zsw0])
          refine zR.cv rfl rfl rfl h25 rfl rfl ?_
          show zR ztb _ kX11_copyAsBytes 1 0 [some (.ref 25), some (.ref (279 + 2 * t4)), some (.int (nI q)), none, none] [] _ _ _ _
          repeat (first | ((with_reducible refine zR.stored ?_); dsimp only [zsto, zclr, zset, zget, zc2, cond_false, cond_true]) | ((with_reducible refine zR.atLit ?_); first | refine zR.step rfl ?_ | refine zR.getf rfl (hA) rfl ?_ | refine zR.cv rfl rfl rfl h25 rfl rfl (zCalP.of (c_refuse h25 _) ?_)) | rw [zcc1] | rw [zcc2] | rw [zcc3] | rw [zcc4] | rw [zd1 (es)] | rw [zd2 (es)] | rw [ze1 (e1)] | rw [ze2 (e1)] | rw [zn1 (n0)] | rw [zn2 (n0)] | rw [zn3 (n0)] | rw [zn4 (n0)] | rw [ea] | rw [zb1 (lm)] | rw [zb2 (lm)] | rw [zb3 (lm)] | rw [zb4 (lm)])
          refine zR.ret rfl rfl ?_
          repeat (first | ((with_reducible refine zR.stored ?_); dsimp only [zsto, zclr, zset, zget, zc2, cond_false, cond_true]) | ((with_reducible refine zR.atLit ?_); first | refine zR.step rfl ?_) | rw [zcc1] | rw [zcc2] | rw [zcc3] | rw [zcc4])
          refine zR.ret rfl rfl ⟨_, rfl, ⟨_, (hR.out (by omega)).1⟩, rfl, ?_⟩
          replace hR : Rf (zup M 25 (.inr (11, tob (tst t 12)))) σ := hR.out (by omega)
          have hS : Sm (zup M 25 (.inr (11, tob (tst t 12)))) (zup M 25 (.inr (11, tob (tst t 12)))) := Sm.rf
          show zR ztb _ kX12_forge 1 0 [some (.ref 287), some (.int 3), some (.int (nI q)), some (.int c), none, none] [] _ _ _ _
          repeat (first | ((with_reducible refine zR.stored ?_); dsimp only [zsto, zclr, zset, zget, zc2, cond_false, cond_true]) | ((with_reducible refine zR.atLit ?_); first | refine zR.step rfl ?_ | refine zR.cs rfl rfl rfl rfl rfl (zCalP.of (c_in _ _ _) ?_) | (refine zR.cs rfl rfl rfl rfl rfl (zCalP.of (c_modulo _ 8 (by decide)) ?_); rw [m8]) | (refine zR.cs rfl rfl rfl rfl rfl (zCalP.of (c_modulo _ 4 (by decide)) ?_); rw [m4]) | refine zR.getf rfl (hR.1) rfl ?_ | refine zR.ilR4 hR rfl (by (try simp only [zn_lit, zn_add, zn_mul]); rfl) (by omega) ?_ | refine zR.ilR5 hR rfl (by (try simp only [zn_lit, zn_add, zn_mul]); rfl) (by omega) ?_) | rw [zcc1] | rw [zcc2] | rw [zcc3] | rw [zcc4] | rw [ej] | rw [eb] | rw [ec] | rw [zb1 (by decide)] | rw [zb2 (by decide)] | rw [zb3 (by decide)] | rw [zb4 (by decide)] | rw [zn1 (by decide)] | rw [zn2 (by decide)] | rw [zn3 (by decide)] | rw [zn4 (by decide)] | rw [ze1 (by decide)] | rw [ze2 (by decide)] | rw [zd1 (by decide)] | rw [zd2 (by decide)] | rw [zswy (by decide)] | rw [zswn (by decide)] | rw [zsw0] | rw [zd1 (es)] | rw [zd2 (es)] | rw [ze1 (e1)] | rw [ze2 (e1)] | rw [e2] | rw [ea] | rw [zb1 (lm)] | rw [zb2 (lm)] | rw [zb3 (lm)] | rw [zb4 (lm)])
          refine zR.cv rfl rfl rfl hR.1 rfl rfl (zR.mono (c_refused hR _) (fun v n' w' M' hv => ?_))
          obtain ⟨rfl, rfl, rfl, hR2, hS2⟩ := hv
          repeat (first | ((with_reducible refine zR.stored ?_); dsimp only [zsto, zclr, zset, zget, zc2, cond_false, cond_true]) | ((with_reducible refine zR.atLit ?_); first | refine zR.step rfl ?_) | rw [zcc1] | rw [zcc2] | rw [zcc3] | rw [zcc4])
          refine zR.ret rfl rfl ⟨rfl, by omega, by omega, _, inv_fin ⟨hT, hG0, hG1, hG2⟩ hg hk ht hx hn hR2 (hS.trans hS2)⟩
      · replace e2 : inI b 0 3 = 0 := e2
        by_cases n0 : b < 0
        · skip
          repeat (first | ((with_reducible refine zR.stored ?_); dsimp only [zsto, zclr, zset, zget, zc2, cond_false, cond_true]) | ((with_reducible refine zR.atLit ?_); first | refine zR.step rfl ?_ | refine zR.cs rfl rfl rfl rfl rfl (zCalP.of (c_isWithin _ _ _) ?_) | (refine zR.cs rfl rfl rfl rfl rfl (zCalP.of (c_floorMod _ 4 (by decide)) ?_); rw [f4]) | refine zR.cv rfl rfl rfl h25 rfl rfl (zCalP.of (c_sheetAt_y hT h4) ?_)) | rw [zcc1] | rw [zcc2] | rw [zcc3] | rw [zcc4] | rw [eb] | rw [ec] | rw [zb1 (by decide)] | rw [zb2 (by decide)] | rw [zb3 (by decide)] | rw [zb4 (by decide)] | rw [zn1 (by decide)] | rw [zn2 (by decide)] | rw [zn3 (by decide)] | rw [zn4 (by decide)] | rw [ze1 (by decide)] | rw [ze2 (by decide)] | rw [zd1 (by decide)] | rw [zd2 (by decide)] | rw [zswy (by decide)] | rw [zswn (by decide)] | rw [zsw0])
          refine zR.cv rfl rfl rfl h25 rfl rfl ?_
          show zR ztb _ kX11_copyAsBytes 1 0 [some (.ref 25), some (.ref (279 + 2 * t4)), some (.int b), none, none] [] _ _ _ _
          repeat (first | ((with_reducible refine zR.stored ?_); dsimp only [zsto, zclr, zset, zget, zc2, cond_false, cond_true]) | ((with_reducible refine zR.atLit ?_); first | refine zR.step rfl ?_ | refine zR.getf rfl (hA) rfl ?_ | refine zR.cv rfl rfl rfl h25 rfl rfl (zCalP.of (c_refuse h25 _) ?_)) | rw [zcc1] | rw [zcc2] | rw [zcc3] | rw [zcc4] | rw [zd1 (es)] | rw [zd2 (es)] | rw [ze1 (e1)] | rw [ze2 (e1)] | rw [zb1 (n0)] | rw [zb2 (n0)] | rw [zb3 (n0)] | rw [zb4 (n0)])
          refine zR.ret rfl rfl ?_
          repeat (first | ((with_reducible refine zR.stored ?_); dsimp only [zsto, zclr, zset, zget, zc2, cond_false, cond_true]) | ((with_reducible refine zR.atLit ?_); first | refine zR.step rfl ?_) | rw [zcc1] | rw [zcc2] | rw [zcc3] | rw [zcc4])
          refine zR.ret rfl rfl ⟨_, rfl, ⟨_, (hR.out (by omega)).1⟩, rfl, ?_⟩
          replace hR : Rf (zup M 25 (.inr (11, tob (tst t 12)))) σ := hR.out (by omega)
          have hS : Sm (zup M 25 (.inr (11, tob (tst t 12)))) (zup M 25 (.inr (11, tob (tst t 12)))) := Sm.rf
          show zR ztb _ kX12_forge 1 0 [some (.ref 287), some (.int 3), some (.int b), some (.int c), none, none] [] _ _ _ _
          repeat (first | ((with_reducible refine zR.stored ?_); dsimp only [zsto, zclr, zset, zget, zc2, cond_false, cond_true]) | ((with_reducible refine zR.atLit ?_); first | refine zR.step rfl ?_ | refine zR.cs rfl rfl rfl rfl rfl (zCalP.of (c_in _ _ _) ?_) | (refine zR.cs rfl rfl rfl rfl rfl (zCalP.of (c_modulo _ 8 (by decide)) ?_); rw [m8]) | (refine zR.cs rfl rfl rfl rfl rfl (zCalP.of (c_modulo _ 4 (by decide)) ?_); rw [m4]) | refine zR.getf rfl (hR.1) rfl ?_ | refine zR.ilR4 hR rfl (by (try simp only [zn_lit, zn_add, zn_mul]); rfl) (by omega) ?_ | refine zR.ilR5 hR rfl (by (try simp only [zn_lit, zn_add, zn_mul]); rfl) (by omega) ?_) | rw [zcc1] | rw [zcc2] | rw [zcc3] | rw [zcc4] | rw [ej] | rw [eb] | rw [ec] | rw [zb1 (by decide)] | rw [zb2 (by decide)] | rw [zb3 (by decide)] | rw [zb4 (by decide)] | rw [zn1 (by decide)] | rw [zn2 (by decide)] | rw [zn3 (by decide)] | rw [zn4 (by decide)] | rw [ze1 (by decide)] | rw [ze2 (by decide)] | rw [zd1 (by decide)] | rw [zd2 (by decide)] | rw [zswy (by decide)] | rw [zswn (by decide)] | rw [zsw0] | rw [zd1 (es)] | rw [zd2 (es)] | rw [ze1 (e1)] | rw [ze2 (e1)] | rw [e2])
          refine zR.cv rfl rfl rfl hR.1 rfl rfl (zR.mono (c_refused hR _) (fun v n' w' M' hv => ?_))
          obtain ⟨rfl, rfl, rfl, hR2, hS2⟩ := hv
          repeat (first | ((with_reducible refine zR.stored ?_); dsimp only [zsto, zclr, zset, zget, zc2, cond_false, cond_true]) | ((with_reducible refine zR.atLit ?_); first | refine zR.step rfl ?_) | rw [zcc1] | rw [zcc2] | rw [zcc3] | rw [zcc4])
          refine zR.ret rfl rfl ⟨rfl, by omega, by omega, _, inv_fin ⟨hT, hG0, hG1, hG2⟩ hg hk ht hx hn hR2 (hS.trans hS2)⟩
        · obtain ⟨k, rfl, k1, k2⟩ : ∃ k, b = nI k ∧ 4 ≤ k ∧ k ≤ 100 := by
            rcases inI_int b (-100) 100 with ⟨-, g1, g2⟩ | ⟨g3, -⟩
            · rw [show (100 : Int32).toInt = 100 by decide] at g2
              rw [Int32.lt_iff_toInt_lt, show (0 : Int32).toInt = 0 by decide] at n0
              have hk9 := zI_of (a := b) (by omega)
              refine ⟨b.toInt.toNat, hk9, ?_, by omega⟩
              refine Nat.le_of_not_lt (fun h => hb b.toInt.toNat (by omega) (by omega) hk9)
            · rw [g3] at eb
              exact absurd eb (by decide)
          have ea : 1 + nI k = nI (1 + k) := zn_add 1 k
          have ee : nI k + nI k = nI (k + k) := zn_add k k
          have n6 : (6 : Int32) < nI (k + k) := zI_ylt (a := 6) (by omega) (by omega)
          by_cases lm : σ 5 t4 < nI (1 + k)
          · skip
            repeat (first | ((with_reducible refine zR.stored ?_); dsimp only [zsto, zclr, zset, zget, zc2, cond_false, cond_true]) | ((with_reducible refine zR.atLit ?_); first | refine zR.step rfl ?_ | refine zR.cs rfl rfl rfl rfl rfl (zCalP.of (c_isWithin _ _ _) ?_) | (refine zR.cs rfl rfl rfl rfl rfl (zCalP.of (c_floorMod _ 4 (by decide)) ?_); rw [f4]) | refine zR.cv rfl rfl rfl h25 rfl rfl (zCalP.of (c_sheetAt_y hT h4) ?_)) | rw [zcc1] | rw [zcc2] | rw [zcc3] | rw [zcc4] | rw [eb] | rw [ec] | rw [zb1 (by decide)] | rw [zb2 (by decide)] | rw [zb3 (by decide)] | rw [zb4 (by decide)] | rw [zn1 (by decide)] | rw [zn2 (by decide)] | rw [zn3 (by decide)] | rw [zn4 (by decide)] | rw [ze1 (by decide)] | rw [ze2 (by decide)] | rw [zd1 (by decide)] | rw [zd2 (by decide)] | rw [zswy (by decide)] | rw [zswn (by decide)] | rw [zsw0])
            refine zR.cv rfl rfl rfl h25 rfl rfl ?_
            show zR ztb _ kX11_copyAsBytes 1 0 [some (.ref 25), some (.ref (279 + 2 * t4)), some (.int (nI k)), none, none] [] _ _ _ _
            repeat (first | ((with_reducible refine zR.stored ?_); dsimp only [zsto, zclr, zset, zget, zc2, cond_false, cond_true]) | ((with_reducible refine zR.atLit ?_); first | refine zR.step rfl ?_ | refine zR.getf rfl (hA) rfl ?_ | refine zR.cv rfl rfl rfl h25 rfl rfl (zCalP.of (c_refuse h25 _) ?_)) | rw [zcc1] | rw [zcc2] | rw [zcc3] | rw [zcc4] | rw [zd1 (es)] | rw [zd2 (es)] | rw [ze1 (e1)] | rw [ze2 (e1)] | rw [zn1 (n0)] | rw [zn2 (n0)] | rw [zn3 (n0)] | rw [zn4 (n0)] | rw [ea] | rw [zb1 (lm)] | rw [zb2 (lm)] | rw [zb3 (lm)] | rw [zb4 (lm)])
            refine zR.ret rfl rfl ?_
            repeat (first | ((with_reducible refine zR.stored ?_); dsimp only [zsto, zclr, zset, zget, zc2, cond_false, cond_true]) | ((with_reducible refine zR.atLit ?_); first | refine zR.step rfl ?_) | rw [zcc1] | rw [zcc2] | rw [zcc3] | rw [zcc4])
            refine zR.ret rfl rfl ⟨_, rfl, ⟨_, (hR.out (by omega)).1⟩, rfl, ?_⟩
            replace hR : Rf (zup M 25 (.inr (11, tob (tst t 12)))) σ := hR.out (by omega)
            have hS : Sm (zup M 25 (.inr (11, tob (tst t 12)))) (zup M 25 (.inr (11, tob (tst t 12)))) := Sm.rf
            show zR ztb _ kX12_forge 1 0 [some (.ref 287), some (.int 3), some (.int (nI k)), some (.int c), none, none] [] _ _ _ _
            repeat (first | ((with_reducible refine zR.stored ?_); dsimp only [zsto, zclr, zset, zget, zc2, cond_false, cond_true]) | ((with_reducible refine zR.atLit ?_); first | refine zR.step rfl ?_ | refine zR.cs rfl rfl rfl rfl rfl (zCalP.of (c_in _ _ _) ?_) | (refine zR.cs rfl rfl rfl rfl rfl (zCalP.of (c_modulo _ 8 (by decide)) ?_); rw [m8]) | (refine zR.cs rfl rfl rfl rfl rfl (zCalP.of (c_modulo _ 4 (by decide)) ?_); rw [m4]) | refine zR.getf rfl (hR.1) rfl ?_ | refine zR.ilR4 hR rfl (by (try simp only [zn_lit, zn_add, zn_mul]); rfl) (by omega) ?_ | refine zR.ilR5 hR rfl (by (try simp only [zn_lit, zn_add, zn_mul]); rfl) (by omega) ?_) | rw [zcc1] | rw [zcc2] | rw [zcc3] | rw [zcc4] | rw [ej] | rw [eb] | rw [ec] | rw [zb1 (by decide)] | rw [zb2 (by decide)] | rw [zb3 (by decide)] | rw [zb4 (by decide)] | rw [zn1 (by decide)] | rw [zn2 (by decide)] | rw [zn3 (by decide)] | rw [zn4 (by decide)] | rw [ze1 (by decide)] | rw [ze2 (by decide)] | rw [zd1 (by decide)] | rw [zd2 (by decide)] | rw [zswy (by decide)] | rw [zswn (by decide)] | rw [zsw0] | rw [zd1 (es)] | rw [zd2 (es)] | rw [ze1 (e1)] | rw [ze2 (e1)] | rw [e2])
            refine zR.cv rfl rfl rfl hR.1 rfl rfl (zR.mono (c_refused hR _) (fun v n' w' M' hv => ?_))
            obtain ⟨rfl, rfl, rfl, hR2, hS2⟩ := hv
            repeat (first | ((with_reducible refine zR.stored ?_); dsimp only [zsto, zclr, zset, zget, zc2, cond_false, cond_true]) | ((with_reducible refine zR.atLit ?_); first | refine zR.step rfl ?_) | rw [zcc1] | rw [zcc2] | rw [zcc3] | rw [zcc4])
            refine zR.ret rfl rfl ⟨rfl, by omega, by omega, _, inv_fin ⟨hT, hG0, hG1, hG2⟩ hg hk ht hx hn hR2 (hS.trans hS2)⟩
          · skip
            repeat (first | ((with_reducible refine zR.stored ?_); dsimp only [zsto, zclr, zset, zget, zc2, cond_false, cond_true]) | ((with_reducible refine zR.atLit ?_); first | refine zR.step rfl ?_ | refine zR.cs rfl rfl rfl rfl rfl (zCalP.of (c_isWithin _ _ _) ?_) | (refine zR.cs rfl rfl rfl rfl rfl (zCalP.of (c_floorMod _ 4 (by decide)) ?_); rw [f4]) | refine zR.cv rfl rfl rfl h25 rfl rfl (zCalP.of (c_sheetAt_y hT h4) ?_)) | rw [zcc1] | rw [zcc2] | rw [zcc3] | rw [zcc4] | rw [eb] | rw [ec] | rw [zb1 (by decide)] | rw [zb2 (by decide)] | rw [zb3 (by decide)] | rw [zb4 (by decide)] | rw [zn1 (by decide)] | rw [zn2 (by decide)] | rw [zn3 (by decide)] | rw [zn4 (by decide)] | rw [ze1 (by decide)] | rw [ze2 (by decide)] | rw [zd1 (by decide)] | rw [zd2 (by decide)] | rw [zswy (by decide)] | rw [zswn (by decide)] | rw [zsw0])
            refine zR.cv rfl rfl rfl h25 rfl rfl ?_
            show zR ztb _ kX11_copyAsBytes 1 0 [some (.ref 25), some (.ref (279 + 2 * t4)), some (.int (nI k)), none, none] [] _ _ _ _
            repeat (first | ((with_reducible refine zR.stored ?_); dsimp only [zsto, zclr, zset, zget, zc2, cond_false, cond_true]) | ((with_reducible refine zR.atLit ?_); first | refine zR.step rfl ?_ | refine zR.getf rfl (hA) rfl ?_ | refine zR.cv rfl rfl rfl h25 rfl rfl (zCalP.of (c_refuse h25 _) ?_)) | rw [zcc1] | rw [zcc2] | rw [zcc3] | rw [zcc4] | rw [zd1 (es)] | rw [zd2 (es)] | rw [ze1 (e1)] | rw [ze2 (e1)] | rw [zn1 (n0)] | rw [zn2 (n0)] | rw [zn3 (n0)] | rw [zn4 (n0)] | rw [ea] | rw [zn1 (lm)] | rw [zn2 (lm)] | rw [zn3 (lm)] | rw [zn4 (lm)] | rw [ee] | rw [zb1 (n6)] | rw [zb2 (n6)] | rw [zb3 (n6)] | rw [zb4 (n6)])
            refine zR.ret rfl rfl ?_
            repeat (first | ((with_reducible refine zR.stored ?_); dsimp only [zsto, zclr, zset, zget, zc2, cond_false, cond_true]) | ((with_reducible refine zR.atLit ?_); first | refine zR.step rfl ?_) | rw [zcc1] | rw [zcc2] | rw [zcc3] | rw [zcc4])
            refine zR.ret rfl rfl ⟨_, rfl, ⟨_, (hR.out (by omega)).1⟩, rfl, ?_⟩
            replace hR : Rf (zup M 25 (.inr (11, tob (tst t 12)))) σ := hR.out (by omega)
            have hS : Sm (zup M 25 (.inr (11, tob (tst t 12)))) (zup M 25 (.inr (11, tob (tst t 12)))) := Sm.rf
            show zR ztb _ kX12_forge 1 0 [some (.ref 287), some (.int 3), some (.int (nI k)), some (.int c), none, none] [] _ _ _ _
            repeat (first | ((with_reducible refine zR.stored ?_); dsimp only [zsto, zclr, zset, zget, zc2, cond_false, cond_true]) | ((with_reducible refine zR.atLit ?_); first | refine zR.step rfl ?_ | refine zR.cs rfl rfl rfl rfl rfl (zCalP.of (c_in _ _ _) ?_) | (refine zR.cs rfl rfl rfl rfl rfl (zCalP.of (c_modulo _ 8 (by decide)) ?_); rw [m8]) | (refine zR.cs rfl rfl rfl rfl rfl (zCalP.of (c_modulo _ 4 (by decide)) ?_); rw [m4]) | refine zR.getf rfl (hR.1) rfl ?_ | refine zR.ilR4 hR rfl (by (try simp only [zn_lit, zn_add, zn_mul]); rfl) (by omega) ?_ | refine zR.ilR5 hR rfl (by (try simp only [zn_lit, zn_add, zn_mul]); rfl) (by omega) ?_) | rw [zcc1] | rw [zcc2] | rw [zcc3] | rw [zcc4] | rw [ej] | rw [eb] | rw [ec] | rw [zb1 (by decide)] | rw [zb2 (by decide)] | rw [zb3 (by decide)] | rw [zb4 (by decide)] | rw [zn1 (by decide)] | rw [zn2 (by decide)] | rw [zn3 (by decide)] | rw [zn4 (by decide)] | rw [ze1 (by decide)] | rw [ze2 (by decide)] | rw [zd1 (by decide)] | rw [zd2 (by decide)] | rw [zswy (by decide)] | rw [zswn (by decide)] | rw [zsw0] | rw [zd1 (es)] | rw [zd2 (es)] | rw [ze1 (e1)] | rw [ze2 (e1)] | rw [e2])
            refine zR.cv rfl rfl rfl hR.1 rfl rfl (zR.mono (c_refused hR _) (fun v n' w' M' hv => ?_))
            obtain ⟨rfl, rfl, rfl, hR2, hS2⟩ := hv
            repeat (first | ((with_reducible refine zR.stored ?_); dsimp only [zsto, zclr, zset, zget, zc2, cond_false, cond_true]) | ((with_reducible refine zR.atLit ?_); first | refine zR.step rfl ?_) | rw [zcc1] | rw [zcc2] | rw [zcc3] | rw [zcc4])
            refine zR.ret rfl rfl ⟨rfl, by omega, by omega, _, inv_fin ⟨hT, hG0, hG1, hG2⟩ hg hk ht hx hn hR2 (hS.trans hS2)⟩
    · skip
      repeat (first | ((with_reducible refine zR.stored ?_); dsimp only [zsto, zclr, zset, zget, zc2, cond_false, cond_true]) | ((with_reducible refine zR.atLit ?_); first | refine zR.step rfl ?_ | refine zR.cs rfl rfl rfl rfl rfl (zCalP.of (c_isWithin _ _ _) ?_) | (refine zR.cs rfl rfl rfl rfl rfl (zCalP.of (c_floorMod _ 4 (by decide)) ?_); rw [f4]) | refine zR.cv rfl rfl rfl h25 rfl rfl (zCalP.of (c_sheetAt_y hT h4) ?_)) | rw [zcc1] | rw [zcc2] | rw [zcc3] | rw [zcc4] | rw [eb] | rw [ec] | rw [zb1 (by decide)] | rw [zb2 (by decide)] | rw [zb3 (by decide)] | rw [zb4 (by decide)] | rw [zn1 (by decide)] | rw [zn2 (by decide)] | rw [zn3 (by decide)] | rw [zn4 (by decide)] | rw [ze1 (by decide)] | rw [ze2 (by decide)] | rw [zd1 (by decide)] | rw [zd2 (by decide)] | rw [zswy (by decide)] | rw [zswn (by decide)] | rw [zsw0])
      refine zR.cv rfl rfl rfl h25 rfl rfl ?_
      show zR ztb _ kX11_copyAsBytes 1 0 [some (.ref 25), some (.ref (279 + 2 * t4)), some (.int b), none, none] [] _ _ _ _
      repeat (first | ((with_reducible refine zR.stored ?_); dsimp only [zsto, zclr, zset, zget, zc2, cond_false, cond_true]) | ((with_reducible refine zR.atLit ?_); first | refine zR.step rfl ?_ | refine zR.getf rfl (hA) rfl ?_ | refine zR.cv rfl rfl rfl h25 rfl rfl (zCalP.of (c_refuse h25 _) ?_)) | rw [zcc1] | rw [zcc2] | rw [zcc3] | rw [zcc4] | rw [zd1 (es)] | rw [zd2 (es)] | rw [zd1 (e1)] | rw [zd2 (e1)])
      refine zR.ret rfl rfl ?_
      repeat (first | ((with_reducible refine zR.stored ?_); dsimp only [zsto, zclr, zset, zget, zc2, cond_false, cond_true]) | ((with_reducible refine zR.atLit ?_); first | refine zR.step rfl ?_) | rw [zcc1] | rw [zcc2] | rw [zcc3] | rw [zcc4])
      refine zR.ret rfl rfl ⟨_, rfl, ⟨_, (hR.out (by omega)).1⟩, rfl, ?_⟩
      replace hR : Rf (zup M 25 (.inr (11, tob (tst t 11)))) σ := hR.out (by omega)
      have hS : Sm (zup M 25 (.inr (11, tob (tst t 11)))) (zup M 25 (.inr (11, tob (tst t 11)))) := Sm.rf
      show zR ztb _ kX12_forge 1 0 [some (.ref 287), some (.int 3), some (.int b), some (.int c), none, none] [] _ _ _ _
      repeat (first | ((with_reducible refine zR.stored ?_); dsimp only [zsto, zclr, zset, zget, zc2, cond_false, cond_true]) | ((with_reducible refine zR.atLit ?_); first | refine zR.step rfl ?_ | refine zR.cs rfl rfl rfl rfl rfl (zCalP.of (c_in _ _ _) ?_) | (refine zR.cs rfl rfl rfl rfl rfl (zCalP.of (c_modulo _ 8 (by decide)) ?_); rw [m8]) | (refine zR.cs rfl rfl rfl rfl rfl (zCalP.of (c_modulo _ 4 (by decide)) ?_); rw [m4]) | refine zR.getf rfl (hR.1) rfl ?_ | refine zR.ilR4 hR rfl (by (try simp only [zn_lit, zn_add, zn_mul]); rfl) (by omega) ?_) | rw [zcc1] | rw [zcc2] | rw [zcc3] | rw [zcc4] | rw [ej] | rw [eb] | rw [ec] | rw [zb1 (by decide)] | rw [zb2 (by decide)] | rw [zb3 (by decide)] | rw [zb4 (by decide)] | rw [zn1 (by decide)] | rw [zn2 (by decide)] | rw [zn3 (by decide)] | rw [zn4 (by decide)] | rw [ze1 (by decide)] | rw [ze2 (by decide)] | rw [zd1 (by decide)] | rw [zd2 (by decide)] | rw [zswy (by decide)] | rw [zswn (by decide)] | rw [zsw0] | rw [zd1 (es)] | rw [zd2 (es)] | rw [zd1 (e1)] | rw [zd2 (e1)])
      refine zR.cv rfl rfl rfl hR.1 rfl rfl (zR.mono (c_refused hR _) (fun v n' w' M' hv => ?_))
      obtain ⟨rfl, rfl, rfl, hR2, hS2⟩ := hv
      repeat (first | ((with_reducible refine zR.stored ?_); dsimp only [zsto, zclr, zset, zget, zc2, cond_false, cond_true]) | ((with_reducible refine zR.atLit ?_); first | refine zR.step rfl ?_) | rw [zcc1] | rw [zcc2] | rw [zcc3] | rw [zcc4])
      refine zR.ret rfl rfl ⟨rfl, by omega, by omega, _, inv_fin ⟨hT, hG0, hG1, hG2⟩ hg hk ht hx hn hR2 (hS.trans hS2)⟩
theorem o_forge {L : Nat} {xs : Nat → Int32} : op_forge (Inv L xs) := by
  intro a b c
  rcases inI_01 b (-100) 100 with eb | eb
  · exact forge_b eb
  rcases inI_01 c (-100) 100 with ec | ec
  · exact forge_c eb ec
  by_cases q0 : a = 0
  · subst q0; exact forge_0 eb ec
  by_cases q1 : a = 1
  · subst q1; exact forge_1 eb ec
  by_cases q2 : a = 2
  · subst q2; exact forge_2 eb ec
  by_cases q3 : a = 3
  · subst q3; exact forge_3 eb ec
  by_cases q4 : a = 4
  · subst q4; exact forge_4 eb ec
  by_cases q5 : a = 5
  · subst q5; exact forge_5 eb ec
  by_cases q6 : a = 6
  · subst q6; exact forge_6 eb ec
  exact forge_d eb ec q0 q1 q2 q3 q4 q5 q6
