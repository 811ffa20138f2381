
/-! house. -/
theorem house_n1 {L : Nat} {xs : Nat → Int32} {a b : Int32} (e1 : inI a 1 6 = 0) : opOK (Inv L xs) 88 145 [.int a, .int b] := by
  intro  M σ n w hI
  have hI' := hI
  obtain ⟨t, tr, c0, c1, c2, k0, k1, k2, b0, b1, b2, l0, l1, l2, hR, ⟨hT, hG0, hG1, hG2⟩, hg, hk, ht, hx, hn⟩ := hI
  have h25 := hT.1
  have hg' := hg
  obtain ⟨nc, nh, nl, lm, wk, hN, ⟨hC, hCn⟩, hB, hL, hSt, hH, hW, hX⟩ := hg'
  obtain ⟨N1, N2, N3, N4, N5, N6, N7, N8, N9, N10, N11, N12, N13, N14, N15, N16, N17⟩ := hN
  show zR ztb _ kX11_house 1 0 [some (.ref 25), some (.int a), some (.int b)] [] _ _ _ _
  repeat (first | ((with_reducible refine zR.stored ?_); dsimp only [zsto, zclr, zset, zget, zc2, cond_false, cond_true]) | ((with_reducible refine zR.atLit ?_); first | refine zR.step rfl ?_ | refine zR.cs rfl rfl rfl rfl rfl (zCalP.of (c_isWithin _ _ _) ?_)) | rw [zcc1] | rw [zcc2] | rw [zcc3] | rw [zcc4] | rw [e1])
  refine zR.cv rfl rfl rfl h25 rfl rfl (zCalP.of (c_refuse h25 _) ?_)
  repeat (first | rw [zcc1] | rw [zcc2] | rw [zcc3] | rw [zcc4] | refine zR.step rfl ?_)
  refine zR.ret rfl rfl ⟨_, rfl, ⟨_, (hR.out (by omega)).1⟩, rfl, ?_⟩
  replace hR : Rf (zup M 25 (.inr (11, tob (tst t 1)))) σ := hR.out (by omega)
  have hS : Sm (zup M 25 (.inr (11, tob (tst t 1)))) (zup M 25 (.inr (11, tob (tst t 1)))) := Sm.rf
  show zR ztb _ kX12_house 1 0 [some (.ref 287), some (.int a), some (.int b), none, none] [] _ _ _ _
  repeat (first | ((with_reducible refine zR.stored ?_); dsimp only [zsto, zclr, zset, zget, zc2, cond_false, cond_true]) | ((with_reducible refine zR.atLit ?_); first | refine zR.step rfl ?_ | refine zR.cs rfl rfl rfl rfl rfl (zCalP.of (c_in _ _ _) ?_)) | rw [zcc1] | rw [zcc2] | rw [zcc3] | rw [zcc4] | rw [e1])
  refine zR.cv rfl rfl rfl hR.1 rfl rfl (zR.mono (c_refused hR _) (fun v n' w' M' hv => ?_))
  obtain ⟨rfl, rfl, rfl, hR2, hS2⟩ := hv
  repeat (first | rw [zcc1] | rw [zcc2] | rw [zcc3] | rw [zcc4] | refine zR.step rfl ?_)
  refine zR.ret rfl rfl ⟨rfl, by omega, by omega, _, inv_fin ⟨hT, hG0, hG1, hG2⟩ hg hk ht hx hn hR2 (hS.trans hS2)⟩
theorem house_y {L : Nat} {xs : Nat → Int32} {a b : Int32} (e1 : inI a 1 6 = 1) (ra : inN a 1 6) : opOK (Inv L xs) 88 145 [.int a, .int b] := by
  intro  M σ n w hI
  have hI' := hI
  obtain ⟨t, tr, c0, c1, c2, k0, k1, k2, b0, b1, b2, l0, l1, l2, hR, ⟨hT, hG0, hG1, hG2⟩, hg, hk, ht, hx, hn⟩ := hI
  have h25 := hT.1
  have hg' := hg
  obtain ⟨nc, nh, nl, lm, wk, hN, ⟨hC, hCn⟩, hB, hL, hSt, hH, hW, hX⟩ := hg'
  obtain ⟨N1, N2, N3, N4, N5, N6, N7, N8, N9, N10, N11, N12, N13, N14, N15, N16, N17⟩ := hN
  obtain ⟨mk, mk2⟩ := msk8 ⟨nc, by omega⟩
  dsimp only at mk mk2
  have hp : 0 < 2 ^ nc := Nat.pos_of_ne_zero (by exact Nat.ne_of_gt (Nat.pow_pos (by omega)))
  show zR ztb _ kX11_house 1 0 [some (.ref 25), some (.int a), some (.int b)] [] _ _ _ _
  rcases inI_nat b 0 (2 ^ nc - 1) (by omega) (by omega) with ⟨x, -, hx2, rfl, e2⟩ | ⟨hb, e2⟩
  · have ec : inI (nI x) 0 (1 <<< (c0 0 0 &&& 31) - 1) = 1 := by rw [N11, N1, mk]; exact e2
    have hnn : ¬ nI x < 0 := nI_nn (by omega)
    have hsh : nI x >>> (σ 0 2 &&& 31) = 0 := by rw [N1]; exact shr_eq0 (k := nc) (by omega) (by omega)
    by_cases hm : nh = 10
    · have w1 : ¬ c0 0 1 < 10 := by rw [N12, N3, hm]; decide
      have w2 : σ 0 4 = 10 := by rw [N3, hm]; rfl
      repeat (first | ((with_reducible refine zR.stored ?_); dsimp only [zsto, zclr, zset, zget, zc2, cond_false, cond_true]) | ((with_reducible refine zR.atLit ?_); first | refine zR.step rfl ?_ | refine zR.cs rfl rfl rfl rfl rfl (zCalP.of (c_isWithin _ _ _) ?_) | refine zR.getf rfl (h25) rfl ?_ | refine zR.getf rfl (hG0.o) rfl ?_) | rw [zcc1] | rw [zcc2] | rw [zcc3] | rw [zcc4] | rw [e1] | rw [ec] | rw [zn1 (w1)] | rw [zn2 (w1)] | rw [zn3 (w1)] | rw [zn4 (w1)])
      refine zR.cv rfl rfl rfl h25 rfl rfl (zCalP.of (c_refuse h25 _) ?_)
      repeat (first | rw [zcc1] | rw [zcc2] | rw [zcc3] | rw [zcc4] | refine zR.step rfl ?_)
      refine zR.ret rfl rfl ⟨_, rfl, ⟨_, (hR.out (by omega)).1⟩, rfl, ?_⟩
      replace hR : Rf (zup M 25 (.inr (11, tob (tst t 2)))) σ := hR.out (by omega)
      have hS : Sm (zup M 25 (.inr (11, tob (tst t 2)))) (zup M 25 (.inr (11, tob (tst t 2)))) := Sm.rf
      show zR ztb _ kX12_house 1 0 [some (.ref 287), some (.int a), some (.int (nI x)), none, none] [] _ _ _ _
      repeat (first | ((with_reducible refine zR.stored ?_); dsimp only [zsto, zclr, zset, zget, zc2, cond_false, cond_true]) | ((with_reducible refine zR.atLit ?_); first | refine zR.step rfl ?_ | refine zR.cs rfl rfl rfl rfl rfl (zCalP.of (c_in _ _ _) ?_) | refine zR.getf rfl (hR.1) rfl ?_ | refine zR.ilR0 hR rfl (by (try simp only [zn_lit, zn_add, zn_mul]); rfl) (by omega) ?_) | rw [zcc1] | rw [zcc2] | rw [zcc3] | rw [zcc4] | rw [e1] | rw [zn1 (hnn)] | rw [zn2 (hnn)] | rw [zn3 (hnn)] | rw [zn4 (hnn)] | rw [hsh] | rw [zb1 (by decide)] | rw [zb2 (by decide)] | rw [zb3 (by decide)] | rw [zb4 (by decide)] | rw [zn1 (by decide)] | rw [zn2 (by decide)] | rw [zn3 (by decide)] | rw [zn4 (by decide)] | rw [ze1 (by decide)] | rw [ze2 (by decide)] | rw [zd1 (by decide)] | rw [zd2 (by decide)] | rw [zswy (by decide)] | rw [zswn (by decide)] | rw [zsw0] | rw [ze1 (w2)] | rw [ze2 (w2)])
      refine zR.cv rfl rfl rfl hR.1 rfl rfl (zR.mono (c_refused hR _) (fun v n' w' M' hv => ?_))
      obtain ⟨rfl, rfl, rfl, hR2, hS2⟩ := hv
      repeat (first | rw [zcc1] | rw [zcc2] | rw [zcc3] | rw [zcc4] | refine zR.step rfl ?_)
      refine zR.ret rfl rfl ⟨rfl, by omega, by omega, _, inv_fin ⟨hT, hG0, hG1, hG2⟩ hg hk ht hx hn hR2 (hS.trans hS2)⟩
    · have w1 : c0 0 1 < 10 := by rw [N12, N3]; exact zI_ylt (b := 10) (by omega) (by omega)
      have w2 : ¬ σ 0 4 = 10 := by rw [N3]; exact fun h => hm (zn_inj (b := 10) (by omega) (by omega) h)
      repeat (first | ((with_reducible refine zR.stored ?_); dsimp only [zsto, zclr, zset, zget, zc2, cond_false, cond_true]) | ((with_reducible refine zR.atLit ?_); first | refine zR.step rfl ?_ | refine zR.cs rfl rfl rfl rfl rfl (zCalP.of (c_isWithin _ _ _) ?_) | refine zR.getf rfl (h25) rfl ?_ | refine zR.getf rfl (hG0.o) rfl ?_) | rw [zcc1] | rw [zcc2] | rw [zcc3] | rw [zcc4] | rw [e1] | rw [ec] | rw [zb1 (w1)] | rw [zb2 (w1)] | rw [zb3 (w1)] | rw [zb4 (w1)])
      refine zR.cv rfl rfl rfl hG0.o rfl rfl (zR.mono (c_addHouse hG0 (N12.trans N3) (by omega) a (nI x)) (fun v' n' w' M' hv => ?_))
      obtain ⟨rfl, rfl, rfl, hG0', hF⟩ := hv
      have hT' : Tc M' t tr := hT.same (fun k hk => hF k (by omega))
      repeat (first | ((with_reducible refine zR.stored ?_); dsimp only [zsto, zclr, zset, zget, zc2, cond_false, cond_true]) | ((with_reducible refine zR.atLit ?_); first | refine zR.step rfl ?_) | rw [zcc1] | rw [zcc2] | rw [zcc3] | rw [zcc4])
      refine zR.cv rfl rfl rfl hT'.1 rfl rfl (zCalP.of (c_doneC hT'.1 _) ?_)
      repeat (first | ((with_reducible refine zR.stored ?_); dsimp only [zsto, zclr, zset, zget, zc2, cond_false, cond_true]) | ((with_reducible refine zR.atLit ?_); first | refine zR.step rfl ?_) | rw [zcc1] | rw [zcc2] | rw [zcc3] | rw [zcc4])
      replace hR : Rf (zup M' 25 (.inr (11, tob (tst t 0)))) σ := Rf.out ⟨by rw [hF _ (by omega)]; exact hR.1, fun j hj => by rw [hF _ (by omega)]; exact hR.2 j hj⟩ (by omega)
      refine zR.ret rfl rfl ⟨_, rfl, ⟨_, hR.1⟩, by rw [zup_ne _ _ (by omega), hF _ (by omega)], ?_⟩
      show zR ztb _ kX12_house 1 0 [some (.ref 287), some (.int a), some (.int (nI x)), none, none] [] _ _ _ _
      have ea : 1700 + 40 * nI nh = nI (1700 + 40 * nh) := by simp only [zn_lit, zn_add, zn_mul]
      repeat (first | ((with_reducible refine zR.stored ?_); dsimp only [zsto, zclr, zset, zget, zc2, cond_false, cond_true]) | ((with_reducible refine zR.atLit ?_); first | refine zR.step rfl ?_ | refine zR.cs rfl rfl rfl rfl rfl (zCalP.of (c_in _ _ _) ?_) | refine zR.getf rfl (hR.1) rfl ?_ | refine zR.ilR0 hR rfl (i := 2) rfl (by omega) ?_ | refine zR.ilR0 hR rfl (i := 4) rfl (by omega) ?_) | rw [zcc1] | rw [zcc2] | rw [zcc3] | rw [zcc4] | rw [e1] | rw [zn1 (hnn)] | rw [zn2 (hnn)] | rw [zn3 (hnn)] | rw [zn4 (hnn)] | rw [hsh] | rw [zb1 (by decide)] | rw [zb2 (by decide)] | rw [zb3 (by decide)] | rw [zb4 (by decide)] | rw [zn1 (by decide)] | rw [zn2 (by decide)] | rw [zn3 (by decide)] | rw [zn4 (by decide)] | rw [ze1 (by decide)] | rw [ze2 (by decide)] | rw [zd1 (by decide)] | rw [zd2 (by decide)] | rw [zswy (by decide)] | rw [zswn (by decide)] | rw [zsw0] | rw [zd1 (w2)] | rw [zd2 (w2)])
      rw [N3, ea]
      replace hR := hR.toY
      have hS := Sm.rf (M := zup M' 25 (.inr (11, tob (tst t 0))))
      refine zR.isY hR hS rfl (i := 1700 + 40 * nh) (by simp only [zn_lit, zn_add, zn_mul]; rfl) (by omega) (fun M1 hR hS => ?_)
      repeat (first | ((with_reducible refine zR.stored ?_); dsimp only [zsto, zclr, zset, zget, zc2, cond_false, cond_true]) | ((with_reducible refine zR.atLit ?_); first | refine zR.step rfl ?_ | refine zR.getf rfl (hR.1) rfl ?_) | rw [zcc1] | rw [zcc2] | rw [zcc3] | rw [zcc4])
      refine zR.isY hR hS rfl (i := 1701 + 40 * nh) (by simp only [zn_lit, zn_add, zn_mul]; exact congrArg nI (by omega)) (by omega) (fun M1 hR hS => ?_)
      repeat (first | with_reducible refine zR.hold (pc := 83) ?_ | ((with_reducible refine zR.stored ?_); dsimp only [zsto, zclr, zset, zget, zc2, cond_false, cond_true]) | ((with_reducible refine zR.atLit ?_); first | refine zR.step rfl ?_) | rw [zcc1] | rw [zcc2] | rw [zcc3] | rw [zcc4])
      refine ⟨trivial, hs_loop (y0 := zuf (zuf (σ 0) (1700 + 40 * nh) a) (1701 + 40 * nh) (nI x)) (by omega) (fun M2 y hR hS y1 y2 => ?_) 8 0 _ _ (by omega) hR hS (fun q hq => by omega) (fun q _ => rfl)⟩
      have y4 : y 4 = nI nh := by rw [y2 4 (by omega), zuf_ne _ _ (by omega), zuf_ne _ _ (by omega), N3]
      repeat (first | ((with_reducible refine zR.stored ?_); dsimp only [zsto, zclr, zset, zget, zc2, cond_false, cond_true]) | ((with_reducible refine zR.atLit ?_); first | refine zR.step rfl ?_ | refine zR.getf rfl (hR.1) rfl ?_ | (refine zR.ilY hR rfl (i := 4) rfl (by omega) ?_; rw [y4])) | rw [zcc1] | rw [zcc2] | rw [zcc3] | rw [zcc4])
      refine zR.isY hR hS rfl (i := 4) rfl (by omega) (fun M1 hR hS => ?_)
      have e0 : nI nh + 1 - 1 = nI nh := by rw [zI_s, zI_pred (by omega) (by omega)]; rfl
      repeat (first | ((with_reducible refine zR.stored ?_); dsimp only [zsto, zclr, zset, zget, zc2, cond_false, cond_true]) | ((with_reducible refine zR.atLit ?_); first | refine zR.step rfl ?_ | refine zR.getf rfl (hR.1) rfl ?_ | (refine zR.ilY hR rfl (i := 4) rfl (by omega) ?_; rw [zuf_self])) | rw [zcc1] | rw [zcc2] | rw [zcc3] | rw [zcc4])
      rw [e0]
      refine zR.cv rfl rfl rfl hR.1 rfl rfl (zR.mono (c_done hR _) (fun v n' w' M' hv => ?_))
      obtain ⟨rfl, rfl, rfl, hR2, hS2⟩ := hv
      repeat (first | rw [zcc1] | rw [zcc2] | rw [zcc3] | rw [zcc4] | refine zR.step rfl ?_)
      refine zR.ret rfl rfl ⟨rfl, by omega, by omega, _, inv_now hT hG1 hG2 hk ht hx hn (fun k h1 h2 => hF k (by omega)) (Nat.le_refl _) hG0' ((hg.mv (fun k a b => hF k (by omega)) (Nat.le_refl _)).nhouse N3 (by omega) ra ⟨x, rfl, by omega, by omega⟩ (zuf_self _ _ _) ?_ ?_ (fun q hq => by rw [zuf_ne _ _ (by omega)]; exact y1 q hq) (fun q h1 h2 h3 h4 => by rw [zuf_ne _ _ h1, y2 q h4, zuf_ne _ _ h3, zuf_ne _ _ h2])) hR2 (hS.trans hS2)⟩
      · rw [zuf_ne _ _ (by omega), y2 _ (by omega), zuf_ne _ _ (by omega), zuf_self]
      · rw [zuf_ne _ _ (by omega), y2 _ (by omega), zuf_self]
  · have ec : inI b 0 (1 <<< (c0 0 0 &&& 31) - 1) = 0 := by rw [N11, N1, mk]; exact e2
    repeat (first | ((with_reducible refine zR.stored ?_); dsimp only [zsto, zclr, zset, zget, zc2, cond_false, cond_true]) | ((with_reducible refine zR.atLit ?_); first | refine zR.step rfl ?_ | refine zR.cs rfl rfl rfl rfl rfl (zCalP.of (c_isWithin _ _ _) ?_) | refine zR.getf rfl (h25) rfl ?_ | refine zR.getf rfl (hG0.o) rfl ?_) | rw [zcc1] | rw [zcc2] | rw [zcc3] | rw [zcc4] | rw [e1] | rw [ec])
    refine zR.cv rfl rfl rfl h25 rfl rfl (zCalP.of (c_refuse h25 _) ?_)
    repeat (first | rw [zcc1] | rw [zcc2] | rw [zcc3] | rw [zcc4] | refine zR.step rfl ?_)
    refine zR.ret rfl rfl ⟨_, rfl, ⟨_, (hR.out (by omega)).1⟩, rfl, ?_⟩
    replace hR : Rf (zup M 25 (.inr (11, tob (tst t 1)))) σ := hR.out (by omega)
    have hS : Sm (zup M 25 (.inr (11, tob (tst t 1)))) (zup M 25 (.inr (11, tob (tst t 1)))) := Sm.rf
    show zR ztb _ kX12_house 1 0 [some (.ref 287), some (.int a), some (.int b), none, none] [] _ _ _ _
    by_cases h0 : b < 0
    · repeat (first | ((with_reducible refine zR.stored ?_); dsimp only [zsto, zclr, zset, zget, zc2, cond_false, cond_true]) | ((with_reducible refine zR.atLit ?_); first | refine zR.step rfl ?_ | refine zR.cs rfl rfl rfl rfl rfl (zCalP.of (c_in _ _ _) ?_)) | rw [zcc1] | rw [zcc2] | rw [zcc3] | rw [zcc4] | rw [e1] | rw [zb1 (h0)] | rw [zb2 (h0)] | rw [zb3 (h0)] | rw [zb4 (h0)])
      refine zR.cv rfl rfl rfl hR.1 rfl rfl (zR.mono (c_refused hR _) (fun v n' w' M' hv => ?_))
      obtain ⟨rfl, rfl, rfl, hR2, hS2⟩ := hv
      repeat (first | rw [zcc1] | rw [zcc2] | rw [zcc3] | rw [zcc4] | refine zR.step rfl ?_)
      refine zR.ret rfl rfl ⟨rfl, by omega, by omega, _, inv_fin ⟨hT, hG0, hG1, hG2⟩ hg hk ht hx hn hR2 (hS.trans hS2)⟩
    · have hsh : ¬ b >>> (σ 0 2 &&& 31) = 0 := by rw [N1]; exact shr_ne (by omega) (fun i hi => hb i (by omega) (by omega)) h0
      repeat (first | ((with_reducible refine zR.stored ?_); dsimp only [zsto, zclr, zset, zget, zc2, cond_false, cond_true]) | ((with_reducible refine zR.atLit ?_); first | refine zR.step rfl ?_ | refine zR.cs rfl rfl rfl rfl rfl (zCalP.of (c_in _ _ _) ?_) | refine zR.getf rfl (hR.1) rfl ?_ | refine zR.ilR0 hR rfl (by (try simp only [zn_lit, zn_add, zn_mul]); rfl) (by omega) ?_) | rw [zcc1] | rw [zcc2] | rw [zcc3] | rw [zcc4] | rw [e1] | rw [zn1 (h0)] | rw [zn2 (h0)] | rw [zn3 (h0)] | rw [zn4 (h0)] | rw [zd1 (hsh)] | rw [zd2 (hsh)])
      refine zR.cv rfl rfl rfl hR.1 rfl rfl (zR.mono (c_refused hR _) (fun v n' w' M' hv => ?_))
      obtain ⟨rfl, rfl, rfl, hR2, hS2⟩ := hv
      repeat (first | rw [zcc1] | rw [zcc2] | rw [zcc3] | rw [zcc4] | refine zR.step rfl ?_)
      refine zR.ret rfl rfl ⟨rfl, by omega, by omega, _, inv_fin ⟨hT, hG0, hG1, hG2⟩ hg hk ht hx hn hR2 (hS.trans hS2)⟩
theorem o_house {L : Nat} {xs : Nat → Int32} : op_house (Inv L xs) := by
  intro a b
  rcases inI_nat a 1 6 (by omega) (by omega) with ⟨i, h1, h2, h3, e⟩ | ⟨-, e⟩
  · exact house_y e ⟨i, h3, h1, h2⟩
  · exact house_n1 e
