
/-! cell, none. -/
theorem inI_int (v lo hi : Int32) : (inI v lo hi = 1 ∧ lo.toInt ≤ v.toInt ∧ v.toInt ≤ hi.toInt) ∨ (inI v lo hi = 0 ∧ ¬ (lo.toInt ≤ v.toInt ∧ v.toInt ≤ hi.toInt)) := by
  unfold inI
  by_cases h : v < lo
  · rw [if_pos h]
    rw [Int32.lt_iff_toInt_lt] at h
    exact Or.inr ⟨rfl, by omega⟩
  · rw [if_neg h]
    rw [Int32.lt_iff_toInt_lt] at h
    by_cases h2 : hi < v
    · rw [if_pos h2]
      rw [Int32.lt_iff_toInt_lt] at h2
      exact Or.inr ⟨rfl, by omega⟩
    · rw [if_neg h2]
      rw [Int32.lt_iff_toInt_lt] at h2
      exact Or.inl ⟨rfl, by omega, by omega⟩
theorem byte_b (v : Int32) : -1000 ≤ (v.toInt8.toInt32).toInt ∧ (v.toInt8.toInt32).toInt ≤ 1000 := by
  rw [Int8.toInt_toInt32]
  have h1 := Int8.le_toInt v.toInt8
  have h2 := Int8.toInt_lt v.toInt8
  omega
theorem small_ne {v : Int32} (h : -1000 ≤ v.toInt ∧ v.toInt ≤ 1000) : ¬ v = 100000 := by
  intro e
  rw [e, show (100000 : Int32).toInt = 100000 by decide] at h
  omega
theorem o_cell {L : Nat} {xs : Nat → Int32} : op_cell (Inv L xs) := by
  intro a b v M σ n w hI
  have hI' := hI
  obtain ⟨t, tr, c0, c1, c2, k0, k1, k2, b0, b1, b2, l0, l1, l2, hR, ⟨hT, hG0, hG1, hG2⟩, hg, hk, ht, hx, hn⟩ := hI
  have h25 := hT.1
  have hg' := hg
  obtain ⟨nc, nh, nl, lm, wk, hN, ⟨hC, hCn⟩, hB, hL, hSt, hH, hW, hX⟩ := hg'
  obtain ⟨N1, N2, N3, N4, N5, N6, N7, N8, N9, N10, N11, N12, N13, N14, N15, N16, N17⟩ := hN
  show zR ztb _ kX11_cell 1 0 [some (.ref 25), some (.int a), some (.int b), some (.int v), none] [] _ _ _ _
  rcases inI_nat a 0 3 (by omega) (by omega) with ⟨i, -, hi, rfl, e⟩ | ⟨-, e⟩
  · replace e : inI (nI i) 0 3 = 1 := e
    replace hi : i < 4 := by omega
    obtain ⟨T1, T2, T3, ⟨m, T4, -, T5⟩, T6⟩ := ht.2.2.2.2.2.2.2.2.2.2.2 i hi
    obtain ⟨hA, hB2⟩ := hT.2.2.2.2.2.2.2.2.2 i hi
    rw [T1, T2] at hA
    have eS : inI (nI i) 0 3 = 1 := inI_y (lo := 0) (hi := 3) (by omega) (by omega) (by omega)
    rcases inI_int v (-1000) 1000 with ⟨ev, v1, v2⟩ | ⟨ev, -⟩
    · rw [show (-1000 : Int32).toInt = -1000 by decide] at v1
      rw [show (1000 : Int32).toInt = 1000 by decide] at v2
      by_cases es : σ 4 i = -1
      · repeat (first | rw [zcc1] | rw [zcc2] | rw [zcc3] | rw [zcc4] | rw [ev] | rw [ze1 (es)] | rw [ze2 (es)] | refine zR.step rfl ?_ | refine zR.cv rfl rfl rfl h25 rfl rfl (zCalP.of (c_sheetAt_y hT (by omega)) ?_) | refine zR.cs rfl rfl rfl rfl rfl (zCalP.of (c_isWithin _ _ _) ?_) | refine zR.getf rfl (hA) rfl ?_)
        refine zR.cv rfl rfl rfl h25 rfl rfl (zCalP.of (c_refuse h25 _) ?_)
        repeat (first | rw [zcc1] | rw [zcc2] | rw [zcc3] | rw [zcc4] | refine zR.step rfl ?_)
        refine zR.ret rfl rfl ⟨_, rfl, ⟨_, (hR.out (by omega)).1⟩, rfl, ?_⟩
        replace hR : Rf (zup M 25 (.inr (11, tob (tst t 10)))) σ := hR.out (by omega)
        have hS : Sm (zup M 25 (.inr (11, tob (tst t 10)))) (zup M 25 (.inr (11, tob (tst t 10)))) := Sm.rf
        show zR ztb _ kX12_cell 1 0 [some (.ref 287), some (.int (nI i)), some (.int b), some (.int v)] [] _ _ _ _
        repeat (first | rw [zcc1] | rw [zcc2] | rw [zcc3] | rw [zcc4] | rw [eS] | rw [ev] | rw [ze1 (es)] | rw [ze2 (es)] | refine zR.step rfl ?_ | refine zR.getf rfl (hR.1) rfl ?_ | refine zR.cv rfl rfl rfl hR.1 rfl rfl (zCalP.of (c_isSheet _) ?_) | refine zR.cs rfl rfl rfl rfl rfl (zCalP.of (c_in _ _ _) ?_) | refine zR.ilR4 hR rfl (by (try simp only [zn_lit, zn_add, zn_mul]); rfl) (by omega) ?_)
        refine zR.cv rfl rfl rfl hR.1 rfl rfl (zR.mono (c_refused hR _) (fun v n' w' M' hv => ?_))
        obtain ⟨rfl, rfl, rfl, hR2, hS2⟩ := hv
        repeat (first | rw [zcc1] | rw [zcc2] | rw [zcc3] | rw [zcc4] | refine zR.step rfl ?_)
        refine zR.ret rfl rfl ⟨rfl, by omega, by omega, _, inv_fin ⟨hT, hG0, hG1, hG2⟩ hg hk ht hx hn hR2 (hS.trans hS2)⟩
      · rcases inI_sub b m (by omega) with ⟨j, hj, rfl, e2⟩ | ⟨-, e2⟩
        · have e3 : inI (nI j) 0 (σ 5 i - 1) = 1 := by rw [T4]; exact e2
          by_cases e0 : σ 4 i = 0
          · have hcv := cvt_ne (small_ne (byte_b v))
            repeat (first | rw [zcc1] | rw [zcc2] | rw [zcc3] | rw [zcc4] | rw [ev] | rw [zd1 (es)] | rw [zd2 (es)] | rw [e3] | rw [ze1 (e0)] | rw [ze2 (e0)] | refine zR.step rfl ?_ | refine zR.cv rfl rfl rfl h25 rfl rfl (zCalP.of (c_sheetAt_y hT (by omega)) ?_) | refine zR.cs rfl rfl rfl rfl rfl (zCalP.of (c_isWithin _ _ _) ?_) | refine zR.getf rfl (hA) rfl ?_)
            refine zR.iast rfl hB2 (i := j) rfl (by omega) (by decide) ?_
            have hT' := hT.num hi (zuf (t (30 + i)) j (v.toInt8.toInt32))
            repeat (first | rw [zcc1] | rw [zcc2] | rw [zcc3] | rw [zcc4] | rw [zb1 (by decide)] | rw [zb2 (by decide)] | rw [zb3 (by decide)] | rw [zb4 (by decide)] | rw [zn1 (by decide)] | rw [zn2 (by decide)] | rw [zn3 (by decide)] | rw [zn4 (by decide)] | rw [ze1 (by decide)] | rw [ze2 (by decide)] | rw [zd1 (by decide)] | rw [zd2 (by decide)] | rw [zswy (by decide)] | rw [zswn (by decide)] | rw [zsw0] | refine zR.step rfl ?_)
            refine zR.cv rfl rfl rfl hT'.1 rfl rfl (zCalP.of (c_doneC hT'.1 _) ?_)
            repeat (first | rw [zcc1] | rw [zcc2] | rw [zcc3] | rw [zcc4] | refine zR.step rfl ?_)
            have hR0 := hR
            replace hR := (hR.out (a := 280 + 2 * i) (c := .inl (0, 40, .inl (zuf (t (30 + i)) j (v.toInt8.toInt32)))) (by omega)).out (a := 25) (c := .inr (11, tob (tst (zuf t (30 + i) (zuf (t (30 + i)) j (v.toInt8.toInt32))) 0))) (by omega)
            refine zR.ret rfl rfl ⟨_, rfl, ⟨_, hR.1⟩, by rw [zup_ne _ _ (by omega), zup_ne _ _ (by omega)], ?_⟩
            clear hR0
            show zR ztb _ kX12_cell 1 0 [some (.ref 287), some (.int (nI i)), some (.int (nI j)), some (.int v)] [] _ _ _ _
            repeat (first | rw [zcc1] | rw [zcc2] | rw [zcc3] | rw [zcc4] | rw [eS] | rw [ev] | rw [zd1 (es)] | rw [zd2 (es)] | rw [e3] | rw [ze1 (e0)] | rw [ze2 (e0)] | refine zR.step rfl ?_ | refine zR.getf rfl (hR.1) rfl ?_ | refine zR.cv rfl rfl rfl hR.1 rfl rfl (zCalP.of (c_isSheet _) ?_) | refine zR.cs rfl rfl rfl rfl rfl (zCalP.of (c_in _ _ _) ?_) | refine zR.ilR4 hR rfl (by (try simp only [zn_lit, zn_add, zn_mul]); rfl) (by omega) ?_ | refine zR.ilR5 hR rfl (by (try simp only [zn_lit, zn_add, zn_mul]); rfl) (by omega) ?_)
            refine zR.isR6 hR Sm.rf rfl (i := 40 * i + j) (by simp only [zn_lit, zn_add, zn_mul]) (by omega) (fun M1 hR1 hS1 => ?_)
            replace hR := hR1
            repeat (first | rw [zcc1] | rw [zcc2] | rw [zcc3] | rw [zcc4] | refine zR.step rfl ?_)
            refine zR.cv rfl rfl rfl hR.1 rfl rfl (zR.mono (c_done hR _) (fun v n' w' M' hv => ?_))
            obtain ⟨rfl, rfl, rfl, hR2, hS2⟩ := hv
            repeat (first | rw [zcc1] | rw [zcc2] | rw [zcc3] | rw [zcc4] | refine zR.step rfl ?_)
            have tq : zuf t (20 + i) (t (20 + i)) = t := zuf_id rfl
            have sq : zuf (zuf (zuf σ 4 (σ 4)) 5 (σ 5)) 6 (zuf (σ 6) (40 * i + j) (v.toInt8.toInt32)) = zuf σ 6 (zuf (σ 6) (40 * i + j) (v.toInt8.toInt32)) := by rw [zuf_id rfl, zuf_id rfl]
            have ht' := TR.sh ht hi (x := t (20 + i)) (f := zuf (t (30 + i)) j (cvt (v.toInt8.toInt32))) (y4 := σ 4) (y5 := σ 5) (y6 := zuf (σ 6) (40 * i + j) (v.toInt8.toInt32)) (fun _ _ => rfl) (fun _ _ => rfl) (fun k hk => zuf_ne _ _ (by omega)) ⟨T1, T2, T3, ⟨m, T4, by omega, T5⟩, fun k hk => by
              by_cases ek : k = j
              · subst ek
                rw [zuf_self, zuf_self]
                exact ⟨rfl, Or.inr (byte_b v)⟩
              · rw [zuf_ne _ _ ek, zuf_ne _ _ (show 40 * i + k ≠ 40 * i + j by omega)]
                exact T6 k hk⟩
            rw [tq, sq] at ht'
            rw [hcv] at ht'
            refine zR.ret rfl rfl ⟨rfl, by omega, by omega, _, inv_top (σ := σ) (σ' := zuf σ 6 (zuf (σ 6) (40 * i + j) (v.toInt8.toInt32))) hT' hG0 hG1 hG2 hg hk rfl rfl rfl ht' hx hn (fun k hk => zup_ne _ _ (by omega)) hR2 (hS1.trans hS2)⟩
          · have hcv := cvt_ne (small_ne ⟨v1, v2⟩)
            repeat (first | rw [zcc1] | rw [zcc2] | rw [zcc3] | rw [zcc4] | rw [ev] | rw [zd1 (es)] | rw [zd2 (es)] | rw [e3] | rw [zd1 (e0)] | rw [zd2 (e0)] | refine zR.step rfl ?_ | refine zR.cv rfl rfl rfl h25 rfl rfl (zCalP.of (c_sheetAt_y hT (by omega)) ?_) | refine zR.cs rfl rfl rfl rfl rfl (zCalP.of (c_isWithin _ _ _) ?_) | refine zR.getf rfl (hA) rfl ?_)
            refine zR.iast rfl hB2 (i := j) rfl (by omega) (by decide) ?_
            have hT' := hT.num hi (zuf (t (30 + i)) j (v))
            repeat (first | rw [zcc1] | rw [zcc2] | rw [zcc3] | rw [zcc4] | rw [zb1 (by decide)] | rw [zb2 (by decide)] | rw [zb3 (by decide)] | rw [zb4 (by decide)] | rw [zn1 (by decide)] | rw [zn2 (by decide)] | rw [zn3 (by decide)] | rw [zn4 (by decide)] | rw [ze1 (by decide)] | rw [ze2 (by decide)] | rw [zd1 (by decide)] | rw [zd2 (by decide)] | rw [zswy (by decide)] | rw [zswn (by decide)] | rw [zsw0] | refine zR.step rfl ?_)
            refine zR.cv rfl rfl rfl hT'.1 rfl rfl (zCalP.of (c_doneC hT'.1 _) ?_)
            repeat (first | rw [zcc1] | rw [zcc2] | rw [zcc3] | rw [zcc4] | refine zR.step rfl ?_)
            have hR0 := hR
            replace hR := (hR.out (a := 280 + 2 * i) (c := .inl (0, 40, .inl (zuf (t (30 + i)) j (v)))) (by omega)).out (a := 25) (c := .inr (11, tob (tst (zuf t (30 + i) (zuf (t (30 + i)) j (v))) 0))) (by omega)
            refine zR.ret rfl rfl ⟨_, rfl, ⟨_, hR.1⟩, by rw [zup_ne _ _ (by omega), zup_ne _ _ (by omega)], ?_⟩
            clear hR0
            show zR ztb _ kX12_cell 1 0 [some (.ref 287), some (.int (nI i)), some (.int (nI j)), some (.int v)] [] _ _ _ _
            repeat (first | rw [zcc1] | rw [zcc2] | rw [zcc3] | rw [zcc4] | rw [eS] | rw [ev] | rw [zd1 (es)] | rw [zd2 (es)] | rw [e3] | rw [zd1 (e0)] | rw [zd2 (e0)] | refine zR.step rfl ?_ | refine zR.getf rfl (hR.1) rfl ?_ | refine zR.cv rfl rfl rfl hR.1 rfl rfl (zCalP.of (c_isSheet _) ?_) | refine zR.cs rfl rfl rfl rfl rfl (zCalP.of (c_in _ _ _) ?_) | refine zR.ilR4 hR rfl (by (try simp only [zn_lit, zn_add, zn_mul]); rfl) (by omega) ?_ | refine zR.ilR5 hR rfl (by (try simp only [zn_lit, zn_add, zn_mul]); rfl) (by omega) ?_)
            refine zR.isR6 hR Sm.rf rfl (i := 40 * i + j) (by simp only [zn_lit, zn_add, zn_mul]) (by omega) (fun M1 hR1 hS1 => ?_)
            replace hR := hR1
            repeat (first | rw [zcc1] | rw [zcc2] | rw [zcc3] | rw [zcc4] | refine zR.step rfl ?_)
            refine zR.cv rfl rfl rfl hR.1 rfl rfl (zR.mono (c_done hR _) (fun v n' w' M' hv => ?_))
            obtain ⟨rfl, rfl, rfl, hR2, hS2⟩ := hv
            repeat (first | rw [zcc1] | rw [zcc2] | rw [zcc3] | rw [zcc4] | refine zR.step rfl ?_)
            have tq : zuf t (20 + i) (t (20 + i)) = t := zuf_id rfl
            have sq : zuf (zuf (zuf σ 4 (σ 4)) 5 (σ 5)) 6 (zuf (σ 6) (40 * i + j) (v)) = zuf σ 6 (zuf (σ 6) (40 * i + j) (v)) := by rw [zuf_id rfl, zuf_id rfl]
            have ht' := TR.sh ht hi (x := t (20 + i)) (f := zuf (t (30 + i)) j (cvt (v))) (y4 := σ 4) (y5 := σ 5) (y6 := zuf (σ 6) (40 * i + j) (v)) (fun _ _ => rfl) (fun _ _ => rfl) (fun k hk => zuf_ne _ _ (by omega)) ⟨T1, T2, T3, ⟨m, T4, by omega, T5⟩, fun k hk => by
              by_cases ek : k = j
              · subst ek
                rw [zuf_self, zuf_self]
                exact ⟨rfl, Or.inr ⟨v1, v2⟩⟩
              · rw [zuf_ne _ _ ek, zuf_ne _ _ (show 40 * i + k ≠ 40 * i + j by omega)]
                exact T6 k hk⟩
            rw [tq, sq] at ht'
            rw [hcv] at ht'
            refine zR.ret rfl rfl ⟨rfl, by omega, by omega, _, inv_top (σ := σ) (σ' := zuf σ 6 (zuf (σ 6) (40 * i + j) (v))) hT' hG0 hG1 hG2 hg hk rfl rfl rfl ht' hx hn (fun k hk => zup_ne _ _ (by omega)) hR2 (hS1.trans hS2)⟩
        · have e3 : inI b 0 (σ 5 i - 1) = 0 := by rw [T4]; exact e2
          repeat (first | rw [zcc1] | rw [zcc2] | rw [zcc3] | rw [zcc4] | rw [ev] | rw [zd1 (es)] | rw [zd2 (es)] | rw [e3] | refine zR.step rfl ?_ | refine zR.cv rfl rfl rfl h25 rfl rfl (zCalP.of (c_sheetAt_y hT (by omega)) ?_) | refine zR.cs rfl rfl rfl rfl rfl (zCalP.of (c_isWithin _ _ _) ?_) | refine zR.getf rfl (hA) rfl ?_)
          refine zR.cv rfl rfl rfl h25 rfl rfl (zCalP.of (c_refuse h25 _) ?_)
          repeat (first | rw [zcc1] | rw [zcc2] | rw [zcc3] | rw [zcc4] | refine zR.step rfl ?_)
          refine zR.ret rfl rfl ⟨_, rfl, ⟨_, (hR.out (by omega)).1⟩, rfl, ?_⟩
          replace hR : Rf (zup M 25 (.inr (11, tob (tst t 12)))) σ := hR.out (by omega)
          have hS : Sm (zup M 25 (.inr (11, tob (tst t 12)))) (zup M 25 (.inr (11, tob (tst t 12)))) := Sm.rf
          show zR ztb _ kX12_cell 1 0 [some (.ref 287), some (.int (nI i)), some (.int b), some (.int v)] [] _ _ _ _
          repeat (first | rw [zcc1] | rw [zcc2] | rw [zcc3] | rw [zcc4] | rw [eS] | rw [ev] | rw [zd1 (es)] | rw [zd2 (es)] | rw [e3] | refine zR.step rfl ?_ | refine zR.getf rfl (hR.1) rfl ?_ | refine zR.cv rfl rfl rfl hR.1 rfl rfl (zCalP.of (c_isSheet _) ?_) | refine zR.cs rfl rfl rfl rfl rfl (zCalP.of (c_in _ _ _) ?_) | refine zR.ilR4 hR rfl (by (try simp only [zn_lit, zn_add, zn_mul]); rfl) (by omega) ?_ | refine zR.ilR5 hR rfl (by (try simp only [zn_lit, zn_add, zn_mul]); rfl) (by omega) ?_)
          refine zR.cv rfl rfl rfl hR.1 rfl rfl (zR.mono (c_refused hR _) (fun v n' w' M' hv => ?_))
          obtain ⟨rfl, rfl, rfl, hR2, hS2⟩ := hv
          repeat (first | rw [zcc1] | rw [zcc2] | rw [zcc3] | rw [zcc4] | refine zR.step rfl ?_)
          refine zR.ret rfl rfl ⟨rfl, by omega, by omega, _, inv_fin ⟨hT, hG0, hG1, hG2⟩ hg hk ht hx hn hR2 (hS.trans hS2)⟩
    · repeat (first | rw [zcc1] | rw [zcc2] | rw [zcc3] | rw [zcc4] | rw [ev] | refine zR.step rfl ?_ | refine zR.cv rfl rfl rfl h25 rfl rfl (zCalP.of (c_sheetAt_y hT (by omega)) ?_) | refine zR.cs rfl rfl rfl rfl rfl (zCalP.of (c_isWithin _ _ _) ?_) | refine zR.getf rfl (hA) rfl ?_)
      refine zR.cv rfl rfl rfl h25 rfl rfl (zCalP.of (c_refuse h25 _) ?_)
      repeat (first | rw [zcc1] | rw [zcc2] | rw [zcc3] | rw [zcc4] | refine zR.step rfl ?_)
      refine zR.ret rfl rfl ⟨_, rfl, ⟨_, (hR.out (by omega)).1⟩, rfl, ?_⟩
      replace hR : Rf (zup M 25 (.inr (11, tob (tst t 1)))) σ := hR.out (by omega)
      have hS : Sm (zup M 25 (.inr (11, tob (tst t 1)))) (zup M 25 (.inr (11, tob (tst t 1)))) := Sm.rf
      show zR ztb _ kX12_cell 1 0 [some (.ref 287), some (.int (nI i)), some (.int b), some (.int v)] [] _ _ _ _
      repeat (first | rw [zcc1] | rw [zcc2] | rw [zcc3] | rw [zcc4] | rw [eS] | rw [ev] | refine zR.step rfl ?_ | refine zR.getf rfl (hR.1) rfl ?_ | refine zR.cv rfl rfl rfl hR.1 rfl rfl (zCalP.of (c_isSheet _) ?_) | refine zR.cs rfl rfl rfl rfl rfl (zCalP.of (c_in _ _ _) ?_))
      refine zR.cv rfl rfl rfl hR.1 rfl rfl (zR.mono (c_refused hR _) (fun v n' w' M' hv => ?_))
      obtain ⟨rfl, rfl, rfl, hR2, hS2⟩ := hv
      repeat (first | rw [zcc1] | rw [zcc2] | rw [zcc3] | rw [zcc4] | refine zR.step rfl ?_)
      refine zR.ret rfl rfl ⟨rfl, by omega, by omega, _, inv_fin ⟨hT, hG0, hG1, hG2⟩ hg hk ht hx hn hR2 (hS.trans hS2)⟩
  · replace e : inI a 0 3 = 0 := e
    repeat (first | rw [zcc1] | rw [zcc2] | rw [zcc3] | rw [zcc4] | refine zR.step rfl ?_ | refine zR.cv rfl rfl rfl h25 rfl rfl (zCalP.of (c_sheetAt_n hT e) ?_))
    refine zR.cv rfl rfl rfl h25 rfl rfl (zCalP.of (c_refuse h25 _) ?_)
    repeat (first | rw [zcc1] | rw [zcc2] | rw [zcc3] | rw [zcc4] | refine zR.step rfl ?_)
    refine zR.ret rfl rfl ⟨_, rfl, ⟨_, (hR.out (by omega)).1⟩, rfl, ?_⟩
    replace hR : Rf (zup M 25 (.inr (11, tob (tst t 1)))) σ := hR.out (by omega)
    have hS : Sm (zup M 25 (.inr (11, tob (tst t 1)))) (zup M 25 (.inr (11, tob (tst t 1)))) := Sm.rf
    show zR ztb _ kX12_cell 1 0 [some (.ref 287), some (.int a), some (.int b), some (.int v)] [] _ _ _ _
    repeat (first | rw [zcc1] | rw [zcc2] | rw [zcc3] | rw [zcc4] | rw [e] | refine zR.step rfl ?_ | refine zR.getf rfl (hR.1) rfl ?_ | refine zR.cv rfl rfl rfl hR.1 rfl rfl (zCalP.of (c_isSheet _) ?_))
    refine zR.cv rfl rfl rfl hR.1 rfl rfl (zR.mono (c_refused hR _) (fun v n' w' M' hv => ?_))
    obtain ⟨rfl, rfl, rfl, hR2, hS2⟩ := hv
    repeat (first | rw [zcc1] | rw [zcc2] | rw [zcc3] | rw [zcc4] | refine zR.step rfl ?_)
    refine zR.ret rfl rfl ⟨rfl, by omega, by omega, _, inv_fin ⟨hT, hG0, hG1, hG2⟩ hg hk ht hx hn hR2 (hS.trans hS2)⟩
theorem o_none {L : Nat} {xs : Nat → Int32} : op_none (Inv L xs) := by
  intro a b M σ n w hI
  have hI' := hI
  obtain ⟨t, tr, c0, c1, c2, k0, k1, k2, b0, b1, b2, l0, l1, l2, hR, ⟨hT, hG0, hG1, hG2⟩, hg, hk, ht, hx, hn⟩ := hI
  have h25 := hT.1
  have hg' := hg
  obtain ⟨nc, nh, nl, lm, wk, hN, ⟨hC, hCn⟩, hB, hL, hSt, hH, hW, hX⟩ := hg'
  obtain ⟨N1, N2, N3, N4, N5, N6, N7, N8, N9, N10, N11, N12, N13, N14, N15, N16, N17⟩ := hN
  show zR ztb _ kX11_none 1 0 [some (.ref 25), some (.int a), some (.int b), none] [] _ _ _ _
  rcases inI_nat a 0 3 (by omega) (by omega) with ⟨i, -, hi, rfl, e⟩ | ⟨-, e⟩
  · replace e : inI (nI i) 0 3 = 1 := e
    replace hi : i < 4 := by omega
    obtain ⟨T1, T2, T3, ⟨m, T4, -, T5⟩, T6⟩ := ht.2.2.2.2.2.2.2.2.2.2.2 i hi
    obtain ⟨hA, hB2⟩ := hT.2.2.2.2.2.2.2.2.2 i hi
    rw [T1, T2] at hA
    have eS : inI (nI i) 0 3 = 1 := inI_y (lo := 0) (hi := 3) (by omega) (by omega) (by omega)
    by_cases es : σ 4 i = -1
    · repeat (first | rw [zcc1] | rw [zcc2] | rw [zcc3] | rw [zcc4] | rw [ze1 (es)] | rw [ze2 (es)] | refine zR.step rfl ?_ | refine zR.cv rfl rfl rfl h25 rfl rfl (zCalP.of (c_sheetAt_y hT (by omega)) ?_) | refine zR.getf rfl (hA) rfl ?_)
      refine zR.cv rfl rfl rfl h25 rfl rfl (zCalP.of (c_refuse h25 _) ?_)
      repeat (first | rw [zcc1] | rw [zcc2] | rw [zcc3] | rw [zcc4] | refine zR.step rfl ?_)
      refine zR.ret rfl rfl ⟨_, rfl, ⟨_, (hR.out (by omega)).1⟩, rfl, ?_⟩
      replace hR : Rf (zup M 25 (.inr (11, tob (tst t 10)))) σ := hR.out (by omega)
      have hS : Sm (zup M 25 (.inr (11, tob (tst t 10)))) (zup M 25 (.inr (11, tob (tst t 10)))) := Sm.rf
      show zR ztb _ kX12_none 1 0 [some (.ref 287), some (.int (nI i)), some (.int b)] [] _ _ _ _
      repeat (first | rw [zcc1] | rw [zcc2] | rw [zcc3] | rw [zcc4] | rw [eS] | rw [ze1 (es)] | rw [ze2 (es)] | refine zR.step rfl ?_ | refine zR.getf rfl (hR.1) rfl ?_ | refine zR.cv rfl rfl rfl hR.1 rfl rfl (zCalP.of (c_isSheet _) ?_) | refine zR.ilR4 hR rfl (by (try simp only [zn_lit, zn_add, zn_mul]); rfl) (by omega) ?_)
      refine zR.cv rfl rfl rfl hR.1 rfl rfl (zR.mono (c_refused hR _) (fun v n' w' M' hv => ?_))
      obtain ⟨rfl, rfl, rfl, hR2, hS2⟩ := hv
      repeat (first | rw [zcc1] | rw [zcc2] | rw [zcc3] | rw [zcc4] | refine zR.step rfl ?_)
      refine zR.ret rfl rfl ⟨rfl, by omega, by omega, _, inv_fin ⟨hT, hG0, hG1, hG2⟩ hg hk ht hx hn hR2 (hS.trans hS2)⟩
    · by_cases e0 : σ 4 i = 2
      · rcases inI_sub b m (by omega) with ⟨j, hj, rfl, e2⟩ | ⟨-, e2⟩
        · have e3 : inI (nI j) 0 (σ 5 i - 1) = 1 := by rw [T4]; exact e2
          repeat (first | rw [zcc1] | rw [zcc2] | rw [zcc3] | rw [zcc4] | rw [zd1 (es)] | rw [zd2 (es)] | rw [e3] | rw [ze1 (e0)] | rw [ze2 (e0)] | refine zR.step rfl ?_ | refine zR.cv rfl rfl rfl h25 rfl rfl (zCalP.of (c_sheetAt_y hT (by omega)) ?_) | refine zR.cs rfl rfl rfl rfl rfl (zCalP.of (c_isWithin _ _ _) ?_) | refine zR.getf rfl (hA) rfl ?_)
          refine zR.iast rfl hB2 (i := j) rfl (by omega) (by decide) ?_
          have hT' := hT.num hi (zuf (t (30 + i)) j (-1001))
          repeat (first | rw [zcc1] | rw [zcc2] | rw [zcc3] | rw [zcc4] | rw [zb1 (by decide)] | rw [zb2 (by decide)] | rw [zb3 (by decide)] | rw [zb4 (by decide)] | rw [zn1 (by decide)] | rw [zn2 (by decide)] | rw [zn3 (by decide)] | rw [zn4 (by decide)] | rw [ze1 (by decide)] | rw [ze2 (by decide)] | rw [zd1 (by decide)] | rw [zd2 (by decide)] | rw [zswy (by decide)] | rw [zswn (by decide)] | rw [zsw0] | refine zR.step rfl ?_)
          refine zR.cv rfl rfl rfl hT'.1 rfl rfl (zCalP.of (c_doneC hT'.1 _) ?_)
          repeat (first | rw [zcc1] | rw [zcc2] | rw [zcc3] | rw [zcc4] | refine zR.step rfl ?_)
          have hR0 := hR
          replace hR := (hR.out (a := 280 + 2 * i) (c := .inl (0, 40, .inl (zuf (t (30 + i)) j (-1001)))) (by omega)).out (a := 25) (c := .inr (11, tob (tst (zuf t (30 + i) (zuf (t (30 + i)) j (-1001))) 0))) (by omega)
          refine zR.ret rfl rfl ⟨_, rfl, ⟨_, hR.1⟩, by rw [zup_ne _ _ (by omega), zup_ne _ _ (by omega)], ?_⟩
          clear hR0
          show zR ztb _ kX12_none 1 0 [some (.ref 287), some (.int (nI i)), some (.int (nI j))] [] _ _ _ _
          repeat (first | rw [zcc1] | rw [zcc2] | rw [zcc3] | rw [zcc4] | rw [eS] | rw [zd1 (es)] | rw [zd2 (es)] | rw [e3] | rw [ze1 (e0)] | rw [ze2 (e0)] | refine zR.step rfl ?_ | refine zR.getf rfl (hR.1) rfl ?_ | refine zR.cv rfl rfl rfl hR.1 rfl rfl (zCalP.of (c_isSheet _) ?_) | refine zR.cs rfl rfl rfl rfl rfl (zCalP.of (c_in _ _ _) ?_) | refine zR.ilR4 hR rfl (by (try simp only [zn_lit, zn_add, zn_mul]); rfl) (by omega) ?_ | refine zR.ilR5 hR rfl (by (try simp only [zn_lit, zn_add, zn_mul]); rfl) (by omega) ?_)
          refine zR.isR6 hR Sm.rf rfl (i := 40 * i + j) (by simp only [zn_lit, zn_add, zn_mul]) (by omega) (fun M1 hR1 hS1 => ?_)
          replace hR := hR1
          repeat (first | rw [zcc1] | rw [zcc2] | rw [zcc3] | rw [zcc4] | refine zR.step rfl ?_)
          refine zR.cv rfl rfl rfl hR.1 rfl rfl (zR.mono (c_done hR _) (fun v n' w' M' hv => ?_))
          obtain ⟨rfl, rfl, rfl, hR2, hS2⟩ := hv
          repeat (first | rw [zcc1] | rw [zcc2] | rw [zcc3] | rw [zcc4] | refine zR.step rfl ?_)
          have tq : zuf t (20 + i) (t (20 + i)) = t := zuf_id rfl
          have sq : zuf (zuf (zuf σ 4 (σ 4)) 5 (σ 5)) 6 (zuf (σ 6) (40 * i + j) (100000)) = zuf σ 6 (zuf (σ 6) (40 * i + j) (100000)) := by rw [zuf_id rfl, zuf_id rfl]
          have ht' := TR.sh ht hi (x := t (20 + i)) (f := zuf (t (30 + i)) j (cvt (100000))) (y4 := σ 4) (y5 := σ 5) (y6 := zuf (σ 6) (40 * i + j) (100000)) (fun _ _ => rfl) (fun _ _ => rfl) (fun k hk => zuf_ne _ _ (by omega)) ⟨T1, T2, T3, ⟨m, T4, by omega, T5⟩, fun k hk => by
            by_cases ek : k = j
            · subst ek
              rw [zuf_self, zuf_self]
              exact ⟨rfl, Or.inl ⟨rfl, e0⟩⟩
            · rw [zuf_ne _ _ ek, zuf_ne _ _ (show 40 * i + k ≠ 40 * i + j by omega)]
              exact T6 k hk⟩
          rw [tq, sq] at ht'
          refine zR.ret rfl rfl ⟨rfl, by omega, by omega, _, inv_top (σ := σ) (σ' := zuf σ 6 (zuf (σ 6) (40 * i + j) (100000))) hT' hG0 hG1 hG2 hg hk rfl rfl rfl ht' hx hn (fun k hk => zup_ne _ _ (by omega)) hR2 (hS1.trans hS2)⟩
        · have e3 : inI b 0 (σ 5 i - 1) = 0 := by rw [T4]; exact e2
          repeat (first | rw [zcc1] | rw [zcc2] | rw [zcc3] | rw [zcc4] | rw [zd1 (es)] | rw [zd2 (es)] | rw [e3] | rw [ze1 (e0)] | rw [ze2 (e0)] | refine zR.step rfl ?_ | refine zR.cv rfl rfl rfl h25 rfl rfl (zCalP.of (c_sheetAt_y hT (by omega)) ?_) | refine zR.cs rfl rfl rfl rfl rfl (zCalP.of (c_isWithin _ _ _) ?_) | refine zR.getf rfl (hA) rfl ?_)
          refine zR.cv rfl rfl rfl h25 rfl rfl (zCalP.of (c_refuse h25 _) ?_)
          repeat (first | rw [zcc1] | rw [zcc2] | rw [zcc3] | rw [zcc4] | refine zR.step rfl ?_)
          refine zR.ret rfl rfl ⟨_, rfl, ⟨_, (hR.out (by omega)).1⟩, rfl, ?_⟩
          replace hR : Rf (zup M 25 (.inr (11, tob (tst t 12)))) σ := hR.out (by omega)
          have hS : Sm (zup M 25 (.inr (11, tob (tst t 12)))) (zup M 25 (.inr (11, tob (tst t 12)))) := Sm.rf
          show zR ztb _ kX12_none 1 0 [some (.ref 287), some (.int (nI i)), some (.int b)] [] _ _ _ _
          repeat (first | rw [zcc1] | rw [zcc2] | rw [zcc3] | rw [zcc4] | rw [eS] | rw [zd1 (es)] | rw [zd2 (es)] | rw [e3] | rw [ze1 (e0)] | rw [ze2 (e0)] | refine zR.step rfl ?_ | refine zR.getf rfl (hR.1) rfl ?_ | refine zR.cv rfl rfl rfl hR.1 rfl rfl (zCalP.of (c_isSheet _) ?_) | refine zR.cs rfl rfl rfl rfl rfl (zCalP.of (c_in _ _ _) ?_) | refine zR.ilR4 hR rfl (by (try simp only [zn_lit, zn_add, zn_mul]); rfl) (by omega) ?_ | refine zR.ilR5 hR rfl (by (try simp only [zn_lit, zn_add, zn_mul]); rfl) (by omega) ?_)
          refine zR.cv rfl rfl rfl hR.1 rfl rfl (zR.mono (c_refused hR _) (fun v n' w' M' hv => ?_))
          obtain ⟨rfl, rfl, rfl, hR2, hS2⟩ := hv
          repeat (first | rw [zcc1] | rw [zcc2] | rw [zcc3] | rw [zcc4] | refine zR.step rfl ?_)
          refine zR.ret rfl rfl ⟨rfl, by omega, by omega, _, inv_fin ⟨hT, hG0, hG1, hG2⟩ hg hk ht hx hn hR2 (hS.trans hS2)⟩
      · repeat (first | rw [zcc1] | rw [zcc2] | rw [zcc3] | rw [zcc4] | rw [zd1 (es)] | rw [zd2 (es)] | rw [zd1 (e0)] | rw [zd2 (e0)] | refine zR.step rfl ?_ | refine zR.cv rfl rfl rfl h25 rfl rfl (zCalP.of (c_sheetAt_y hT (by omega)) ?_) | refine zR.getf rfl (hA) rfl ?_)
        refine zR.cv rfl rfl rfl h25 rfl rfl (zCalP.of (c_refuse h25 _) ?_)
        repeat (first | rw [zcc1] | rw [zcc2] | rw [zcc3] | rw [zcc4] | refine zR.step rfl ?_)
        refine zR.ret rfl rfl ⟨_, rfl, ⟨_, (hR.out (by omega)).1⟩, rfl, ?_⟩
        replace hR : Rf (zup M 25 (.inr (11, tob (tst t 11)))) σ := hR.out (by omega)
        have hS : Sm (zup M 25 (.inr (11, tob (tst t 11)))) (zup M 25 (.inr (11, tob (tst t 11)))) := Sm.rf
        show zR ztb _ kX12_none 1 0 [some (.ref 287), some (.int (nI i)), some (.int b)] [] _ _ _ _
        repeat (first | rw [zcc1] | rw [zcc2] | rw [zcc3] | rw [zcc4] | rw [eS] | rw [zd1 (es)] | rw [zd2 (es)] | rw [zd1 (e0)] | rw [zd2 (e0)] | refine zR.step rfl ?_ | refine zR.getf rfl (hR.1) rfl ?_ | refine zR.cv rfl rfl rfl hR.1 rfl rfl (zCalP.of (c_isSheet _) ?_) | refine zR.ilR4 hR rfl (by (try simp only [zn_lit, zn_add, zn_mul]); rfl) (by omega) ?_)
        refine zR.cv rfl rfl rfl hR.1 rfl rfl (zR.mono (c_refused hR _) (fun v n' w' M' hv => ?_))
        obtain ⟨rfl, rfl, rfl, hR2, hS2⟩ := hv
        repeat (first | rw [zcc1] | rw [zcc2] | rw [zcc3] | rw [zcc4] | refine zR.step rfl ?_)
        refine zR.ret rfl rfl ⟨rfl, by omega, by omega, _, inv_fin ⟨hT, hG0, hG1, hG2⟩ hg hk ht hx hn hR2 (hS.trans hS2)⟩
  · replace e : inI a 0 3 = 0 := e
    repeat (first | rw [zcc1] | rw [zcc2] | rw [zcc3] | rw [zcc4] | refine zR.step rfl ?_ | refine zR.cv rfl rfl rfl h25 rfl rfl (zCalP.of (c_sheetAt_n hT e) ?_))
    refine zR.cv rfl rfl rfl h25 rfl rfl (zCalP.of (c_refuse h25 _) ?_)
    repeat (first | rw [zcc1] | rw [zcc2] | rw [zcc3] | rw [zcc4] | refine zR.step rfl ?_)
    refine zR.ret rfl rfl ⟨_, rfl, ⟨_, (hR.out (by omega)).1⟩, rfl, ?_⟩
    replace hR : Rf (zup M 25 (.inr (11, tob (tst t 1)))) σ := hR.out (by omega)
    have hS : Sm (zup M 25 (.inr (11, tob (tst t 1)))) (zup M 25 (.inr (11, tob (tst t 1)))) := Sm.rf
    show zR ztb _ kX12_none 1 0 [some (.ref 287), some (.int a), some (.int b)] [] _ _ _ _
    repeat (first | rw [zcc1] | rw [zcc2] | rw [zcc3] | rw [zcc4] | rw [e] | refine zR.step rfl ?_ | refine zR.getf rfl (hR.1) rfl ?_ | refine zR.cv rfl rfl rfl hR.1 rfl rfl (zCalP.of (c_isSheet _) ?_))
    refine zR.cv rfl rfl rfl hR.1 rfl rfl (zR.mono (c_refused hR _) (fun v n' w' M' hv => ?_))
    obtain ⟨rfl, rfl, rfl, hR2, hS2⟩ := hv
    repeat (first | rw [zcc1] | rw [zcc2] | rw [zcc3] | rw [zcc4] | refine zR.step rfl ?_)
    refine zR.ret rfl rfl ⟨rfl, by omega, by omega, _, inv_fin ⟨hT, hG0, hG1, hG2⟩ hg hk ht hx hn hR2 (hS.trans hS2)⟩
