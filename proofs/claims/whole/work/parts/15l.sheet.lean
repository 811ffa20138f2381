
/-! sheet. -/
theorem c_lay {M : zM} {t : mS} {tr : Option Nat} {d n w i : Nat} (hT : Tc M t tr) (hi : i < 4) (a b : Int32) : zCall (d + 1) 64 [.ref (279 + 2 * i), .int a, .int b] n w M none n w (zup (zup (zup M (279 + 2 * i) (.inr (8, [.int a, .int (t (20 + i) 1), .ref (280 + 2 * i)]))) (279 + 2 * i) (.inr (8, [.int a, .int b, .ref (280 + 2 * i)]))) (280 + 2 * i) (.inl (0, 40, .inl (fillF (t (30 + i)) 0 40)))) := by
  intro Q hQ
  obtain ⟨hA, hB2⟩ := hT.2.2.2.2.2.2.2.2.2 i hi
  show zR ztb _ kX8_lay 0 0 [some (.ref (279 + 2 * i)), some (.int a), some (.int b)] [] _ _ _ _
  repeat (first | rw [zcc1] | rw [zcc2] | rw [zcc3] | rw [zcc4] | refine zR.step rfl ?_)
  refine zR.putf rfl hA rfl rfl ?_
  repeat (first | rw [zcc1] | rw [zcc2] | rw [zcc3] | rw [zcc4] | refine zR.step rfl ?_)
  refine zR.putf rfl (zup_self _ _ _) rfl rfl ?_
  repeat (first | rw [zcc1] | rw [zcc2] | rw [zcc3] | rw [zcc4] | refine zR.step rfl ?_ | refine zR.getf rfl (zup_self _ _ _) rfl ?_)
  refine zR.cs rfl rfl rfl rfl rfl (zCalP.of (c_fill 0 (by rw [zup_ne _ _ (by omega), zup_ne _ _ (by omega)]; exact hB2) (by decide)) ?_)
  repeat (first | rw [zcc1] | rw [zcc2] | rw [zcc3] | rw [zcc4] | refine zR.step rfl ?_)
  exact zR.ret rfl rfl hQ
theorem cl_loop {d n w i : Nat} {M0 : zM} {Q : Option Value → Nat → Nat → zM → Prop} {a2 a3 : Int32} {σ : mS} (hi : i < 4) (hQ : ∀ M y6, Rf M (zuf σ 6 y6) → Sm M0 M → (∀ k, k < 40 → y6 (40 * i + k) = 0) → (∀ k, ¬ (40 * i ≤ k ∧ k < 40 * i + 40) → y6 k = σ 6 k) → zR ztb d kX12_sheet 1 90 [some (.ref 287), some (.int (nI i)), some (.int a2), some (.int a3), some (.int (nI 40))] [] n w M Q) : ∀ (t k : Nat) (M : zM) (y6 : Nat → Int32), k + t = 40 → Rf M (zuf σ 6 y6) → Sm M0 M → (∀ q, q < k → y6 (40 * i + q) = 0) → (∀ q, ¬ (40 * i ≤ q ∧ q < 40 * i + 40) → y6 q = σ 6 q) → zR ztb d kX12_sheet 1 64 [some (.ref 287), some (.int (nI i)), some (.int a2), some (.int a3), some (.int (nI k))] [] n w M Q
  | 0, k, M, y6, h, hR, hS, h1, h2 => by
    have e2 : k = 40 := by omega
    subst e2
    repeat (first | with_reducible refine zR.hold (pc := 90) ?_ | rw [zcc1] | rw [zcc2] | rw [zcc3] | rw [zcc4] | rw [zb1 (by decide)] | rw [zb2 (by decide)] | rw [zb3 (by decide)] | rw [zb4 (by decide)] | rw [zn1 (by decide)] | rw [zn2 (by decide)] | rw [zn3 (by decide)] | rw [zn4 (by decide)] | rw [ze1 (by decide)] | rw [ze2 (by decide)] | rw [zd1 (by decide)] | rw [zd2 (by decide)] | rw [zswy (by decide)] | rw [zswn (by decide)] | rw [zsw0] | refine zR.step rfl ?_)
    exact ⟨trivial, hQ M y6 hR hS h1 h2⟩
  | t + 1, k, M, y6, h, hR, hS, h1, h2 => by
    have e : nI k < 40 := zI_ylt (b := 40) (by omega) (by omega)
    refine zR.step rfl ?_
    repeat (first | rw [zcc1] | rw [zcc2] | rw [zcc3] | rw [zcc4] | rw [zb1 (e)] | rw [zb2 (e)] | rw [zb3 (e)] | rw [zb4 (e)] | refine zR.step rfl ?_ | refine zR.getf rfl (hR.1) rfl ?_)
    refine zR.isR6 hR hS rfl (i := 40 * i + k) (by simp only [zn_lit, zn_add, zn_mul]) (by omega) (fun M1 hR1 hS1 => ?_)
    have hz : zuf (zuf σ 6 y6) 6 (zuf (zuf σ 6 y6 6) (40 * i + k) 0) = zuf σ 6 (zuf y6 (40 * i + k) 0) := by rw [zuf_self, zuf_uf]
    rw [hz] at hR1
    have ih := cl_loop hi hQ t (k + 1) M1 (zuf y6 (40 * i + k) 0) (by omega) hR1 hS1 (fun q hq => by
      by_cases eq : q = k
      · subst eq
        rw [zuf_self]
      · rw [zuf_ne _ _ (by omega)]
        exact h1 q (by omega)) (fun q hq => by rw [zuf_ne _ _ (by omega)]; exact h2 q hq)
    rw [← zI_s] at ih
    repeat (first | with_reducible refine zR.hold (pc := 64) ?_ | rw [zcc1] | rw [zcc2] | rw [zcc3] | rw [zcc4] | refine zR.step rfl ?_)
    exact ⟨trivial, ih⟩
theorem o_sheet {L : Nat} {xs : Nat → Int32} : op_sheet (Inv L xs) := by
  intro a b v M σ n w hI
  have hI' := hI
  obtain ⟨t, tr, c0, c1, c2, k0, k1, k2, b0, b1, b2, l0, l1, l2, hR, ⟨hT, hG0, hG1, hG2⟩, hg, hk, ht, hx, hn⟩ := hI
  have h25 := hT.1
  have hg' := hg
  obtain ⟨nc, nh, nl, lm, wk, hN, ⟨hC, hCn⟩, hB, hL, hSt, hH, hW, hX⟩ := hg'
  obtain ⟨N1, N2, N3, N4, N5, N6, N7, N8, N9, N10, N11, N12, N13, N14, N15, N16, N17⟩ := hN
  show zR ztb _ kX11_sheet 1 0 [some (.ref 25), some (.int a), some (.int b), some (.int v), none, none] [] _ _ _ _
  have hfit : (b = -1) ∨ (¬ b = -1 ∧ inI b (-1) 2 = 1 ∧ inI b 0 2 = 1 ∧ (∃ k, b = nI k ∧ k ≤ 2) ∧ inI v 0 40 = 1 ∧ ∃ k, v = nI k ∧ k ≤ 40) ∨ (¬ b = -1 ∧ inI b (-1) 2 = 1 ∧ inI b 0 2 = 1 ∧ inI v 0 40 = 0) ∨ (¬ b = -1 ∧ inI b (-1) 2 = 0 ∧ inI b 0 2 = 0) := by
    by_cases h1 : b = -1
    · exact Or.inl h1
    · rcases inI_nat b 0 2 (by omega) (by omega) with ⟨k, -, hk, rfl, e2⟩ | ⟨hk, e2⟩
      · replace e2 : inI (nI k) 0 2 = 1 := e2
        have e3 : inI (nI k) (-1) 2 = 1 := by
          rcases inI_int (nI k) (-1) 2 with ⟨z, -⟩ | ⟨-, z⟩
          · exact z
          · refine absurd ?_ z
            rw [nI_toInt (by omega), show (-1 : Int32).toInt = -1 by decide, show (2 : Int32).toInt = 2 by decide]
            omega
        rcases inI_nat v 0 40 (by omega) (by omega) with ⟨q, -, hq, rfl, e4⟩ | ⟨-, e4⟩
        · exact Or.inr (Or.inl ⟨h1, e3, e2, ⟨k, rfl, hk⟩, e4, q, rfl, hq⟩)
        · exact Or.inr (Or.inr (Or.inl ⟨h1, e3, e2, e4⟩))
      · refine Or.inr (Or.inr (Or.inr ⟨h1, ?_, e2⟩))
        rcases inI_int b (-1) 2 with ⟨-, z1, z2⟩ | ⟨z, -⟩
        · rw [show (-1 : Int32).toInt = -1 by decide] at z1
          rw [show (2 : Int32).toInt = 2 by decide] at z2
          by_cases h0 : b.toInt = -1
          · exact absurd (Int32.toInt_inj.mp (by rw [h0]; decide)) h1
          · exact absurd (zI_of (by omega)) (hk b.toInt.toNat (by omega) (by omega))
        · exact z
  rcases inI_nat a 0 3 (by omega) (by omega) with ⟨i, -, hi, rfl, e⟩ | ⟨-, e⟩
  · replace e : inI (nI i) 0 3 = 1 := e
    replace hi : i < 4 := by omega
    obtain ⟨T1, T2, T3, ⟨m, T4, -, T5⟩, T6⟩ := ht.2.2.2.2.2.2.2.2.2.2.2 i hi
    obtain ⟨hA, hB2⟩ := hT.2.2.2.2.2.2.2.2.2 i hi
    have eS : inI (nI i) 0 3 = 1 := inI_y (lo := 0) (hi := 3) (by omega) (by omega) (by omega)
    rcases hfit with rfl | ⟨h1, h2, h3, ⟨k, rfl, hk2⟩, h5, q, rfl, hq⟩ | ⟨h1, h2, h3, h4⟩ | ⟨h1, h2, h3⟩
    · have e9 : inI (-1) (-1) 2 = 1 := by decide
      repeat (first | rw [zcc1] | rw [zcc2] | rw [zcc3] | rw [zcc4] | rw [zb1 (by decide)] | rw [zb2 (by decide)] | rw [zb3 (by decide)] | rw [zb4 (by decide)] | rw [zn1 (by decide)] | rw [zn2 (by decide)] | rw [zn3 (by decide)] | rw [zn4 (by decide)] | rw [ze1 (by decide)] | rw [ze2 (by decide)] | rw [zd1 (by decide)] | rw [zd2 (by decide)] | rw [zswy (by decide)] | rw [zswn (by decide)] | rw [zsw0] | refine zR.step rfl ?_ | refine zR.cv rfl rfl rfl h25 rfl rfl (zCalP.of (c_sheetAt_y hT (by omega)) ?_))
      refine zR.cv rfl rfl rfl hA rfl rfl (zCalP.of (c_lay hT hi _ _) ?_)
      have hT' := (((hT.hd hi (zuf (t (20 + i)) 0 (-1))).hd hi (zuf (zuf (t (20 + i)) 0 (-1)) 1 (0))).num hi (fillF (t (30 + i)) 0 40))
      rw [zuf_uf] at hT'
      repeat (first | rw [zcc1] | rw [zcc2] | rw [zcc3] | rw [zcc4] | refine zR.step rfl ?_)
      refine zR.cv rfl rfl rfl hT'.1 rfl rfl (zCalP.of (c_doneC hT'.1 _) ?_)
      repeat (first | rw [zcc1] | rw [zcc2] | rw [zcc3] | rw [zcc4] | refine zR.step rfl ?_)
      replace hR := (((hR.out (a := 279 + 2 * i) (c := .inr (8, [.int (-1), .int (t (20 + i) 1), .ref (280 + 2 * i)])) (by omega)).out (a := 279 + 2 * i) (c := .inr (8, [.int (-1), .int (0), .ref (280 + 2 * i)])) (by omega)).out (a := 280 + 2 * i) (c := .inl (0, 40, .inl (fillF (t (30 + i)) 0 40))) (by omega)).out (a := 25) (c := .inr (11, tob (tst (zuf (zuf t (20 + i) (zuf (zuf (t (20 + i)) 0 (-1)) 1 (0))) (30 + i) (fillF (t (30 + i)) 0 40)) 0))) (by omega)
      refine zR.ret rfl rfl ⟨_, rfl, ⟨_, hR.1⟩, by rw [zup_ne _ _ (by omega), zup_ne _ _ (by omega), zup_ne _ _ (by omega), zup_ne _ _ (by omega)], ?_⟩
      show zR ztb _ kX12_sheet 1 0 [some (.ref 287), some (.int (nI i)), some (.int (-1)), some (.int (v)), none] [] _ _ _ _
      repeat (first | rw [zcc1] | rw [zcc2] | rw [zcc3] | rw [zcc4] | rw [eS] | rw [e9] | rw [zb1 (by decide)] | rw [zb2 (by decide)] | rw [zb3 (by decide)] | rw [zb4 (by decide)] | rw [zn1 (by decide)] | rw [zn2 (by decide)] | rw [zn3 (by decide)] | rw [zn4 (by decide)] | rw [ze1 (by decide)] | rw [ze2 (by decide)] | rw [zd1 (by decide)] | rw [zd2 (by decide)] | rw [zswy (by decide)] | rw [zswn (by decide)] | rw [zsw0] | refine zR.step rfl ?_ | refine zR.getf rfl (hR.1) rfl ?_ | refine zR.cv rfl rfl rfl hR.1 rfl rfl (zCalP.of (c_isSheet _) ?_) | refine zR.cs rfl rfl rfl rfl rfl (zCalP.of (c_in _ _ _) ?_))
      refine zR.isR4 hR Sm.rf rfl (i := i) rfl (by omega) (fun M1 hR1 hS1 => ?_)
      replace hR := hR1
      repeat (first | rw [zcc1] | rw [zcc2] | rw [zcc3] | rw [zcc4] | rw [zb1 (by decide)] | rw [zb2 (by decide)] | rw [zb3 (by decide)] | rw [zb4 (by decide)] | rw [zn1 (by decide)] | rw [zn2 (by decide)] | rw [zn3 (by decide)] | rw [zn4 (by decide)] | rw [ze1 (by decide)] | rw [ze2 (by decide)] | rw [zd1 (by decide)] | rw [zd2 (by decide)] | rw [zswy (by decide)] | rw [zswn (by decide)] | rw [zsw0] | refine zR.step rfl ?_ | refine zR.getf rfl (hR.1) rfl ?_)
      refine zR.isR5 hR hS1 rfl (i := i) rfl (by omega) (fun M1 hR1 hS1 => ?_)
      replace hR := hR1
      refine zR.step rfl ?_
      refine zR.step rfl ?_
      refine cl_loop (σ := zuf (zuf σ 4 (zuf (σ 4) i (-1))) 5 (zuf (σ 5) i (0))) hi (fun M2 y6 hR hS q1 q2 => ?_) 40 0 _ (σ 6) (by omega) (by rw [zuf_id (f := zuf (zuf σ 4 (zuf (σ 4) i (-1))) 5 (zuf (σ 5) i (0))) (i := 6) (v := σ 6) rfl]; exact hR) hS1 (fun q hq => by omega) (fun _ _ => rfl)
      repeat (first | rw [zcc1] | rw [zcc2] | rw [zcc3] | rw [zcc4] | refine zR.step rfl ?_)
      refine zR.cv rfl rfl rfl hR.1 rfl rfl (zR.mono (c_done hR _) (fun v n' w' M' hv => ?_))
      obtain ⟨rfl, rfl, rfl, hR2, hS2⟩ := hv
      repeat (first | rw [zcc1] | rw [zcc2] | rw [zcc3] | rw [zcc4] | refine zR.step rfl ?_)
      have ht' := TR.sh ht hi (x := zuf (zuf (t (20 + i)) 0 (-1)) 1 (0)) (f := fillF (t (30 + i)) 0 40) (y4 := zuf (σ 4) i (-1)) (y5 := zuf (σ 5) i (0)) (y6 := y6) (fun k hk => zuf_ne _ _ hk) (fun k hk => zuf_ne _ _ hk) q2 ⟨by rw [zuf_ne _ _ (by omega), zuf_self, zuf_self], by rw [zuf_self, zuf_self], by rw [zuf_self]; exact Or.inl rfl, by rw [zuf_self]; exact inN_0, fun k hk => by
        rw [q1 k hk]
        exact ⟨if_pos hk, Or.inr (by decide)⟩⟩
      refine zR.ret rfl rfl ⟨rfl, by omega, by omega, _, inv_top (σ := σ) (σ' := zuf (zuf (zuf σ 4 (zuf (σ 4) i (-1))) 5 (zuf (σ 5) i (0))) 6 y6) hT' hG0 hG1 hG2 hg hk rfl rfl rfl ht' hx hn (fun k hk => by rw [zup_ne _ _ (by omega), zup_ne _ _ (by omega), zup_ne _ _ (by omega)]) hR2 (hS.trans hS2)⟩
    · repeat (first | rw [zcc1] | rw [zcc2] | rw [zcc3] | rw [zcc4] | rw [zd1 (h1)] | rw [zd2 (h1)] | rw [h3] | rw [h5] | refine zR.step rfl ?_ | refine zR.cv rfl rfl rfl h25 rfl rfl (zCalP.of (c_sheetAt_y hT (by omega)) ?_) | refine zR.cs rfl rfl rfl rfl rfl (zCalP.of (c_isWithin _ _ _) ?_))
      refine zR.cv rfl rfl rfl hA rfl rfl (zCalP.of (c_lay hT hi _ _) ?_)
      have hT' := (((hT.hd hi (zuf (t (20 + i)) 0 (nI k))).hd hi (zuf (zuf (t (20 + i)) 0 (nI k)) 1 (nI q))).num hi (fillF (t (30 + i)) 0 40))
      rw [zuf_uf] at hT'
      repeat (first | rw [zcc1] | rw [zcc2] | rw [zcc3] | rw [zcc4] | refine zR.step rfl ?_)
      refine zR.cv rfl rfl rfl hT'.1 rfl rfl (zCalP.of (c_doneC hT'.1 _) ?_)
      repeat (first | rw [zcc1] | rw [zcc2] | rw [zcc3] | rw [zcc4] | refine zR.step rfl ?_)
      replace hR := (((hR.out (a := 279 + 2 * i) (c := .inr (8, [.int (nI k), .int (t (20 + i) 1), .ref (280 + 2 * i)])) (by omega)).out (a := 279 + 2 * i) (c := .inr (8, [.int (nI k), .int (nI q), .ref (280 + 2 * i)])) (by omega)).out (a := 280 + 2 * i) (c := .inl (0, 40, .inl (fillF (t (30 + i)) 0 40))) (by omega)).out (a := 25) (c := .inr (11, tob (tst (zuf (zuf t (20 + i) (zuf (zuf (t (20 + i)) 0 (nI k)) 1 (nI q))) (30 + i) (fillF (t (30 + i)) 0 40)) 0))) (by omega)
      refine zR.ret rfl rfl ⟨_, rfl, ⟨_, hR.1⟩, by rw [zup_ne _ _ (by omega), zup_ne _ _ (by omega), zup_ne _ _ (by omega), zup_ne _ _ (by omega)], ?_⟩
      show zR ztb _ kX12_sheet 1 0 [some (.ref 287), some (.int (nI i)), some (.int (nI k)), some (.int (nI q)), none] [] _ _ _ _
      repeat (first | rw [zcc1] | rw [zcc2] | rw [zcc3] | rw [zcc4] | rw [eS] | rw [h2] | rw [h5] | rw [zd1 (h1)] | rw [zd2 (h1)] | refine zR.step rfl ?_ | refine zR.getf rfl (hR.1) rfl ?_ | refine zR.cv rfl rfl rfl hR.1 rfl rfl (zCalP.of (c_isSheet _) ?_) | refine zR.cs rfl rfl rfl rfl rfl (zCalP.of (c_in _ _ _) ?_))
      refine zR.isR4 hR Sm.rf rfl (i := i) rfl (by omega) (fun M1 hR1 hS1 => ?_)
      replace hR := hR1
      repeat (first | rw [zcc1] | rw [zcc2] | rw [zcc3] | rw [zcc4] | rw [zd1 (h1)] | rw [zd2 (h1)] | refine zR.step rfl ?_ | refine zR.getf rfl (hR.1) rfl ?_)
      refine zR.isR5 hR hS1 rfl (i := i) rfl (by omega) (fun M1 hR1 hS1 => ?_)
      replace hR := hR1
      refine zR.step rfl ?_
      refine zR.step rfl ?_
      refine cl_loop (σ := zuf (zuf σ 4 (zuf (σ 4) i (nI k))) 5 (zuf (σ 5) i (nI q))) hi (fun M2 y6 hR hS q1 q2 => ?_) 40 0 _ (σ 6) (by omega) (by rw [zuf_id (f := zuf (zuf σ 4 (zuf (σ 4) i (nI k))) 5 (zuf (σ 5) i (nI q))) (i := 6) (v := σ 6) rfl]; exact hR) hS1 (fun q hq => by omega) (fun _ _ => rfl)
      repeat (first | rw [zcc1] | rw [zcc2] | rw [zcc3] | rw [zcc4] | refine zR.step rfl ?_)
      refine zR.cv rfl rfl rfl hR.1 rfl rfl (zR.mono (c_done hR _) (fun v n' w' M' hv => ?_))
      obtain ⟨rfl, rfl, rfl, hR2, hS2⟩ := hv
      repeat (first | rw [zcc1] | rw [zcc2] | rw [zcc3] | rw [zcc4] | refine zR.step rfl ?_)
      have ht' := TR.sh ht hi (x := zuf (zuf (t (20 + i)) 0 (nI k)) 1 (nI q)) (f := fillF (t (30 + i)) 0 40) (y4 := zuf (σ 4) i (nI k)) (y5 := zuf (σ 5) i (nI q)) (y6 := y6) (fun k hk => zuf_ne _ _ hk) (fun k hk => zuf_ne _ _ hk) q2 ⟨by rw [zuf_ne _ _ (by omega), zuf_self, zuf_self], by rw [zuf_self, zuf_self], by rw [zuf_self]; exact Or.inr ⟨k, rfl, by omega, hk2⟩, by rw [zuf_self]; exact ⟨q, rfl, by omega, hq⟩, fun k hk => by
        rw [q1 k hk]
        exact ⟨if_pos hk, Or.inr (by decide)⟩⟩
      refine zR.ret rfl rfl ⟨rfl, by omega, by omega, _, inv_top (σ := σ) (σ' := zuf (zuf (zuf σ 4 (zuf (σ 4) i (nI k))) 5 (zuf (σ 5) i (nI q))) 6 y6) hT' hG0 hG1 hG2 hg hk rfl rfl rfl ht' hx hn (fun k hk => by rw [zup_ne _ _ (by omega), zup_ne _ _ (by omega), zup_ne _ _ (by omega)]) hR2 (hS.trans hS2)⟩
    · repeat (first | rw [zcc1] | rw [zcc2] | rw [zcc3] | rw [zcc4] | rw [zd1 (h1)] | rw [zd2 (h1)] | rw [h3] | rw [h4] | refine zR.step rfl ?_ | refine zR.cv rfl rfl rfl h25 rfl rfl (zCalP.of (c_sheetAt_y hT (by omega)) ?_) | refine zR.cs rfl rfl rfl rfl rfl (zCalP.of (c_isWithin _ _ _) ?_))
      refine zR.cv rfl rfl rfl h25 rfl rfl (zCalP.of (c_refuse h25 _) ?_)
      repeat (first | rw [zcc1] | rw [zcc2] | rw [zcc3] | rw [zcc4] | refine zR.step rfl ?_)
      refine zR.ret rfl rfl ⟨_, rfl, ⟨_, (hR.out (by omega)).1⟩, rfl, ?_⟩
      replace hR : Rf (zup M 25 (.inr (11, tob (tst t 1)))) σ := hR.out (by omega)
      have hS : Sm (zup M 25 (.inr (11, tob (tst t 1)))) (zup M 25 (.inr (11, tob (tst t 1)))) := Sm.rf
      show zR ztb _ kX12_sheet 1 0 [some (.ref 287), some (.int (nI i)), some (.int b), some (.int v), none] [] _ _ _ _
      repeat (first | rw [zcc1] | rw [zcc2] | rw [zcc3] | rw [zcc4] | rw [eS] | rw [h2] | rw [h4] | rw [zd1 (h1)] | rw [zd2 (h1)] | refine zR.step rfl ?_ | refine zR.getf rfl (hR.1) rfl ?_ | refine zR.cv rfl rfl rfl hR.1 rfl rfl (zCalP.of (c_isSheet _) ?_) | refine zR.cs rfl rfl rfl rfl rfl (zCalP.of (c_in _ _ _) ?_))
      refine zR.cv rfl rfl rfl hR.1 rfl rfl (zR.mono (c_refused hR _) (fun v n' w' M' hv => ?_))
      obtain ⟨rfl, rfl, rfl, hR2, hS2⟩ := hv
      repeat (first | rw [zcc1] | rw [zcc2] | rw [zcc3] | rw [zcc4] | refine zR.step rfl ?_)
      refine zR.ret rfl rfl ⟨rfl, by omega, by omega, _, inv_fin ⟨hT, hG0, hG1, hG2⟩ hg hk ht hx hn hR2 (hS.trans hS2)⟩
    · repeat (first | rw [zcc1] | rw [zcc2] | rw [zcc3] | rw [zcc4] | rw [zd1 (h1)] | rw [zd2 (h1)] | rw [h3] | refine zR.step rfl ?_ | refine zR.cv rfl rfl rfl h25 rfl rfl (zCalP.of (c_sheetAt_y hT (by omega)) ?_) | refine zR.cs rfl rfl rfl rfl rfl (zCalP.of (c_isWithin _ _ _) ?_))
      refine zR.cv rfl rfl rfl h25 rfl rfl (zCalP.of (c_refuse h25 _) ?_)
      repeat (first | rw [zcc1] | rw [zcc2] | rw [zcc3] | rw [zcc4] | refine zR.step rfl ?_)
      refine zR.ret rfl rfl ⟨_, rfl, ⟨_, (hR.out (by omega)).1⟩, rfl, ?_⟩
      replace hR : Rf (zup M 25 (.inr (11, tob (tst t 1)))) σ := hR.out (by omega)
      have hS : Sm (zup M 25 (.inr (11, tob (tst t 1)))) (zup M 25 (.inr (11, tob (tst t 1)))) := Sm.rf
      show zR ztb _ kX12_sheet 1 0 [some (.ref 287), some (.int (nI i)), some (.int b), some (.int v), none] [] _ _ _ _
      repeat (first | rw [zcc1] | rw [zcc2] | rw [zcc3] | rw [zcc4] | rw [eS] | rw [h2] | rw [zd1 (h1)] | rw [zd2 (h1)] | refine zR.step rfl ?_ | refine zR.getf rfl (hR.1) rfl ?_ | refine zR.cv rfl rfl rfl hR.1 rfl rfl (zCalP.of (c_isSheet _) ?_) | refine zR.cs rfl rfl rfl rfl rfl (zCalP.of (c_in _ _ _) ?_))
      refine zR.cv rfl rfl rfl hR.1 rfl rfl (zR.mono (c_refused hR _) (fun v n' w' M' hv => ?_))
      obtain ⟨rfl, rfl, rfl, hR2, hS2⟩ := hv
      repeat (first | rw [zcc1] | rw [zcc2] | rw [zcc3] | rw [zcc4] | refine zR.step rfl ?_)
      refine zR.ret rfl rfl ⟨rfl, by omega, by omega, _, inv_fin ⟨hT, hG0, hG1, hG2⟩ hg hk ht hx hn hR2 (hS.trans hS2)⟩
  · replace e : inI a 0 3 = 0 := e
    rcases hfit with rfl | ⟨h1, h2, h3, ⟨k, rfl, hk2⟩, h5, q, rfl, hq⟩ | ⟨h1, h2, h3, h4⟩ | ⟨h1, h2, h3⟩
    · repeat (first | rw [zcc1] | rw [zcc2] | rw [zcc3] | rw [zcc4] | rw [zb1 (by decide)] | rw [zb2 (by decide)] | rw [zb3 (by decide)] | rw [zb4 (by decide)] | rw [zn1 (by decide)] | rw [zn2 (by decide)] | rw [zn3 (by decide)] | rw [zn4 (by decide)] | rw [ze1 (by decide)] | rw [ze2 (by decide)] | rw [zd1 (by decide)] | rw [zd2 (by decide)] | rw [zswy (by decide)] | rw [zswn (by decide)] | rw [zsw0] | refine zR.step rfl ?_ | refine zR.cv rfl rfl rfl h25 rfl rfl (zCalP.of (c_sheetAt_n hT e) ?_))
      refine zR.cv rfl rfl rfl h25 rfl rfl (zCalP.of (c_refuse h25 _) ?_)
      repeat (first | rw [zcc1] | rw [zcc2] | rw [zcc3] | rw [zcc4] | refine zR.step rfl ?_)
      refine zR.ret rfl rfl ⟨_, rfl, ⟨_, (hR.out (by omega)).1⟩, rfl, ?_⟩
      replace hR : Rf (zup M 25 (.inr (11, tob (tst t 1)))) σ := hR.out (by omega)
      have hS : Sm (zup M 25 (.inr (11, tob (tst t 1)))) (zup M 25 (.inr (11, tob (tst t 1)))) := Sm.rf
      show zR ztb _ kX12_sheet 1 0 [some (.ref 287), some (.int a), some (.int (-1)), some (.int v), none] [] _ _ _ _
      repeat (first | rw [zcc1] | rw [zcc2] | rw [zcc3] | rw [zcc4] | rw [e] | refine zR.step rfl ?_ | refine zR.getf rfl (hR.1) rfl ?_ | refine zR.cv rfl rfl rfl hR.1 rfl rfl (zCalP.of (c_isSheet _) ?_))
      refine zR.cv rfl rfl rfl hR.1 rfl rfl (zR.mono (c_refused hR _) (fun v n' w' M' hv => ?_))
      obtain ⟨rfl, rfl, rfl, hR2, hS2⟩ := hv
      repeat (first | rw [zcc1] | rw [zcc2] | rw [zcc3] | rw [zcc4] | refine zR.step rfl ?_)
      refine zR.ret rfl rfl ⟨rfl, by omega, by omega, _, inv_fin ⟨hT, hG0, hG1, hG2⟩ hg hk ht hx hn hR2 (hS.trans hS2)⟩
    · repeat (first | rw [zcc1] | rw [zcc2] | rw [zcc3] | rw [zcc4] | rw [zd1 (h1)] | rw [zd2 (h1)] | rw [h3] | rw [h5] | refine zR.step rfl ?_ | refine zR.cv rfl rfl rfl h25 rfl rfl (zCalP.of (c_sheetAt_n hT e) ?_) | refine zR.cs rfl rfl rfl rfl rfl (zCalP.of (c_isWithin _ _ _) ?_))
      refine zR.cv rfl rfl rfl h25 rfl rfl (zCalP.of (c_refuse h25 _) ?_)
      repeat (first | rw [zcc1] | rw [zcc2] | rw [zcc3] | rw [zcc4] | refine zR.step rfl ?_)
      refine zR.ret rfl rfl ⟨_, rfl, ⟨_, (hR.out (by omega)).1⟩, rfl, ?_⟩
      replace hR : Rf (zup M 25 (.inr (11, tob (tst t 1)))) σ := hR.out (by omega)
      have hS : Sm (zup M 25 (.inr (11, tob (tst t 1)))) (zup M 25 (.inr (11, tob (tst t 1)))) := Sm.rf
      show zR ztb _ kX12_sheet 1 0 [some (.ref 287), some (.int a), some (.int (nI k)), some (.int (nI q)), none] [] _ _ _ _
      repeat (first | rw [zcc1] | rw [zcc2] | rw [zcc3] | rw [zcc4] | rw [e] | refine zR.step rfl ?_ | refine zR.getf rfl (hR.1) rfl ?_ | refine zR.cv rfl rfl rfl hR.1 rfl rfl (zCalP.of (c_isSheet _) ?_))
      refine zR.cv rfl rfl rfl hR.1 rfl rfl (zR.mono (c_refused hR _) (fun v n' w' M' hv => ?_))
      obtain ⟨rfl, rfl, rfl, hR2, hS2⟩ := hv
      repeat (first | rw [zcc1] | rw [zcc2] | rw [zcc3] | rw [zcc4] | refine zR.step rfl ?_)
      refine zR.ret rfl rfl ⟨rfl, by omega, by omega, _, inv_fin ⟨hT, hG0, hG1, hG2⟩ hg hk ht hx hn hR2 (hS.trans hS2)⟩
    · repeat (first | rw [zcc1] | rw [zcc2] | rw [zcc3] | rw [zcc4] | rw [zd1 (h1)] | rw [zd2 (h1)] | rw [h3] | rw [h4] | refine zR.step rfl ?_ | refine zR.cv rfl rfl rfl h25 rfl rfl (zCalP.of (c_sheetAt_n hT e) ?_) | refine zR.cs rfl rfl rfl rfl rfl (zCalP.of (c_isWithin _ _ _) ?_))
      refine zR.cv rfl rfl rfl h25 rfl rfl (zCalP.of (c_refuse h25 _) ?_)
      repeat (first | rw [zcc1] | rw [zcc2] | rw [zcc3] | rw [zcc4] | refine zR.step rfl ?_)
      refine zR.ret rfl rfl ⟨_, rfl, ⟨_, (hR.out (by omega)).1⟩, rfl, ?_⟩
      replace hR : Rf (zup M 25 (.inr (11, tob (tst t 1)))) σ := hR.out (by omega)
      have hS : Sm (zup M 25 (.inr (11, tob (tst t 1)))) (zup M 25 (.inr (11, tob (tst t 1)))) := Sm.rf
      show zR ztb _ kX12_sheet 1 0 [some (.ref 287), some (.int a), some (.int b), some (.int v), none] [] _ _ _ _
      repeat (first | rw [zcc1] | rw [zcc2] | rw [zcc3] | rw [zcc4] | rw [e] | refine zR.step rfl ?_ | refine zR.getf rfl (hR.1) rfl ?_ | refine zR.cv rfl rfl rfl hR.1 rfl rfl (zCalP.of (c_isSheet _) ?_))
      refine zR.cv rfl rfl rfl hR.1 rfl rfl (zR.mono (c_refused hR _) (fun v n' w' M' hv => ?_))
      obtain ⟨rfl, rfl, rfl, hR2, hS2⟩ := hv
      repeat (first | rw [zcc1] | rw [zcc2] | rw [zcc3] | rw [zcc4] | refine zR.step rfl ?_)
      refine zR.ret rfl rfl ⟨rfl, by omega, by omega, _, inv_fin ⟨hT, hG0, hG1, hG2⟩ hg hk ht hx hn hR2 (hS.trans hS2)⟩
    · repeat (first | rw [zcc1] | rw [zcc2] | rw [zcc3] | rw [zcc4] | rw [zd1 (h1)] | rw [zd2 (h1)] | rw [h3] | refine zR.step rfl ?_ | refine zR.cv rfl rfl rfl h25 rfl rfl (zCalP.of (c_sheetAt_n hT e) ?_) | refine zR.cs rfl rfl rfl rfl rfl (zCalP.of (c_isWithin _ _ _) ?_))
      refine zR.cv rfl rfl rfl h25 rfl rfl (zCalP.of (c_refuse h25 _) ?_)
      repeat (first | rw [zcc1] | rw [zcc2] | rw [zcc3] | rw [zcc4] | refine zR.step rfl ?_)
      refine zR.ret rfl rfl ⟨_, rfl, ⟨_, (hR.out (by omega)).1⟩, rfl, ?_⟩
      replace hR : Rf (zup M 25 (.inr (11, tob (tst t 1)))) σ := hR.out (by omega)
      have hS : Sm (zup M 25 (.inr (11, tob (tst t 1)))) (zup M 25 (.inr (11, tob (tst t 1)))) := Sm.rf
      show zR ztb _ kX12_sheet 1 0 [some (.ref 287), some (.int a), some (.int b), some (.int v), none] [] _ _ _ _
      repeat (first | rw [zcc1] | rw [zcc2] | rw [zcc3] | rw [zcc4] | rw [e] | refine zR.step rfl ?_ | refine zR.getf rfl (hR.1) rfl ?_ | refine zR.cv rfl rfl rfl hR.1 rfl rfl (zCalP.of (c_isSheet _) ?_))
      refine zR.cv rfl rfl rfl hR.1 rfl rfl (zR.mono (c_refused hR _) (fun v n' w' M' hv => ?_))
      obtain ⟨rfl, rfl, rfl, hR2, hS2⟩ := hv
      repeat (first | rw [zcc1] | rw [zcc2] | rw [zcc3] | rw [zcc4] | refine zR.step rfl ?_)
      refine zR.ret rfl rfl ⟨rfl, by omega, by omega, _, inv_fin ⟨hT, hG0, hG1, hG2⟩ hg hk ht hx hn hR2 (hS.trans hS2)⟩
