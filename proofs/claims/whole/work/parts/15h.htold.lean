
/-! houseTold. -/
theorem o_houseTold {L : Nat} {xs : Nat → Int32} : op_houseTold (Inv L xs) := by
  intro a b M σ n w hI
  have hI' := hI
  obtain ⟨t, tr, c0, c1, c2, k0, k1, k2, b0, b1, b2, l0, l1, l2, hR, ⟨hT, hG0, hG1, hG2⟩, hg, hk, ht, hx, hn⟩ := hI
  have h25 := hT.1
  have hg' := hg
  obtain ⟨nc, nh, nl, lm, wk, hN, ⟨hC, hCn⟩, hB, hL, hSt, hH, hW, hX⟩ := hg'
  obtain ⟨N1, N2, N3, N4, N5, N6, N7, N8, N9, N10, N11, N12, N13, N14, N15, N16, N17⟩ := hN
  show zR ztb _ kX11_houseTold 1 0 [some (.ref 25), some (.int a), some (.int b), none] [] _ _ _ _
  rcases inI_sub a nh (by omega) with ⟨i, hi, rfl, e⟩ | ⟨-, e⟩
  · have ec : inI (nI i) 0 (c0 0 1 - 1) = 1 := by rw [N12, N3]; exact e
    have er : inI (nI i) 0 (σ 0 4 - 1) = 1 := by rw [N3]; exact e
    obtain ⟨H1, H2, -⟩ := hH i hi
    repeat (first | rw [zcc1] | rw [zcc2] | rw [zcc3] | rw [zcc4] | refine zR.step rfl ?_ | refine zR.getf rfl (h25) rfl ?_ | refine zR.cv rfl rfl rfl hG0.o rfl rfl (zCalP.of (c_houseAt_y hG0 ec (by omega)) ?_))
    refine zR.swc (fun q => ?_) (fun q0 => ?_)
    · subst q
      have eb : inI 0 0 13 = 1 := by decide
      repeat (first | rw [zcc1] | rw [zcc2] | rw [zcc3] | rw [zcc4] | refine zR.step rfl ?_ | refine zR.getf rfl (hG0.h0 (i := i) (by omega)) rfl ?_)
      refine zR.ret rfl rfl ⟨_, rfl, ⟨_, hR.1⟩, rfl, ?_⟩
      show zR ztb _ kX12_houseTold 1 0 [some (.ref 287), some (.int (nI i)), some (.int 0)] [] _ _ _ _
      repeat (first | rw [zcc1] | rw [zcc2] | rw [zcc3] | rw [zcc4] | rw [zb1 (by decide)] | rw [zb2 (by decide)] | rw [zb3 (by decide)] | rw [zb4 (by decide)] | rw [zn1 (by decide)] | rw [zn2 (by decide)] | rw [zn3 (by decide)] | rw [zn4 (by decide)] | rw [ze1 (by decide)] | rw [ze2 (by decide)] | rw [zd1 (by decide)] | rw [zd2 (by decide)] | rw [zswy (by decide)] | rw [zswn (by decide)] | rw [zsw0] | rw [er] | rw [eb] | refine zR.step rfl ?_ | refine zR.getf rfl (hR.1) rfl ?_ | refine zR.cv rfl rfl rfl hR.1 rfl rfl (zCalP.of (c_isHouse hR _) ?_) | refine zR.cs rfl rfl rfl rfl rfl (zCalP.of (c_in _ _ _) ?_) | refine zR.cv rfl rfl rfl hR.1 rfl rfl (zCalP.of (c_houseIs hR i 0 (by omega)) ?_))
      refine zR.ret rfl rfl ⟨zeqv (H1 0 (by omega)).symm, by omega, by omega, σ, hI'⟩
    refine zR.swc (fun q => ?_) (fun q1 => ?_)
    · subst q
      have eb : inI 1 0 13 = 1 := by decide
      repeat (first | rw [zcc1] | rw [zcc2] | rw [zcc3] | rw [zcc4] | refine zR.step rfl ?_ | refine zR.getf rfl (hG0.h0 (i := i) (by omega)) rfl ?_)
      refine zR.ret rfl rfl ⟨_, rfl, ⟨_, hR.1⟩, rfl, ?_⟩
      show zR ztb _ kX12_houseTold 1 0 [some (.ref 287), some (.int (nI i)), some (.int 1)] [] _ _ _ _
      repeat (first | rw [zcc1] | rw [zcc2] | rw [zcc3] | rw [zcc4] | rw [zb1 (by decide)] | rw [zb2 (by decide)] | rw [zb3 (by decide)] | rw [zb4 (by decide)] | rw [zn1 (by decide)] | rw [zn2 (by decide)] | rw [zn3 (by decide)] | rw [zn4 (by decide)] | rw [ze1 (by decide)] | rw [ze2 (by decide)] | rw [zd1 (by decide)] | rw [zd2 (by decide)] | rw [zswy (by decide)] | rw [zswn (by decide)] | rw [zsw0] | rw [er] | rw [eb] | refine zR.step rfl ?_ | refine zR.getf rfl (hR.1) rfl ?_ | refine zR.cv rfl rfl rfl hR.1 rfl rfl (zCalP.of (c_isHouse hR _) ?_) | refine zR.cs rfl rfl rfl rfl rfl (zCalP.of (c_in _ _ _) ?_) | refine zR.cv rfl rfl rfl hR.1 rfl rfl (zCalP.of (c_houseIs hR i 1 (by omega)) ?_))
      refine zR.ret rfl rfl ⟨zeqv (H1 1 (by omega)).symm, by omega, by omega, σ, hI'⟩
    refine zR.swc (fun q => ?_) (fun q2 => ?_)
    · subst q
      have eb : inI 2 0 13 = 1 := by decide
      repeat (first | rw [zcc1] | rw [zcc2] | rw [zcc3] | rw [zcc4] | refine zR.step rfl ?_ | refine zR.getf rfl (hG0.h0 (i := i) (by omega)) rfl ?_)
      refine zR.ret rfl rfl ⟨_, rfl, ⟨_, hR.1⟩, rfl, ?_⟩
      show zR ztb _ kX12_houseTold 1 0 [some (.ref 287), some (.int (nI i)), some (.int 2)] [] _ _ _ _
      repeat (first | rw [zcc1] | rw [zcc2] | rw [zcc3] | rw [zcc4] | rw [zb1 (by decide)] | rw [zb2 (by decide)] | rw [zb3 (by decide)] | rw [zb4 (by decide)] | rw [zn1 (by decide)] | rw [zn2 (by decide)] | rw [zn3 (by decide)] | rw [zn4 (by decide)] | rw [ze1 (by decide)] | rw [ze2 (by decide)] | rw [zd1 (by decide)] | rw [zd2 (by decide)] | rw [zswy (by decide)] | rw [zswn (by decide)] | rw [zsw0] | rw [er] | rw [eb] | refine zR.step rfl ?_ | refine zR.getf rfl (hR.1) rfl ?_ | refine zR.cv rfl rfl rfl hR.1 rfl rfl (zCalP.of (c_isHouse hR _) ?_) | refine zR.cs rfl rfl rfl rfl rfl (zCalP.of (c_in _ _ _) ?_) | refine zR.cv rfl rfl rfl hR.1 rfl rfl (zCalP.of (c_houseIs hR i 2 (by omega)) ?_))
      refine zR.ret rfl rfl ⟨zeqv (H1 2 (by omega)).symm, by omega, by omega, σ, hI'⟩
    refine zR.swc (fun q => ?_) (fun q3 => ?_)
    · subst q
      have eb : inI 3 0 13 = 1 := by decide
      repeat (first | rw [zcc1] | rw [zcc2] | rw [zcc3] | rw [zcc4] | refine zR.step rfl ?_ | refine zR.getf rfl (hG0.h0 (i := i) (by omega)) rfl ?_)
      refine zR.ret rfl rfl ⟨_, rfl, ⟨_, hR.1⟩, rfl, ?_⟩
      show zR ztb _ kX12_houseTold 1 0 [some (.ref 287), some (.int (nI i)), some (.int 3)] [] _ _ _ _
      repeat (first | rw [zcc1] | rw [zcc2] | rw [zcc3] | rw [zcc4] | rw [zb1 (by decide)] | rw [zb2 (by decide)] | rw [zb3 (by decide)] | rw [zb4 (by decide)] | rw [zn1 (by decide)] | rw [zn2 (by decide)] | rw [zn3 (by decide)] | rw [zn4 (by decide)] | rw [ze1 (by decide)] | rw [ze2 (by decide)] | rw [zd1 (by decide)] | rw [zd2 (by decide)] | rw [zswy (by decide)] | rw [zswn (by decide)] | rw [zsw0] | rw [er] | rw [eb] | refine zR.step rfl ?_ | refine zR.getf rfl (hR.1) rfl ?_ | refine zR.cv rfl rfl rfl hR.1 rfl rfl (zCalP.of (c_isHouse hR _) ?_) | refine zR.cs rfl rfl rfl rfl rfl (zCalP.of (c_in _ _ _) ?_) | refine zR.cv rfl rfl rfl hR.1 rfl rfl (zCalP.of (c_houseIs hR i 3 (by omega)) ?_))
      refine zR.ret rfl rfl ⟨zeqv (H1 3 (by omega)).symm, by omega, by omega, σ, hI'⟩
    refine zR.swc (fun q => ?_) (fun q4 => ?_)
    · subst q
      have eb : inI 4 0 13 = 1 := by decide
      repeat (first | rw [zcc1] | rw [zcc2] | rw [zcc3] | rw [zcc4] | refine zR.step rfl ?_ | refine zR.getf rfl (hG0.h0 (i := i) (by omega)) rfl ?_)
      refine zR.ret rfl rfl ⟨_, rfl, ⟨_, hR.1⟩, rfl, ?_⟩
      show zR ztb _ kX12_houseTold 1 0 [some (.ref 287), some (.int (nI i)), some (.int 4)] [] _ _ _ _
      repeat (first | rw [zcc1] | rw [zcc2] | rw [zcc3] | rw [zcc4] | rw [zb1 (by decide)] | rw [zb2 (by decide)] | rw [zb3 (by decide)] | rw [zb4 (by decide)] | rw [zn1 (by decide)] | rw [zn2 (by decide)] | rw [zn3 (by decide)] | rw [zn4 (by decide)] | rw [ze1 (by decide)] | rw [ze2 (by decide)] | rw [zd1 (by decide)] | rw [zd2 (by decide)] | rw [zswy (by decide)] | rw [zswn (by decide)] | rw [zsw0] | rw [er] | rw [eb] | refine zR.step rfl ?_ | refine zR.getf rfl (hR.1) rfl ?_ | refine zR.cv rfl rfl rfl hR.1 rfl rfl (zCalP.of (c_isHouse hR _) ?_) | refine zR.cs rfl rfl rfl rfl rfl (zCalP.of (c_in _ _ _) ?_) | refine zR.cv rfl rfl rfl hR.1 rfl rfl (zCalP.of (c_houseIs hR i 4 (by omega)) ?_))
      refine zR.ret rfl rfl ⟨zeqv (H1 4 (by omega)).symm, by omega, by omega, σ, hI'⟩
    refine zR.swc (fun q => ?_) (fun q5 => ?_)
    · subst q
      have eb : inI 5 0 13 = 1 := by decide
      repeat (first | rw [zcc1] | rw [zcc2] | rw [zcc3] | rw [zcc4] | refine zR.step rfl ?_ | refine zR.getf rfl (hG0.h0 (i := i) (by omega)) rfl ?_)
      refine zR.ret rfl rfl ⟨_, rfl, ⟨_, hR.1⟩, rfl, ?_⟩
      show zR ztb _ kX12_houseTold 1 0 [some (.ref 287), some (.int (nI i)), some (.int 5)] [] _ _ _ _
      repeat (first | rw [zcc1] | rw [zcc2] | rw [zcc3] | rw [zcc4] | rw [zb1 (by decide)] | rw [zb2 (by decide)] | rw [zb3 (by decide)] | rw [zb4 (by decide)] | rw [zn1 (by decide)] | rw [zn2 (by decide)] | rw [zn3 (by decide)] | rw [zn4 (by decide)] | rw [ze1 (by decide)] | rw [ze2 (by decide)] | rw [zd1 (by decide)] | rw [zd2 (by decide)] | rw [zswy (by decide)] | rw [zswn (by decide)] | rw [zsw0] | rw [er] | rw [eb] | refine zR.step rfl ?_ | refine zR.getf rfl (hR.1) rfl ?_ | refine zR.cv rfl rfl rfl hR.1 rfl rfl (zCalP.of (c_isHouse hR _) ?_) | refine zR.cs rfl rfl rfl rfl rfl (zCalP.of (c_in _ _ _) ?_) | refine zR.cv rfl rfl rfl hR.1 rfl rfl (zCalP.of (c_houseIs hR i 5 (by omega)) ?_))
      refine zR.ret rfl rfl ⟨zeqv (H1 5 (by omega)).symm, by omega, by omega, σ, hI'⟩
    rcases inI_nat b 6 13 (by omega) (by omega) with ⟨j, h1, h2, rfl, e6⟩ | ⟨hb, e6⟩
    · replace e6 : inI (nI j) 6 13 = 1 := e6
      have em : nI j - 6 = nI (j - 6) := zI_sub (b := 6) (by omega) (by omega)
      have eb : inI (nI j) 0 13 = 1 := inI_y (lo := 0) (hi := 13) (by omega) (by omega) (by omega)
      have el : ¬ nI j < 6 := zI_nlt (b := 6) (by omega) (by omega)
      repeat (first | rw [zcc1] | rw [zcc2] | rw [zcc3] | rw [zcc4] | rw [e6] | rw [em] | refine zR.step rfl ?_ | refine zR.getf rfl (h25) rfl ?_ | refine zR.getf rfl (hG0.o) rfl ?_ | refine zR.cs rfl rfl rfl rfl rfl (zCalP.of (c_isWithin _ _ _) ?_) | refine zR.cv rfl rfl rfl (hG0.h0 (i := i) (by omega)) rfl rfl (zCalP.of (c_weeksSince hG0 (by omega) (by omega) _) ?_))
      refine zR.ret rfl rfl ⟨_, rfl, ⟨_, hR.1⟩, rfl, ?_⟩
      show zR ztb _ kX12_houseTold 1 0 [some (.ref 287), some (.int (nI i)), some (.int (nI j))] [] _ _ _ _
      repeat (first | rw [zcc1] | rw [zcc2] | rw [zcc3] | rw [zcc4] | rw [zn1 (el)] | rw [zn2 (el)] | rw [zn3 (el)] | rw [zn4 (el)] | rw [er] | rw [eb] | rw [em] | refine zR.step rfl ?_ | refine zR.getf rfl (hR.1) rfl ?_ | refine zR.cv rfl rfl rfl hR.1 rfl rfl (zCalP.of (c_isHouse hR _) ?_) | refine zR.cs rfl rfl rfl rfl rfl (zCalP.of (c_in _ _ _) ?_) | refine zR.cv rfl rfl rfl hR.1 rfl rfl (zCalP.of (c_had hR (by omega) (by omega)) ?_))
      refine zR.ret rfl rfl ⟨zeqv (by unfold hadF; rw [(H2 (j - 6) (by omega)).1, N13]), by omega, by omega, σ, hI'⟩
    · replace e6 : inI b 6 13 = 0 := e6
      have eb : inI b 0 13 = 0 := inI_no (lo := 0) (hi := 13) (by omega) (by omega) (fun i h1 h2 => match i, h2 with | 0, _ => q0 | 1, _ => q1 | 2, _ => q2 | 3, _ => q3 | 4, _ => q4 | 5, _ => q5 | i + 6, h2 => hb (i + 6) (by omega) h2)
      repeat (first | rw [zcc1] | rw [zcc2] | rw [zcc3] | rw [zcc4] | rw [e6] | refine zR.step rfl ?_ | refine zR.cs rfl rfl rfl rfl rfl (zCalP.of (c_isWithin _ _ _) ?_))
      refine zR.ret rfl rfl ⟨_, rfl, ⟨_, hR.1⟩, rfl, ?_⟩
      show zR ztb _ kX12_houseTold 1 0 [some (.ref 287), some (.int (nI i)), some (.int b)] [] _ _ _ _
      repeat (first | rw [zcc1] | rw [zcc2] | rw [zcc3] | rw [zcc4] | rw [er] | rw [eb] | refine zR.step rfl ?_ | refine zR.getf rfl (hR.1) rfl ?_ | refine zR.cv rfl rfl rfl hR.1 rfl rfl (zCalP.of (c_isHouse hR _) ?_) | refine zR.cs rfl rfl rfl rfl rfl (zCalP.of (c_in _ _ _) ?_))
      refine zR.ret rfl rfl ⟨rfl, by omega, by omega, σ, hI'⟩
  · have ec : inI a 0 (c0 0 1 - 1) = 0 := by rw [N12, N3]; exact e
    have er : inI a 0 (σ 0 4 - 1) = 0 := by rw [N3]; exact e
    repeat (first | rw [zcc1] | rw [zcc2] | rw [zcc3] | rw [zcc4] | refine zR.step rfl ?_ | refine zR.getf rfl (h25) rfl ?_ | refine zR.cv rfl rfl rfl hG0.o rfl rfl (zCalP.of (c_houseAt_n hG0 ec) ?_))
    refine zR.ret rfl rfl ⟨_, rfl, ⟨_, hR.1⟩, rfl, ?_⟩
    show zR ztb _ kX12_houseTold 1 0 [some (.ref 287), some (.int a), some (.int b)] [] _ _ _ _
    repeat (first | rw [zcc1] | rw [zcc2] | rw [zcc3] | rw [zcc4] | rw [er] | refine zR.step rfl ?_ | refine zR.getf rfl (hR.1) rfl ?_ | refine zR.cv rfl rfl rfl hR.1 rfl rfl (zCalP.of (c_isHouse hR _) ?_))
    refine zR.ret rfl rfl ⟨rfl, by omega, by omega, σ, hI'⟩
