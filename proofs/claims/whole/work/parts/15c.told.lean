
/-! told, bed, lot. -/
theorem inI_no {b : Int32} {lo hi : Nat} (hl : lo < 2 ^ 31) (hh : hi < 2 ^ 31) (h : ∀ i, lo ≤ i → i ≤ hi → ¬ b = nI i) : inI b (nI lo) (nI hi) = 0 := by
  rcases inI_nat b lo hi hl hh with ⟨i, h1, h2, h3, -⟩ | ⟨-, h2⟩
  · exact absurd h3 (h i h1 h2)
  · exact h2
theorem zeqv {x y : Int32} (h : x = y) : some (Value.int x) = some (Value.int y) := by rw [h]
theorem o_told {L : Nat} {xs : Nat → Int32} : op_told (Inv L xs) := by
  intro a b M σ n w hI
  have hI' := hI
  obtain ⟨t, tr, c0, c1, c2, k0, k1, k2, b0, b1, b2, l0, l1, l2, hR, ⟨hT, hG0, hG1, hG2⟩, hg, hk, ht, hx, hn⟩ := hI
  have h25 := hT.1
  have hg' := hg
  obtain ⟨nc, nh, nl, lm, wk, hN, ⟨hC, hCn⟩, hB, hL, hSt, hH, hW, hX⟩ := hg'
  obtain ⟨N1, N2, N3, N4, N5, N6, N7, N8, N9, N10, N11, N12, N13, N14, N15, N16, N17⟩ := hN
  show zR ztb _ kX11_told 1 0 [some (.ref 25), some (.int a), some (.int b), none] [] _ _ _ _
  rcases inI_sub a nc (by omega) with ⟨i, hi, rfl, e⟩ | ⟨-, e⟩
  · have ec : inI (nI i) 0 (c0 0 0 - 1) = 1 := by rw [N11, N1]; exact e
    have er : inI (nI i) 0 (σ 0 2 - 1) = 1 := by rw [N1]; exact e
    obtain ⟨⟨ca, hk1, hc1⟩, -⟩ := hC i hi
    have hcM := hc1.2.2
    obtain ⟨S0, S1, S2, S3, S4⟩ := hSt i (by omega)
    repeat (first | rw [zcc1] | rw [zcc2] | rw [zcc3] | rw [zcc4] | refine zR.step rfl ?_ | refine zR.getf rfl (h25) rfl ?_ | refine zR.cv rfl rfl rfl hG0.o rfl rfl (zCalP.of (c_cropAt_y hG0 ec (by omega) hk1) ?_))
    refine zR.swc (fun q => ?_) (fun q0 => ?_)
    · subst q
      have eb : inI 0 0 10 = 1 := by decide
      repeat (first | rw [zcc1] | rw [zcc2] | rw [zcc3] | rw [zcc4] | refine zR.step rfl ?_ | refine zR.getf rfl (hcM) rfl ?_)
      refine zR.ret rfl rfl ⟨_, rfl, ⟨_, hR.1⟩, rfl, ?_⟩
      show zR ztb _ kX12_told 1 0 [some (.ref 287), some (.int (nI i)), some (.int 0)] [] _ _ _ _
      repeat (first | rw [zcc1] | rw [zcc2] | rw [zcc3] | rw [zcc4] | rw [zb1 (by decide)] | rw [zb2 (by decide)] | rw [zb3 (by decide)] | rw [zb4 (by decide)] | rw [zn1 (by decide)] | rw [zn2 (by decide)] | rw [zn3 (by decide)] | rw [zn4 (by decide)] | rw [ze1 (by decide)] | rw [ze2 (by decide)] | rw [zd1 (by decide)] | rw [zd2 (by decide)] | rw [zswy (by decide)] | rw [zswn (by decide)] | rw [zsw0] | rw [er] | rw [eb] | refine zR.step rfl ?_ | refine zR.getf rfl (hR.1) rfl ?_ | refine zR.cv rfl rfl rfl hR.1 rfl rfl (zCalP.of (c_isCrop hR _) ?_) | refine zR.cs rfl rfl rfl rfl rfl (zCalP.of (c_in _ _ _) ?_) | refine zR.cv rfl rfl rfl hR.1 rfl rfl (zCalP.of (c_cropIs hR i 0 (by omega)) ?_))
      refine zR.ret rfl rfl ⟨zeqv (congrArg (σ 0) (by omega)), by omega, by omega, σ, hI'⟩
    refine zR.swc (fun q => ?_) (fun q1 => ?_)
    · subst q
      have eb : inI 1 0 10 = 1 := by decide
      repeat (first | rw [zcc1] | rw [zcc2] | rw [zcc3] | rw [zcc4] | refine zR.step rfl ?_ | refine zR.getf rfl (hcM) rfl ?_)
      refine zR.ret rfl rfl ⟨_, rfl, ⟨_, hR.1⟩, rfl, ?_⟩
      show zR ztb _ kX12_told 1 0 [some (.ref 287), some (.int (nI i)), some (.int 1)] [] _ _ _ _
      repeat (first | rw [zcc1] | rw [zcc2] | rw [zcc3] | rw [zcc4] | rw [zb1 (by decide)] | rw [zb2 (by decide)] | rw [zb3 (by decide)] | rw [zb4 (by decide)] | rw [zn1 (by decide)] | rw [zn2 (by decide)] | rw [zn3 (by decide)] | rw [zn4 (by decide)] | rw [ze1 (by decide)] | rw [ze2 (by decide)] | rw [zd1 (by decide)] | rw [zd2 (by decide)] | rw [zswy (by decide)] | rw [zswn (by decide)] | rw [zsw0] | rw [er] | rw [eb] | refine zR.step rfl ?_ | refine zR.getf rfl (hR.1) rfl ?_ | refine zR.cv rfl rfl rfl hR.1 rfl rfl (zCalP.of (c_isCrop hR _) ?_) | refine zR.cs rfl rfl rfl rfl rfl (zCalP.of (c_in _ _ _) ?_) | refine zR.cv rfl rfl rfl hR.1 rfl rfl (zCalP.of (c_cropIs hR i 1 (by omega)) ?_))
      refine zR.ret rfl rfl ⟨zeqv (congrArg (σ 0) (by omega)), by omega, by omega, σ, hI'⟩
    refine zR.swc (fun q => ?_) (fun q2 => ?_)
    · subst q
      have eb : inI 2 0 10 = 1 := by decide
      repeat (first | rw [zcc1] | rw [zcc2] | rw [zcc3] | rw [zcc4] | refine zR.step rfl ?_ | refine zR.getf rfl (hcM) rfl ?_)
      refine zR.ret rfl rfl ⟨_, rfl, ⟨_, hR.1⟩, rfl, ?_⟩
      show zR ztb _ kX12_told 1 0 [some (.ref 287), some (.int (nI i)), some (.int 2)] [] _ _ _ _
      repeat (first | rw [zcc1] | rw [zcc2] | rw [zcc3] | rw [zcc4] | rw [zb1 (by decide)] | rw [zb2 (by decide)] | rw [zb3 (by decide)] | rw [zb4 (by decide)] | rw [zn1 (by decide)] | rw [zn2 (by decide)] | rw [zn3 (by decide)] | rw [zn4 (by decide)] | rw [ze1 (by decide)] | rw [ze2 (by decide)] | rw [zd1 (by decide)] | rw [zd2 (by decide)] | rw [zswy (by decide)] | rw [zswn (by decide)] | rw [zsw0] | rw [er] | rw [eb] | refine zR.step rfl ?_ | refine zR.getf rfl (hR.1) rfl ?_ | refine zR.cv rfl rfl rfl hR.1 rfl rfl (zCalP.of (c_isCrop hR _) ?_) | refine zR.cs rfl rfl rfl rfl rfl (zCalP.of (c_in _ _ _) ?_) | refine zR.cv rfl rfl rfl hR.1 rfl rfl (zCalP.of (c_cropIs hR i 2 (by omega)) ?_))
      refine zR.ret rfl rfl ⟨zeqv (congrArg (σ 0) (by omega)), by omega, by omega, σ, hI'⟩
    refine zR.swc (fun q => ?_) (fun q3 => ?_)
    · subst q
      have eb : inI 3 0 10 = 1 := by decide
      repeat (first | rw [zcc1] | rw [zcc2] | rw [zcc3] | rw [zcc4] | refine zR.step rfl ?_ | refine zR.getf rfl (hcM) rfl ?_)
      refine zR.ret rfl rfl ⟨_, rfl, ⟨_, hR.1⟩, rfl, ?_⟩
      show zR ztb _ kX12_told 1 0 [some (.ref 287), some (.int (nI i)), some (.int 3)] [] _ _ _ _
      repeat (first | rw [zcc1] | rw [zcc2] | rw [zcc3] | rw [zcc4] | rw [zb1 (by decide)] | rw [zb2 (by decide)] | rw [zb3 (by decide)] | rw [zb4 (by decide)] | rw [zn1 (by decide)] | rw [zn2 (by decide)] | rw [zn3 (by decide)] | rw [zn4 (by decide)] | rw [ze1 (by decide)] | rw [ze2 (by decide)] | rw [zd1 (by decide)] | rw [zd2 (by decide)] | rw [zswy (by decide)] | rw [zswn (by decide)] | rw [zsw0] | rw [er] | rw [eb] | refine zR.step rfl ?_ | refine zR.getf rfl (hR.1) rfl ?_ | refine zR.cv rfl rfl rfl hR.1 rfl rfl (zCalP.of (c_isCrop hR _) ?_) | refine zR.cs rfl rfl rfl rfl rfl (zCalP.of (c_in _ _ _) ?_) | refine zR.cv rfl rfl rfl hR.1 rfl rfl (zCalP.of (c_cropIs hR i 3 (by omega)) ?_))
      refine zR.ret rfl rfl ⟨zeqv (congrArg (σ 0) (by omega)), by omega, by omega, σ, hI'⟩
    refine zR.swc (fun q => ?_) (fun q4 => ?_)
    · subst q
      have eb : inI 4 0 10 = 1 := by decide
      repeat (first | rw [zcc1] | rw [zcc2] | rw [zcc3] | rw [zcc4] | refine zR.step rfl ?_ | refine zR.getf rfl (hcM) rfl ?_)
      refine zR.ret rfl rfl ⟨_, rfl, ⟨_, hR.1⟩, rfl, ?_⟩
      show zR ztb _ kX12_told 1 0 [some (.ref 287), some (.int (nI i)), some (.int 4)] [] _ _ _ _
      repeat (first | rw [zcc1] | rw [zcc2] | rw [zcc3] | rw [zcc4] | rw [zb1 (by decide)] | rw [zb2 (by decide)] | rw [zb3 (by decide)] | rw [zb4 (by decide)] | rw [zn1 (by decide)] | rw [zn2 (by decide)] | rw [zn3 (by decide)] | rw [zn4 (by decide)] | rw [ze1 (by decide)] | rw [ze2 (by decide)] | rw [zd1 (by decide)] | rw [zd2 (by decide)] | rw [zswy (by decide)] | rw [zswn (by decide)] | rw [zsw0] | rw [er] | rw [eb] | refine zR.step rfl ?_ | refine zR.getf rfl (hR.1) rfl ?_ | refine zR.cv rfl rfl rfl hR.1 rfl rfl (zCalP.of (c_isCrop hR _) ?_) | refine zR.cs rfl rfl rfl rfl rfl (zCalP.of (c_in _ _ _) ?_) | refine zR.cv rfl rfl rfl hR.1 rfl rfl (zCalP.of (c_cropIs hR i 4 (by omega)) ?_))
      refine zR.ret rfl rfl ⟨zeqv (congrArg (σ 0) (by omega)), by omega, by omega, σ, hI'⟩
    refine zR.swc (fun q => ?_) (fun q5 => ?_)
    · subst q
      have eb : inI 5 0 10 = 1 := by decide
      repeat (first | rw [zcc1] | rw [zcc2] | rw [zcc3] | rw [zcc4] | refine zR.step rfl ?_ | refine zR.getf rfl (hcM) rfl ?_)
      refine zR.ret rfl rfl ⟨_, rfl, ⟨_, hR.1⟩, rfl, ?_⟩
      show zR ztb _ kX12_told 1 0 [some (.ref 287), some (.int (nI i)), some (.int 5)] [] _ _ _ _
      repeat (first | rw [zcc1] | rw [zcc2] | rw [zcc3] | rw [zcc4] | rw [zb1 (by decide)] | rw [zb2 (by decide)] | rw [zb3 (by decide)] | rw [zb4 (by decide)] | rw [zn1 (by decide)] | rw [zn2 (by decide)] | rw [zn3 (by decide)] | rw [zn4 (by decide)] | rw [ze1 (by decide)] | rw [ze2 (by decide)] | rw [zd1 (by decide)] | rw [zd2 (by decide)] | rw [zswy (by decide)] | rw [zswn (by decide)] | rw [zsw0] | rw [er] | rw [eb] | refine zR.step rfl ?_ | refine zR.getf rfl (hR.1) rfl ?_ | refine zR.cv rfl rfl rfl hR.1 rfl rfl (zCalP.of (c_isCrop hR _) ?_) | refine zR.cs rfl rfl rfl rfl rfl (zCalP.of (c_in _ _ _) ?_) | refine zR.cv rfl rfl rfl hR.1 rfl rfl (zCalP.of (c_cropIs hR i 5 (by omega)) ?_))
      refine zR.ret rfl rfl ⟨zeqv (congrArg (σ 0) (by omega)), by omega, by omega, σ, hI'⟩
    refine zR.swc (fun q => ?_) (fun q6 => ?_)
    · subst q
      have eb : inI 6 0 10 = 1 := by decide
      repeat (first | rw [zcc1] | rw [zcc2] | rw [zcc3] | rw [zcc4] | refine zR.step rfl ?_ | refine zR.getf rfl (h25) rfl ?_ | refine zR.getf rfl (hG0.o) rfl ?_ | refine zR.iald rfl (hG0.s0) (Or.inl rfl) (i := i) (by first | with_reducible rfl | (simp only [zn_lit, zn_add, zn_mul]; done) | exact zI_pred (by omega) (by omega) | rfl) (by omega) (by decide) ?_)
      refine zR.ret rfl rfl ⟨_, rfl, ⟨_, hR.1⟩, rfl, ?_⟩
      show zR ztb _ kX12_told 1 0 [some (.ref 287), some (.int (nI i)), some (.int 6)] [] _ _ _ _
      repeat (first | rw [zcc1] | rw [zcc2] | rw [zcc3] | rw [zcc4] | rw [zb1 (by decide)] | rw [zb2 (by decide)] | rw [zb3 (by decide)] | rw [zb4 (by decide)] | rw [zn1 (by decide)] | rw [zn2 (by decide)] | rw [zn3 (by decide)] | rw [zn4 (by decide)] | rw [ze1 (by decide)] | rw [ze2 (by decide)] | rw [zd1 (by decide)] | rw [zd2 (by decide)] | rw [zswy (by decide)] | rw [zswn (by decide)] | rw [zsw0] | rw [er] | rw [eb] | refine zR.step rfl ?_ | refine zR.getf rfl (hR.1) rfl ?_ | refine zR.cv rfl rfl rfl hR.1 rfl rfl (zCalP.of (c_isCrop hR _) ?_) | refine zR.cs rfl rfl rfl rfl rfl (zCalP.of (c_in _ _ _) ?_) | refine zR.cv rfl rfl rfl hR.1 rfl rfl (zCalP.of (c_stock hR N5 (by omega) (nI i)) ?_))
      refine zR.ret rfl rfl ⟨zeqv S0.symm, by omega, by omega, σ, hI'⟩
    refine zR.swc (fun q => ?_) (fun q7 => ?_)
    · subst q
      have eb : inI 7 0 10 = 1 := by decide
      repeat (first | rw [zcc1] | rw [zcc2] | rw [zcc3] | rw [zcc4] | refine zR.step rfl ?_ | refine zR.getf rfl (h25) rfl ?_ | refine zR.getf rfl (hG0.o) rfl ?_ | refine zR.iald rfl (hG0.s1) (Or.inl rfl) (i := i) (by first | with_reducible rfl | (simp only [zn_lit, zn_add, zn_mul]; done) | exact zI_pred (by omega) (by omega) | rfl) (by omega) (by decide) ?_)
      refine zR.ret rfl rfl ⟨_, rfl, ⟨_, hR.1⟩, rfl, ?_⟩
      show zR ztb _ kX12_told 1 0 [some (.ref 287), some (.int (nI i)), some (.int 7)] [] _ _ _ _
      have em : (7 : Int32) - 1 = 6 := by decide
      repeat (first | rw [em] | rw [zcc1] | rw [zcc2] | rw [zcc3] | rw [zcc4] | rw [zb1 (by decide)] | rw [zb2 (by decide)] | rw [zb3 (by decide)] | rw [zb4 (by decide)] | rw [zn1 (by decide)] | rw [zn2 (by decide)] | rw [zn3 (by decide)] | rw [zn4 (by decide)] | rw [ze1 (by decide)] | rw [ze2 (by decide)] | rw [zd1 (by decide)] | rw [zd2 (by decide)] | rw [zswy (by decide)] | rw [zswn (by decide)] | rw [zsw0] | rw [er] | rw [eb] | refine zR.step rfl ?_ | refine zR.getf rfl (hR.1) rfl ?_ | refine zR.cv rfl rfl rfl hR.1 rfl rfl (zCalP.of (c_isCrop hR _) ?_) | refine zR.cs rfl rfl rfl rfl rfl (zCalP.of (c_in _ _ _) ?_) | refine zR.cv rfl rfl rfl hR.1 rfl rfl (zCalP.of (c_cropIs hR i 6 (by omega)) ?_))
      refine zR.ret rfl rfl ⟨zeqv ((congrArg (σ 0) (by omega)).trans S1.symm), by omega, by omega, σ, hI'⟩
    refine zR.swc (fun q => ?_) (fun q8 => ?_)
    · subst q
      have eb : inI 8 0 10 = 1 := by decide
      repeat (first | rw [zcc1] | rw [zcc2] | rw [zcc3] | rw [zcc4] | refine zR.step rfl ?_ | refine zR.getf rfl (h25) rfl ?_ | refine zR.getf rfl (hG0.o) rfl ?_ | refine zR.iald rfl (hG0.s2) (Or.inl rfl) (i := i) (by first | with_reducible rfl | (simp only [zn_lit, zn_add, zn_mul]; done) | exact zI_pred (by omega) (by omega) | rfl) (by omega) (by decide) ?_)
      refine zR.ret rfl rfl ⟨_, rfl, ⟨_, hR.1⟩, rfl, ?_⟩
      show zR ztb _ kX12_told 1 0 [some (.ref 287), some (.int (nI i)), some (.int 8)] [] _ _ _ _
      have em : (8 : Int32) - 1 = 7 := by decide
      repeat (first | rw [em] | rw [zcc1] | rw [zcc2] | rw [zcc3] | rw [zcc4] | rw [zb1 (by decide)] | rw [zb2 (by decide)] | rw [zb3 (by decide)] | rw [zb4 (by decide)] | rw [zn1 (by decide)] | rw [zn2 (by decide)] | rw [zn3 (by decide)] | rw [zn4 (by decide)] | rw [ze1 (by decide)] | rw [ze2 (by decide)] | rw [zd1 (by decide)] | rw [zd2 (by decide)] | rw [zswy (by decide)] | rw [zswn (by decide)] | rw [zsw0] | rw [er] | rw [eb] | refine zR.step rfl ?_ | refine zR.getf rfl (hR.1) rfl ?_ | refine zR.cv rfl rfl rfl hR.1 rfl rfl (zCalP.of (c_isCrop hR _) ?_) | refine zR.cs rfl rfl rfl rfl rfl (zCalP.of (c_in _ _ _) ?_) | refine zR.cv rfl rfl rfl hR.1 rfl rfl (zCalP.of (c_cropIs hR i 7 (by omega)) ?_))
      refine zR.ret rfl rfl ⟨zeqv ((congrArg (σ 0) (by omega)).trans S2.symm), by omega, by omega, σ, hI'⟩
    refine zR.swc (fun q => ?_) (fun q9 => ?_)
    · subst q
      have eb : inI 9 0 10 = 1 := by decide
      repeat (first | rw [zcc1] | rw [zcc2] | rw [zcc3] | rw [zcc4] | refine zR.step rfl ?_ | refine zR.getf rfl (h25) rfl ?_ | refine zR.getf rfl (hG0.o) rfl ?_ | refine zR.iald rfl (hG0.s3) (Or.inl rfl) (i := i) (by first | with_reducible rfl | (simp only [zn_lit, zn_add, zn_mul]; done) | exact zI_pred (by omega) (by omega) | rfl) (by omega) (by decide) ?_)
      refine zR.ret rfl rfl ⟨_, rfl, ⟨_, hR.1⟩, rfl, ?_⟩
      show zR ztb _ kX12_told 1 0 [some (.ref 287), some (.int (nI i)), some (.int 9)] [] _ _ _ _
      have em : (9 : Int32) - 1 = 8 := by decide
      repeat (first | rw [em] | rw [zcc1] | rw [zcc2] | rw [zcc3] | rw [zcc4] | rw [zb1 (by decide)] | rw [zb2 (by decide)] | rw [zb3 (by decide)] | rw [zb4 (by decide)] | rw [zn1 (by decide)] | rw [zn2 (by decide)] | rw [zn3 (by decide)] | rw [zn4 (by decide)] | rw [ze1 (by decide)] | rw [ze2 (by decide)] | rw [zd1 (by decide)] | rw [zd2 (by decide)] | rw [zswy (by decide)] | rw [zswn (by decide)] | rw [zsw0] | rw [er] | rw [eb] | refine zR.step rfl ?_ | refine zR.getf rfl (hR.1) rfl ?_ | refine zR.cv rfl rfl rfl hR.1 rfl rfl (zCalP.of (c_isCrop hR _) ?_) | refine zR.cs rfl rfl rfl rfl rfl (zCalP.of (c_in _ _ _) ?_) | refine zR.cv rfl rfl rfl hR.1 rfl rfl (zCalP.of (c_cropIs hR i 8 (by omega)) ?_))
      refine zR.ret rfl rfl ⟨zeqv ((congrArg (σ 0) (by omega)).trans S3.symm), by omega, by omega, σ, hI'⟩
    refine zR.swc (fun q => ?_) (fun q10 => ?_)
    · subst q
      have eb : inI 10 0 10 = 1 := by decide
      repeat (first | rw [zcc1] | rw [zcc2] | rw [zcc3] | rw [zcc4] | refine zR.step rfl ?_ | refine zR.getf rfl (h25) rfl ?_ | refine zR.getf rfl (hG0.o) rfl ?_ | refine zR.iald rfl (hG0.s4) (Or.inl rfl) (i := i) (by first | with_reducible rfl | (simp only [zn_lit, zn_add, zn_mul]; done) | exact zI_pred (by omega) (by omega) | rfl) (by omega) (by decide) ?_)
      refine zR.ret rfl rfl ⟨_, rfl, ⟨_, hR.1⟩, rfl, ?_⟩
      show zR ztb _ kX12_told 1 0 [some (.ref 287), some (.int (nI i)), some (.int 10)] [] _ _ _ _
      have em : (10 : Int32) - 1 = 9 := by decide
      repeat (first | rw [em] | rw [zcc1] | rw [zcc2] | rw [zcc3] | rw [zcc4] | rw [zb1 (by decide)] | rw [zb2 (by decide)] | rw [zb3 (by decide)] | rw [zb4 (by decide)] | rw [zn1 (by decide)] | rw [zn2 (by decide)] | rw [zn3 (by decide)] | rw [zn4 (by decide)] | rw [ze1 (by decide)] | rw [ze2 (by decide)] | rw [zd1 (by decide)] | rw [zd2 (by decide)] | rw [zswy (by decide)] | rw [zswn (by decide)] | rw [zsw0] | rw [er] | rw [eb] | refine zR.step rfl ?_ | refine zR.getf rfl (hR.1) rfl ?_ | refine zR.cv rfl rfl rfl hR.1 rfl rfl (zCalP.of (c_isCrop hR _) ?_) | refine zR.cs rfl rfl rfl rfl rfl (zCalP.of (c_in _ _ _) ?_) | refine zR.cv rfl rfl rfl hR.1 rfl rfl (zCalP.of (c_cropIs hR i 9 (by omega)) ?_))
      refine zR.ret rfl rfl ⟨zeqv ((congrArg (σ 0) (by omega)).trans S4.symm), by omega, by omega, σ, hI'⟩
    have eb : inI b 0 10 = 0 := inI_no (lo := 0) (hi := 10) (by omega) (by omega) (fun i h1 h2 => match i, h2 with | 0, _ => q0 | 1, _ => q1 | 2, _ => q2 | 3, _ => q3 | 4, _ => q4 | 5, _ => q5 | 6, _ => q6 | 7, _ => q7 | 8, _ => q8 | 9, _ => q9 | 10, _ => q10 | i + 11, h2 => absurd h2 (by omega))
    repeat (first | rw [zcc1] | rw [zcc2] | rw [zcc3] | rw [zcc4] | refine zR.step rfl ?_)
    refine zR.ret rfl rfl ⟨_, rfl, ⟨_, hR.1⟩, rfl, ?_⟩
    show zR ztb _ kX12_told 1 0 [some (.ref 287), some (.int (nI i)), some (.int b)] [] _ _ _ _
    repeat (first | rw [zcc1] | rw [zcc2] | rw [zcc3] | rw [zcc4] | rw [er] | rw [eb] | refine zR.step rfl ?_ | refine zR.getf rfl (hR.1) rfl ?_ | refine zR.cv rfl rfl rfl hR.1 rfl rfl (zCalP.of (c_isCrop hR _) ?_) | refine zR.cs rfl rfl rfl rfl rfl (zCalP.of (c_in _ _ _) ?_))
    refine zR.ret rfl rfl ⟨rfl, by omega, by omega, σ, hI'⟩
  · have ec : inI a 0 (c0 0 0 - 1) = 0 := by rw [N11, N1]; exact e
    have er : inI a 0 (σ 0 2 - 1) = 0 := by rw [N1]; exact e
    repeat (first | rw [zcc1] | rw [zcc2] | rw [zcc3] | rw [zcc4] | refine zR.step rfl ?_ | refine zR.getf rfl (h25) rfl ?_ | refine zR.cv rfl rfl rfl hG0.o rfl rfl (zCalP.of (c_cropAt_n hG0 ec) ?_))
    refine zR.ret rfl rfl ⟨_, rfl, ⟨_, hR.1⟩, rfl, ?_⟩
    show zR ztb _ kX12_told 1 0 [some (.ref 287), some (.int a), some (.int b)] [] _ _ _ _
    repeat (first | rw [zcc1] | rw [zcc2] | rw [zcc3] | rw [zcc4] | rw [er] | refine zR.step rfl ?_ | refine zR.getf rfl (hR.1) rfl ?_ | refine zR.cv rfl rfl rfl hR.1 rfl rfl (zCalP.of (c_isCrop hR _) ?_))
    refine zR.ret rfl rfl ⟨rfl, by omega, by omega, σ, hI'⟩
