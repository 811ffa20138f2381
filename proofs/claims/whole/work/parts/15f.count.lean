
/-! count. -/
theorem zswy {x q : Int32} {t d : Nat} {l : List (Int32 × Nat)} (h : x = q) : zsw x ((q, t) :: l) d = t := if_pos h
theorem zswn {x q : Int32} {t d : Nat} {l : List (Int32 × Nat)} (h : ¬ x = q) : zsw x ((q, t) :: l) d = zsw x l d := if_neg h
theorem zsw0 {x : Int32} {d : Nat} : zsw x [] d = d := rfl
theorem zI_sub {a b : Nat} (h : b ≤ a) (ha : a < 2 ^ 31) : nI a - nI b = nI (a - b) := by
  apply Int32.toInt_inj.mp
  rw [Int32.toInt_sub, nI_toInt ha, nI_toInt (by omega), nI_toInt (by omega), Int.bmod_eq_of_le (by omega) (by omega)]
  omega
theorem o_count {L : Nat} {xs : Nat → Int32} : op_count (Inv L xs) := by
  intro a M σ n w hI
  have hI' := hI
  obtain ⟨t, tr, c0, c1, c2, k0, k1, k2, b0, b1, b2, l0, l1, l2, hR, ⟨hT, hG0, hG1, hG2⟩, hg, hk, ht, hx, hn⟩ := hI
  have h25 := hT.1
  have hg' := hg
  obtain ⟨nc, nh, nl, lm, wk, hN, ⟨hC, hCn⟩, hB, hL, hSt, hH, hW, hX⟩ := hg'
  obtain ⟨N1, N2, N3, N4, N5, N6, N7, N8, N9, N10, N11, N12, N13, N14, N15, N16, N17⟩ := hN
  have h26 := hT.2.1
  have h276 := hT.2.2.2.2.2.2.1
  obtain ⟨sc, r, en, hLc, -⟩ := hX
  have hl := hLc.1
  have t3 : t 0 3 = σ 12 6 := ht.2.2.2.2.2.1
  have t12 : t 0 12 = σ 12 14 := ht.2.2.2.2.2.2.2.2.2.1
  show zR ztb _ kX11_count 1 0 [some (.ref 25), some (.int a)] [] _ _ _ _
  repeat (first | rw [zcc1] | rw [zcc2] | rw [zcc3] | rw [zcc4] | refine zR.step rfl ?_)
  refine zR.swc (fun q => ?_) (fun q0 => ?_)
  · subst q
    repeat (first | rw [zcc1] | rw [zcc2] | rw [zcc3] | rw [zcc4] | refine zR.step rfl ?_ | refine zR.getf rfl (h25) rfl ?_ | refine zR.getf rfl (hG0.o) rfl ?_ | refine zR.getf rfl (hG0.lo) rfl ?_ | refine zR.getf rfl (hl) rfl ?_ | refine zR.getf rfl (h26) rfl ?_ | refine zR.getf rfl (h276) rfl ?_)
    refine zR.ret rfl rfl ⟨_, rfl, ⟨_, hR.1⟩, rfl, ?_⟩
    show zR ztb _ kX12_count 1 0 [some (.ref 287), some (.int 0)] [] _ _ _ _
    repeat (first | rw [zcc1] | rw [zcc2] | rw [zcc3] | rw [zcc4] | rw [zb1 (by decide)] | rw [zb2 (by decide)] | rw [zb3 (by decide)] | rw [zb4 (by decide)] | rw [zn1 (by decide)] | rw [zn2 (by decide)] | rw [zn3 (by decide)] | rw [zn4 (by decide)] | rw [ze1 (by decide)] | rw [ze2 (by decide)] | rw [zd1 (by decide)] | rw [zd2 (by decide)] | rw [zswy (by decide)] | rw [zswn (by decide)] | rw [zsw0] | refine zR.step rfl ?_ | refine zR.getf rfl (hR.1) rfl ?_ | refine zR.ilR0 hR rfl (by (try simp only [zn_lit, zn_add, zn_mul]); rfl) (by omega) ?_)
    refine zR.ret rfl rfl ⟨zeqv (N11.symm), by omega, by omega, σ, hI'⟩
  refine zR.swc (fun q => ?_) (fun q1 => ?_)
  · subst q
    repeat (first | rw [zcc1] | rw [zcc2] | rw [zcc3] | rw [zcc4] | refine zR.step rfl ?_ | refine zR.getf rfl (h25) rfl ?_ | refine zR.getf rfl (hG0.o) rfl ?_ | refine zR.getf rfl (hG0.lo) rfl ?_ | refine zR.getf rfl (hl) rfl ?_ | refine zR.getf rfl (h26) rfl ?_ | refine zR.getf rfl (h276) rfl ?_)
    refine zR.ret rfl rfl ⟨_, rfl, ⟨_, hR.1⟩, rfl, ?_⟩
    show zR ztb _ kX12_count 1 0 [some (.ref 287), some (.int 1)] [] _ _ _ _
    repeat (first | rw [zcc1] | rw [zcc2] | rw [zcc3] | rw [zcc4] | rw [zb1 (by decide)] | rw [zb2 (by decide)] | rw [zb3 (by decide)] | rw [zb4 (by decide)] | rw [zn1 (by decide)] | rw [zn2 (by decide)] | rw [zn3 (by decide)] | rw [zn4 (by decide)] | rw [ze1 (by decide)] | rw [ze2 (by decide)] | rw [zd1 (by decide)] | rw [zd2 (by decide)] | rw [zswy (by decide)] | rw [zswn (by decide)] | rw [zsw0] | refine zR.step rfl ?_ | refine zR.getf rfl (hR.1) rfl ?_ | refine zR.ilR0 hR rfl (by (try simp only [zn_lit, zn_add, zn_mul]); rfl) (by omega) ?_)
    refine zR.ret rfl rfl ⟨zeqv (N12.symm), by omega, by omega, σ, hI'⟩
  refine zR.swc (fun q => ?_) (fun q2 => ?_)
  · subst q
    repeat (first | rw [zcc1] | rw [zcc2] | rw [zcc3] | rw [zcc4] | refine zR.step rfl ?_ | refine zR.getf rfl (h25) rfl ?_ | refine zR.getf rfl (hG0.o) rfl ?_ | refine zR.getf rfl (hG0.lo) rfl ?_ | refine zR.getf rfl (hl) rfl ?_ | refine zR.getf rfl (h26) rfl ?_ | refine zR.getf rfl (h276) rfl ?_)
    refine zR.ret rfl rfl ⟨_, rfl, ⟨_, hR.1⟩, rfl, ?_⟩
    show zR ztb _ kX12_count 1 0 [some (.ref 287), some (.int 2)] [] _ _ _ _
    repeat (first | rw [zcc1] | rw [zcc2] | rw [zcc3] | rw [zcc4] | rw [zb1 (by decide)] | rw [zb2 (by decide)] | rw [zb3 (by decide)] | rw [zb4 (by decide)] | rw [zn1 (by decide)] | rw [zn2 (by decide)] | rw [zn3 (by decide)] | rw [zn4 (by decide)] | rw [ze1 (by decide)] | rw [ze2 (by decide)] | rw [zd1 (by decide)] | rw [zd2 (by decide)] | rw [zswy (by decide)] | rw [zswn (by decide)] | rw [zsw0] | refine zR.step rfl ?_ | refine zR.getf rfl (hR.1) rfl ?_ | refine zR.ilR0 hR rfl (by (try simp only [zn_lit, zn_add, zn_mul]); rfl) (by omega) ?_)
    refine zR.ret rfl rfl ⟨zeqv (N15.symm), by omega, by omega, σ, hI'⟩
  refine zR.swc (fun q => ?_) (fun q3 => ?_)
  · subst q
    repeat (first | rw [zcc1] | rw [zcc2] | rw [zcc3] | rw [zcc4] | refine zR.step rfl ?_ | refine zR.getf rfl (h25) rfl ?_ | refine zR.getf rfl (hG0.o) rfl ?_ | refine zR.getf rfl (hG0.lo) rfl ?_ | refine zR.getf rfl (hl) rfl ?_ | refine zR.getf rfl (h26) rfl ?_ | refine zR.getf rfl (h276) rfl ?_)
    refine zR.ret rfl rfl ⟨_, rfl, ⟨_, hR.1⟩, rfl, ?_⟩
    show zR ztb _ kX12_count 1 0 [some (.ref 287), some (.int 3)] [] _ _ _ _
    repeat (first | rw [zcc1] | rw [zcc2] | rw [zcc3] | rw [zcc4] | rw [zb1 (by decide)] | rw [zb2 (by decide)] | rw [zb3 (by decide)] | rw [zb4 (by decide)] | rw [zn1 (by decide)] | rw [zn2 (by decide)] | rw [zn3 (by decide)] | rw [zn4 (by decide)] | rw [ze1 (by decide)] | rw [ze2 (by decide)] | rw [zd1 (by decide)] | rw [zd2 (by decide)] | rw [zswy (by decide)] | rw [zswn (by decide)] | rw [zsw0] | refine zR.step rfl ?_ | refine zR.getf rfl (hR.1) rfl ?_ | refine zR.ilR0 hR rfl (by (try simp only [zn_lit, zn_add, zn_mul]); rfl) (by omega) ?_)
    refine zR.ret rfl rfl ⟨zeqv (N7), by omega, by omega, σ, hI'⟩
  refine zR.swc (fun q => ?_) (fun q4 => ?_)
  · subst q
    repeat (first | rw [zcc1] | rw [zcc2] | rw [zcc3] | rw [zcc4] | refine zR.step rfl ?_ | refine zR.getf rfl (h25) rfl ?_ | refine zR.getf rfl (hG0.o) rfl ?_ | refine zR.getf rfl (hG0.lo) rfl ?_ | refine zR.getf rfl (hl) rfl ?_ | refine zR.getf rfl (h26) rfl ?_ | refine zR.getf rfl (h276) rfl ?_)
    refine zR.ret rfl rfl ⟨_, rfl, ⟨_, hR.1⟩, rfl, ?_⟩
    show zR ztb _ kX12_count 1 0 [some (.ref 287), some (.int 4)] [] _ _ _ _
    repeat (first | rw [zcc1] | rw [zcc2] | rw [zcc3] | rw [zcc4] | rw [zb1 (by decide)] | rw [zb2 (by decide)] | rw [zb3 (by decide)] | rw [zb4 (by decide)] | rw [zn1 (by decide)] | rw [zn2 (by decide)] | rw [zn3 (by decide)] | rw [zn4 (by decide)] | rw [ze1 (by decide)] | rw [ze2 (by decide)] | rw [zd1 (by decide)] | rw [zd2 (by decide)] | rw [zswy (by decide)] | rw [zswn (by decide)] | rw [zsw0] | refine zR.step rfl ?_ | refine zR.getf rfl (hR.1) rfl ?_ | refine zR.ilR0 hR rfl (by (try simp only [zn_lit, zn_add, zn_mul]); rfl) (by omega) ?_)
    refine zR.ret rfl rfl ⟨zeqv (N13.symm), by omega, by omega, σ, hI'⟩
  refine zR.swc (fun q => ?_) (fun q5 => ?_)
  · subst q
    repeat (first | rw [zcc1] | rw [zcc2] | rw [zcc3] | rw [zcc4] | refine zR.step rfl ?_ | refine zR.getf rfl (h25) rfl ?_ | refine zR.getf rfl (hG0.o) rfl ?_ | refine zR.getf rfl (hG0.lo) rfl ?_ | refine zR.getf rfl (hl) rfl ?_ | refine zR.getf rfl (h26) rfl ?_ | refine zR.getf rfl (h276) rfl ?_)
    refine zR.ret rfl rfl ⟨_, rfl, ⟨_, hR.1⟩, rfl, ?_⟩
    show zR ztb _ kX12_count 1 0 [some (.ref 287), some (.int 5)] [] _ _ _ _
    repeat (first | rw [zcc1] | rw [zcc2] | rw [zcc3] | rw [zcc4] | rw [zb1 (by decide)] | rw [zb2 (by decide)] | rw [zb3 (by decide)] | rw [zb4 (by decide)] | rw [zn1 (by decide)] | rw [zn2 (by decide)] | rw [zn3 (by decide)] | rw [zn4 (by decide)] | rw [ze1 (by decide)] | rw [ze2 (by decide)] | rw [zd1 (by decide)] | rw [zd2 (by decide)] | rw [zswy (by decide)] | rw [zswn (by decide)] | rw [zsw0] | refine zR.step rfl ?_ | refine zR.getf rfl (hR.1) rfl ?_ | refine zR.ilR0 hR rfl (by (try simp only [zn_lit, zn_add, zn_mul]); rfl) (by omega) ?_)
    refine zR.ret rfl rfl ⟨zeqv (N14.symm), by omega, by omega, σ, hI'⟩
  refine zR.swc (fun q => ?_) (fun q6 => ?_)
  · subst q
    repeat (first | rw [zcc1] | rw [zcc2] | rw [zcc3] | rw [zcc4] | refine zR.step rfl ?_ | refine zR.getf rfl (h25) rfl ?_ | refine zR.getf rfl (hG0.o) rfl ?_ | refine zR.getf rfl (hG0.lo) rfl ?_ | refine zR.getf rfl (hl) rfl ?_ | refine zR.getf rfl (h26) rfl ?_ | refine zR.getf rfl (h276) rfl ?_)
    refine zR.ret rfl rfl ⟨_, rfl, ⟨_, hR.1⟩, rfl, ?_⟩
    show zR ztb _ kX12_count 1 0 [some (.ref 287), some (.int 6)] [] _ _ _ _
    repeat (first | rw [zcc1] | rw [zcc2] | rw [zcc3] | rw [zcc4] | rw [zb1 (by decide)] | rw [zb2 (by decide)] | rw [zb3 (by decide)] | rw [zb4 (by decide)] | rw [zn1 (by decide)] | rw [zn2 (by decide)] | rw [zn3 (by decide)] | rw [zn4 (by decide)] | rw [ze1 (by decide)] | rw [ze2 (by decide)] | rw [zd1 (by decide)] | rw [zd2 (by decide)] | rw [zswy (by decide)] | rw [zswn (by decide)] | rw [zsw0] | refine zR.step rfl ?_ | refine zR.getf rfl (hR.1) rfl ?_ | refine zR.ilR0 hR rfl (by (try simp only [zn_lit, zn_add, zn_mul]); rfl) (by omega) ?_)
    refine zR.ret rfl rfl ⟨zeqv (t3.symm), by omega, by omega, σ, hI'⟩
  refine zR.swc (fun q => ?_) (fun q7 => ?_)
  · subst q
    repeat (first | rw [zcc1] | rw [zcc2] | rw [zcc3] | rw [zcc4] | refine zR.step rfl ?_ | refine zR.getf rfl (h25) rfl ?_ | refine zR.getf rfl (hG0.o) rfl ?_ | refine zR.getf rfl (hG0.lo) rfl ?_ | refine zR.getf rfl (hl) rfl ?_ | refine zR.getf rfl (h26) rfl ?_ | refine zR.getf rfl (h276) rfl ?_)
    refine zR.ret rfl rfl ⟨_, rfl, ⟨_, hR.1⟩, rfl, ?_⟩
    show zR ztb _ kX12_count 1 0 [some (.ref 287), some (.int 7)] [] _ _ _ _
    repeat (first | rw [zcc1] | rw [zcc2] | rw [zcc3] | rw [zcc4] | rw [zb1 (by decide)] | rw [zb2 (by decide)] | rw [zb3 (by decide)] | rw [zb4 (by decide)] | rw [zn1 (by decide)] | rw [zn2 (by decide)] | rw [zn3 (by decide)] | rw [zn4 (by decide)] | rw [ze1 (by decide)] | rw [ze2 (by decide)] | rw [zd1 (by decide)] | rw [zd2 (by decide)] | rw [zswy (by decide)] | rw [zswn (by decide)] | rw [zsw0] | refine zR.step rfl ?_ | refine zR.getf rfl (hR.1) rfl ?_ | refine zR.ilR0 hR rfl (by (try simp only [zn_lit, zn_add, zn_mul]); rfl) (by omega) ?_)
    refine zR.ret rfl rfl ⟨zeqv (t12.symm), by omega, by omega, σ, hI'⟩
  rcases inI_nat a 8 37 (by omega) (by omega) with ⟨i, h1, h2, rfl, e⟩ | ⟨-, e⟩
  · replace e : inI (nI i) 8 37 = 1 := e
    have em : nI i - 8 = nI (i - 8) := zI_sub (b := 8) (by omega) (by omega)
    repeat (first | rw [zcc1] | rw [zcc2] | rw [zcc3] | rw [zcc4] | rw [e] | rw [em] | refine zR.step rfl ?_ | refine zR.getf rfl (h25) rfl ?_ | refine zR.cs rfl rfl rfl rfl rfl (zCalP.of (c_isWithin _ _ _) ?_) | refine zR.cv rfl rfl rfl hG0.o rfl rfl (zCalP.of (c_warmthOf hG0 hW (by omega)) ?_))
    refine zR.ret rfl rfl ⟨_, rfl, ⟨_, hR.1⟩, rfl, ?_⟩
    show zR ztb _ kX12_count 1 0 [some (.ref 287), some (.int (nI i))] [] _ _ _ _
    repeat (first | rw [zcc1] | rw [zcc2] | rw [zcc3] | rw [zcc4] | refine zR.step rfl ?_)
    refine zR.swc (fun q => absurd q q0) (fun _ => ?_)
    refine zR.swc (fun q => absurd q q1) (fun _ => ?_)
    refine zR.swc (fun q => absurd q q2) (fun _ => ?_)
    refine zR.swc (fun q => absurd q q3) (fun _ => ?_)
    refine zR.swc (fun q => absurd q q4) (fun _ => ?_)
    refine zR.swc (fun q => absurd q q5) (fun _ => ?_)
    refine zR.swc (fun q => absurd q q6) (fun _ => ?_)
    refine zR.swc (fun q => absurd q q7) (fun _ => ?_)
    repeat (first | rw [zcc1] | rw [zcc2] | rw [zcc3] | rw [zcc4] | rw [e] | rw [em] | refine zR.step rfl ?_ | refine zR.cs rfl rfl rfl rfl rfl (zCalP.of (c_in _ _ _) ?_) | refine zR.cv rfl rfl rfl hR.1 rfl rfl (zCalP.of (c_warmth hR (by omega)) ?_))
    refine zR.ret rfl rfl ⟨rfl, by omega, by omega, σ, hI'⟩
  · replace e : inI a 8 37 = 0 := e
    repeat (first | rw [zcc1] | rw [zcc2] | rw [zcc3] | rw [zcc4] | rw [e] | refine zR.step rfl ?_ | refine zR.cs rfl rfl rfl rfl rfl (zCalP.of (c_isWithin _ _ _) ?_))
    refine zR.ret rfl rfl ⟨_, rfl, ⟨_, hR.1⟩, rfl, ?_⟩
    show zR ztb _ kX12_count 1 0 [some (.ref 287), some (.int a)] [] _ _ _ _
    repeat (first | rw [zcc1] | rw [zcc2] | rw [zcc3] | rw [zcc4] | refine zR.step rfl ?_)
    refine zR.swc (fun q => absurd q q0) (fun _ => ?_)
    refine zR.swc (fun q => absurd q q1) (fun _ => ?_)
    refine zR.swc (fun q => absurd q q2) (fun _ => ?_)
    refine zR.swc (fun q => absurd q q3) (fun _ => ?_)
    refine zR.swc (fun q => absurd q q4) (fun _ => ?_)
    refine zR.swc (fun q => absurd q q5) (fun _ => ?_)
    refine zR.swc (fun q => absurd q q6) (fun _ => ?_)
    refine zR.swc (fun q => absurd q q7) (fun _ => ?_)
    repeat (first | rw [zcc1] | rw [zcc2] | rw [zcc3] | rw [zcc4] | rw [e] | refine zR.step rfl ?_ | refine zR.cs rfl rfl rfl rfl rfl (zCalP.of (c_in _ _ _) ?_))
    refine zR.ret rfl rfl ⟨rfl, by omega, by omega, σ, hI'⟩
