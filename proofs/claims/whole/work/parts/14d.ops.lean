
/-! PAIRS OF METHODS. -/
theorem inv_fin {L : Nat} {xs : Nat → Int32} {M1 M2 : zM} {σ : mS} {n w : Nat} {x : Int32} {t : mS} {tr : Option Nat} {c0 c1 c2 : mS} {k0 k1 k2 b0 b1 b2 : Nat → Option Nat} {l0 l1 l2 : Nat} (hC : Cp M1 n t tr c0 c1 c2 k0 k1 k2 b0 b1 b2 l0 l1 l2) (hg : GR M1 n c0 k0 b0 l0 (σ 0)) (hk : σ 12 3 = 1 → GR M1 n c1 k1 b1 l1 (σ 1)) (ht : TR t σ) (hx : ∀ k, k < 25 → M1 k = zX L xs k) (hn : 300 ≤ n) (hR : Rf M2 (sst σ x)) (hS : Sm (zup M1 25 (.inr (11, tob (tst t x)))) M2) : Inv L xs M2 (sst σ x) n w :=
  inv_of hR hS ⟨hC.1.st x, hC.2.1.out (by omega), hC.2.2.1.out (by omega), hC.2.2.2.out (by omega)⟩ (hg.out (by omega)) (fun h => (hk h).out (by omega)) (ht.st x) (fun k hk => by rw [zup_ne _ _ (by omega)]; exact hx k hk) hn
theorem o_hands {L : Nat} {xs : Nat → Int32} : op_hands (Inv L xs) := by
  intro a M σ n w hI
  have hI' := hI
  obtain ⟨t, tr, c0, c1, c2, k0, k1, k2, b0, b1, b2, l0, l1, l2, hR, ⟨hT, hG0, hG1, hG2⟩, hg, hk, ht, hx, hn⟩ := hI
  have h25 := hT.1
  have hg' := hg
  obtain ⟨nc, nh, nl, lm, wk, hN, ⟨hC, hCn⟩, hB, hL, hSt, hH, hW, hX⟩ := hg'
  obtain ⟨N1, N2, N3, N4, N5, N6, N7, N8, N9, N10, N11, N12, N13, N14, N15, N16, N17⟩ := hN
  show zR ztb _ kX11_hands 1 0 [some (.ref 25), some (.int a), none] [] _ _ _ _
  rcases inI_nat a 0 200 (by omega) (by omega) with ⟨i, -, hi, rfl, e⟩ | ⟨-, e⟩
  · replace e : inI (nI i) 0 200 = 1 := e
    repeat (first | rw [zcc1] | rw [zcc2] | rw [zcc3] | rw [zcc4] | rw [e] | refine zR.step rfl ?_ | refine zR.getf rfl (h25) rfl ?_ | refine zR.getf rfl (hG0.o) rfl ?_ | refine zR.cs rfl rfl rfl rfl rfl (zCalP.of (c_isWithin _ _ _) ?_))
    refine zR.putf rfl hG0.o rfl rfl ?_
    have hG0' : Gc (zup M 48 (.inr (2, zfs (gob 48 l0 (c0 0 0) (c0 0 1) (c0 0 2) (c0 0 3)) 9 (.int (nI i))))) 48 (zuf c0 0 (zuf (c0 0) 3 (nI i))) k0 b0 l0 := hG0.row0 (zuf (c0 0) 3 (nI i)) rfl
    have hT' := hT.out (a := 48) (c := .inr (2, zfs (gob 48 l0 (c0 0 0) (c0 0 1) (c0 0 2) (c0 0 3)) 9 (.int (nI i)))) (by omega)
    repeat (first | rw [zcc1] | rw [zcc2] | rw [zcc3] | rw [zcc4] | refine zR.step rfl ?_)
    refine zR.cv rfl rfl rfl hT'.1 rfl rfl (zCalP.of (c_doneC hT'.1 _) ?_)
    repeat (first | rw [zcc1] | rw [zcc2] | rw [zcc3] | rw [zcc4] | refine zR.step rfl ?_)
    refine zR.ret rfl rfl ⟨_, rfl, ⟨_, ((hR.out (by omega)).out (by omega)).1⟩, rfl, ?_⟩
    replace hR := (hR.out (a := 48) (c := .inr (2, zfs (gob 48 l0 (c0 0 0) (c0 0 1) (c0 0 2) (c0 0 3)) 9 (.int (nI i)))) (by omega)).out (a := 25) (c := .inr (11, tob (tst t 0))) (by omega)
    show zR ztb _ kX12_hands 1 0 [some (.ref 287), some (.int (nI i)), none] [] _ _ _ _
    repeat (first | rw [zcc1] | rw [zcc2] | rw [zcc3] | rw [zcc4] | rw [e] | refine zR.step rfl ?_ | refine zR.ilR0 hR rfl (by (try simp only [zn_lit, zn_add, zn_mul]); rfl) (by omega) ?_ | refine zR.getf rfl (hR.1) rfl ?_ | refine zR.cs rfl rfl rfl rfl rfl (zCalP.of (c_in _ _ _) ?_))
    refine zR.isR0 hR Sm.rf rfl (i := 1) rfl (by omega) (fun M1 hR1 hS1 => ?_)
    replace hR := hR1
    repeat (first | rw [zcc1] | rw [zcc2] | rw [zcc3] | rw [zcc4] | refine zR.step rfl ?_)
    refine zR.cv rfl rfl rfl hR.1 rfl rfl (zR.mono (c_done hR _) (fun v n' w' M' hv => ?_))
    obtain ⟨rfl, rfl, rfl, hR2, hS2⟩ := hv
    repeat (first | rw [zcc1] | rw [zcc2] | rw [zcc3] | rw [zcc4] | refine zR.step rfl ?_)
    have hr : nI i = zuf (σ 0) 1 (nI i) 1 := rfl
    refine zR.ret rfl rfl ⟨by rw [N14], by omega, by omega, _, inv_fin (σ := su σ 1 (nI i)) ⟨hT', hG0', hG1.out (by omega), hG2.out (by omega)⟩ ((hg.out (by omega)).num (fun j hj => zuf_ne _ _ (by omega)) (fun j hj => zuf_ne _ _ (by omega)) ?_) (fun h => (hk h).out (by omega)) ht (fun k hk => by rw [zup_ne _ _ (by omega)]; exact hx k hk) hn hR2 (hS1.trans hS2)⟩
    intro nc nh nl lm wk ⟨N1, N2, N3, N4, N5, N6, N7, N8, N9, N10, N11, N12, N13, N14, N15, N16, N17⟩
    exact ⟨N1, N2, N3, N4, N5, N6, N7, N8, N9, N10, N11, N12, N13, rfl, N15, fun h a b k a2 b2 => (zuf_ne (σ 0) (nI i) (by omega)).trans (N16 h a b k a2 b2), N17.cg (fun j h1 h2 => zuf_ne _ _ (by omega))⟩
  · replace e : inI a 0 200 = 0 := e
    repeat (first | rw [zcc1] | rw [zcc2] | rw [zcc3] | rw [zcc4] | rw [e] | refine zR.step rfl ?_ | refine zR.getf rfl (h25) rfl ?_ | refine zR.getf rfl (hG0.o) rfl ?_ | refine zR.cs rfl rfl rfl rfl rfl (zCalP.of (c_isWithin _ _ _) ?_))
    refine zR.cv rfl rfl rfl h25 rfl rfl (zCalP.of (c_refuse h25 _) ?_)
    repeat (first | rw [zcc1] | rw [zcc2] | rw [zcc3] | rw [zcc4] | refine zR.step rfl ?_)
    refine zR.ret rfl rfl ⟨_, rfl, ⟨_, (hR.out (by omega)).1⟩, rfl, ?_⟩
    replace hR : Rf (zup M 25 (.inr (11, tob (tst t 1)))) σ := hR.out (by omega)
    have hS : Sm (zup M 25 (.inr (11, tob (tst t 1)))) (zup M 25 (.inr (11, tob (tst t 1)))) := Sm.rf
    show zR ztb _ kX12_hands 1 0 [some (.ref 287), some (.int a), none] [] _ _ _ _
    repeat (first | rw [zcc1] | rw [zcc2] | rw [zcc3] | rw [zcc4] | rw [e] | refine zR.step rfl ?_ | refine zR.ilR0 hR rfl (by (try simp only [zn_lit, zn_add, zn_mul]); rfl) (by omega) ?_ | refine zR.getf rfl (hR.1) rfl ?_ | refine zR.cs rfl rfl rfl rfl rfl (zCalP.of (c_in _ _ _) ?_))
    refine zR.cv rfl rfl rfl hR.1 rfl rfl (zR.mono (c_refused hR _) (fun v n' w' M' hv => ?_))
    obtain ⟨rfl, rfl, rfl, hR2, hS2⟩ := hv
    repeat (first | rw [zcc1] | rw [zcc2] | rw [zcc3] | rw [zcc4] | refine zR.step rfl ?_)
    refine zR.ret rfl rfl ⟨rfl, by omega, by omega, _, inv_fin ⟨hT, hG0, hG1, hG2⟩ hg hk ht hx hn hR2 (hS.trans hS2)⟩
theorem o_trace {L : Nat} {xs : Nat → Int32} : op_trace (Inv L xs) := by
  intro a M σ n w hI
  have hI' := hI
  obtain ⟨t, tr, c0, c1, c2, k0, k1, k2, b0, b1, b2, l0, l1, l2, hR, ⟨hT, hG0, hG1, hG2⟩, hg, hk, ht, hx, hn⟩ := hI
  have h25 := hT.1
  have hg' := hg
  obtain ⟨nc, nh, nl, lm, wk, hN, ⟨hC, hCn⟩, hB, hL, hSt, hH, hW, hX⟩ := hg'
  obtain ⟨N1, N2, N3, N4, N5, N6, N7, N8, N9, N10, N11, N12, N13, N14, N15, N16, N17⟩ := hN
  have h276 := hT.2.2.2.2.2.2.1
  have h277 := hT.2.2.2.2.2.2.2.1
  have e12 : t 0 12 = σ 12 14 := ht.2.2.2.2.2.2.2.2.2.1
  obtain ⟨tz, z1, z2, z3⟩ := ht.2.2.2.2.2.2.2.2.2.2.1
  have hlt : σ 12 14 < 50 := by rw [z1]; exact (zn_lt (b := 50) (by omega) (by omega)).mpr (by omega)
  show zR ztb _ kX11_trace 1 0 [some (.ref 25), some (.int a)] [] _ _ _ _
  rcases inI_sub a tz (by omega) with ⟨i, hi, rfl, e⟩ | ⟨-, e⟩
  · have ec : inI (nI i) 0 (t 0 12 - 1) = 1 := by rw [e12, z1]; exact e
    have er : inI (nI i) 0 (σ 12 14 - 1) = 1 := by rw [z1]; exact e
    repeat (first | rw [zcc1] | rw [zcc2] | rw [zcc3] | rw [zcc4] | rw [ec] | refine zR.step rfl ?_ | refine zR.getf rfl (h25) rfl ?_ | refine zR.getf rfl (h276) rfl ?_ | refine zR.cs rfl rfl rfl rfl rfl (zCalP.of (c_isWithin _ _ _) ?_))
    refine zR.iald rfl h277 (Or.inl rfl) (i := i) rfl (by omega) (by decide) ?_
    repeat (first | rw [zcc1] | rw [zcc2] | rw [zcc3] | rw [zcc4] | refine zR.step rfl ?_)
    refine zR.ret rfl rfl ⟨_, rfl, ⟨_, hR.1⟩, rfl, ?_⟩
    show zR ztb _ kX12_trace 1 0 [some (.ref 287), some (.int (nI i))] [] _ _ _ _
    repeat (first | rw [zcc1] | rw [zcc2] | rw [zcc3] | rw [zcc4] | rw [zb1 (hlt)] | rw [zb2 (hlt)] | rw [zb3 (hlt)] | rw [zb4 (hlt)] | rw [er] | refine zR.step rfl ?_ | refine zR.getf rfl (hR.1) rfl ?_ | refine zR.cs rfl rfl rfl rfl rfl (zCalP.of (c_in _ _ _) ?_) | refine zR.ilR7 hR rfl (by (try simp only [zn_lit, zn_add, zn_mul]); rfl) (by omega) ?_)
    refine zR.ret rfl rfl ⟨by rw [z3 i hi], by omega, by omega, σ, hI'⟩
  · have ec : inI a 0 (t 0 12 - 1) = 0 := by rw [e12, z1]; exact e
    have er : inI a 0 (σ 12 14 - 1) = 0 := by rw [z1]; exact e
    repeat (first | rw [zcc1] | rw [zcc2] | rw [zcc3] | rw [zcc4] | rw [ec] | refine zR.step rfl ?_ | refine zR.getf rfl (h25) rfl ?_ | refine zR.getf rfl (h276) rfl ?_ | refine zR.cs rfl rfl rfl rfl rfl (zCalP.of (c_isWithin _ _ _) ?_))
    refine zR.ret rfl rfl ⟨_, rfl, ⟨_, hR.1⟩, rfl, ?_⟩
    show zR ztb _ kX12_trace 1 0 [some (.ref 287), some (.int a)] [] _ _ _ _
    repeat (first | rw [zcc1] | rw [zcc2] | rw [zcc3] | rw [zcc4] | rw [zb1 (hlt)] | rw [zb2 (hlt)] | rw [zb3 (hlt)] | rw [zb4 (hlt)] | rw [er] | refine zR.step rfl ?_ | refine zR.getf rfl (hR.1) rfl ?_ | refine zR.cs rfl rfl rfl rfl rfl (zCalP.of (c_in _ _ _) ?_) | refine zR.ilR7 hR rfl (by (try simp only [zn_lit, zn_add, zn_mul]); rfl) (by omega) ?_)
    refine zR.ret rfl rfl ⟨rfl, by omega, by omega, σ, hI'⟩
