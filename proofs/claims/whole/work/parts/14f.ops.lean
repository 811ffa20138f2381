
/-! away, dislike. -/
theorem inv_now {L : Nat} {xs : Nat → Int32} {M M1 M2 : zM} {σ : mS} {n n' w : Nat} {x : Int32} {t : mS} {tr : Option Nat} {c0 c1 c2 : mS} {k0 k1 k2 b0 b1 b2 : Nat → Option Nat} {l0 l1 l2 : Nat} {s : Nat → Int32} (hT : Tc M t tr) (hG1 : Gc M 124 c1 k1 b1 l1) (hG2 : Gc M 200 c2 k2 b2 l2) (hk : σ 12 3 = 1 → GR M n c1 k1 b1 l1 (σ 1)) (ht : TR t σ) (hx : ∀ k, k < 25 → M k = zX L xs k) (hn : 300 ≤ n) (hF : ∀ k, ¬ (48 ≤ k ∧ k < 124) → k < n → M1 k = M k) (hnn : n ≤ n') (hG : Gc M1 48 c0 k0 b0 l0) (hg : GR M1 n' c0 k0 b0 l0 s) (hR : Rf M2 (sst (zuf σ 0 s) x)) (hS : Sm (zup M1 25 (.inr (11, tob (tst t x)))) M2) : Inv L xs M2 (sst (zuf σ 0 s) x) n' w :=
  inv_fin (M1 := M1) (σ := zuf σ 0 s) ⟨hT.same (fun k hk => hF k (by omega) (by omega)), hG, hG1.same (fun k a b => hF k (by omega) (by omega)), hG2.same (fun k a b => hF k (by omega) (by omega))⟩ hg (fun h => (hk h).mv (fun k a b => hF k (by omega) b) hnn) ht (fun k hk => by rw [hF k (by omega) (by omega)]; exact hx k hk) (by omega) hR hS
theorem shr_ne {b : Int32} {k : Nat} (hk : k < 31) (h : ∀ i, i < 2 ^ k → b ≠ nI i) (h0 : ¬ b < 0) : ¬ b >>> (nI k &&& 31) = 0 := by
  intro e
  have e2 := shr_toInt b (k := k) (by omega)
  rw [e, show (0 : Int32).toInt = 0 by decide] at e2
  rw [Int32.lt_iff_toInt_lt, show (0 : Int32).toInt = 0 by decide] at h0
  have hp : (0 : Int) < 2 ^ k := Int.pow_pos (by decide)
  have h3 : b.toInt < 2 ^ k := by
    have := Int.lt_ediv_add_one_mul_self b.toInt hp
    rw [← e2] at this
    omega
  refine h b.toInt.toNat ?_ (zI_of (by omega))
  have : ((b.toInt.toNat : Nat) : Int) < ((2 ^ k : Nat) : Int) := by
    rw [Int.toNat_of_nonneg (by omega)]
    exact_mod_cast h3
  exact_mod_cast this
theorem nI_nn {j : Nat} (hj : j < 2 ^ 31) : ¬ nI j < 0 := nI_pos hj
theorem bits8 : ∀ x : Fin 256, ∀ c : Fin 8, (((nI x.val >>> (nI c.val &&& 31)) &&& 1 = 0 ∧ nI x.val &&& ((1 <<< (nI c.val &&& 31)) ^^^ -1) = nI x.val ∧ nI x.val ^^^ (1 <<< (nI c.val &&& 31)) = nI x.val ||| (1 <<< (nI c.val &&& 31))) ∨ ((nI x.val >>> (nI c.val &&& 31)) &&& 1 = 1 ∧ nI x.val ||| (1 <<< (nI c.val &&& 31)) = nI x.val ∧ nI x.val ^^^ (1 <<< (nI c.val &&& 31)) = nI x.val &&& ((1 <<< (nI c.val &&& 31)) ^^^ -1))) ∧ ¬ nI x.val ^^^ (1 <<< (nI c.val &&& 31)) = nI x.val ∧ nI x.val ^^^ (1 <<< (nI c.val &&& 31)) = nI (x.val ^^^ 2 ^ c.val) ∧ x.val ^^^ 2 ^ c.val ≤ 255 := by decide +kernel
section
variable {M : zM} {g : Nat} {c : mS} {kp bt : Nat → Option Nat} {la : Nat}
theorem c_dislikes {d n w i : Nat} (hG : Gc M g c kp bt la) (hi : i < 10) (x : Int32) : zCall d 39 [.ref (g + 26 + 5 * i), .int x] n w M (some (.int (if (c (30 + i) 1 >>> (x &&& 31)) &&& 1 = 0 then 0 else 1))) n w M := by
  intro Q hQ
  show zR ztb _ kX3_dislikesCrop 2 0 [some (.ref (g + 26 + 5 * i)), some (.int x)] [] _ _ _ _
  repeat (first | rw [zcc1] | rw [zcc2] | rw [zcc3] | rw [zcc4] | refine zR.step rfl ?_ | refine zR.getf rfl (hG.h0 hi) rfl ?_)
  refine zR.ite (fun h => ?_) (fun h => ?_)
  · rw [if_pos h] at hQ
    repeat (first | rw [zcc1] | rw [zcc2] | rw [zcc3] | rw [zcc4] | refine zR.step rfl ?_)
    exact zR.ret rfl rfl hQ
  · rw [if_neg h] at hQ
    repeat (first | rw [zcc1] | rw [zcc2] | rw [zcc3] | rw [zcc4] | refine zR.step rfl ?_)
    exact zR.ret rfl rfl hQ
end
/-- one house of a garden written anew -/
theorem GR.house {M : zM} {n : Nat} {c : mS} {kp bt : Nat → Option Nat} {la : Nat} {s : Nat → Int32} {i : Nat} {x y : Nat → Int32} (h : GR M n c kp bt la s) (hi : i < 10) (hin : ∀ nh, s 4 = nI nh → nh ≤ 10 → i < nh) (hy : ∀ k, ¬ (1700 + 40 * i ≤ k ∧ k < 1740 + 40 * i) → y k = s k) (hp : ∀ wk, wk ≤ 30 → PHi c s wk i → PHi (zuf c (30 + i) x) y wk i) : GR M n (zuf c (30 + i) x) kp bt la y := by
  obtain ⟨nc, nh, nl, lm, wk, h1, h2, h3, h4, h5, h6, h7, h8⟩ := h
  have g1 : nc ≤ 8 := h1.2.1
  have g2 : nh ≤ 10 := h1.2.2.2.1
  have g3 : nl ≤ 240 := h1.2.2.2.2.2.1
  have g4 : lm ≤ 20 := h1.2.2.2.2.2.2.2.1
  have g5 : wk ≤ 30 := h1.2.2.2.2.2.2.2.2.2.1
  refine ⟨nc, nh, nl, lm, wk, ?_, h2.cg g1 (fun i hi => hy i (by omega)), h3.cg g1 (fun i hi => hy i (by omega)) (fun b hb => zuf_ne _ _ (by omega)), h4.cg g3 (fun i hi => hy i (by omega)) (fun j hj => zuf_ne _ _ (by omega)), h5.cg g3 (fun i hi => hy i (by omega)) (fun j hj => zuf_ne _ _ (by omega)), fun q hq => ?_, h7.cg (fun i hi => hy i (by omega)) (zuf_ne _ _ (by omega)), h8.cg g4 (fun i hi => hy i (by omega))⟩
  · unfold PN at h1 ⊢
    rw [hy 2 (by omega), hy 4 (by omega), hy 3 (by omega), hy 5 (by omega), hy 0 (by omega), hy 1 (by omega), zuf_ne _ _ (by omega)]
    have hqq := hin nh h1.2.2.1 g2
    obtain ⟨N1, N2, N3, N4, N5, N6, N7, N8, N9, N10, N11, N12, N13, N14, N15, N16, N17⟩ := h1
    exact ⟨N1, N2, N3, N4, N5, N6, N7, N8, N9, N10, N11, N12, N13, N14, N15, fun h a b k a2 b2 => by rw [hy _ (by omega)]; exact N16 h a b k a2 b2, fun b hb => by rw [zuf_ne _ _ (by omega)]; exact N17.1 b hb, fun q hq => by
      by_cases e : q = i
      · subst e
        have hpi := hp wk g5 (h6 q hqq)
        rw [hpi.1 6 (by omega), show 1700 + 40 * q + 6 = 1706 + 40 * q by omega]
        exact hpi.2.2.2.2.2.2.1
      · rw [zuf_ne _ _ (by omega)]
        exact N17.2 q hq⟩
  · by_cases e : q = i
    · subst e
      exact hp wk g5 (h6 q hq)
    · exact PHi.cg (h6 q hq) (fun k hk => hy _ (by omega)) (zuf_ne _ _ (by omega)) (zuf_ne _ _ (by omega)) (zuf_ne _ _ (by omega)) (zuf_ne _ _ (by omega)) (zuf_ne _ _ (by omega))
theorem o_away {L : Nat} {xs : Nat → Int32} : op_away (Inv L xs) := by
  intro a b M σ n w hI
  have hI' := hI
  obtain ⟨t, tr, c0, c1, c2, k0, k1, k2, b0, b1, b2, l0, l1, l2, hR, ⟨hT, hG0, hG1, hG2⟩, hg, hk, ht, hx, hn⟩ := hI
  have h25 := hT.1
  have hg' := hg
  obtain ⟨nc, nh, nl, lm, wk, hN, ⟨hC, hCn⟩, hB, hL, hSt, hH, hW, hX⟩ := hg'
  obtain ⟨N1, N2, N3, N4, N5, N6, N7, N8, N9, N10, N11, N12, N13, N14, N15, N16, N17⟩ := hN
  show zR ztb _ kX11_away 1 0 [some (.ref 25), some (.int a), some (.int b), none, none] [] _ _ _ _
  rcases inI_sub a nh (by omega) with ⟨i, hi, rfl, e⟩ | ⟨-, e⟩
  · have ec : inI (nI i) 0 (c0 0 1 - 1) = 1 := by rw [N12, N3]; exact e
    have er : inI (nI i) 0 (σ 0 4 - 1) = 1 := by rw [N3]; exact e
    rcases inI_nat b 0 1073741823 (by omega) (by omega) with ⟨j, -, hj, rfl, eb⟩ | ⟨hb, eb⟩
    · replace eb : inI (nI j) 0 1073741823 = 1 := eb
      have hnn : ¬ nI j < 0 := nI_nn (by omega)
      have hsh : nI j >>> ((30 : Int32) &&& 31) = 0 := shr_eq0 (k := 30) (by omega) (by omega)
      repeat (first | rw [zcc1] | rw [zcc2] | rw [zcc3] | rw [zcc4] | rw [eb] | refine zR.step rfl ?_ | refine zR.getf rfl (h25) rfl ?_ | refine zR.cv rfl rfl rfl hG0.o rfl rfl (zCalP.of (c_houseAt_y hG0 ec (by omega)) ?_) | refine zR.cs rfl rfl rfl rfl rfl (zCalP.of (c_isWithin _ _ _) ?_) | refine zR.getf rfl (hG0.h0 (i := i) (by omega)) rfl ?_)
      refine zR.putf rfl (hG0.h0 (i := i) (by omega)) rfl rfl ?_
      have hG0' : Gc (zup M (48 + 26 + 5 * i) (.inr (3, zfs (hof (48 + 26 + 5 * i) (c0 (30 + i))) 2 (.int (nI j))))) 48 (zuf c0 (30 + i) (zuf (c0 (30 + i)) 2 (nI j))) k0 b0 l0 := hG0.upH (by omega) (zuf (c0 (30 + i)) 2 (nI j))
      have hT' := hT.out (a := 48 + 26 + 5 * i) (c := .inr (3, zfs (hof (48 + 26 + 5 * i) (c0 (30 + i))) 2 (.int (nI j)))) (by omega)
      have hRa := hR.out (a := 48 + 26 + 5 * i) (c := .inr (3, zfs (hof (48 + 26 + 5 * i) (c0 (30 + i))) 2 (.int (nI j)))) (by omega)
      have hRb := hRa.out (a := 25) (c := .inr (11, tob (tst t 0))) (by omega)
      have hM0 : zup (zup M (48 + 26 + 5 * i) (.inr (3, zfs (hof (48 + 26 + 5 * i) (c0 (30 + i))) 2 (.int (nI j))))) 25 (.inr (11, tob (tst t 0))) 0 = M 0 := by rw [zup_ne _ _ (by omega), zup_ne _ _ (by omega)]
      repeat (first | rw [zcc1] | rw [zcc2] | rw [zcc3] | rw [zcc4] | refine zR.step rfl ?_)
      refine zR.cv rfl rfl rfl hT'.1 rfl rfl (zCalP.of (c_doneC hT'.1 _) ?_)
      repeat (first | rw [zcc1] | rw [zcc2] | rw [zcc3] | rw [zcc4] | refine zR.step rfl ?_)
      refine zR.ret rfl rfl ⟨_, rfl, ⟨_, hRb.1⟩, hM0, ?_⟩
      clear hR
      show zR ztb _ kX12_away 1 0 [some (.ref 287), some (.int (nI i)), some (.int (nI j)), none] [] _ _ _ _
      have hR := hRb
      repeat (first | rw [zcc1] | rw [zcc2] | rw [zcc3] | rw [zcc4] | rw [er] | rw [zn1 (hnn)] | rw [zn2 (hnn)] | rw [zn3 (hnn)] | rw [zn4 (hnn)] | rw [hsh] | refine zR.step rfl ?_ | refine zR.getf rfl (hR.1) rfl ?_ | refine zR.cv rfl rfl rfl hR.1 rfl rfl (zCalP.of (c_isHouse hR _) ?_) | refine zR.cv rfl rfl rfl hR.1 rfl rfl (zCalP.of (c_houseIs hR i 2 (by omega)) ?_))
      refine zR.isR0 hR Sm.rf rfl (i := 1700 + 40 * i + 2) (by simp only [zn_lit, zn_add, zn_mul]) (by omega) (fun M1 hR1 hS1 => ?_)
      replace hR := hR1
      repeat (first | rw [zcc1] | rw [zcc2] | rw [zcc3] | rw [zcc4] | refine zR.step rfl ?_)
      refine zR.cv rfl rfl rfl hR.1 rfl rfl (zR.mono (c_done hR _) (fun v n' w' M' hv => ?_))
      obtain ⟨rfl, rfl, rfl, hR2, hS2⟩ := hv
      repeat (first | rw [zcc1] | rw [zcc2] | rw [zcc3] | rw [zcc4] | refine zR.step rfl ?_)
      have hHi := hH i hi
      refine zR.ret rfl rfl ⟨by rw [hHi.1 2 (by omega)], by omega, by omega, _, inv_now hT hG1 hG2 hk ht hx hn (fun k h1 h2 => zup_ne _ _ (by omega)) (Nat.le_refl _) hG0' ((hg.out (by omega)).house (by omega) (fun nh' h1 h2 => by have := zn_inj (by omega) (by omega) (N3.symm.trans h1); omega) (fun k hk => zuf_ne _ _ (by omega)) ?_) hR2 (hS1.trans hS2)⟩
      intro wk hw ⟨q1, q2, q3, q4, q5, q6, q7, q8⟩
      have z : ∀ k, k ≠ 1702 + 40 * i → zuf (σ 0) (1700 + 40 * i + 2) (nI j) k = σ 0 k := fun k hk => zuf_ne _ _ (by omega)
      show PHi _ (zuf (σ 0) (1700 + 40 * i + 2) (nI j)) wk i
      unfold PHi
      rw [zuf_self, zuf_ne _ _ (show 40 + i ≠ 30 + i by omega), zuf_ne _ _ (show 50 + i ≠ 30 + i by omega), zuf_ne _ _ (show 60 + i ≠ 30 + i by omega), zuf_ne _ _ (show 70 + i ≠ 30 + i by omega), z (1700 + 40 * i) (by omega), z (1701 + 40 * i) (by omega), z (1703 + 40 * i) (by omega), z (1706 + 40 * i) (by omega)]
      refine ⟨fun k hk => ?_, fun q hq => by rw [z _ (by omega)]; exact q2 q hq, q3, q4, ⟨j, by rw [show 1702 + 40 * i = 1700 + 40 * i + 2 by omega, zuf_self], by omega, by omega⟩, q6, q7, fun h p h1 h2 => by rw [z _ (by omega), z _ (by omega), z _ (by omega)]; exact q8 h p h1 h2⟩
      by_cases e2 : k = 2
      · subst e2
        rw [zuf_self, zuf_self]
      · rw [zuf_ne _ _ e2, z _ (by omega)]
        exact q1 k hk
    · replace eb : inI b 0 1073741823 = 0 := eb
      repeat (first | rw [zcc1] | rw [zcc2] | rw [zcc3] | rw [zcc4] | rw [eb] | refine zR.step rfl ?_ | refine zR.getf rfl (h25) rfl ?_ | refine zR.cv rfl rfl rfl hG0.o rfl rfl (zCalP.of (c_houseAt_y hG0 ec (by omega)) ?_) | refine zR.cs rfl rfl rfl rfl rfl (zCalP.of (c_isWithin _ _ _) ?_) | refine zR.getf rfl (hG0.h0 (i := i) (by omega)) rfl ?_)
      refine zR.cv rfl rfl rfl h25 rfl rfl (zCalP.of (c_refuse h25 _) ?_)
      repeat (first | rw [zcc1] | rw [zcc2] | rw [zcc3] | rw [zcc4] | refine zR.step rfl ?_)
      refine zR.ret rfl rfl ⟨_, rfl, ⟨_, (hR.out (by omega)).1⟩, rfl, ?_⟩
      replace hR : Rf (zup M 25 (.inr (11, tob (tst t 1)))) σ := hR.out (by omega)
      have hS : Sm (zup M 25 (.inr (11, tob (tst t 1)))) (zup M 25 (.inr (11, tob (tst t 1)))) := Sm.rf
      show zR ztb _ kX12_away 1 0 [some (.ref 287), some (.int (nI i)), some (.int b), none] [] _ _ _ _
      repeat (first | rw [zcc1] | rw [zcc2] | rw [zcc3] | rw [zcc4] | rw [er] | refine zR.step rfl ?_ | refine zR.getf rfl (hR.1) rfl ?_ | refine zR.cv rfl rfl rfl hR.1 rfl rfl (zCalP.of (c_isHouse hR _) ?_))
      refine zR.ite (fun h => ?_) (fun h => ?_)
      · repeat (first | rw [zcc1] | rw [zcc2] | rw [zcc3] | rw [zcc4] | refine zR.step rfl ?_)
        refine zR.cv rfl rfl rfl hR.1 rfl rfl (zR.mono (c_refused hR _) (fun v n' w' M' hv => ?_))
        obtain ⟨rfl, rfl, rfl, hR2, hS2⟩ := hv
        repeat (first | rw [zcc1] | rw [zcc2] | rw [zcc3] | rw [zcc4] | refine zR.step rfl ?_)
        refine zR.ret rfl rfl ⟨rfl, by omega, by omega, _, inv_fin ⟨hT, hG0, hG1, hG2⟩ hg hk ht hx hn hR2 (hS.trans hS2)⟩
      · repeat (first | rw [zcc1] | rw [zcc2] | rw [zcc3] | rw [zcc4] | refine zR.step rfl ?_)
        refine zR.ite (fun q => absurd q (shr_ne (k := 30) (by omega) (fun i hi => hb i (by omega) (by omega)) h)) (fun _ => ?_)
        repeat (first | rw [zcc1] | rw [zcc2] | rw [zcc3] | rw [zcc4] | refine zR.step rfl ?_)
        refine zR.cv rfl rfl rfl hR.1 rfl rfl (zR.mono (c_refused hR _) (fun v n' w' M' hv => ?_))
        obtain ⟨rfl, rfl, rfl, hR2, hS2⟩ := hv
        repeat (first | rw [zcc1] | rw [zcc2] | rw [zcc3] | rw [zcc4] | refine zR.step rfl ?_)
        refine zR.ret rfl rfl ⟨rfl, by omega, by omega, _, inv_fin ⟨hT, hG0, hG1, hG2⟩ hg hk ht hx hn hR2 (hS.trans hS2)⟩
  · have ec : inI a 0 (c0 0 1 - 1) = 0 := by rw [N12, N3]; exact e
    have er : inI a 0 (σ 0 4 - 1) = 0 := by rw [N3]; exact e
    repeat (first | rw [zcc1] | rw [zcc2] | rw [zcc3] | rw [zcc4] | refine zR.step rfl ?_ | refine zR.getf rfl (h25) rfl ?_ | refine zR.cv rfl rfl rfl hG0.o rfl rfl (zCalP.of (c_houseAt_n hG0 ec) ?_))
    refine zR.cv rfl rfl rfl h25 rfl rfl (zCalP.of (c_refuse h25 _) ?_)
    repeat (first | rw [zcc1] | rw [zcc2] | rw [zcc3] | rw [zcc4] | refine zR.step rfl ?_)
    refine zR.ret rfl rfl ⟨_, rfl, ⟨_, (hR.out (by omega)).1⟩, rfl, ?_⟩
    replace hR : Rf (zup M 25 (.inr (11, tob (tst t 1)))) σ := hR.out (by omega)
    have hS : Sm (zup M 25 (.inr (11, tob (tst t 1)))) (zup M 25 (.inr (11, tob (tst t 1)))) := Sm.rf
    show zR ztb _ kX12_away 1 0 [some (.ref 287), some (.int a), some (.int b), none] [] _ _ _ _
    repeat (first | rw [zcc1] | rw [zcc2] | rw [zcc3] | rw [zcc4] | rw [er] | refine zR.step rfl ?_ | refine zR.getf rfl (hR.1) rfl ?_ | refine zR.cv rfl rfl rfl hR.1 rfl rfl (zCalP.of (c_isHouse hR _) ?_))
    refine zR.cv rfl rfl rfl hR.1 rfl rfl (zR.mono (c_refused hR _) (fun v n' w' M' hv => ?_))
    obtain ⟨rfl, rfl, rfl, hR2, hS2⟩ := hv
    repeat (first | rw [zcc1] | rw [zcc2] | rw [zcc3] | rw [zcc4] | refine zR.step rfl ?_)
    refine zR.ret rfl rfl ⟨rfl, by omega, by omega, _, inv_fin ⟨hT, hG0, hG1, hG2⟩ hg hk ht hx hn hR2 (hS.trans hS2)⟩
