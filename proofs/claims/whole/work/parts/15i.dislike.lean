
/-! dislike. -/
theorem zuf_id {α : Type} {f : Nat → α} {i : Nat} {v : α} (h : f i = v) : zuf f i v = f := by
  funext k
  by_cases e : k = i
  · subst e
    rw [zuf_self, h]
  · rw [zuf_ne _ _ e]
theorem PHi.w1 {c : mS} {s : Nat → Int32} {i z : Nat} (hz : z ≤ 255) : ∀ wk, wk ≤ 30 → PHi c s wk i → PHi (zuf c (30 + i) (zuf (c (30 + i)) 1 (nI z))) (zuf s (1700 + 40 * i + 1) (nI z)) wk i := by
  intro wk hw ⟨q1, q2, q3, q4, q5, q6, q7, q8⟩
  have z' : ∀ k, k ≠ 1701 + 40 * i → zuf s (1700 + 40 * i + 1) (nI z) k = s k := fun k hk => zuf_ne _ _ (by omega)
  unfold PHi
  rw [zuf_self, zuf_ne _ _ (show 40 + i ≠ 30 + i by omega), zuf_ne _ _ (show 50 + i ≠ 30 + i by omega), zuf_ne _ _ (show 60 + i ≠ 30 + i by omega), zuf_ne _ _ (show 70 + i ≠ 30 + i by omega), z' (1700 + 40 * i) (by omega), z' (1702 + 40 * i) (by omega), z' (1703 + 40 * i) (by omega), z' (1706 + 40 * i) (by omega)]
  refine ⟨fun k hk => ?_, fun q hq => by rw [z' _ (by omega)]; exact q2 q hq, q3, ⟨z, by rw [show 1701 + 40 * i = 1700 + 40 * i + 1 by omega, zuf_self], by omega, hz⟩, q5, q6, q7, fun h p h1 h2 => by rw [z' _ (by omega), z' _ (by omega), z' _ (by omega)]; exact q8 h p h1 h2⟩
  by_cases e2 : k = 1
  · subst e2
    rw [zuf_self, zuf_self]
  · rw [zuf_ne _ _ e2, z' _ (by omega)]
    exact q1 k hk
theorem o_dislike {L : Nat} {xs : Nat → Int32} : op_dislike (Inv L xs) := by
  intro a b is h01 M σ n w hI
  have hI' := hI
  obtain ⟨t, tr, c0, c1, c2, k0, k1, k2, b0, b1, b2, l0, l1, l2, hR, ⟨hT, hG0, hG1, hG2⟩, hg, hk, ht, hx, hn⟩ := hI
  have h25 := hT.1
  have hg' := hg
  obtain ⟨nc, nh, nl, lm, wk, hN, ⟨hC, hCn⟩, hB, hL, hSt, hH, hW, hX⟩ := hg'
  obtain ⟨N1, N2, N3, N4, N5, N6, N7, N8, N9, N10, N11, N12, N13, N14, N15, N16, N17⟩ := hN
  show zR ztb _ kX11_dislike 1 0 [some (.ref 25), some (.int a), some (.int b), some (.int is), none, none, none] [] _ _ _ _
  rcases inI_sub a nh (by omega) with ⟨i, hi, rfl, e⟩ | ⟨-, e⟩
  · have ec : inI (nI i) 0 (c0 0 1 - 1) = 1 := by rw [N12, N3]; exact e
    have er : inI (nI i) 0 (σ 0 4 - 1) = 1 := by rw [N3]; exact e
    rcases inI_sub b nc (by omega) with ⟨q, hq, rfl, e2⟩ | ⟨-, e2⟩
    · have ec2 : inI (nI q) 0 (c0 0 0 - 1) = 1 := by rw [N11, N1]; exact e2
      have er2 : inI (nI q) 0 (σ 0 2 - 1) = 1 := by rw [N1]; exact e2
      obtain ⟨⟨ca, hk1, hc1⟩, -⟩ := hC q hq
      obtain ⟨x, hx1, -, hx2⟩ := (hH i hi).2.2.2.1
      have hc9 : c0 (30 + i) 1 = nI x := by rw [(hH i hi).1 1 (by omega), show 1700 + 40 * i + 1 = 1701 + 40 * i by omega, hx1]
      have hr9 : σ 0 (1700 + 40 * i + 1) = nI x := by rw [show 1700 + 40 * i + 1 = 1701 + 40 * i by omega, hx1]
      obtain ⟨hb, hne, hxo, hxl⟩ := bits8 ⟨x, by omega⟩ ⟨q, by omega⟩
      dsimp only at hb hne hxo hxl
      rcases hb with ⟨hb1, hb2, hb3⟩ | ⟨hb1, hb2, hb3⟩
      · have ew : (if (c0 (30 + i) 1 >>> (nI q &&& 31)) &&& 1 = 0 then (0 : Int32) else 1) = 0 := by rw [hc9, if_pos hb1]
        rcases h01 with rfl | rfl
        · repeat (first | rw [zcc1] | rw [zcc2] | rw [zcc3] | rw [zcc4] | rw [zb1 (by decide)] | rw [zb2 (by decide)] | rw [zb3 (by decide)] | rw [zb4 (by decide)] | rw [zn1 (by decide)] | rw [zn2 (by decide)] | rw [zn3 (by decide)] | rw [zn4 (by decide)] | rw [ze1 (by decide)] | rw [ze2 (by decide)] | rw [zd1 (by decide)] | rw [zd2 (by decide)] | rw [zswy (by decide)] | rw [zswn (by decide)] | rw [zsw0] | rw [ew] | refine zR.step rfl ?_ | refine zR.getf rfl (h25) rfl ?_ | refine zR.cv rfl rfl rfl hG0.o rfl rfl (zCalP.of (c_houseAt_y hG0 ec (by omega)) ?_) | refine zR.cv rfl rfl rfl hG0.o rfl rfl (zCalP.of (c_cropAt_y hG0 ec2 (by omega) hk1) ?_) | refine zR.cv rfl rfl rfl (hG0.h0 (i := i) (by omega)) rfl rfl (zCalP.of (c_dislikes hG0 (by omega) _) ?_))
          refine zR.cv rfl rfl rfl h25 rfl rfl (zCalP.of (c_doneC h25 _) ?_)
          repeat (first | rw [zcc1] | rw [zcc2] | rw [zcc3] | rw [zcc4] | refine zR.step rfl ?_)
          refine zR.ret rfl rfl ⟨_, rfl, ⟨_, (hR.out (by omega)).1⟩, rfl, ?_⟩
          replace hR : Rf (zup M 25 (.inr (11, tob (tst t 0)))) σ := hR.out (by omega)
          have hS : Sm (zup M 25 (.inr (11, tob (tst t 0)))) (zup M 25 (.inr (11, tob (tst t 0)))) := Sm.rf
          show zR ztb _ kX12_dislike 1 0 [some (.ref 287), some (.int (nI i)), some (.int (nI q)), some (.int 0), none, none] [] _ _ _ _
          repeat (first | rw [zcc1] | rw [zcc2] | rw [zcc3] | rw [zcc4] | rw [er] | rw [er2] | rw [zb1 (by decide)] | rw [zb2 (by decide)] | rw [zb3 (by decide)] | rw [zb4 (by decide)] | rw [zn1 (by decide)] | rw [zn2 (by decide)] | rw [zn3 (by decide)] | rw [zn4 (by decide)] | rw [ze1 (by decide)] | rw [ze2 (by decide)] | rw [zd1 (by decide)] | rw [zd2 (by decide)] | rw [zswy (by decide)] | rw [zswn (by decide)] | rw [zsw0] | rw [hr9] | rw [hb2] | refine zR.step rfl ?_ | refine zR.getf rfl (hR.1) rfl ?_ | refine zR.cv rfl rfl rfl hR.1 rfl rfl (zCalP.of (c_isHouse hR _) ?_) | refine zR.cv rfl rfl rfl hR.1 rfl rfl (zCalP.of (c_isCrop hR _) ?_) | refine zR.cv rfl rfl rfl hR.1 rfl rfl (zCalP.of (c_houseIs hR i 1 (by omega)) ?_))
          refine zR.isR0 hR hS rfl (i := 1700 + 40 * i + 1) (by simp only [zn_lit, zn_add, zn_mul]) (by omega) (fun M1 hR1 hS1 => ?_)
          rw [zuf_id hr9, zuf_id rfl] at hR1
          have hR := hR1
          have hS := hS1
          repeat (first | rw [zcc1] | rw [zcc2] | rw [zcc3] | rw [zcc4] | refine zR.step rfl ?_)
          rw [ze2 rfl]
          repeat (first | rw [zcc1] | rw [zcc2] | rw [zcc3] | rw [zcc4] | refine zR.step rfl ?_)
          refine zR.cv rfl rfl rfl hR.1 rfl rfl (zR.mono (c_done hR _) (fun v n' w' M' hv => ?_))
          obtain ⟨rfl, rfl, rfl, hR2, hS2⟩ := hv
          repeat (first | rw [zcc1] | rw [zcc2] | rw [zcc3] | rw [zcc4] | refine zR.step rfl ?_)
          refine zR.ret rfl rfl ⟨rfl, by omega, by omega, _, inv_fin ⟨hT, hG0, hG1, hG2⟩ hg hk ht hx hn hR2 (hS.trans hS2)⟩
        · repeat (first | rw [zcc1] | rw [zcc2] | rw [zcc3] | rw [zcc4] | rw [zb1 (by decide)] | rw [zb2 (by decide)] | rw [zb3 (by decide)] | rw [zb4 (by decide)] | rw [zn1 (by decide)] | rw [zn2 (by decide)] | rw [zn3 (by decide)] | rw [zn4 (by decide)] | rw [ze1 (by decide)] | rw [ze2 (by decide)] | rw [zd1 (by decide)] | rw [zd2 (by decide)] | rw [zswy (by decide)] | rw [zswn (by decide)] | rw [zsw0] | rw [ew] | refine zR.step rfl ?_ | refine zR.getf rfl (h25) rfl ?_ | refine zR.cv rfl rfl rfl hG0.o rfl rfl (zCalP.of (c_houseAt_y hG0 ec (by omega)) ?_) | refine zR.cv rfl rfl rfl hG0.o rfl rfl (zCalP.of (c_cropAt_y hG0 ec2 (by omega) hk1) ?_) | refine zR.cv rfl rfl rfl (hG0.h0 (i := i) (by omega)) rfl rfl (zCalP.of (c_dislikes hG0 (by omega) _) ?_) | refine zR.getf rfl (hG0.h0 (i := i) (by omega)) rfl ?_)
          refine zR.putf rfl (hG0.h0 (i := i) (by omega)) rfl rfl ?_
          have hG0' : Gc (zup M (48 + 26 + 5 * i) (.inr (3, zfs (hof (48 + 26 + 5 * i) (c0 (30 + i))) 1 (.int (c0 (30 + i) 1 ^^^ 1 <<< (nI q &&& 31)))))) 48 (zuf c0 (30 + i) (zuf (c0 (30 + i)) 1 (c0 (30 + i) 1 ^^^ 1 <<< (nI q &&& 31)))) k0 b0 l0 := hG0.upH (by omega) (zuf (c0 (30 + i)) 1 (c0 (30 + i) 1 ^^^ 1 <<< (nI q &&& 31)))
          have hT' := hT.out (a := 48 + 26 + 5 * i) (c := .inr (3, zfs (hof (48 + 26 + 5 * i) (c0 (30 + i))) 1 (.int (c0 (30 + i) 1 ^^^ 1 <<< (nI q &&& 31))))) (by omega)
          have hRa := hR.out (a := 48 + 26 + 5 * i) (c := .inr (3, zfs (hof (48 + 26 + 5 * i) (c0 (30 + i))) 1 (.int (c0 (30 + i) 1 ^^^ 1 <<< (nI q &&& 31))))) (by omega)
          have hRb := hRa.out (a := 25) (c := .inr (11, tob (tst t 0))) (by omega)
          have hM0 : zup (zup M (48 + 26 + 5 * i) (.inr (3, zfs (hof (48 + 26 + 5 * i) (c0 (30 + i))) 1 (.int (c0 (30 + i) 1 ^^^ 1 <<< (nI q &&& 31)))))) 25 (.inr (11, tob (tst t 0))) 0 = M 0 := by rw [zup_ne _ _ (by omega), zup_ne _ _ (by omega)]
          repeat (first | rw [zcc1] | rw [zcc2] | rw [zcc3] | rw [zcc4] | rw [zb1 (by decide)] | rw [zb2 (by decide)] | rw [zb3 (by decide)] | rw [zb4 (by decide)] | rw [zn1 (by decide)] | rw [zn2 (by decide)] | rw [zn3 (by decide)] | rw [zn4 (by decide)] | rw [ze1 (by decide)] | rw [ze2 (by decide)] | rw [zd1 (by decide)] | rw [zd2 (by decide)] | rw [zswy (by decide)] | rw [zswn (by decide)] | rw [zsw0] | refine zR.step rfl ?_)
          refine zR.cv rfl rfl rfl hT'.1 rfl rfl (zCalP.of (c_doneC hT'.1 _) ?_)
          repeat (first | rw [zcc1] | rw [zcc2] | rw [zcc3] | rw [zcc4] | refine zR.step rfl ?_)
          refine zR.ret rfl rfl ⟨_, rfl, ⟨_, hRb.1⟩, hM0, ?_⟩
          clear hR
          show zR ztb _ kX12_dislike 1 0 [some (.ref 287), some (.int (nI i)), some (.int (nI q)), some (.int 1), none, none] [] _ _ _ _
          have hR := hRb
          rw [hb3] at hne hxo
          repeat (first | rw [zcc1] | rw [zcc2] | rw [zcc3] | rw [zcc4] | rw [er] | rw [er2] | rw [zb1 (by decide)] | rw [zb2 (by decide)] | rw [zb3 (by decide)] | rw [zb4 (by decide)] | rw [zn1 (by decide)] | rw [zn2 (by decide)] | rw [zn3 (by decide)] | rw [zn4 (by decide)] | rw [ze1 (by decide)] | rw [ze2 (by decide)] | rw [zd1 (by decide)] | rw [zd2 (by decide)] | rw [zswy (by decide)] | rw [zswn (by decide)] | rw [zsw0] | rw [hr9] | refine zR.step rfl ?_ | refine zR.getf rfl (hR.1) rfl ?_ | refine zR.cv rfl rfl rfl hR.1 rfl rfl (zCalP.of (c_isHouse hR _) ?_) | refine zR.cv rfl rfl rfl hR.1 rfl rfl (zCalP.of (c_isCrop hR _) ?_) | refine zR.cv rfl rfl rfl hR.1 rfl rfl (zCalP.of (c_houseIs hR i 1 (by omega)) ?_))
          refine zR.isR0 hR Sm.rf rfl (i := 1700 + 40 * i + 1) (by simp only [zn_lit, zn_add, zn_mul]) (by omega) (fun M1 hR1 hS1 => ?_)
          replace hR := hR1
          repeat (first | rw [zcc1] | rw [zcc2] | rw [zcc3] | rw [zcc4] | refine zR.step rfl ?_)
          rw [zd2 (fun h => hne h.symm)]
          repeat (first | rw [zcc1] | rw [zcc2] | rw [zcc3] | rw [zcc4] | refine zR.step rfl ?_)
          refine zR.cv rfl rfl rfl hR.1 rfl rfl (zR.mono (c_done hR _) (fun v n' w' M' hv => ?_))
          obtain ⟨rfl, rfl, rfl, hR2, hS2⟩ := hv
          repeat (first | rw [zcc1] | rw [zcc2] | rw [zcc3] | rw [zcc4] | refine zR.step rfl ?_)
          have hcx : c0 (30 + i) 1 ^^^ 1 <<< (nI q &&& 31) = nI (x ^^^ 2 ^ q) := by rw [hc9, hb3, hxo]
          have hS9 := hS1.trans hS2
          rw [hcx] at hG0' hS9
          rw [hxo] at hR2
          refine zR.ret rfl rfl ⟨rfl, by omega, by omega, _, inv_now hT hG1 hG2 hk ht hx hn (fun k h1 h2 => zup_ne _ _ (by omega)) (Nat.le_refl _) hG0' ((hg.out (by omega)).house (y := zuf (σ 0) (1700 + 40 * i + 1) (nI (x ^^^ 2 ^ q))) (by omega) (fun nh' h1 h2 => by have := zn_inj (by omega) (by omega) (N3.symm.trans h1); omega) (fun k hk => zuf_ne _ _ (by omega)) ?_) hR2 hS9⟩
          exact PHi.w1 hxl
      · have ew : (if (c0 (30 + i) 1 >>> (nI q &&& 31)) &&& 1 = 0 then (0 : Int32) else 1) = 1 := by rw [hc9, hb1, if_neg (by decide)]
        rcases h01 with rfl | rfl
        · repeat (first | rw [zcc1] | rw [zcc2] | rw [zcc3] | rw [zcc4] | rw [zb1 (by decide)] | rw [zb2 (by decide)] | rw [zb3 (by decide)] | rw [zb4 (by decide)] | rw [zn1 (by decide)] | rw [zn2 (by decide)] | rw [zn3 (by decide)] | rw [zn4 (by decide)] | rw [ze1 (by decide)] | rw [ze2 (by decide)] | rw [zd1 (by decide)] | rw [zd2 (by decide)] | rw [zswy (by decide)] | rw [zswn (by decide)] | rw [zsw0] | rw [ew] | refine zR.step rfl ?_ | refine zR.getf rfl (h25) rfl ?_ | refine zR.cv rfl rfl rfl hG0.o rfl rfl (zCalP.of (c_houseAt_y hG0 ec (by omega)) ?_) | refine zR.cv rfl rfl rfl hG0.o rfl rfl (zCalP.of (c_cropAt_y hG0 ec2 (by omega) hk1) ?_) | refine zR.cv rfl rfl rfl (hG0.h0 (i := i) (by omega)) rfl rfl (zCalP.of (c_dislikes hG0 (by omega) _) ?_) | refine zR.getf rfl (hG0.h0 (i := i) (by omega)) rfl ?_)
          refine zR.putf rfl (hG0.h0 (i := i) (by omega)) rfl rfl ?_
          have hG0' : Gc (zup M (48 + 26 + 5 * i) (.inr (3, zfs (hof (48 + 26 + 5 * i) (c0 (30 + i))) 1 (.int (c0 (30 + i) 1 ^^^ 1 <<< (nI q &&& 31)))))) 48 (zuf c0 (30 + i) (zuf (c0 (30 + i)) 1 (c0 (30 + i) 1 ^^^ 1 <<< (nI q &&& 31)))) k0 b0 l0 := hG0.upH (by omega) (zuf (c0 (30 + i)) 1 (c0 (30 + i) 1 ^^^ 1 <<< (nI q &&& 31)))
          have hT' := hT.out (a := 48 + 26 + 5 * i) (c := .inr (3, zfs (hof (48 + 26 + 5 * i) (c0 (30 + i))) 1 (.int (c0 (30 + i) 1 ^^^ 1 <<< (nI q &&& 31))))) (by omega)
          have hRa := hR.out (a := 48 + 26 + 5 * i) (c := .inr (3, zfs (hof (48 + 26 + 5 * i) (c0 (30 + i))) 1 (.int (c0 (30 + i) 1 ^^^ 1 <<< (nI q &&& 31))))) (by omega)
          have hRb := hRa.out (a := 25) (c := .inr (11, tob (tst t 0))) (by omega)
          have hM0 : zup (zup M (48 + 26 + 5 * i) (.inr (3, zfs (hof (48 + 26 + 5 * i) (c0 (30 + i))) 1 (.int (c0 (30 + i) 1 ^^^ 1 <<< (nI q &&& 31)))))) 25 (.inr (11, tob (tst t 0))) 0 = M 0 := by rw [zup_ne _ _ (by omega), zup_ne _ _ (by omega)]
          repeat (first | rw [zcc1] | rw [zcc2] | rw [zcc3] | rw [zcc4] | rw [zb1 (by decide)] | rw [zb2 (by decide)] | rw [zb3 (by decide)] | rw [zb4 (by decide)] | rw [zn1 (by decide)] | rw [zn2 (by decide)] | rw [zn3 (by decide)] | rw [zn4 (by decide)] | rw [ze1 (by decide)] | rw [ze2 (by decide)] | rw [zd1 (by decide)] | rw [zd2 (by decide)] | rw [zswy (by decide)] | rw [zswn (by decide)] | rw [zsw0] | refine zR.step rfl ?_)
          refine zR.cv rfl rfl rfl hT'.1 rfl rfl (zCalP.of (c_doneC hT'.1 _) ?_)
          repeat (first | rw [zcc1] | rw [zcc2] | rw [zcc3] | rw [zcc4] | refine zR.step rfl ?_)
          refine zR.ret rfl rfl ⟨_, rfl, ⟨_, hRb.1⟩, hM0, ?_⟩
          clear hR
          show zR ztb _ kX12_dislike 1 0 [some (.ref 287), some (.int (nI i)), some (.int (nI q)), some (.int 0), none, none] [] _ _ _ _
          have hR := hRb
          rw [hb3] at hne hxo
          repeat (first | rw [zcc1] | rw [zcc2] | rw [zcc3] | rw [zcc4] | rw [er] | rw [er2] | rw [zb1 (by decide)] | rw [zb2 (by decide)] | rw [zb3 (by decide)] | rw [zb4 (by decide)] | rw [zn1 (by decide)] | rw [zn2 (by decide)] | rw [zn3 (by decide)] | rw [zn4 (by decide)] | rw [ze1 (by decide)] | rw [ze2 (by decide)] | rw [zd1 (by decide)] | rw [zd2 (by decide)] | rw [zswy (by decide)] | rw [zswn (by decide)] | rw [zsw0] | rw [hr9] | refine zR.step rfl ?_ | refine zR.getf rfl (hR.1) rfl ?_ | refine zR.cv rfl rfl rfl hR.1 rfl rfl (zCalP.of (c_isHouse hR _) ?_) | refine zR.cv rfl rfl rfl hR.1 rfl rfl (zCalP.of (c_isCrop hR _) ?_) | refine zR.cv rfl rfl rfl hR.1 rfl rfl (zCalP.of (c_houseIs hR i 1 (by omega)) ?_))
          refine zR.isR0 hR Sm.rf rfl (i := 1700 + 40 * i + 1) (by simp only [zn_lit, zn_add, zn_mul]) (by omega) (fun M1 hR1 hS1 => ?_)
          replace hR := hR1
          repeat (first | rw [zcc1] | rw [zcc2] | rw [zcc3] | rw [zcc4] | refine zR.step rfl ?_)
          rw [zd2 (fun h => hne h.symm)]
          repeat (first | rw [zcc1] | rw [zcc2] | rw [zcc3] | rw [zcc4] | refine zR.step rfl ?_)
          refine zR.cv rfl rfl rfl hR.1 rfl rfl (zR.mono (c_done hR _) (fun v n' w' M' hv => ?_))
          obtain ⟨rfl, rfl, rfl, hR2, hS2⟩ := hv
          repeat (first | rw [zcc1] | rw [zcc2] | rw [zcc3] | rw [zcc4] | refine zR.step rfl ?_)
          have hcx : c0 (30 + i) 1 ^^^ 1 <<< (nI q &&& 31) = nI (x ^^^ 2 ^ q) := by rw [hc9, hb3, hxo]
          have hS9 := hS1.trans hS2
          rw [hcx] at hG0' hS9
          rw [hxo] at hR2
          refine zR.ret rfl rfl ⟨rfl, by omega, by omega, _, inv_now hT hG1 hG2 hk ht hx hn (fun k h1 h2 => zup_ne _ _ (by omega)) (Nat.le_refl _) hG0' ((hg.out (by omega)).house (y := zuf (σ 0) (1700 + 40 * i + 1) (nI (x ^^^ 2 ^ q))) (by omega) (fun nh' h1 h2 => by have := zn_inj (by omega) (by omega) (N3.symm.trans h1); omega) (fun k hk => zuf_ne _ _ (by omega)) ?_) hR2 hS9⟩
          exact PHi.w1 hxl
        · repeat (first | rw [zcc1] | rw [zcc2] | rw [zcc3] | rw [zcc4] | rw [zb1 (by decide)] | rw [zb2 (by decide)] | rw [zb3 (by decide)] | rw [zb4 (by decide)] | rw [zn1 (by decide)] | rw [zn2 (by decide)] | rw [zn3 (by decide)] | rw [zn4 (by decide)] | rw [ze1 (by decide)] | rw [ze2 (by decide)] | rw [zd1 (by decide)] | rw [zd2 (by decide)] | rw [zswy (by decide)] | rw [zswn (by decide)] | rw [zsw0] | rw [ew] | refine zR.step rfl ?_ | refine zR.getf rfl (h25) rfl ?_ | refine zR.cv rfl rfl rfl hG0.o rfl rfl (zCalP.of (c_houseAt_y hG0 ec (by omega)) ?_) | refine zR.cv rfl rfl rfl hG0.o rfl rfl (zCalP.of (c_cropAt_y hG0 ec2 (by omega) hk1) ?_) | refine zR.cv rfl rfl rfl (hG0.h0 (i := i) (by omega)) rfl rfl (zCalP.of (c_dislikes hG0 (by omega) _) ?_))
          refine zR.cv rfl rfl rfl h25 rfl rfl (zCalP.of (c_doneC h25 _) ?_)
          repeat (first | rw [zcc1] | rw [zcc2] | rw [zcc3] | rw [zcc4] | refine zR.step rfl ?_)
          refine zR.ret rfl rfl ⟨_, rfl, ⟨_, (hR.out (by omega)).1⟩, rfl, ?_⟩
          replace hR : Rf (zup M 25 (.inr (11, tob (tst t 0)))) σ := hR.out (by omega)
          have hS : Sm (zup M 25 (.inr (11, tob (tst t 0)))) (zup M 25 (.inr (11, tob (tst t 0)))) := Sm.rf
          show zR ztb _ kX12_dislike 1 0 [some (.ref 287), some (.int (nI i)), some (.int (nI q)), some (.int 1), none, none] [] _ _ _ _
          repeat (first | rw [zcc1] | rw [zcc2] | rw [zcc3] | rw [zcc4] | rw [er] | rw [er2] | rw [zb1 (by decide)] | rw [zb2 (by decide)] | rw [zb3 (by decide)] | rw [zb4 (by decide)] | rw [zn1 (by decide)] | rw [zn2 (by decide)] | rw [zn3 (by decide)] | rw [zn4 (by decide)] | rw [ze1 (by decide)] | rw [ze2 (by decide)] | rw [zd1 (by decide)] | rw [zd2 (by decide)] | rw [zswy (by decide)] | rw [zswn (by decide)] | rw [zsw0] | rw [hr9] | rw [hb2] | refine zR.step rfl ?_ | refine zR.getf rfl (hR.1) rfl ?_ | refine zR.cv rfl rfl rfl hR.1 rfl rfl (zCalP.of (c_isHouse hR _) ?_) | refine zR.cv rfl rfl rfl hR.1 rfl rfl (zCalP.of (c_isCrop hR _) ?_) | refine zR.cv rfl rfl rfl hR.1 rfl rfl (zCalP.of (c_houseIs hR i 1 (by omega)) ?_))
          refine zR.isR0 hR hS rfl (i := 1700 + 40 * i + 1) (by simp only [zn_lit, zn_add, zn_mul]) (by omega) (fun M1 hR1 hS1 => ?_)
          rw [zuf_id hr9, zuf_id rfl] at hR1
          have hR := hR1
          have hS := hS1
          repeat (first | rw [zcc1] | rw [zcc2] | rw [zcc3] | rw [zcc4] | refine zR.step rfl ?_)
          rw [ze2 rfl]
          repeat (first | rw [zcc1] | rw [zcc2] | rw [zcc3] | rw [zcc4] | refine zR.step rfl ?_)
          refine zR.cv rfl rfl rfl hR.1 rfl rfl (zR.mono (c_done hR _) (fun v n' w' M' hv => ?_))
          obtain ⟨rfl, rfl, rfl, hR2, hS2⟩ := hv
          repeat (first | rw [zcc1] | rw [zcc2] | rw [zcc3] | rw [zcc4] | refine zR.step rfl ?_)
          refine zR.ret rfl rfl ⟨rfl, by omega, by omega, _, inv_fin ⟨hT, hG0, hG1, hG2⟩ hg hk ht hx hn hR2 (hS.trans hS2)⟩
    · have ec2 : inI b 0 (c0 0 0 - 1) = 0 := by rw [N11, N1]; exact e2
      have er2 : inI b 0 (σ 0 2 - 1) = 0 := by rw [N1]; exact e2
      repeat (first | rw [zcc1] | rw [zcc2] | rw [zcc3] | rw [zcc4] | refine zR.step rfl ?_ | refine zR.getf rfl (h25) rfl ?_ | refine zR.cv rfl rfl rfl hG0.o rfl rfl (zCalP.of (c_houseAt_y hG0 ec (by omega)) ?_) | refine zR.cv rfl rfl rfl hG0.o rfl rfl (zCalP.of (c_cropAt_n hG0 ec2) ?_))
      refine zR.cv rfl rfl rfl h25 rfl rfl (zCalP.of (c_refuse h25 _) ?_)
      repeat (first | rw [zcc1] | rw [zcc2] | rw [zcc3] | rw [zcc4] | refine zR.step rfl ?_)
      refine zR.ret rfl rfl ⟨_, rfl, ⟨_, (hR.out (by omega)).1⟩, rfl, ?_⟩
      replace hR : Rf (zup M 25 (.inr (11, tob (tst t 1)))) σ := hR.out (by omega)
      have hS : Sm (zup M 25 (.inr (11, tob (tst t 1)))) (zup M 25 (.inr (11, tob (tst t 1)))) := Sm.rf
      show zR ztb _ kX12_dislike 1 0 [some (.ref 287), some (.int (nI i)), some (.int b), some (.int is), none, none] [] _ _ _ _
      repeat (first | rw [zcc1] | rw [zcc2] | rw [zcc3] | rw [zcc4] | rw [er] | rw [er2] | refine zR.step rfl ?_ | refine zR.getf rfl (hR.1) rfl ?_ | refine zR.cv rfl rfl rfl hR.1 rfl rfl (zCalP.of (c_isHouse hR _) ?_) | refine zR.cv rfl rfl rfl hR.1 rfl rfl (zCalP.of (c_isCrop hR _) ?_))
      refine zR.cv rfl rfl rfl hR.1 rfl rfl (zR.mono (c_refused hR _) (fun v n' w' M' hv => ?_))
      obtain ⟨rfl, rfl, rfl, hR2, hS2⟩ := hv
      repeat (first | rw [zcc1] | rw [zcc2] | rw [zcc3] | rw [zcc4] | refine zR.step rfl ?_)
      refine zR.ret rfl rfl ⟨rfl, by omega, by omega, _, inv_fin ⟨hT, hG0, hG1, hG2⟩ hg hk ht hx hn hR2 (hS.trans hS2)⟩
  · have ec : inI a 0 (c0 0 1 - 1) = 0 := by rw [N12, N3]; exact e
    have er : inI a 0 (σ 0 4 - 1) = 0 := by rw [N3]; exact e
    have hq : ∃ v, v = Value.null ∨ ∃ ca, v = Value.ref ca := ⟨_, Or.inl rfl⟩
    rcases inI_sub b nc (by omega) with ⟨q, hq, rfl, e2⟩ | ⟨-, e2⟩
    · have ec2 : inI (nI q) 0 (c0 0 0 - 1) = 1 := by rw [N11, N1]; exact e2
      obtain ⟨⟨ca, hk1, hc1⟩, -⟩ := hC q hq
      repeat (first | rw [zcc1] | rw [zcc2] | rw [zcc3] | rw [zcc4] | refine zR.step rfl ?_ | refine zR.getf rfl (h25) rfl ?_ | refine zR.cv rfl rfl rfl hG0.o rfl rfl (zCalP.of (c_houseAt_n hG0 ec) ?_) | refine zR.cv rfl rfl rfl hG0.o rfl rfl (zCalP.of (c_cropAt_y hG0 ec2 (by omega) hk1) ?_))
      refine zR.cv rfl rfl rfl h25 rfl rfl (zCalP.of (c_refuse h25 _) ?_)
      repeat (first | rw [zcc1] | rw [zcc2] | rw [zcc3] | rw [zcc4] | refine zR.step rfl ?_)
      refine zR.ret rfl rfl ⟨_, rfl, ⟨_, (hR.out (by omega)).1⟩, rfl, ?_⟩
      replace hR : Rf (zup M 25 (.inr (11, tob (tst t 1)))) σ := hR.out (by omega)
      have hS : Sm (zup M 25 (.inr (11, tob (tst t 1)))) (zup M 25 (.inr (11, tob (tst t 1)))) := Sm.rf
      show zR ztb _ kX12_dislike 1 0 [some (.ref 287), some (.int a), some (.int (nI q)), some (.int is), none, none] [] _ _ _ _
      repeat (first | rw [zcc1] | rw [zcc2] | rw [zcc3] | rw [zcc4] | rw [er] | refine zR.step rfl ?_ | refine zR.getf rfl (hR.1) rfl ?_ | refine zR.cv rfl rfl rfl hR.1 rfl rfl (zCalP.of (c_isHouse hR _) ?_))
      refine zR.cv rfl rfl rfl hR.1 rfl rfl (zR.mono (c_refused hR _) (fun v n' w' M' hv => ?_))
      obtain ⟨rfl, rfl, rfl, hR2, hS2⟩ := hv
      repeat (first | rw [zcc1] | rw [zcc2] | rw [zcc3] | rw [zcc4] | refine zR.step rfl ?_)
      refine zR.ret rfl rfl ⟨rfl, by omega, by omega, _, inv_fin ⟨hT, hG0, hG1, hG2⟩ hg hk ht hx hn hR2 (hS.trans hS2)⟩
    · have ec2 : inI b 0 (c0 0 0 - 1) = 0 := by rw [N11, N1]; exact e2
      repeat (first | rw [zcc1] | rw [zcc2] | rw [zcc3] | rw [zcc4] | refine zR.step rfl ?_ | refine zR.getf rfl (h25) rfl ?_ | refine zR.cv rfl rfl rfl hG0.o rfl rfl (zCalP.of (c_houseAt_n hG0 ec) ?_) | refine zR.cv rfl rfl rfl hG0.o rfl rfl (zCalP.of (c_cropAt_n hG0 ec2) ?_))
      refine zR.cv rfl rfl rfl h25 rfl rfl (zCalP.of (c_refuse h25 _) ?_)
      repeat (first | rw [zcc1] | rw [zcc2] | rw [zcc3] | rw [zcc4] | refine zR.step rfl ?_)
      refine zR.ret rfl rfl ⟨_, rfl, ⟨_, (hR.out (by omega)).1⟩, rfl, ?_⟩
      replace hR : Rf (zup M 25 (.inr (11, tob (tst t 1)))) σ := hR.out (by omega)
      have hS : Sm (zup M 25 (.inr (11, tob (tst t 1)))) (zup M 25 (.inr (11, tob (tst t 1)))) := Sm.rf
      show zR ztb _ kX12_dislike 1 0 [some (.ref 287), some (.int a), some (.int b), some (.int is), none, none] [] _ _ _ _
      repeat (first | rw [zcc1] | rw [zcc2] | rw [zcc3] | rw [zcc4] | rw [er] | refine zR.step rfl ?_ | refine zR.getf rfl (hR.1) rfl ?_ | refine zR.cv rfl rfl rfl hR.1 rfl rfl (zCalP.of (c_isHouse hR _) ?_))
      refine zR.cv rfl rfl rfl hR.1 rfl rfl (zR.mono (c_refused hR _) (fun v n' w' M' hv => ?_))
      obtain ⟨rfl, rfl, rfl, hR2, hS2⟩ := hv
      repeat (first | rw [zcc1] | rw [zcc2] | rw [zcc3] | rw [zcc4] | refine zR.step rfl ?_)
      refine zR.ret rfl rfl ⟨rfl, by omega, by omega, _, inv_fin ⟨hT, hG0, hG1, hG2⟩ hg hk ht hx hn hR2 (hS.trans hS2)⟩
