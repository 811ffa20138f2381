
/-! A WEEK in the class. -/
/-- what the reference's run of a week needs -/
def WF (s : Nat → Int32) : Prop := (∃ wk, s 0 = nI wk ∧ wk < 30) ∧ (∀ b, b < 8 → s (150 + 10 * b) = -1 ∨ ∃ i, i < 8 ∧ s (150 + 10 * b) = nI i) ∧ (∃ M n c kp bt la, GK M n c kp bt la (growN s (s 0).toNatClampNeg 8)) ∧ (∃ M n c kp bt la, GK M n c kp bt la (wP s)) ∧ (∃ M n c kp bt la, GR M n c kp bt la (wX s)) ∧ ∃ M n c kp bt la nc nh nl lm wk, GT M n c kp bt la (wBx s).1 nc nh nl lm wk ∧ (wX s 3).toNatClampNeg = nl
theorem wX_0 {s : Nat → Int32} (hc : ∀ b, b < 8 → wP s (150 + 10 * b) = -1 ∨ ∃ i, i < 8 ∧ wP s (150 + 10 * b) = nI i) {k : Nat} (hk : k < 50) (h3 : k ≠ 3) : wX s k = s k := by
  unfold wX
  rw [endN_at hc 8 (by omega) k (by omega) (by omega), wP_lo (by omega) h3 (by omega)]
theorem c_doWeek {M M0 : zM} {g : Nat} {c : mS} {kp bt : Nat → Option Nat} {la : Nat} {s : Nat → Int32} {d n w nn wk : Nat} (hg : 48 ≤ g ∧ g + 76 ≤ 300) (hG : Gc M g c kp bt la) (hF : ∀ k, k < g ∨ g + 76 ≤ k → M k = M0 k) (hGR : GR M0 nn c kp bt la s) (h0 : s 0 = nI wk) (hwk : wk < 30) : zCalP (d + 6) 22 [.ref g] n w M (fun v n' w' M' => v = none ∧ n = n' ∧ w = w' ∧ ∃ c' bt', Gc M' g c' kp bt' la ∧ (∀ k, k < g ∨ g + 76 ≤ k → M' k = M0 k) ∧ GR M0 nn c' kp bt' la (wkS s) ∧ c' 13 0 = c 13 0 + (wBx s).2.1 ∧ c' 13 1 = c 13 1 + (wBx s).2.2 ∧ c' 13 2 = c 13 2 + (wSp s).2 ∧ c' 13 3 = c 13 3 + lossN (wP s) 8 ∧ WF s) := by
  have hGR' := hGR
  obtain ⟨nc, nh, nl, lm, wk', hN, hC, hB, hL, hSt, hH, hW, hX⟩ := hGR'
  have ewk : wk' = wk := zn_inj (by have := hN.2.2.2.2.2.2.2.2.2.1; omega) (by omega) (hN.2.2.2.2.2.2.2.2.1.symm.trans h0)
  subst ewk
  have g1 : nc ≤ 8 := hN.2.1
  have c02 : c 0 2 = nI wk' := hN.2.2.2.2.2.2.2.2.2.2.2.2.1.trans h0
  have ec : (s 0).toNatClampNeg = wk' := by rw [h0, nI_clamp (by omega)]
  have eP : wP s = pkF 8 (growN s wk' 8) (growN s wk' 8 1) := by
    unfold wP
    rw [ec]
  have ho := hG.o
  rw [c02] at ho
  show zR ztb _ kX2_doWeek 0 0 [some (.ref g), none, none] [] _ _ _ _
  repeat (first | with_reducible refine zR.hold (pc := 11) ?_ | ((with_reducible refine zR.stored ?_); dsimp only [zsto, zclr, zset, zget, zc2, cond_false, cond_true]) | ((with_reducible refine zR.atLit ?_); first | refine zR.step rfl ?_ | refine zR.getf rfl (ho) rfl ?_ | refine zR.cv rfl rfl rfl hG.o rfl rfl (zCalP.of (c_warmthOf hG hW hwk) ?_)) | rw [zcc1] | rw [zcc2] | rw [zcc3] | rw [zcc4])
  refine ⟨trivial, dw_grow (d := d + 4) (c0 := c) (nn := nn) (nc := nc) hg.2 hwk g1 (fun i hi => ?_) hB (fun M1 c1 hG1 hF1 hj1 hK1 => ?_) 8 0 M c (by omega) hG hF (fun _ _ => rfl) (fun q hq => absurd hq (by omega))⟩
  · obtain ⟨-, -, -, z1, z2, -⟩ := hC.1 i hi
    exact ⟨z1, z2⟩
  have hGK1 := hGR.grown (wk := wk') hj1 (fun nc' h8 h2 => by
    have e : nc' = nc := zn_inj (by omega) (by omega) (h2.symm.trans hN.1)
    subst e
    exact hK1)
  repeat (first | ((with_reducible refine zR.stored ?_); dsimp only [zsto, zclr, zset, zget, zc2, cond_false, cond_true]) | ((with_reducible refine zR.atLit ?_); first | refine zR.step rfl ?_) | rw [zcc1] | rw [zcc2] | rw [zcc3] | rw [zcc4])
  refine zR.cv rfl rfl rfl hG1.o rfl rfl (zR.mono (c_pickRipe hg.2 hG1 hF1 hGK1) (fun v n1 w1 M2 hv => ?_))
  obtain ⟨rfl, rfl, rfl, c2, hG2, hF2, hGK2, k2⟩ := hv
  rw [← eP] at hGK2
  repeat (first | ((with_reducible refine zR.stored ?_); dsimp only [zsto, zclr, zset, zget, zc2, cond_false, cond_true]) | ((with_reducible refine zR.atLit ?_); first | refine zR.step rfl ?_) | rw [zcc1] | rw [zcc2] | rw [zcc3] | rw [zcc4])
  refine zR.cv rfl rfl rfl hG2.o rfl rfl (zR.mono (c_closeBeds hg.2 hG2 hF2 hGK2) (fun v n1 w1 M3 hv => ?_))
  obtain ⟨rfl, rfl, rfl, c3, bt3, hG3, hF3, hGR3, k33, k3⟩ := hv
  have hGR3' : GR M0 nn c3 kp bt3 la (wX s) := hGR3
  obtain ⟨nc', nh', nl', lm', wk'', hGH⟩ := hGR3'.gh
  have hN' := hGH.1
  have x0 : wX s 0 = nI wk' := (wX_0 hGK2.cb (by omega) (by omega)).trans h0
  have ew2 : wk'' = wk' := zn_inj (by have := hN'.2.2.2.2.2.2.2.2.2.1; omega) (by omega) (hN'.2.2.2.2.2.2.2.2.1.symm.trans x0)
  subst ew2
  have b3 : nl' ≤ 240 := hN'.2.2.2.2.2.1
  have b5 : lm' ≤ 20 := hN'.2.2.2.2.2.2.2.1
  have b2 : nc' ≤ 8 := hN'.2.1
  have b4 : nh' ≤ 10 := hN'.2.2.2.1
  have y3 : (wX s 3).toNatClampNeg = nl' := by rw [hN'.2.2.2.2.1, nI_clamp (by omega)]
  have y5 : (wX s 5).toNatClampNeg = lm' := by rw [hN'.2.2.2.2.2.2.1, nI_clamp (by omega)]
  have y2 : (wX s 2).toNatClampNeg = nc' := by rw [hN'.1, nI_clamp (by omega)]
  have y4 : (wX s 4).toNatClampNeg = nh' := by rw [hN'.2.2.1, nI_clamp (by omega)]
  have y0 : (wX s 0).toNatClampNeg = wk'' := by rw [x0, nI_clamp (by omega)]
  have eB : bsF nl' lm' nc' nh' wk'' nh' 0 (wX s) (c3 13 0) (c3 13 1) = ((wBx s).1, c3 13 0 + (wBx s).2.1, c3 13 1 + (wBx s).2.2) := by
    unfold wBx
    rw [y3, y5, y2, y4, y0, ← bsF_off, Int32.add_zero, Int32.add_zero]
  repeat (first | ((with_reducible refine zR.stored ?_); dsimp only [zsto, zclr, zset, zget, zc2, cond_false, cond_true]) | ((with_reducible refine zR.atLit ?_); first | refine zR.step rfl ?_) | rw [zcc1] | rw [zcc2] | rw [zcc3] | rw [zcc4])
  refine zR.cv rfl rfl rfl hG3.o rfl rfl ?_
  show zR ztb _ kX2_fillBoxes 0 0 [some (.ref g), none, none] [] _ _ _ _
  repeat (first | with_reducible refine zR.hold (pc := 2) ?_ | ((with_reducible refine zR.stored ?_); dsimp only [zsto, zclr, zset, zget, zc2, cond_false, cond_true]) | ((with_reducible refine zR.atLit ?_); first | refine zR.step rfl ?_) | rw [zcc1] | rw [zcc2] | rw [zcc3] | rw [zcc4])
  refine ⟨trivial, fbs_loop (M0 := M0) (c0 := c3) (nn := nn) (nc := nc') (nh := nh') (nl := nl') (lm := lm') hg hwk (fun M4 c4 D hG4 hF4 hGH4 a0 a1 a2 a3 => ?_) nh' 0 M3 c3 (wX s) (c3 13 0) (c3 13 1) none (by omega) hG3 hF3 hGH eB rfl rfl rfl rfl⟩
  dsimp only at hGH4 a0 a1
  have hGT := hGH4.gt
  have eS : spF nl' 0 (wBx s).1 (c4 13 2) = ((wSp s).1, c4 13 2 + (wSp s).2) := by
    unfold wSp
    rw [y3, ← spF_off, Int32.add_zero]
  repeat (first | ((with_reducible refine zR.stored ?_); dsimp only [zsto, zclr, zset, zget, zc2, cond_false, cond_true]) | ((with_reducible refine zR.atLit ?_); first | refine zR.step rfl ?_) | rw [zcc1] | rw [zcc2] | rw [zcc3] | rw [zcc4])
  refine zR.cv rfl rfl rfl hG4.o rfl rfl ?_
  show zR ztb _ kX2_spoilLots 0 0 [some (.ref g), none, none, none] [] _ _ _ _
  repeat (first | with_reducible refine zR.hold (pc := 2) ?_ | ((with_reducible refine zR.stored ?_); dsimp only [zsto, zclr, zset, zget, zc2, cond_false, cond_true]) | ((with_reducible refine zR.atLit ?_); first | refine zR.step rfl ?_) | rw [zcc1] | rw [zcc2] | rw [zcc3] | rw [zcc4])
  refine ⟨trivial, sl_loop (M0 := M0) (c0 := c4) (nn := nn) hg (fun M5 c5 hG5 hF5 hGT5 s0 s1 s2 s3 => ?_) nl' 0 M4 c4 (wBx s).1 (c4 13 2) none none (by omega) hG4 hF4 hGT eS rfl rfl rfl rfl⟩
  dsimp only at hGT5 s2
  have hG6 := hG5.row0 (zuf (c5 0) 2 (c5 0 2 + 1)) rfl
  repeat (first | ((with_reducible refine zR.stored ?_); dsimp only [zsto, zclr, zset, zget, zc2, cond_false, cond_true]) | ((with_reducible refine zR.atLit ?_); first | refine zR.step rfl ?_ | refine zR.getf rfl (hG5.o) rfl ?_) | rw [zcc1] | rw [zcc2] | rw [zcc3] | rw [zcc4])
  refine zR.putf rfl hG5.o rfl rfl ?_
  repeat (first | ((with_reducible refine zR.stored ?_); dsimp only [zsto, zclr, zset, zget, zc2, cond_false, cond_true]) | ((with_reducible refine zR.atLit ?_); first | refine zR.step rfl ?_) | rw [zcc1] | rw [zcc2] | rw [zcc3] | rw [zcc4])
  refine zR.ret rfl rfl ⟨rfl, rfl, rfl, _, bt3, hG6, fun k hk => by rw [zup_ne _ _ (by omega)]; exact hF5 k hk, hGT5.next hwk, ?_, ?_, ?_, ?_, ⟨wk'', h0, hwk⟩, hGR.cb, ⟨M0, nn, c1, kp, bt, la, by rw [ec]; exact hGK1⟩, ⟨M0, nn, c2, kp, bt, la, hGK2⟩, ⟨M0, nn, c3, kp, bt3, la, hGR3'⟩, M0, nn, c4, kp, bt3, la, nc', nh', nl', lm', wk'', hGT, y3⟩
  · show c5 13 0 = _
    rw [s0, a0, k3 0 (by omega), k2, hj1 13 (by omega)]
  · show c5 13 1 = _
    rw [s1, a1, k3 1 (by omega), k2, hj1 13 (by omega)]
  · show c5 13 2 = _
    rw [s2, a2, k3 2 (by omega), k2, hj1 13 (by omega)]
  · show c5 13 3 = _
    rw [s3, a3, k33, k2, hj1 13 (by omega)]
