
/-! A WEEK in the reference. -/
theorem w0_tail {M M0 : zM} {σ : mS} {B : Nat → Int32} {T1 : Nat → Int32} {H W S T2 : Int32} {d n w nc nh nl lm wk : Nat} {x2 x3 x4 x5 : Option Value} (hGT : ∃ M n c kp bt la, GT M n c kp bt la B nc nh nl lm wk) (eS : spF nl 0 B S = (T1, T2)) (hRS : RS M σ B W S) (hS : Sm M0 M) : zR ztb (d + 7) kX12_week0 1 139 [some (.ref 287), some (.int H), x2, x3, x4, x5] [] n w M (fun v n' w' M' => v = some (.int H) ∧ n = n' ∧ w = w' ∧ Sm M0 M' ∧ RS M' σ (zuf T1 0 (T1 0 + 1)) W T2) := by
  have h287 : ∃ fs, M 287 = .inr (12, fs) := by
    obtain ⟨ρ4, hR4, -⟩ := hRS
    exact ⟨_, hR4.1⟩
  obtain ⟨fs, h287⟩ := h287
  repeat (first | ((with_reducible refine zR.stored ?_); dsimp only [zsto, zclr, zset, zget, zc2, cond_false, cond_true]) | ((with_reducible refine zR.atLit ?_); first | refine zR.step rfl ?_) | rw [zcc1] | rw [zcc2] | rw [zcc3] | rw [zcc4])
  refine zR.cv rfl rfl rfl h287 rfl rfl ?_
  show zR ztb _ kX12_spoils 0 0 [some (.ref 287), none, none] [] _ _ _ _
  repeat (first | with_reducible refine zR.hold (pc := 2) ?_ | ((with_reducible refine zR.stored ?_); dsimp only [zsto, zclr, zset, zget, zc2, cond_false, cond_true]) | ((with_reducible refine zR.atLit ?_); first | refine zR.step rfl ?_) | rw [zcc1] | rw [zcc2] | rw [zcc3] | rw [zcc4])
  refine ⟨trivial, sr_loop (M0 := M0) (σ := σ) (d := d + 5) (W := W) (R := (T1, T2)) (fun M5 hRS hS => ?_) nl 0 M B S none (by omega) hGT eS hRS hS⟩
  dsimp only at hRS
  obtain ⟨ρ5, hR, t0, tt, t12, t27, t28⟩ := hRS
  replace hR := hR.toY
  rw [t0] at hR
  repeat (first | ((with_reducible refine zR.stored ?_); dsimp only [zsto, zclr, zset, zget, zc2, cond_false, cond_true]) | ((with_reducible refine zR.atLit ?_); first | refine zR.step rfl ?_ | refine zR.getf rfl (hR.1) rfl ?_ | refine zR.ilY hR rfl (i := 0) rfl (by omega) ?_) | rw [zcc1] | rw [zcc2] | rw [zcc3] | rw [zcc4])
  refine zR.isY hR hS rfl (i := 0) rfl (by omega) (fun M6 hR hS => ?_)
  repeat (first | ((with_reducible refine zR.stored ?_); dsimp only [zsto, zclr, zset, zget, zc2, cond_false, cond_true]) | ((with_reducible refine zR.atLit ?_); first | refine zR.step rfl ?_) | rw [zcc1] | rw [zcc2] | rw [zcc3] | rw [zcc4])
  exact zR.ret rfl rfl ⟨rfl, rfl, rfl, hS, _, hR, zuf_self _ _ _, fun j a1 a2 a3 a4 => by rw [zuf_ne _ _ a1]; exact tt j a1 a2 a3 a4, t12, t27, t28⟩
theorem c_week0 {M M0 : zM} {σ : mS} {s : Nat → Int32} {W S : Int32} {d n w : Nat} (hWF : WF s) (hRS : RS M σ s W S) (hS : Sm M0 M) : zCalP (d + 7) 185 [.ref 287] n w M (fun v n' w' M' => v = some (.int (wBx s).2.1) ∧ n = n' ∧ w = w' ∧ Sm M0 M' ∧ RS M' σ (wkS s) (W + (wBx s).2.2) (S + (wSp s).2)) := by
  obtain ⟨⟨wk, h0, hwk⟩, hcb, hK1, hK2, ⟨Mr, nr, cr, kr, br, lr, hGR⟩, Mt, nt, ct, kt, bt, lt, nc, nh, nl, lm, wk2, hGT, y3⟩ := hWF
  have ec : (s 0).toNatClampNeg = wk := by rw [h0, nI_clamp (by omega)]
  rw [ec] at hK1
  have eP : wP s = pkF 8 (growN s wk 8) (growN s wk 8 1) := by
    unfold wP
    rw [ec]
  obtain ⟨ρ, hR, r0, rr, r12, r27, r28⟩ := hRS
  replace hR := hR.toY
  rw [r0] at hR
  show zR ztb _ kX12_week0 1 0 [some (.ref 287), none, none, none, none, none] [] _ _ _ _
  repeat (first | with_reducible refine zR.hold (pc := 2) ?_ | ((with_reducible refine zR.stored ?_); dsimp only [zsto, zclr, zset, zget, zc2, cond_false, cond_true]) | ((with_reducible refine zR.atLit ?_); first | refine zR.step rfl ?_) | rw [zcc1] | rw [zcc2] | rw [zcc3] | rw [zcc4])
  refine ⟨trivial, w0_grow (M0 := M0) (σ := ρ) (d := d + 4) h0 hwk hcb (fun M1 hR hS => ?_) 8 0 M (by omega) hR hS⟩
  repeat (first | ((with_reducible refine zR.stored ?_); dsimp only [zsto, zclr, zset, zget, zc2, cond_false, cond_true]) | ((with_reducible refine zR.atLit ?_); first | refine zR.step rfl ?_) | rw [zcc1] | rw [zcc2] | rw [zcc3] | rw [zcc4])
  refine zR.cv rfl rfl rfl hR.1 rfl rfl (zR.mono (c_picks hK1 hR hS) (fun v n1 w1 M2 hv => ?_))
  obtain ⟨rfl, rfl, rfl, hS, wp, hR⟩ := hv
  rw [← eP] at hR
  have hcb2 : ∀ b, b < 8 → wP s (150 + 10 * b) = -1 ∨ ∃ i, i < 8 ∧ wP s (150 + 10 * b) = nI i := by
    obtain ⟨Mk, nk, ck, kk, bk, lk, hk⟩ := hK2
    exact hk.cb
  have hR2 : Rf M2 (zuf (zuf ρ 11 wp) 0 (endN (wP s) 0)) := by rw [endN]; exact hR
  repeat (first | with_reducible refine zR.hold (pc := 25) ?_ | ((with_reducible refine zR.stored ?_); dsimp only [zsto, zclr, zset, zget, zc2, cond_false, cond_true]) | ((with_reducible refine zR.atLit ?_); first | refine zR.step rfl ?_) | rw [zcc1] | rw [zcc2] | rw [zcc3] | rw [zcc4])
  refine ⟨trivial, w0_ends (M0 := M0) (σ := zuf ρ 11 wp) (d := d + 4) hcb2 (fun M3 hR3 hS3 => ?_) 8 0 M2 (by omega) hR2 hS⟩
  replace hR3 : Rf M3 (zuf (zuf ρ 11 wp) 0 (wX s)) := hR3
  obtain ⟨nc', nh', nl', lm', wk', hGH⟩ := hGR.gh
  have hN' := hGH.1
  have x0 : wX s 0 = nI wk := (wX_0 hcb2 (by omega) (by omega)).trans h0
  have ew2 : wk' = wk := zn_inj (by have := hN'.2.2.2.2.2.2.2.2.2.1; omega) (by omega) (hN'.2.2.2.2.2.2.2.2.1.symm.trans x0)
  subst ew2
  have b3 : nl' ≤ 240 := hN'.2.2.2.2.2.1
  have b5 : lm' ≤ 20 := hN'.2.2.2.2.2.2.2.1
  have b2 : nc' ≤ 8 := hN'.2.1
  have b4 : nh' ≤ 10 := hN'.2.2.2.1
  have z3 : (wX s 3).toNatClampNeg = nl' := by rw [hN'.2.2.2.2.1, nI_clamp (by omega)]
  have z5 : (wX s 5).toNatClampNeg = lm' := by rw [hN'.2.2.2.2.2.2.1, nI_clamp (by omega)]
  have z2 : (wX s 2).toNatClampNeg = nc' := by rw [hN'.1, nI_clamp (by omega)]
  have z4 : (wX s 4).toNatClampNeg = nh' := by rw [hN'.2.2.1, nI_clamp (by omega)]
  have z0 : (wX s 0).toNatClampNeg = wk' := by rw [x0, nI_clamp (by omega)]
  have eB : bsF nl' lm' nc' nh' wk' nh' 0 (wX s) 0 W = ((wBx s).1, (wBx s).2.1, W + (wBx s).2.2) := by
    have := bsF_off (nl := nl') (lm := lm') (nc := nc') (nh := nh') (wk := wk') (H0 := 0) (W0 := W) nh' 0 (wX s) 0 0
    rw [Int32.add_zero, Int32.add_zero, Int32.zero_add] at this
    rw [this]
    unfold wBx
    rw [z3, z5, z2, z4, z0]
  have N3 : wX s 4 = nI nh' := hN'.2.2.1
  repeat (first | with_reducible refine zR.hold (pc := 53) ?_ | ((with_reducible refine zR.stored ?_); dsimp only [zsto, zclr, zset, zget, zc2, cond_false, cond_true]) | ((with_reducible refine zR.atLit ?_); first | refine zR.step rfl ?_ | refine zR.getf rfl (hR3.1) rfl ?_ | (refine zR.ilY hR3 rfl (i := 4) rfl (by omega) ?_; rw [N3])) | rw [zcc1] | rw [zcc2] | rw [zcc3] | rw [zcc4])
  refine ⟨trivial, w0_box (M0 := M0) (σ := σ) (S := S) (d := d) (nc := nc') (nl := nl') (lm := lm') hwk (fun M4 x3 x4 x5 hRS hS => ?_) nh' 0 M3 (wX s) 0 W none none (by omega) ⟨Mr, nr, cr, kr, br, lr, hGH⟩ eB ⟨_, hR3, zuf_self _ _ _, fun j a1 a2 a3 a4 => by rw [zuf_ne _ _ a1, zuf_ne _ _ a3]; exact rr j a1 a2 a3 a4, r12, r27, r28⟩ hS3⟩
  dsimp only at hRS
  have eS : spF nl 0 (wBx s).1 S = ((wSp s).1, S + (wSp s).2) := by
    have := spF_off (S0 := S) nl 0 (wBx s).1 0
    rw [Int32.add_zero] at this
    rw [this]
    unfold wSp
    rw [y3]
  dsimp only
  unfold wkS
  exact w0_tail ⟨Mt, nt, ct, kt, bt, lt, hGT⟩ eS hRS hS
