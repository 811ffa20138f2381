
/-! A WEEK: the reference's choice. -/
theorem b32_t : b32 true = 1 := rfl
theorem b32_f : b32 false = 0 := rfl
section
variable {M M0 : zM} {σ : mS} {d n w nc nl lm h sz : Nat}
theorem ig_loop {Q : Option Value → Nat → Nat → zM → Prop} {c : Nat} {bb : Bool} (hR : Rf M σ) (hh : h < 10) (hc : c < 8) (hz : σ 0 (1700 + 40 * h + 0) = nI sz) (hz6 : sz ≤ 6) (hQ : Q (some (.int (b32 (bb && ninB (σ 0) h c sz)))) n w M) : ∀ (t p : Nat), p + t = sz → zR ztb (d + 1) kX12_isGood 2 51 [some (.ref 287), some (.int (nI h)), some (.int (nI c)), some (.int (1700 + 40 * nI h + 16)), some (.int (b32 (bb && ninB (σ 0) h c p))), some (.int (nI p))] [] n w M Q
  | t, p, hp => by
    refine zR.step rfl ?_
    match t, hp with
    | 0, hp =>
      have e2 : p = sz := by omega
      subst e2
      have e : ¬ nI p < nI p := zI_nlt (Nat.le_refl _) (by omega)
      cases q : bb && ninB (σ 0) h c p with
      | true =>
        rw [q] at hQ
        repeat (first | ((with_reducible refine zR.stored ?_); dsimp only [zsto, zclr, zset, zget, zc2, cond_false, cond_true]) | ((with_reducible refine zR.atLit ?_); first | refine zR.step rfl ?_ | (refine zR.cv rfl rfl rfl hR.1 rfl rfl (zCalP.of (c_houseIs hR h 0 (by omega)) ?_); rw [hz])) | rw [zcc1] | rw [zcc2] | rw [zcc3] | rw [zcc4] | rw [zn1 (e)] | rw [zn2 (e)] | rw [zn3 (e)] | rw [zn4 (e)])
        exact zR.ret rfl rfl hQ
      | false =>
        rw [q] at hQ
        repeat (first | ((with_reducible refine zR.stored ?_); dsimp only [zsto, zclr, zset, zget, zc2, cond_false, cond_true]) | ((with_reducible refine zR.atLit ?_); first | refine zR.step rfl ?_ | (refine zR.cv rfl rfl rfl hR.1 rfl rfl (zCalP.of (c_houseIs hR h 0 (by omega)) ?_); rw [hz])) | rw [zcc1] | rw [zcc2] | rw [zcc3] | rw [zcc4] | rw [zn1 (e)] | rw [zn2 (e)] | rw [zn3 (e)] | rw [zn4 (e)])
        exact zR.ret rfl rfl hQ
    | t + 1, hp =>
      have e : nI p < nI sz := zI_ylt (by omega) (by omega)
      have ih := ig_loop hR hh hc hz hz6 hQ t (p + 1) (by omega)
      rw [← zI_s, show ninB (σ 0) h c (p + 1) = (ninB (σ 0) h c p && !decide (σ 0 (1716 + 40 * h + 3 * p) = nI c)) from rfl, ← Bool.and_assoc] at ih
      cases q : bb && ninB (σ 0) h c p with
      | true =>
        rw [q] at ih
        by_cases q2 : σ 0 (1716 + 40 * h + 3 * p) = nI c
        · rw [decide_eq_true q2] at ih
          repeat (first | with_reducible refine zR.hold (pc := 51) ?_ | ((with_reducible refine zR.stored ?_); dsimp only [zsto, zclr, zset, zget, zc2, cond_false, cond_true]) | ((with_reducible refine zR.atLit ?_); first | refine zR.step rfl ?_ | (refine zR.cv rfl rfl rfl hR.1 rfl rfl (zCalP.of (c_houseIs hR h 0 (by omega)) ?_); rw [hz]) | refine zR.getf rfl (hR.1) rfl ?_ | refine zR.ilR0 hR rfl (i := 1716 + 40 * h + 3 * p) (by first | with_reducible rfl | (simp only [zn_lit, zn_add, zn_mul] <;> exact congrArg nI (by omega)) | rfl) (by omega) ?_) | rw [zcc1] | rw [zcc2] | rw [zcc3] | rw [zcc4] | rw [zb1 (e)] | rw [zb2 (e)] | rw [zb3 (e)] | rw [zb4 (e)] | rw [b32_t] | rw [zb1 (by decide)] | rw [zb2 (by decide)] | rw [zb3 (by decide)] | rw [zb4 (by decide)] | rw [zn1 (by decide)] | rw [zn2 (by decide)] | rw [zn3 (by decide)] | rw [zn4 (by decide)] | rw [ze1 (by decide)] | rw [ze2 (by decide)] | rw [zd1 (by decide)] | rw [zd2 (by decide)] | rw [zswy (by decide)] | rw [zswn (by decide)] | rw [zsw0] | rw [ze1 (q2)] | rw [ze2 (q2)])
          exact ⟨trivial, ih⟩
        · rw [decide_eq_false q2] at ih
          repeat (first | with_reducible refine zR.hold (pc := 51) ?_ | ((with_reducible refine zR.stored ?_); dsimp only [zsto, zclr, zset, zget, zc2, cond_false, cond_true]) | ((with_reducible refine zR.atLit ?_); first | refine zR.step rfl ?_ | (refine zR.cv rfl rfl rfl hR.1 rfl rfl (zCalP.of (c_houseIs hR h 0 (by omega)) ?_); rw [hz]) | refine zR.getf rfl (hR.1) rfl ?_ | refine zR.ilR0 hR rfl (i := 1716 + 40 * h + 3 * p) (by first | with_reducible rfl | (simp only [zn_lit, zn_add, zn_mul] <;> exact congrArg nI (by omega)) | rfl) (by omega) ?_) | rw [zcc1] | rw [zcc2] | rw [zcc3] | rw [zcc4] | rw [zb1 (e)] | rw [zb2 (e)] | rw [zb3 (e)] | rw [zb4 (e)] | rw [b32_t] | rw [zb1 (by decide)] | rw [zb2 (by decide)] | rw [zb3 (by decide)] | rw [zb4 (by decide)] | rw [zn1 (by decide)] | rw [zn2 (by decide)] | rw [zn3 (by decide)] | rw [zn4 (by decide)] | rw [ze1 (by decide)] | rw [ze2 (by decide)] | rw [zd1 (by decide)] | rw [zd2 (by decide)] | rw [zswy (by decide)] | rw [zswn (by decide)] | rw [zsw0] | rw [zd1 (q2)] | rw [zd2 (q2)])
          exact ⟨trivial, ih⟩
      | false =>
        rw [q] at ih
        repeat (first | with_reducible refine zR.hold (pc := 51) ?_ | ((with_reducible refine zR.stored ?_); dsimp only [zsto, zclr, zset, zget, zc2, cond_false, cond_true]) | ((with_reducible refine zR.atLit ?_); first | refine zR.step rfl ?_ | (refine zR.cv rfl rfl rfl hR.1 rfl rfl (zCalP.of (c_houseIs hR h 0 (by omega)) ?_); rw [hz])) | rw [zcc1] | rw [zcc2] | rw [zcc3] | rw [zcc4] | rw [zb1 (e)] | rw [zb2 (e)] | rw [zb3 (e)] | rw [zb4 (e)] | rw [b32_f] | rw [zb1 (by decide)] | rw [zb2 (by decide)] | rw [zb3 (by decide)] | rw [zb4 (by decide)] | rw [zn1 (by decide)] | rw [zn2 (by decide)] | rw [zn3 (by decide)] | rw [zn4 (by decide)] | rw [ze1 (by decide)] | rw [ze2 (by decide)] | rw [zd1 (by decide)] | rw [zd2 (by decide)] | rw [zswy (by decide)] | rw [zswn (by decide)] | rw [zsw0])
        exact ⟨trivial, ih⟩
theorem c_isGoodR {c : Nat} (hR : Rf M σ) (hh : h < 10) (hc : c < nc) (h2 : σ 0 2 = nI nc) (h8 : nc ≤ 8) (h3 : σ 0 3 = nI nl) (hnl : nl ≤ 240) (hz : σ 0 (1700 + 40 * h) = nI sz) (hz6 : sz ≤ 6) : zCall (d + 2) 180 [.ref 287, .int (nI h), .int (nI c)] n w M (some (.int (if goodP (σ 0) nl h sz c then 1 else 0))) n w M := by
  intro Q hQ
  have er : inI (nI c) 0 (σ 0 2 - 1) = 1 := by
    rw [h2, zI_pred (by omega) (by omega)]
    exact inI_y (lo := 0) (by omega) (by omega) (by omega)
  have e1 : σ 0 (1700 + 40 * h + 1) = σ 0 (1701 + 40 * h) := by rw [show 1700 + 40 * h + 1 = 1701 + 40 * h by omega]
  have lp := fun bb (hq : Q (some (.int (b32 (bb && ninB (σ 0) h c sz)))) n w M) => ig_loop (d := d + 1) (bb := bb) hR hh (show c < 8 by omega) hz hz6 hq sz 0 (by omega)
  show zR ztb _ kX12_isGood 2 0 [some (.ref 287), some (.int (nI h)), some (.int (nI c)), none, none, none] [] _ _ _ _
  by_cases g1 : 0 < stockF (σ 0) (nI c) nl
  · by_cases g2 : (σ 0 (1701 + 40 * h) >>> (nI c &&& 31)) &&& 1 = 0
    · have := lp true (by
        cases g3 : ninB (σ 0) h c sz with
        | true => rw [if_pos ⟨⟨g1, g2⟩, g3⟩] at hQ; exact hQ
        | false => rw [if_neg (fun z => absurd (g3.symm.trans z.2) (by decide))] at hQ; exact hQ)
      repeat (first | with_reducible refine zR.hold (pc := 51) ?_ | ((with_reducible refine zR.stored ?_); dsimp only [zsto, zclr, zset, zget, zc2, cond_false, cond_true]) | ((with_reducible refine zR.atLit ?_); first | refine zR.step rfl ?_ | refine zR.cv rfl rfl rfl hR.1 rfl rfl (zCalP.of (c_isCrop hR _) ?_) | refine zR.cv rfl rfl rfl hR.1 rfl rfl (zCalP.of (c_stock hR h3 hnl _) ?_) | (refine zR.cv rfl rfl rfl hR.1 rfl rfl (zCalP.of (c_houseIs hR h 1 (by omega)) ?_); rw [e1])) | rw [zcc1] | rw [zcc2] | rw [zcc3] | rw [zcc4] | rw [er] | rw [zb1 (g1)] | rw [zb2 (g1)] | rw [zb3 (g1)] | rw [zb4 (g1)] | rw [ze1 (g2)] | rw [ze2 (g2)])
      exact ⟨trivial, this⟩
    · have := lp false (by rw [if_neg (fun z => g2 z.1.2)] at hQ; exact hQ)
      repeat (first | with_reducible refine zR.hold (pc := 51) ?_ | ((with_reducible refine zR.stored ?_); dsimp only [zsto, zclr, zset, zget, zc2, cond_false, cond_true]) | ((with_reducible refine zR.atLit ?_); first | refine zR.step rfl ?_ | refine zR.cv rfl rfl rfl hR.1 rfl rfl (zCalP.of (c_isCrop hR _) ?_) | refine zR.cv rfl rfl rfl hR.1 rfl rfl (zCalP.of (c_stock hR h3 hnl _) ?_) | (refine zR.cv rfl rfl rfl hR.1 rfl rfl (zCalP.of (c_houseIs hR h 1 (by omega)) ?_); rw [e1])) | rw [zcc1] | rw [zcc2] | rw [zcc3] | rw [zcc4] | rw [er] | rw [zb1 (g1)] | rw [zb2 (g1)] | rw [zb3 (g1)] | rw [zb4 (g1)] | rw [zd1 (g2)] | rw [zd2 (g2)])
      exact ⟨trivial, this⟩
  · have := lp false (by rw [if_neg (fun z => g1 z.1.1)] at hQ; exact hQ)
    repeat (first | with_reducible refine zR.hold (pc := 51) ?_ | ((with_reducible refine zR.stored ?_); dsimp only [zsto, zclr, zset, zget, zc2, cond_false, cond_true]) | ((with_reducible refine zR.atLit ?_); first | refine zR.step rfl ?_ | refine zR.cv rfl rfl rfl hR.1 rfl rfl (zCalP.of (c_isCrop hR _) ?_) | refine zR.cv rfl rfl rfl hR.1 rfl rfl (zCalP.of (c_stock hR h3 hnl _) ?_)) | rw [zcc1] | rw [zcc2] | rw [zcc3] | rw [zcc4] | rw [er] | rw [zn1 (g1)] | rw [zn2 (g1)] | rw [zn3 (g1)] | rw [zn4 (g1)])
    exact ⟨trivial, this⟩
theorem c_lhR {Mk : zM} {lak l : Nat} (hR : Rf M σ) (hL : LNS Mk lak (σ 0) nc lm) (h8 : nc ≤ 8) (h3 : σ 0 3 = nI nl) (hnl : nl ≤ 240) (hh : h < 10) (hl : l < lm) (hlm : lm ≤ 20) : zCalP (d + 3) 173 [.ref 287, .int (nI l), .int (nI h)] n w M (fun v n' w' M' => v = some (.int (if lhB (σ 0) nl h l = true then 1 else 0)) ∧ n = n' ∧ w = w' ∧ Sm M M' ∧ ∃ ρ, Rf M' ρ ∧ ∀ j, j ≠ 10 → ρ j = σ j) := by
  obtain ⟨sc, r, en, x1, x5, x6, x7, x8, x9⟩ := hL
  obtain ⟨z1, z2, z3, z4, z5, z6, z7, z8⟩ := x8 l hl
  have b1 := x7 l (by omega)
  have b2 := x7 (l + 1) (by omega)
  have e : lhB (σ 0) nl h l = decide (encN (evS (σ 0) nl h (en (l + 1) - en l) (en l) []) % 2 = 1) := by
    unfold lhB
    rw [z2, z3, nI_clamp (by omega), nI_clamp (by omega)]
  refine zR.mono (c_lineHolds hR h3 hnl hh z1 (by omega) (by omega) z2 z3 z8 (fun k hk q => ?_)) (fun v n' w' M' hv => ?_)
  · obtain ⟨j, y1, y2⟩ := (x9 k (by omega)).2 q
    exact ⟨j, by omega, y2⟩
  · obtain ⟨rfl, a1, a2, a3, a4⟩ := hv
    refine ⟨?_, a1, a2, a3, a4⟩
    rw [e]
    by_cases q : encN (evS (σ 0) nl h (en (l + 1) - en l) (en l) []) % 2 = 1
    · rw [if_pos q, if_pos (decide_eq_true q)]
    · rw [if_neg q, if_neg (by rw [decide_eq_false q]; decide)]
end
section
variable {M0 : zM} {σ : mS} {d n w nc nl lm h : Nat}
theorem ib_loop {Mk : zM} {lak c : Nat} {Q : Option Value → Nat → Nat → zM → Prop} (hL : LNS Mk lak (σ 0) nc lm) (h8 : nc ≤ 8) (h3 : σ 0 3 = nI nl) (h5 : σ 0 5 = nI lm) (hnl : nl ≤ 240) (hh : h < 10) (hlm : lm ≤ 20) (hc : c < 8) (hQ : ∀ M ρ, Rf M ρ → Sm M0 M → (∀ j, j ≠ 10 → ρ j = σ j) → Q (some (.int (b32 (brB (σ 0) nl h c lm)))) n w M) : ∀ (t l : Nat) (M : zM) (ρ : mS), l + t = lm → Rf M ρ → Sm M0 M → (∀ j, j ≠ 10 → ρ j = σ j) → zR ztb (d + 4) kX12_isBarred 2 5 [some (.ref 287), some (.int (nI h)), some (.int (nI c)), some (.int (b32 (brB (σ 0) nl h c l))), some (.int (nI l))] [] n w M Q
  | t, l, M, ρ, hl, hR, hS, hr => by
    have r0 := hr 0 (by omega)
    have p5 : ρ 0 5 = nI lm := by rw [r0]; exact h5
    refine zR.step rfl ?_
    match t, hl with
    | 0, hl =>
      have e2 : l = lm := by omega
      subst e2
      have e : ¬ nI l < nI l := zI_nlt (Nat.le_refl _) (by omega)
      have hq := hQ M ρ hR hS hr
      cases q : brB (σ 0) nl h c l with
      | true =>
        rw [q] at hq
        repeat (first | ((with_reducible refine zR.stored ?_); dsimp only [zsto, zclr, zset, zget, zc2, cond_false, cond_true]) | ((with_reducible refine zR.atLit ?_); first | refine zR.step rfl ?_ | refine zR.getf rfl (hR.1) rfl ?_ | (refine zR.ilR0 hR rfl (i := 5) rfl (by omega) ?_; rw [p5])) | rw [zcc1] | rw [zcc2] | rw [zcc3] | rw [zcc4] | rw [zn1 (e)] | rw [zn2 (e)] | rw [zn3 (e)] | rw [zn4 (e)])
        exact zR.ret rfl rfl hq
      | false =>
        rw [q] at hq
        repeat (first | ((with_reducible refine zR.stored ?_); dsimp only [zsto, zclr, zset, zget, zc2, cond_false, cond_true]) | ((with_reducible refine zR.atLit ?_); first | refine zR.step rfl ?_ | refine zR.getf rfl (hR.1) rfl ?_ | (refine zR.ilR0 hR rfl (i := 5) rfl (by omega) ?_; rw [p5])) | rw [zcc1] | rw [zcc2] | rw [zcc3] | rw [zcc4] | rw [zn1 (e)] | rw [zn2 (e)] | rw [zn3 (e)] | rw [zn4 (e)])
        exact zR.ret rfl rfl hq
    | t + 1, hl =>
      have e : nI l < nI lm := zI_ylt (by omega) (by omega)
      have ih := fun M ρ => ib_loop hL h8 h3 h5 hnl hh hlm hc hQ t (l + 1) M ρ (by omega)
      rw [← zI_s, show brB (σ 0) nl h c (l + 1) = (brB (σ 0) nl h c l || (decide (σ 0 (2100 + 4 * l) = 0) && decide (σ 0 (2101 + 4 * l) = nI c) && lhB (σ 0) nl h l)) from rfl] at ih
      cases q : brB (σ 0) nl h c l with
      | true =>
        rw [q, Bool.true_or] at ih
        repeat (first | with_reducible refine zR.hold (pc := 5) ?_ | ((with_reducible refine zR.stored ?_); dsimp only [zsto, zclr, zset, zget, zc2, cond_false, cond_true]) | ((with_reducible refine zR.atLit ?_); first | refine zR.step rfl ?_ | refine zR.getf rfl (hR.1) rfl ?_ | (refine zR.ilR0 hR rfl (i := 5) rfl (by omega) ?_; rw [p5])) | rw [zcc1] | rw [zcc2] | rw [zcc3] | rw [zcc4] | rw [zb1 (e)] | rw [zb2 (e)] | rw [zb3 (e)] | rw [zb4 (e)] | rw [b32_t] | rw [zb1 (by decide)] | rw [zb2 (by decide)] | rw [zb3 (by decide)] | rw [zb4 (by decide)] | rw [zn1 (by decide)] | rw [zn2 (by decide)] | rw [zn3 (by decide)] | rw [zn4 (by decide)] | rw [ze1 (by decide)] | rw [ze2 (by decide)] | rw [zd1 (by decide)] | rw [zd2 (by decide)] | rw [zswy (by decide)] | rw [zswn (by decide)] | rw [zsw0])
        exact ⟨trivial, ih M ρ hR hS hr⟩
      | false =>
        rw [q, Bool.false_or] at ih
        by_cases q1 : σ 0 (2100 + 4 * l) = 0
        · rw [decide_eq_true q1] at ih
          by_cases q2 : σ 0 (2101 + 4 * l) = nI c
          · rw [decide_eq_true q2] at ih
            have p1 : ρ 0 (2100 + 4 * l) = 0 := by rw [r0]; exact q1
            have p2 : ρ 0 (2101 + 4 * l) = nI c := by rw [r0]; exact q2
            repeat (first | ((with_reducible refine zR.stored ?_); dsimp only [zsto, zclr, zset, zget, zc2, cond_false, cond_true]) | ((with_reducible refine zR.atLit ?_); first | refine zR.step rfl ?_ | refine zR.getf rfl (hR.1) rfl ?_ | (refine zR.ilR0 hR rfl (i := 5) rfl (by omega) ?_; rw [p5]) | (refine zR.ilR0 hR rfl (i := 2100 + 4 * l) (by first | with_reducible rfl | (simp only [zn_lit, zn_add, zn_mul] <;> exact congrArg nI (by omega)) | rfl) (by omega) ?_; rw [p1]) | (refine zR.ilR0 hR rfl (i := 2101 + 4 * l) (by first | with_reducible rfl | (simp only [zn_lit, zn_add, zn_mul] <;> exact congrArg nI (by omega)) | rfl) (by omega) ?_; rw [p2])) | rw [zcc1] | rw [zcc2] | rw [zcc3] | rw [zcc4] | rw [zb1 (e)] | rw [zb2 (e)] | rw [zb3 (e)] | rw [zb4 (e)] | rw [b32_f] | rw [zb1 (by decide)] | rw [zb2 (by decide)] | rw [zb3 (by decide)] | rw [zb4 (by decide)] | rw [zn1 (by decide)] | rw [zn2 (by decide)] | rw [zn3 (by decide)] | rw [zn4 (by decide)] | rw [ze1 (by decide)] | rw [ze2 (by decide)] | rw [zd1 (by decide)] | rw [zd2 (by decide)] | rw [zswy (by decide)] | rw [zswn (by decide)] | rw [zsw0] | rw [ze1 ((rfl : nI c = nI c))] | rw [ze2 ((rfl : nI c = nI c))])
            refine zR.cv rfl rfl rfl hR.1 rfl rfl (zR.mono (c_lhR (l := l) (Mk := Mk) (lak := lak) (nc := nc) (lm := lm) hR (by rw [r0]; exact hL) h8 (by rw [r0]; exact h3) hnl hh (by omega) hlm) (fun v n1 w1 M1 hv => ?_))
            obtain ⟨rfl, rfl, rfl, hS1, ρ1, hR1, hr1⟩ := hv
            rw [r0]
            have hr2 : ∀ j, j ≠ 10 → ρ1 j = σ j := fun j hj => (hr1 j hj).trans (hr j hj)
            cases q3 : lhB (σ 0) nl h l with
            | true =>
              rw [q3] at ih
              repeat (first | with_reducible refine zR.hold (pc := 5) ?_ | ((with_reducible refine zR.stored ?_); dsimp only [zsto, zclr, zset, zget, zc2, cond_false, cond_true]) | ((with_reducible refine zR.atLit ?_); first | refine zR.step rfl ?_) | rw [zcc1] | rw [zcc2] | rw [zcc3] | rw [zcc4] | rw [if_pos rfl] | rw [zb1 (by decide)] | rw [zb2 (by decide)] | rw [zb3 (by decide)] | rw [zb4 (by decide)] | rw [zn1 (by decide)] | rw [zn2 (by decide)] | rw [zn3 (by decide)] | rw [zn4 (by decide)] | rw [ze1 (by decide)] | rw [ze2 (by decide)] | rw [zd1 (by decide)] | rw [zd2 (by decide)] | rw [zswy (by decide)] | rw [zswn (by decide)] | rw [zsw0])
              exact ⟨trivial, ih M1 ρ1 hR1 (hS.trans hS1) hr2⟩
            | false =>
              rw [q3] at ih
              repeat (first | with_reducible refine zR.hold (pc := 5) ?_ | ((with_reducible refine zR.stored ?_); dsimp only [zsto, zclr, zset, zget, zc2, cond_false, cond_true]) | ((with_reducible refine zR.atLit ?_); first | refine zR.step rfl ?_) | rw [zcc1] | rw [zcc2] | rw [zcc3] | rw [zcc4] | rw [if_neg (by decide)] | rw [zb1 (by decide)] | rw [zb2 (by decide)] | rw [zb3 (by decide)] | rw [zb4 (by decide)] | rw [zn1 (by decide)] | rw [zn2 (by decide)] | rw [zn3 (by decide)] | rw [zn4 (by decide)] | rw [ze1 (by decide)] | rw [ze2 (by decide)] | rw [zd1 (by decide)] | rw [zd2 (by decide)] | rw [zswy (by decide)] | rw [zswn (by decide)] | rw [zsw0])
              exact ⟨trivial, ih M1 ρ1 hR1 (hS.trans hS1) hr2⟩
          · rw [decide_eq_false q2] at ih
            have p1 : ρ 0 (2100 + 4 * l) = 0 := by rw [r0]; exact q1
            have p2 : ¬ ρ 0 (2101 + 4 * l) = nI c := by rw [r0]; exact q2
            repeat (first | with_reducible refine zR.hold (pc := 5) ?_ | ((with_reducible refine zR.stored ?_); dsimp only [zsto, zclr, zset, zget, zc2, cond_false, cond_true]) | ((with_reducible refine zR.atLit ?_); first | refine zR.step rfl ?_ | refine zR.getf rfl (hR.1) rfl ?_ | (refine zR.ilR0 hR rfl (i := 5) rfl (by omega) ?_; rw [p5]) | (refine zR.ilR0 hR rfl (i := 2100 + 4 * l) (by first | with_reducible rfl | (simp only [zn_lit, zn_add, zn_mul] <;> exact congrArg nI (by omega)) | rfl) (by omega) ?_; rw [p1]) | (refine zR.ilR0 hR rfl (i := 2101 + 4 * l) (by first | with_reducible rfl | (simp only [zn_lit, zn_add, zn_mul] <;> exact congrArg nI (by omega)) | rfl) (by omega) ?_)) | rw [zcc1] | rw [zcc2] | rw [zcc3] | rw [zcc4] | rw [zb1 (e)] | rw [zb2 (e)] | rw [zb3 (e)] | rw [zb4 (e)] | rw [b32_f] | rw [zb1 (by decide)] | rw [zb2 (by decide)] | rw [zb3 (by decide)] | rw [zb4 (by decide)] | rw [zn1 (by decide)] | rw [zn2 (by decide)] | rw [zn3 (by decide)] | rw [zn4 (by decide)] | rw [ze1 (by decide)] | rw [ze2 (by decide)] | rw [zd1 (by decide)] | rw [zd2 (by decide)] | rw [zswy (by decide)] | rw [zswn (by decide)] | rw [zsw0] | rw [zd1 (p2)] | rw [zd2 (p2)])
            exact ⟨trivial, ih M ρ hR hS hr⟩
        · rw [decide_eq_false q1] at ih
          have p1 : ¬ ρ 0 (2100 + 4 * l) = 0 := by rw [r0]; exact q1
          repeat (first | with_reducible refine zR.hold (pc := 5) ?_ | ((with_reducible refine zR.stored ?_); dsimp only [zsto, zclr, zset, zget, zc2, cond_false, cond_true]) | ((with_reducible refine zR.atLit ?_); first | refine zR.step rfl ?_ | refine zR.getf rfl (hR.1) rfl ?_ | (refine zR.ilR0 hR rfl (i := 5) rfl (by omega) ?_; rw [p5]) | (refine zR.ilR0 hR rfl (i := 2100 + 4 * l) (by first | with_reducible rfl | (simp only [zn_lit, zn_add, zn_mul] <;> exact congrArg nI (by omega)) | rfl) (by omega) ?_)) | rw [zcc1] | rw [zcc2] | rw [zcc3] | rw [zcc4] | rw [zb1 (e)] | rw [zb2 (e)] | rw [zb3 (e)] | rw [zb4 (e)] | rw [b32_f] | rw [zb1 (by decide)] | rw [zb2 (by decide)] | rw [zb3 (by decide)] | rw [zb4 (by decide)] | rw [zn1 (by decide)] | rw [zn2 (by decide)] | rw [zn3 (by decide)] | rw [zn4 (by decide)] | rw [ze1 (by decide)] | rw [ze2 (by decide)] | rw [zd1 (by decide)] | rw [zd2 (by decide)] | rw [zswy (by decide)] | rw [zswn (by decide)] | rw [zsw0] | rw [zd1 (p1)] | rw [zd2 (p1)])
          exact ⟨trivial, ih M ρ hR hS hr⟩
theorem c_isBarred {M Mk : zM} {lak c : Nat} (hR : Rf M σ) (hL : LNS Mk lak (σ 0) nc lm) (h8 : nc ≤ 8) (h3 : σ 0 3 = nI nl) (h5 : σ 0 5 = nI lm) (hnl : nl ≤ 240) (hh : h < 10) (hlm : lm ≤ 20) (hc : c < 8) : zCalP (d + 4) 181 [.ref 287, .int (nI h), .int (nI c)] n w M (fun v n' w' M' => v = some (.int (b32 (brB (σ 0) nl h c lm))) ∧ n = n' ∧ w = w' ∧ Sm M M' ∧ ∃ ρ, Rf M' ρ ∧ ∀ j, j ≠ 10 → ρ j = σ j) := by
  show zR ztb _ kX12_isBarred 2 0 [some (.ref 287), some (.int (nI h)), some (.int (nI c)), none, none] [] _ _ _ _
  repeat (first | with_reducible refine zR.hold (pc := 5) ?_ | ((with_reducible refine zR.stored ?_); dsimp only [zsto, zclr, zset, zget, zc2, cond_false, cond_true]) | ((with_reducible refine zR.atLit ?_); first | refine zR.step rfl ?_) | rw [zcc1] | rw [zcc2] | rw [zcc3] | rw [zcc4])
  exact ⟨trivial, ib_loop (M0 := M) hL h8 h3 h5 hnl hh hlm hc (fun M' ρ a1 a2 a3 => ⟨rfl, rfl, rfl, a2, ρ, a1, a3⟩) lm 0 M σ (by omega) hR Sm.rf (fun _ _ => rfl)⟩
end
