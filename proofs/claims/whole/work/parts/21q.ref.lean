
/-! lines: the reference's reader: crops, steps, comparisons. -/
section
variable {M0 M : zM} {σ : mS} {β : Nat → Int32} {L m c i : Nat} {nt lm : Int32} {l8 : Nat → Int32} {i0 : Nat} {l0 l : List gStp} {r : gRes} {d n w : Nat}
theorem c_isCropP {fk fp at_ tk va bg cd : Int32} {l9 : Nat → Int32} (hR : Rf M (pst σ fk fp at_ tk va bg nt lm cd l8 l9)) (x : Int32) : zCall (d + 1) 135 [.ref 287, .int x] n w M (some (.int (inI x 0 (σ 0 2 - 1)))) n w M := c_isCrop hR x
theorem TV.k3 {V tk va : Int32} (h : TV 3 V tk va) : tk = 3 ∧ va = V := by
  rcases h with z | z | z | z | z | z | z | z | ⟨i, hi, z, -⟩
  · exact absurd z.1 (by decide)
  · exact absurd z.1 (by decide)
  · exact z.2
  · exact absurd z.1 (by decide)
  · exact absurd z.1 (by decide)
  · exact absurd z.1 (by decide)
  · exact absurd z.1 (by decide)
  · exact absurd z.1 (by decide)
  · exact absurd (zn_inj (a := 3) (by omega) (by omega) z) (by omega)
theorem TV.n3 {K V tk va : Int32} (h : TV K V tk va) (hK : ¬ K = 3) : ¬ tk = 3 := by
  rcases h with z | z | z | z | z | z | z | z | ⟨i, hi, z, y, -⟩
  · rw [z.2]; decide
  · rw [z.2.1]; decide
  · exact absurd z.1 hK
  · rw [z.2.1]; decide
  · rw [z.2.1]; decide
  · rw [z.2.1]; decide
  · rw [z.2.1]; decide
  · rw [z.2.1]; decide
  · rw [y]; decide
theorem c_cropS (hE : EV σ β L m c) (h : GS M0 σ β L c nt lm l8 i0 l0 r M) (hi : r.2.1 ≤ m) (hb : 2 * r.2.2.length + stF β L i0 ≤ 2 * l0.length + stF β L r.2.1) : zCalP (d + 4) 161 [.ref 287] n w M (fun v n' w' M' => v = some (.int (if r.1 = true ∧ kdF β L r.2.1 = 3 then vaF β L r.2.1 else 0)) ∧ n = n' ∧ w = w' ∧ GS M0 σ β L c nt lm l8 i0 l0 (if r.1 = true ∧ kdF β L r.2.1 = 3 then (true, r.2.1 + 1, r.2.2) else (false, r.2.1, r.2.2)) M') := by
  show zR ztb _ kX12_cropHere 1 0 [some (.ref 287), none] [] _ _ _ _
  by_cases q : r.1 = true ∧ kdF β L r.2.1 = 3
  · rw [if_pos q, if_pos q]
    obtain ⟨hi1, hs⟩ := hE.1.oth (k := 3) hi q.2 (by omega) (by omega)
    obtain ⟨x, hx, ex⟩ := hE.2.1 _ q.2
    obtain ⟨hS, ⟨-, h1, at_, tk, va, l9, hV, ha, hC, hR⟩ | ⟨hn, -⟩⟩ := h
    · rw [q.2] at hV
      obtain ⟨rfl, rfl⟩ := hV.k3
      have ha' := ha.resolve_left (by rw [q.2]; decide)
      rw [ha'] at hR
      have st : fkP (kdF β L) (vaF β L) (stF β L) (nI c) (r.2.1 + 1) = if (fkP (kdF β L) (vaF β L) (stF β L) (nI c) r.2.1).1 = 0 ∧ kdF β L r.2.1 = 3 ∧ ¬ vaF β L r.2.1 < nI c then (2, nI (stF β L r.2.1)) else fkP (kdF β L) (vaF β L) (stF β L) (nI c) r.2.1 := rfl
      rcases fk_or (V := vaF β L) (cc := nI c) hE.1 r.2.1 (by omega) with z | ⟨z, -⟩
      · have z1 : (fkP (kdF β L) (vaF β L) (stF β L) (nI c) r.2.1).1 = 0 := by rw [z]
        have z2 : (fkP (kdF β L) (vaF β L) (stF β L) (nI c) r.2.1).2 = -1 := by rw [z]
        by_cases hxc : x < c
        · have hlt : vaF β L r.2.1 < nI c := by rw [ex]; exact zI_ylt hxc (by have := hE.2.2.2.1; omega)
          rw [if_neg (fun y => y.2.2 hlt)] at st
          rw [← st] at hR z1
          have e : inI (vaF β L r.2.1) 0 (σ 0 2 - 1) = 1 := by
            rw [hE.2.2.1]
            rcases inI_sub (vaF β L r.2.1) c (by have := hE.2.2.2.1; omega) with ⟨_, _, _, y⟩ | ⟨y, -⟩
            · exact y
            · exact absurd ex (y x hxc)
          repeat (first | ((with_reducible refine zR.stored ?_); dsimp only [zsto, zclr, zset, zget, zc2, cond_false, cond_true]) | ((with_reducible refine zR.atLit ?_); first | refine zR.step rfl ?_ | refine zR.getf rfl hR.po rfl ?_ | (refine zR.cv rfl rfl rfl hR.1 rfl rfl (zCalP.of (c_isCropP hR _) ?_); rw [e])) | rw [zcc1] | rw [zcc2] | rw [zcc3] | rw [zcc4] | rw [zb1 (by decide)] | rw [zb2 (by decide)] | rw [zb3 (by decide)] | rw [zb4 (by decide)] | rw [zn1 (by decide)] | rw [zn2 (by decide)] | rw [zn3 (by decide)] | rw [zn4 (by decide)] | rw [ze1 (by decide)] | rw [ze2 (by decide)] | rw [zd1 (by decide)] | rw [zd2 (by decide)] | rw [zswy (by decide)] | rw [zswn (by decide)] | rw [zsw0] | rw [ze1 (z1)] | rw [ze2 (z1)])
          refine zR.cv rfl rfl rfl hR.1 rfl rfl (zR.mono (nx_GS hE hi1 hC hR hS) (fun v n1 w1 M1 hv => ?_))
          obtain ⟨rfl, rfl, rfl, hG⟩ := hv
          repeat (first | ((with_reducible refine zR.stored ?_); dsimp only [zsto, zclr, zset, zget, zc2, cond_false, cond_true]) | ((with_reducible refine zR.atLit ?_); first | refine zR.step rfl ?_) | rw [zcc1] | rw [zcc2] | rw [zcc3] | rw [zcc4])
          exact zR.ret rfl rfl ⟨rfl, rfl, rfl, hG.to (by omega)⟩
        · have hlt : ¬ vaF β L r.2.1 < nI c := by rw [ex]; exact zI_nlt (by omega) (by omega)
          rw [if_pos ⟨z1, q.2, hlt⟩] at st
          have e : inI (vaF β L r.2.1) 0 (σ 0 2 - 1) = 0 := by
            rw [hE.2.2.1]
            rcases inI_sub (vaF β L r.2.1) c (by have := hE.2.2.2.1; omega) with ⟨t, ht, y, -⟩ | ⟨-, y⟩
            · rw [ex] at y
              have := zn_inj (by omega) (by have := hE.2.2.2.1; omega) y
              omega
            · exact y
          repeat (first | ((with_reducible refine zR.stored ?_); dsimp only [zsto, zclr, zset, zget, zc2, cond_false, cond_true]) | ((with_reducible refine zR.atLit ?_); first | refine zR.step rfl ?_ | refine zR.getf rfl hR.po rfl ?_ | (refine zR.cv rfl rfl rfl hR.1 rfl rfl (zCalP.of (c_isCropP hR _) ?_); rw [e])) | rw [zcc1] | rw [zcc2] | rw [zcc3] | rw [zcc4] | rw [zb1 (by decide)] | rw [zb2 (by decide)] | rw [zb3 (by decide)] | rw [zb4 (by decide)] | rw [zn1 (by decide)] | rw [zn2 (by decide)] | rw [zn3 (by decide)] | rw [zn4 (by decide)] | rw [ze1 (by decide)] | rw [ze2 (by decide)] | rw [zd1 (by decide)] | rw [zd2 (by decide)] | rw [zswy (by decide)] | rw [zswn (by decide)] | rw [zsw0] | rw [ze1 (z1)] | rw [ze2 (z1)])
          refine zR.pt7 hR hS rfl (fun M1 hR hS => ?_)
          repeat (first | ((with_reducible refine zR.stored ?_); dsimp only [zsto, zclr, zset, zget, zc2, cond_false, cond_true]) | ((with_reducible refine zR.atLit ?_); first | refine zR.step rfl ?_ | refine zR.getf rfl hR.po rfl ?_) | rw [zcc1] | rw [zcc2] | rw [zcc3] | rw [zcc4])
          refine zR.pt8 hR hS rfl (fun M2 hR hS => ?_)
          repeat (first | ((with_reducible refine zR.stored ?_); dsimp only [zsto, zclr, zset, zget, zc2, cond_false, cond_true]) | ((with_reducible refine zR.atLit ?_); first | refine zR.step rfl ?_) | rw [zcc1] | rw [zcc2] | rw [zcc3] | rw [zcc4])
          refine zR.cv rfl rfl rfl hR.1 rfl rfl (zR.mono (nx_GS hE hi1 hC (by rw [st]; exact hR) hS) (fun v n1 w1 M1 hv => ?_))
          obtain ⟨rfl, rfl, rfl, hG⟩ := hv
          repeat (first | ((with_reducible refine zR.stored ?_); dsimp only [zsto, zclr, zset, zget, zc2, cond_false, cond_true]) | ((with_reducible refine zR.atLit ?_); first | refine zR.step rfl ?_) | rw [zcc1] | rw [zcc2] | rw [zcc3] | rw [zcc4])
          exact zR.ret rfl rfl ⟨rfl, rfl, rfl, hG.to (by omega)⟩
      · have z0 : ¬ (fkP (kdF β L) (vaF β L) (stF β L) (nI c) r.2.1).1 = 0 := by rw [z]; decide
        rw [if_neg (fun y => z0 y.1)] at st
        rw [← st] at hR z0
        repeat (first | ((with_reducible refine zR.stored ?_); dsimp only [zsto, zclr, zset, zget, zc2, cond_false, cond_true]) | ((with_reducible refine zR.atLit ?_); first | refine zR.step rfl ?_ | refine zR.getf rfl hR.po rfl ?_) | rw [zcc1] | rw [zcc2] | rw [zcc3] | rw [zcc4] | rw [zb1 (by decide)] | rw [zb2 (by decide)] | rw [zb3 (by decide)] | rw [zb4 (by decide)] | rw [zn1 (by decide)] | rw [zn2 (by decide)] | rw [zn3 (by decide)] | rw [zn4 (by decide)] | rw [ze1 (by decide)] | rw [ze2 (by decide)] | rw [zd1 (by decide)] | rw [zd2 (by decide)] | rw [zswy (by decide)] | rw [zswn (by decide)] | rw [zsw0] | rw [zd1 (z0)] | rw [zd2 (z0)])
        refine zR.cv rfl rfl rfl hR.1 rfl rfl (zR.mono (nx_GS hE hi1 hC hR hS) (fun v n1 w1 M1 hv => ?_))
        obtain ⟨rfl, rfl, rfl, hG⟩ := hv
        repeat (first | ((with_reducible refine zR.stored ?_); dsimp only [zsto, zclr, zset, zget, zc2, cond_false, cond_true]) | ((with_reducible refine zR.atLit ?_); first | refine zR.step rfl ?_) | rw [zcc1] | rw [zcc2] | rw [zcc3] | rw [zcc4])
        exact zR.ret rfl rfl ⟨rfl, rfl, rfl, hG.to (by omega)⟩
    · exact absurd ⟨q.1, fun y => by rw [q.2] at y; exact absurd y (by decide)⟩ hn
  · rw [if_neg q, if_neg q]
    obtain ⟨hS, ⟨hr, h1, at_, tk, va, l9, hV, ha, hC, hR⟩ | ⟨hn, k, hk, at_, va, bg, l9, hR⟩⟩ := h
    · have t3 := hV.n3 (fun y => q ⟨hr, y⟩)
      repeat (first | ((with_reducible refine zR.stored ?_); dsimp only [zsto, zclr, zset, zget, zc2, cond_false, cond_true]) | ((with_reducible refine zR.atLit ?_); first | refine zR.step rfl ?_ | refine zR.getf rfl hR.po rfl ?_) | rw [zcc1] | rw [zcc2] | rw [zcc3] | rw [zcc4] | rw [zd1 (t3)] | rw [zd2 (t3)])
      refine zR.cv rfl rfl rfl hR.1 rfl rfl (zR.mono (c_cannot_l hR hS (fk_n1 hE (by omega))) (fun v n1 w1 M1 hv => ?_))
      obtain ⟨rfl, rfl, rfl, hS1, hR1⟩ := hv
      repeat (first | ((with_reducible refine zR.stored ?_); dsimp only [zsto, zclr, zset, zget, zc2, cond_false, cond_true]) | ((with_reducible refine zR.atLit ?_); first | refine zR.step rfl ?_) | rw [zcc1] | rw [zcc2] | rw [zcc3] | rw [zcc4])
      exact zR.ret rfl rfl ⟨rfl, rfl, rfl, hS1, Or.inr ⟨fun z => absurd (show false = true from z.1) (by decide), _, hb, _, _, _, _, hR1⟩⟩
    · repeat (first | ((with_reducible refine zR.stored ?_); dsimp only [zsto, zclr, zset, zget, zc2, cond_false, cond_true]) | ((with_reducible refine zR.atLit ?_); first | refine zR.step rfl ?_ | refine zR.getf rfl hR.po rfl ?_) | rw [zcc1] | rw [zcc2] | rw [zcc3] | rw [zcc4] | rw [zb1 (by decide)] | rw [zb2 (by decide)] | rw [zb3 (by decide)] | rw [zb4 (by decide)] | rw [zn1 (by decide)] | rw [zn2 (by decide)] | rw [zn3 (by decide)] | rw [zn4 (by decide)] | rw [ze1 (by decide)] | rw [ze2 (by decide)] | rw [zd1 (by decide)] | rw [zd2 (by decide)] | rw [zswy (by decide)] | rw [zswn (by decide)] | rw [zsw0])
      refine zR.cv rfl rfl rfl hR.1 rfl rfl (zR.mono (c_cannot_d hR hS) (fun v n1 w1 M1 hv => ?_))
      obtain ⟨rfl, rfl, rfl, hS1, hR1⟩ := hv
      repeat (first | ((with_reducible refine zR.stored ?_); dsimp only [zsto, zclr, zset, zget, zc2, cond_false, cond_true]) | ((with_reducible refine zR.atLit ?_); first | refine zR.step rfl ?_) | rw [zcc1] | rw [zcc2] | rw [zcc3] | rw [zcc4])
      exact zR.ret rfl rfl ⟨rfl, rfl, rfl, hS1, Or.inr ⟨fun z => absurd (show false = true from z.1) (by decide), _, hk, _, _, _, _, hR1⟩⟩
theorem c_putS (hE : EV σ β L m c) {op cd : Int32} (h : GS M0 σ β L c nt lm l8 (i + 1) l r M) (hs : stF β L i + 2 ≤ stF β L (i + 1)) (hl : 2 * l.length ≤ stF β L i) (hg : GD (stF β L) m (i + 1) l r) (hc : cvR (op, 0, 0, 0) = (cd, 0, 0, 0)) : zCalP d 162 [.ref 287, .int cd, .int 0, .int 0, .int 0] n w M (fun v n' w' M' => v = none ∧ n = n' ∧ w = w' ∧ GS M0 σ β L c nt lm l8 i l (pSt op r) M') := by
  obtain ⟨g1, g2, g3, g4⟩ := hg
  have h200 := hE.1.2.2.2.2.2 _ g2
  obtain ⟨hS, ⟨hr, h1, at_, tk, va, l9, hV, ha, hC, hR⟩ | ⟨hn, k, hk, at_, va, bg, l9, hR⟩⟩ := h
  · refine zR.mono (c_put hR hS (by omega) _ _ _ _) (fun v n' w' M' hv => ?_)
    obtain ⟨rfl, rfl, rfl, hS1, hR1⟩ := hv
    have hC1 := hC.add (op, 0, 0, 0)
    rw [hc] at hC1
    have ep : pSt op r = (r.1, r.2.1, r.2.2 ++ [(op, 0, 0, 0)]) := by
      unfold pSt
      rw [if_pos hr]
    rw [ep]
    refine ⟨rfl, rfl, rfl, hS1, Or.inl ⟨hr, h1, at_, tk, va, _, hV, ha, hC1, ?_⟩⟩
    dsimp only
    rw [List.length_append]
    exact hR1
  · refine zR.mono (c_put hR hS (by omega) _ _ _ _) (fun v n' w' M' hv => ?_)
    obtain ⟨rfl, rfl, rfl, hS1, hR1⟩ := hv
    exact ⟨rfl, rfl, rfl, hS1, Or.inr ⟨hn, k + 1, by show 2 * (k + 1) + stF β L i ≤ 2 * l.length + stF β L r.2.1; omega, at_, va, bg, _, hR1⟩⟩
end
