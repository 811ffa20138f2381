
/-! lines: the reference's reader: a comparison. -/
section
variable {M0 M : zM} {σ : mS} {β : Nat → Int32} {L m c i : Nat} {nt lm : Int32} {l8 : Nat → Int32} {i0 : Nat} {l0 l : List gStp} {r : gRes} {d n w : Nat}
theorem GS.dd (h : GS M0 σ β L c nt lm l8 i0 l0 r M) (hn : ¬ (r.1 = true ∧ ¬ kdF β L r.2.1 = 1)) : GS M0 σ β L c nt lm l8 i0 l0 (false, r.2.1, r.2.2) M := by
  obtain ⟨hS, ⟨a, b, -⟩ | ⟨-, k⟩⟩ := h
  · exact absurd ⟨a, b⟩ hn
  · exact ⟨hS, Or.inr ⟨fun z => absurd (show false = true from z.1) (by decide), k⟩⟩
theorem GS.h287 (h : GS M0 σ β L c nt lm l8 i0 l0 r M) : ∃ x, M 287 = .inr (12, x) := by
  obtain ⟨_, ⟨-, -, _, _, _, _, -, -, -, hR⟩ | ⟨-, _, -, _, _, _, _, hR⟩⟩ := h
  · exact ⟨_, hR.1⟩
  · exact ⟨_, hR.1⟩
theorem GS.ex (h : GS M0 σ β L c nt lm l8 i0 l0 r M) : ∃ fk fp at_ tk va bg cd l9, Rf M (pst σ fk fp at_ tk va bg nt lm cd l8 l9) := by
  obtain ⟨_, ⟨-, -, _, _, _, _, -, -, -, hR⟩ | ⟨-, _, -, _, _, _, _, hR⟩⟩ := h
  · exact ⟨_, _, _, _, _, _, _, _, hR⟩
  · exact ⟨_, _, _, _, _, _, _, _, hR⟩
/-- a call that needs what isn't there, after a fault or before one -/
theorem c_need0 (hE : EV σ β L m c) (h : GS M0 σ β L c nt lm l8 i0 l0 r M) (hi : r.2.1 ≤ m) (hb : 2 * r.2.2.length + stF β L i0 ≤ 2 * l0.length + stF β L r.2.1) : zCalP (d + 4) 160 [.ref 287, .int 0] n w M (fun v n' w' M' => v = none ∧ n = n' ∧ w = w' ∧ GS M0 σ β L c nt lm l8 i0 l0 (false, r.2.1, r.2.2) M') := by
  have := c_needS (d := d) (n := n) (w := w) (P := False) hE h (fun z => z.elim) hi hb
  rw [if_neg (fun z => z.2), if_neg (fun z => z.2)] at this
  exact this
theorem c_need1 (hE : EV σ β L m c) (h : GS M0 σ β L c nt lm l8 i0 l0 r M) (hr : r.1 = true) (h0 : ¬ kdF β L r.2.1 = 0) (h1 : ¬ kdF β L r.2.1 = 1) (h3 : ¬ kdF β L r.2.1 = 3) (hi1 : r.2.1 + 1 ≤ m ∧ stF β L r.2.1 ≤ stF β L (r.2.1 + 1)) (hb : 2 * r.2.2.length + stF β L i0 ≤ 2 * l0.length + stF β L r.2.1) : zCalP (d + 4) 160 [.ref 287, .int 1] n w M (fun v n' w' M' => v = none ∧ n = n' ∧ w = w' ∧ GS M0 σ β L c nt lm l8 i0 l0 (true, r.2.1 + 1, r.2.2) M') := by
  have := c_needS (d := d) (n := n) (w := w) (P := True) hE h (fun _ => ⟨h0, h1, h3, hi1.1, hi1.2⟩) (by omega) hb
  rw [if_pos ⟨hr, trivial⟩, if_pos ⟨hr, trivial⟩] at this
  exact this
/-- the end of a comparison after a fault -/
theorem cm_d2 (hE : EV σ β L m c) {j : Nat} {x1 x2 x3 : Int32} {x4 : Option Value} (h : GS M0 σ β L c nt lm l8 i0 l0 (false, j, l) M) (hj : j ≤ m) (hb : 2 * l.length + stF β L i0 ≤ 2 * l0.length + stF β L j) : zR ztb (d + 5) kX12_compared 0 80 [some (.ref 287), some (.int x1), some (.int x2), some (.int x3), x4] [] n w M (fun v n' w' M' => v = none ∧ n = n' ∧ w = w' ∧ GS M0 σ β L c nt lm l8 i0 l0 (false, j, l) M') := by
  have h' := h
  obtain ⟨hS, ⟨a, -⟩ | ⟨-, k, hk, at_, va, bg, l9, hR⟩⟩ := h
  · exact absurd (show false = true from a) (by decide)
  · repeat (first | ((with_reducible refine zR.stored ?_); dsimp only [zsto, zclr, zset, zget, zc2, cond_false, cond_true]) | ((with_reducible refine zR.atLit ?_); first | refine zR.step rfl ?_ | refine zR.getf rfl hR.po rfl ?_) | rw [zcc1] | rw [zcc2] | rw [zcc3] | rw [zcc4] | rw [zb1 (by decide)] | rw [zb2 (by decide)] | rw [zb3 (by decide)] | rw [zb4 (by decide)] | rw [zn1 (by decide)] | rw [zn2 (by decide)] | rw [zn3 (by decide)] | rw [zn4 (by decide)] | rw [ze1 (by decide)] | rw [ze2 (by decide)] | rw [zd1 (by decide)] | rw [zd2 (by decide)] | rw [zswy (by decide)] | rw [zswn (by decide)] | rw [zsw0])
    refine zR.cv rfl rfl rfl hR.1 rfl rfl (zR.mono (c_need0 hE h' hj hb) (fun v n1 w1 M1 hv => ?_))
    obtain ⟨rfl, rfl, rfl, hG⟩ := hv
    have hG' := hG
    obtain ⟨hS, ⟨a, -⟩ | ⟨-, k, hk, at_, va, bg, l9, hR⟩⟩ := hG
    · exact absurd (show false = true from a) (by decide)
    · repeat (first | ((with_reducible refine zR.stored ?_); dsimp only [zsto, zclr, zset, zget, zc2, cond_false, cond_true]) | ((with_reducible refine zR.atLit ?_); first | refine zR.step rfl ?_ | refine zR.getf rfl hR.po rfl ?_) | rw [zcc1] | rw [zcc2] | rw [zcc3] | rw [zcc4] | rw [zb1 (by decide)] | rw [zb2 (by decide)] | rw [zb3 (by decide)] | rw [zb4 (by decide)] | rw [zn1 (by decide)] | rw [zn2 (by decide)] | rw [zn3 (by decide)] | rw [zn4 (by decide)] | rw [ze1 (by decide)] | rw [ze2 (by decide)] | rw [zd1 (by decide)] | rw [zd2 (by decide)] | rw [zswy (by decide)] | rw [zswn (by decide)] | rw [zsw0])
      exact zR.ret rfl rfl ⟨rfl, rfl, rfl, hG'⟩
theorem TV.k45 {K V tk va : Int32} (h : TV K V tk va) : (K = 4 → va = 60) ∧ (K = 5 → va = 61) ∧ (K = 2 → tk = 1 ∧ va = V) ∧ (¬ K = 2 → ¬ tk = 1) := by
  rcases h with ⟨rfl, z⟩ | ⟨rfl, z, y⟩ | ⟨rfl, z, y⟩ | ⟨rfl, z, y⟩ | ⟨rfl, z, y⟩ | ⟨rfl, z, y⟩ | ⟨rfl, z, y⟩ | ⟨rfl, z, y⟩ | ⟨i, hi, rfl, z, y⟩
  · exact ⟨fun h => absurd h (by decide), fun h => absurd h (by decide), fun h => absurd h (by decide), fun _ => by rw [z]; decide⟩
  · exact ⟨fun h => absurd h (by decide), fun h => absurd h (by decide), fun _ => ⟨z, y⟩, fun h => absurd rfl h⟩
  · exact ⟨fun h => absurd h (by decide), fun h => absurd h (by decide), fun h => absurd h (by decide), fun _ => by rw [z]; decide⟩
  · exact ⟨fun _ => y, fun h => absurd h (by decide), fun h => absurd h (by decide), fun _ => by rw [z]; decide⟩
  · exact ⟨fun h => absurd h (by decide), fun _ => y, fun h => absurd h (by decide), fun _ => by rw [z]; decide⟩
  · exact ⟨fun h => absurd h (by decide), fun h => absurd h (by decide), fun h => absurd h (by decide), fun _ => by rw [z]; decide⟩
  · exact ⟨fun h => absurd h (by decide), fun h => absurd h (by decide), fun h => absurd h (by decide), fun _ => by rw [z]; decide⟩
  · exact ⟨fun h => absurd h (by decide), fun h => absurd h (by decide), fun h => absurd h (by decide), fun _ => by rw [z]; decide⟩
  · exact ⟨fun h => absurd (zn_inj (b := 4) (by omega) (by omega) h) (by omega), fun h => absurd (zn_inj (b := 5) (by omega) (by omega) h) (by omega), fun h => absurd (zn_inj (b := 2) (by omega) (by omega) h) (by omega), fun _ => by rw [z]; decide⟩
/-- behind the sign -/
theorem cm_nb (hE : EV σ β L m c) {j : Nat} {sj cr kj sg : Int32} {x4 : Option Value} (h : GS M0 σ β L c nt lm l8 i0 l0 (true, j, l) M) (hj : j ≤ m) (hb : 2 * l.length + stF β L i0 + 2 ≤ 2 * l0.length + stF β L j) (hl : 2 * l0.length ≤ stF β L i0) (hc : ∀ v, cvR (kj, sj, cr, v) = (sj - 10, cr, sg, v)) : zR ztb (d + 5) kX12_compared 0 80 [some (.ref 287), some (.int (sj - 10)), some (.int cr), some (.int sg), x4] [] n w M (fun v n' w' M' => v = none ∧ n = n' ∧ w = w' ∧ GS M0 σ β L c nt lm l8 i0 l0 (if kdF β L j = 2 then (true, j + 1, l ++ [(kj, sj, cr, vaF β L j)]) else (false, j, l)) M') := by
  by_cases q1 : kdF β L j = 1
  · rw [if_neg (fun z => by rw [q1] at z; exact absurd z (by decide))]
    exact cm_d2 hE (h.dd (fun z => z.2 q1)) hj (by omega)
  · have h' := h
    obtain ⟨hS, ⟨-, -, at_, tk, va, l9, hV, ha, hC, hR⟩ | ⟨hn, -⟩⟩ := h
    · by_cases q2 : kdF β L j = 2
      · have h2 := hE.1.oth (k := 2) hj q2 (by omega) (by omega)
        have h200 := hE.1.2.2.2.2.2 _ h2.1
        rw [if_pos q2]
        obtain ⟨rfl, rfl⟩ := hV.k45.2.2.1 q2
        repeat (first | ((with_reducible refine zR.stored ?_); dsimp only [zsto, zclr, zset, zget, zc2, cond_false, cond_true]) | ((with_reducible refine zR.atLit ?_); first | refine zR.step rfl ?_ | refine zR.getf rfl hR.po rfl ?_) | rw [zcc1] | rw [zcc2] | rw [zcc3] | rw [zcc4] | rw [zb1 (by decide)] | rw [zb2 (by decide)] | rw [zb3 (by decide)] | rw [zb4 (by decide)] | rw [zn1 (by decide)] | rw [zn2 (by decide)] | rw [zn3 (by decide)] | rw [zn4 (by decide)] | rw [ze1 (by decide)] | rw [ze2 (by decide)] | rw [zd1 (by decide)] | rw [zd2 (by decide)] | rw [zswy (by decide)] | rw [zswn (by decide)] | rw [zsw0])
        refine zR.cv rfl rfl rfl hR.1 rfl rfl (zR.mono (c_need1 hE h' rfl (by show ¬ kdF β L j = 0; rw [q2]; decide) q1 (by show ¬ kdF β L j = 3; rw [q2]; decide) h2 (by show 2 * l.length + _ ≤ _ + stF β L j; omega)) (fun v n1 w1 M1 hv => ?_))
        obtain ⟨rfl, rfl, rfl, hG⟩ := hv
        obtain ⟨hS, ⟨-, g1, at_, tk, va, l9, hV, ha, hC, hR⟩ | ⟨hn, k, hk, at_, va, bg, l9, hR⟩⟩ := hG
        · have f1 := fk_n1 hE (i := j + 1) (by omega)
          repeat (first | ((with_reducible refine zR.stored ?_); dsimp only [zsto, zclr, zset, zget, zc2, cond_false, cond_true]) | ((with_reducible refine zR.atLit ?_); first | refine zR.step rfl ?_ | refine zR.getf rfl hR.po rfl ?_) | rw [zcc1] | rw [zcc2] | rw [zcc3] | rw [zcc4] | rw [zd1 (f1)] | rw [zd2 (f1)])
          refine zR.cv rfl rfl rfl hR.1 rfl rfl (zR.mono (c_put hR hS (by show l.length < 100; omega) _ _ _ _) (fun v n2 w2 M2 hv => ?_))
          obtain ⟨rfl, rfl, rfl, hS2, hR2⟩ := hv
          have hC2 := hC.add (kj, sj, cr, vaF β L j)
          rw [hc] at hC2
          repeat (first | ((with_reducible refine zR.stored ?_); dsimp only [zsto, zclr, zset, zget, zc2, cond_false, cond_true]) | ((with_reducible refine zR.atLit ?_); first | refine zR.step rfl ?_) | rw [zcc1] | rw [zcc2] | rw [zcc3] | rw [zcc4])
          refine zR.ret rfl rfl ⟨rfl, rfl, rfl, hS2, Or.inl ⟨rfl, g1, at_, tk, va, _, hV, ha, hC2, ?_⟩⟩
          dsimp only
          rw [List.length_append]
          exact hR2
        · repeat (first | ((with_reducible refine zR.stored ?_); dsimp only [zsto, zclr, zset, zget, zc2, cond_false, cond_true]) | ((with_reducible refine zR.atLit ?_); first | refine zR.step rfl ?_ | refine zR.getf rfl hR.po rfl ?_) | rw [zcc1] | rw [zcc2] | rw [zcc3] | rw [zcc4] | rw [zb1 (by decide)] | rw [zb2 (by decide)] | rw [zb3 (by decide)] | rw [zb4 (by decide)] | rw [zn1 (by decide)] | rw [zn2 (by decide)] | rw [zn3 (by decide)] | rw [zn4 (by decide)] | rw [ze1 (by decide)] | rw [ze2 (by decide)] | rw [zd1 (by decide)] | rw [zd2 (by decide)] | rw [zswy (by decide)] | rw [zswn (by decide)] | rw [zsw0])
          exact zR.ret rfl rfl ⟨rfl, rfl, rfl, hS, Or.inr ⟨hn, k, hk, at_, va, bg, l9, hR⟩⟩
      · rw [if_neg q2]
        have t1 := hV.k45.2.2.2 q2
        repeat (first | ((with_reducible refine zR.stored ?_); dsimp only [zsto, zclr, zset, zget, zc2, cond_false, cond_true]) | ((with_reducible refine zR.atLit ?_); first | refine zR.step rfl ?_ | refine zR.getf rfl hR.po rfl ?_) | rw [zcc1] | rw [zcc2] | rw [zcc3] | rw [zcc4] | rw [zd1 (t1)] | rw [zd2 (t1)])
        refine zR.cv rfl rfl rfl hR.1 rfl rfl (zR.mono (c_need0 hE h' hj (by show 2 * l.length + _ ≤ _ + stF β L j; omega)) (fun v n1 w1 M1 hv => ?_))
        obtain ⟨rfl, rfl, rfl, hG⟩ := hv
        have hG' := hG
        obtain ⟨hS, ⟨a, -⟩ | ⟨-, k, hk, at_, va, bg, l9, hR⟩⟩ := hG
        · exact absurd (show false = true from a) (by decide)
        · repeat (first | ((with_reducible refine zR.stored ?_); dsimp only [zsto, zclr, zset, zget, zc2, cond_false, cond_true]) | ((with_reducible refine zR.atLit ?_); first | refine zR.step rfl ?_ | refine zR.getf rfl hR.po rfl ?_) | rw [zcc1] | rw [zcc2] | rw [zcc3] | rw [zcc4] | rw [zb1 (by decide)] | rw [zb2 (by decide)] | rw [zb3 (by decide)] | rw [zb4 (by decide)] | rw [zn1 (by decide)] | rw [zn2 (by decide)] | rw [zn3 (by decide)] | rw [zn4 (by decide)] | rw [ze1 (by decide)] | rw [ze2 (by decide)] | rw [zd1 (by decide)] | rw [zd2 (by decide)] | rw [zswy (by decide)] | rw [zswn (by decide)] | rw [zsw0])
          exact zR.ret rfl rfl ⟨rfl, rfl, rfl, hG'⟩
    · exact absurd ⟨rfl, q1⟩ hn
/-- from the sign on -/
theorem cm_tl (hE : EV σ β L m c) {j : Nat} {sj cr : Int32} {x3 x4 : Option Value} (h : GS M0 σ β L c nt lm l8 i0 l0 (true, j, l) M) (hj : j ≤ m) (hb : 2 * l.length + stF β L i0 + 2 ≤ 2 * l0.length + stF β L j) (hl : 2 * l0.length ≤ stF β L i0) : zR ztb (d + 5) kX12_compared 0 48 [some (.ref 287), some (.int (sj - 10)), some (.int cr), x3, x4] [] n w M (fun v n' w' M' => v = none ∧ n = n' ∧ w = w' ∧ GS M0 σ β L c nt lm l8 i0 l0 (pCmp (kdF β L) (vaF β L) sj cr j l) M') := by
  unfold pCmp
  obtain ⟨x, hx⟩ := h.h287
  have f4 := fun d n w => c_isSign_4 (d := d) (n := n) (w := w) h
  have f5 := fun d n w => c_isSign_5 (d := d) (n := n) (w := w) h
  by_cases q4 : kdF β L j = 4
  · have h1 := hE.1.oth (k := 4) hj q4 (by omega) (by omega)
    rw [if_pos (show (true, j, l).1 = true ∧ kdF β L (true, j, l).2.1 = 4 from ⟨rfl, q4⟩)] at f4
    rw [if_pos (Or.inl q4)]
    have h' := h
    obtain ⟨hS, ⟨-, -, at_, tk, va, l9, hV, ha, hC, hR⟩ | ⟨hn, -⟩⟩ := h
    · have ev := hV.k45.1 q4
      subst ev
      repeat (first | ((with_reducible refine zR.stored ?_); dsimp only [zsto, zclr, zset, zget, zc2, cond_false, cond_true]) | ((with_reducible refine zR.atLit ?_); first | refine zR.step rfl ?_ | refine zR.getf rfl hR.po rfl ?_ | refine zR.cv rfl rfl rfl hR.1 rfl rfl (zCalP.of (f4 _ _ _) ?_)) | rw [zcc1] | rw [zcc2] | rw [zcc3] | rw [zcc4] | rw [zb1 (by decide)] | rw [zb2 (by decide)] | rw [zb3 (by decide)] | rw [zb4 (by decide)] | rw [zn1 (by decide)] | rw [zn2 (by decide)] | rw [zn3 (by decide)] | rw [zn4 (by decide)] | rw [ze1 (by decide)] | rw [ze2 (by decide)] | rw [zd1 (by decide)] | rw [zd2 (by decide)] | rw [zswy (by decide)] | rw [zswn (by decide)] | rw [zsw0])
      refine zR.cv rfl rfl rfl hR.1 rfl rfl (zR.mono (c_need1 hE h' rfl (by show ¬ kdF β L j = 0; rw [q4]; decide) (by show ¬ kdF β L j = 1; rw [q4]; decide) (by show ¬ kdF β L j = 3; rw [q4]; decide) h1 (by show 2 * l.length + _ ≤ _ + stF β L j; omega)) (fun v n1 w1 M1 hv => ?_))
      obtain ⟨rfl, rfl, rfl, hG⟩ := hv
      exact cm_nb hE hG h1.1 (by have := h1.2; omega) hl (fun v => by rw [q4]; rfl)
    · exact absurd ⟨rfl, fun z => by rw [q4] at z; exact absurd z (by decide)⟩ hn
  · rw [if_neg (show ¬ ((true, j, l).1 = true ∧ kdF β L (true, j, l).2.1 = 4) from fun z => q4 z.2)] at f4
    by_cases q5 : kdF β L j = 5
    · have h1 := hE.1.oth (k := 5) hj q5 (by omega) (by omega)
      rw [if_pos (show (true, j, l).1 = true ∧ kdF β L (true, j, l).2.1 = 5 from ⟨rfl, q5⟩)] at f5
      rw [if_pos (Or.inr q5)]
      have h' := h
      obtain ⟨hS, ⟨-, -, at_, tk, va, l9, hV, ha, hC, hR⟩ | ⟨hn, -⟩⟩ := h
      · have ev := hV.k45.2.1 q5
        subst ev
        repeat (first | ((with_reducible refine zR.stored ?_); dsimp only [zsto, zclr, zset, zget, zc2, cond_false, cond_true]) | ((with_reducible refine zR.atLit ?_); first | refine zR.step rfl ?_ | refine zR.getf rfl hR.po rfl ?_ | refine zR.cv rfl rfl rfl hR.1 rfl rfl (zCalP.of (f4 _ _ _) ?_) | refine zR.cv rfl rfl rfl hR.1 rfl rfl (zCalP.of (f5 _ _ _) ?_)) | rw [zcc1] | rw [zcc2] | rw [zcc3] | rw [zcc4] | rw [zb1 (by decide)] | rw [zb2 (by decide)] | rw [zb3 (by decide)] | rw [zb4 (by decide)] | rw [zn1 (by decide)] | rw [zn2 (by decide)] | rw [zn3 (by decide)] | rw [zn4 (by decide)] | rw [ze1 (by decide)] | rw [ze2 (by decide)] | rw [zd1 (by decide)] | rw [zd2 (by decide)] | rw [zswy (by decide)] | rw [zswn (by decide)] | rw [zsw0])
        refine zR.cv rfl rfl rfl hR.1 rfl rfl (zR.mono (c_need1 hE h' rfl (by show ¬ kdF β L j = 0; rw [q5]; decide) (by show ¬ kdF β L j = 1; rw [q5]; decide) (by show ¬ kdF β L j = 3; rw [q5]; decide) h1 (by show 2 * l.length + _ ≤ _ + stF β L j; omega)) (fun v n1 w1 M1 hv => ?_))
        obtain ⟨rfl, rfl, rfl, hG⟩ := hv
        exact cm_nb hE hG h1.1 (by have := h1.2; omega) hl (fun v => by rw [q5]; rfl)
      · exact absurd ⟨rfl, fun z => by rw [q5] at z; exact absurd z (by decide)⟩ hn
    · rw [if_neg (show ¬ ((true, j, l).1 = true ∧ kdF β L (true, j, l).2.1 = 5) from fun z => q5 z.2)] at f5
      rw [if_neg (fun z => z.elim q4 q5)]
      obtain ⟨fk, fp, at_, tk, va, bg, cd, l9, hR⟩ := h.ex
      repeat (first | ((with_reducible refine zR.stored ?_); dsimp only [zsto, zclr, zset, zget, zc2, cond_false, cond_true]) | ((with_reducible refine zR.atLit ?_); first | refine zR.step rfl ?_ | refine zR.getf rfl hR.po rfl ?_ | refine zR.cv rfl rfl rfl hR.1 rfl rfl (zCalP.of (f4 _ _ _) ?_) | refine zR.cv rfl rfl rfl hR.1 rfl rfl (zCalP.of (f5 _ _ _) ?_)) | rw [zcc1] | rw [zcc2] | rw [zcc3] | rw [zcc4] | rw [zb1 (by decide)] | rw [zb2 (by decide)] | rw [zb3 (by decide)] | rw [zb4 (by decide)] | rw [zn1 (by decide)] | rw [zn2 (by decide)] | rw [zn3 (by decide)] | rw [zn4 (by decide)] | rw [ze1 (by decide)] | rw [ze2 (by decide)] | rw [zd1 (by decide)] | rw [zd2 (by decide)] | rw [zswy (by decide)] | rw [zswn (by decide)] | rw [zsw0])
      refine zR.cv rfl rfl rfl hR.1 rfl rfl (zR.mono (c_need0 hE h hj (by show 2 * l.length + _ ≤ _ + stF β L j; omega)) (fun v n1 w1 M1 hv => ?_))
      obtain ⟨rfl, rfl, rfl, hG⟩ := hv
      exact cm_d2 hE hG hj (by omega)
end
