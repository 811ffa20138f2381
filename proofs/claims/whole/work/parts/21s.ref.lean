
/-! lines: the reference's reader: compared. -/
def GQ (M0 : zM) (σ : mS) (β : Nat → Int32) (L m c D y : Nat) (nt : Int32) (q : Nat → List gStp → gRes) : Prop := ∀ (M : zM) (i : Nat) (l : List gStp) (lm : Int32) (l8 : Nat → Int32) (n w : Nat), i ≤ m → 2 * l.length ≤ stF β L i → GS M0 σ β L c nt lm l8 i l (true, i, l) M → zCalP D y [.ref 287] n w M (fun v n' w' M' => v = none ∧ n = n' ∧ w = w' ∧ GS M0 σ β L c nt lm l8 i l (q i l) M')
section
variable {M0 M : zM} {σ : mS} {β : Nat → Int32} {L m c i : Nat} {nt lm : Int32} {l8 : Nat → Int32} {i0 : Nat} {l0 l : List gStp} {r : gRes} {d n w : Nat}
theorem TV.ky {V tk va : Int32} {k : Nat} (hV : TV (nI (10 + k)) V tk va) (hk : k < 10) : tk = 2 ∧ va = nI k := by
  rcases hV with z | z | z | z | z | z | z | z | ⟨i, hi, z1, z2, z3⟩
  · exact absurd (zn_inj (b := 0) (by omega) (by omega) z.1) (by omega)
  · exact absurd (zn_inj (b := 2) (by omega) (by omega) z.1) (by omega)
  · exact absurd (zn_inj (b := 3) (by omega) (by omega) z.1) (by omega)
  · exact absurd (zn_inj (b := 4) (by omega) (by omega) z.1) (by omega)
  · exact absurd (zn_inj (b := 5) (by omega) (by omega) z.1) (by omega)
  · exact absurd (zn_inj (b := 6) (by omega) (by omega) z.1) (by omega)
  · exact absurd (zn_inj (b := 7) (by omega) (by omega) z.1) (by omega)
  · exact absurd (zn_inj (b := 8) (by omega) (by omega) z.1) (by omega)
  · have := zn_inj (by omega) (by omega) z1
    exact ⟨z2, by rw [z3, show i = k by omega]⟩
theorem TV.n2 {K V tk va : Int32} (hV : TV K V tk va) (ht : tk = 2) : ∃ k, k < 10 ∧ K = nI (10 + k) ∧ va = nI k := by
  rcases hV with z | z | z | z | z | z | z | z | ⟨i, hi, z1, z2, z3⟩
  · rw [ht] at z; exact absurd z.2 (by decide)
  · rw [ht] at z; exact absurd z.2.1 (by decide)
  · rw [ht] at z; exact absurd z.2.1 (by decide)
  · rw [ht] at z; exact absurd z.2.1 (by decide)
  · rw [ht] at z; exact absurd z.2.1 (by decide)
  · rw [ht] at z; exact absurd z.2.1 (by decide)
  · rw [ht] at z; exact absurd z.2.1 (by decide)
  · rw [ht] at z; exact absurd z.2.1 (by decide)
  · exact ⟨i, hi, z1, z3⟩
/-- a comparison after a fault, from the sign on -/
theorem cm_d1 (hE : EV σ β L m c) {j : Nat} {x1 x2 : Int32} {x3 x4 : Option Value} (h : GS M0 σ β L c nt lm l8 i0 l0 (false, j, l) M) (hj : j ≤ m) (hb : 2 * l.length + stF β L i0 ≤ 2 * l0.length + stF β L j) : zR ztb (d + 5) kX12_compared 0 48 [some (.ref 287), some (.int x1), some (.int x2), x3, x4] [] n w M (fun v n' w' M' => v = none ∧ n = n' ∧ w = w' ∧ GS M0 σ β L c nt lm l8 i0 l0 (false, j, l) M') := by
  have f4 := fun d n w => c_isSign_4 (d := d) (n := n) (w := w) h
  have f5 := fun d n w => c_isSign_5 (d := d) (n := n) (w := w) h
  rw [if_neg (fun z => absurd (show false = true from z.1) (by decide))] at f4 f5
  obtain ⟨fk, fp, at_, tk, va, bg, cd, l9, hR⟩ := h.ex
  repeat (first | ((with_reducible refine zR.stored ?_); dsimp only [zsto, zclr, zset, zget, zc2, cond_false, cond_true]) | ((with_reducible refine zR.atLit ?_); first | refine zR.step rfl ?_ | refine zR.getf rfl hR.po rfl ?_ | refine zR.cv rfl rfl rfl hR.1 rfl rfl (zCalP.of (f4 _ _ _) ?_) | refine zR.cv rfl rfl rfl hR.1 rfl rfl (zCalP.of (f5 _ _ _) ?_)) | rw [zcc1] | rw [zcc2] | rw [zcc3] | rw [zcc4] | rw [zb1 (by decide)] | rw [zb2 (by decide)] | rw [zb3 (by decide)] | rw [zb4 (by decide)] | rw [zn1 (by decide)] | rw [zn2 (by decide)] | rw [zn3 (by decide)] | rw [zn4 (by decide)] | rw [ze1 (by decide)] | rw [ze2 (by decide)] | rw [zd1 (by decide)] | rw [zd2 (by decide)] | rw [zswy (by decide)] | rw [zswn (by decide)] | rw [zsw0])
  refine zR.cv rfl rfl rfl hR.1 rfl rfl (zR.mono (c_need0 hE h hj hb) (fun v n1 w1 M1 hv => ?_))
  obtain ⟨rfl, rfl, rfl, hG⟩ := hv
  exact cm_d2 hE hG hj hb
/-- no subject -/
theorem cm_no (hE : EV σ β L m c) {j : Nat} {b : Bool} {x : Int32} (h : GS M0 σ β L c nt lm l8 i0 l0 (b, j, l) M) (hj : j ≤ m) (hb : 2 * l.length + stF β L i0 ≤ 2 * l0.length + stF β L j) (hx : inI x 6 9 = 0) (h6 : ¬ x = 6) (h7 : ¬ x = 7) : zR ztb (d + 5) kX12_compared 0 16 [some (.ref 287), none, none, none, none] [.int x] n w M (fun v n' w' M' => v = none ∧ n = n' ∧ w = w' ∧ GS M0 σ β L c nt lm l8 i0 l0 (false, j, l) M') := by
  obtain ⟨fk, fp, at_, tk, va, bg, cd, l9, hR⟩ := h.ex
  repeat (first | ((with_reducible refine zR.stored ?_); dsimp only [zsto, zclr, zset, zget, zc2, cond_false, cond_true]) | ((with_reducible refine zR.atLit ?_); first | refine zR.step rfl ?_ | (refine zR.cs rfl rfl rfl rfl rfl (zCalP.of (c_in _ _ _) ?_); rw [hx])) | rw [zcc1] | rw [zcc2] | rw [zcc3] | rw [zcc4])
  refine zR.cv rfl rfl rfl hR.1 rfl rfl (zR.mono (c_need0 hE h hj hb) (fun v n1 w1 M1 hv => ?_))
  obtain ⟨rfl, rfl, rfl, hG⟩ := hv
  repeat (first | with_reducible refine zR.hold (pc := 48) ?_ | ((with_reducible refine zR.stored ?_); dsimp only [zsto, zclr, zset, zget, zc2, cond_false, cond_true]) | ((with_reducible refine zR.atLit ?_); first | refine zR.step rfl ?_) | rw [zcc1] | rw [zcc2] | rw [zcc3] | rw [zcc4] | rw [zd1 (h6)] | rw [zd2 (h6)] | rw [zd1 (h7)] | rw [zd2 (h7)])
  exact ⟨trivial, cm_d1 hE hG hj hb⟩
theorem c_compared (hE : EV σ β L m c) : GQ M0 σ β L m c (d + 5) 166 nt (pTst (kdF β L) (vaF β L)) := by
  intro M i l lm l8 n w hi hl h
  unfold pTst
  have h' := h
  show zR ztb _ kX12_compared 0 0 [some (.ref 287), none, none, none, none] [] _ _ _ _
  by_cases q16 : kdF β L i = 16
  · have h1 := hE.1.key (k := 16) hi q16 (by omega) (by omega)
    rw [if_pos (Or.inl q16)]
    obtain ⟨hS, ⟨-, -, at_, tk, va, l9, hV, ha, hC, hR⟩ | ⟨hn, -⟩⟩ := h
    · have hV' : TV (nI (10 + 6)) (vaF β L i) tk va := by
        have e : kdF β L i = nI (10 + 6) := q16
        rw [← e]
        exact hV
      obtain ⟨rfl, rfl⟩ := hV'.ky (by omega)
      have ei : inI (nI 6) 6 9 = 1 := by decide
      repeat (first | ((with_reducible refine zR.stored ?_); dsimp only [zsto, zclr, zset, zget, zc2, cond_false, cond_true]) | ((with_reducible refine zR.atLit ?_); first | refine zR.step rfl ?_ | refine zR.getf rfl hR.po rfl ?_ | (refine zR.cs rfl rfl rfl rfl rfl (zCalP.of (c_in _ _ _) ?_); rw [ei])) | rw [zcc1] | rw [zcc2] | rw [zcc3] | rw [zcc4] | rw [zb1 (by decide)] | rw [zb2 (by decide)] | rw [zb3 (by decide)] | rw [zb4 (by decide)] | rw [zn1 (by decide)] | rw [zn2 (by decide)] | rw [zn3 (by decide)] | rw [zn4 (by decide)] | rw [ze1 (by decide)] | rw [ze2 (by decide)] | rw [zd1 (by decide)] | rw [zd2 (by decide)] | rw [zswy (by decide)] | rw [zswn (by decide)] | rw [zsw0])
      refine zR.cv rfl rfl rfl hR.1 rfl rfl (zR.mono (c_need1 hE h' rfl (by show ¬ kdF β L i = 0; rw [q16]; decide) (by show ¬ kdF β L i = 1; rw [q16]; decide) (by show ¬ kdF β L i = 3; rw [q16]; decide) ⟨h1.1, by show stF β L i ≤ stF β L (i + 1); omega⟩ (Nat.le_refl _)) (fun v n1 w1 M1 hv => ?_))
      obtain ⟨rfl, rfl, rfl, hG⟩ := hv
      obtain ⟨x, hx⟩ := hG.h287
      repeat (first | ((with_reducible refine zR.stored ?_); dsimp only [zsto, zclr, zset, zget, zc2, cond_false, cond_true]) | ((with_reducible refine zR.atLit ?_); first | refine zR.step rfl ?_) | rw [zcc1] | rw [zcc2] | rw [zcc3] | rw [zcc4] | rw [zb1 (by decide)] | rw [zb2 (by decide)] | rw [zb3 (by decide)] | rw [zb4 (by decide)] | rw [zn1 (by decide)] | rw [zn2 (by decide)] | rw [zn3 (by decide)] | rw [zn4 (by decide)] | rw [ze1 (by decide)] | rw [ze2 (by decide)] | rw [zd1 (by decide)] | rw [zd2 (by decide)] | rw [zswy (by decide)] | rw [zswn (by decide)] | rw [zsw0])
      refine zR.cv rfl rfl rfl hx rfl rfl (zR.mono (c_cropS hE hG h1.1 (by show 2 * l.length + stF β L i ≤ 2 * l.length + stF β L (i + 1); omega)) (fun v n1 w1 M2 hv => ?_))
      obtain ⟨rfl, rfl, rfl, hG2⟩ := hv
      dsimp only at hG2 ⊢
      by_cases q3 : kdF β L (i + 1) = 3
      · have h2 := hE.1.oth (k := 3) h1.1 q3 (by omega) (by omega)
        rw [if_pos ⟨rfl, q3⟩] at hG2 ⊢
        rw [if_pos q3, q16]
        repeat (first | with_reducible refine zR.hold (pc := 48) ?_ | ((with_reducible refine zR.stored ?_); dsimp only [zsto, zclr, zset, zget, zc2, cond_false, cond_true]) | ((with_reducible refine zR.atLit ?_); first | refine zR.step rfl ?_) | rw [zcc1] | rw [zcc2] | rw [zcc3] | rw [zcc4])
        exact ⟨trivial, cm_tl (sj := 16) hE hG2 h2.1 (by show 2 * l.length + stF β L i + 2 ≤ 2 * l.length + stF β L (i + 1 + 1); omega) hl⟩
      · rw [if_neg (fun z => q3 z.2)] at hG2 ⊢
        rw [if_neg q3]
        repeat (first | with_reducible refine zR.hold (pc := 48) ?_ | ((with_reducible refine zR.stored ?_); dsimp only [zsto, zclr, zset, zget, zc2, cond_false, cond_true]) | ((with_reducible refine zR.atLit ?_); first | refine zR.step rfl ?_) | rw [zcc1] | rw [zcc2] | rw [zcc3] | rw [zcc4])
        exact ⟨trivial, cm_d1 hE hG2 h1.1 (by omega)⟩
    · exact absurd ⟨rfl, fun z => by rw [show kdF β L (true, i, l).2.1 = 16 from q16] at z; exact absurd z (by decide)⟩ hn
  by_cases q17 : kdF β L i = 17
  · have h1 := hE.1.key (k := 17) hi q17 (by omega) (by omega)
    rw [if_pos (Or.inr q17)]
    obtain ⟨hS, ⟨-, -, at_, tk, va, l9, hV, ha, hC, hR⟩ | ⟨hn, -⟩⟩ := h
    · have hV' : TV (nI (10 + 7)) (vaF β L i) tk va := by
        have e : kdF β L i = nI (10 + 7) := q17
        rw [← e]
        exact hV
      obtain ⟨rfl, rfl⟩ := hV'.ky (by omega)
      have ei : inI (nI 7) 6 9 = 1 := by decide
      repeat (first | ((with_reducible refine zR.stored ?_); dsimp only [zsto, zclr, zset, zget, zc2, cond_false, cond_true]) | ((with_reducible refine zR.atLit ?_); first | refine zR.step rfl ?_ | refine zR.getf rfl hR.po rfl ?_ | (refine zR.cs rfl rfl rfl rfl rfl (zCalP.of (c_in _ _ _) ?_); rw [ei])) | rw [zcc1] | rw [zcc2] | rw [zcc3] | rw [zcc4] | rw [zb1 (by decide)] | rw [zb2 (by decide)] | rw [zb3 (by decide)] | rw [zb4 (by decide)] | rw [zn1 (by decide)] | rw [zn2 (by decide)] | rw [zn3 (by decide)] | rw [zn4 (by decide)] | rw [ze1 (by decide)] | rw [ze2 (by decide)] | rw [zd1 (by decide)] | rw [zd2 (by decide)] | rw [zswy (by decide)] | rw [zswn (by decide)] | rw [zsw0])
      refine zR.cv rfl rfl rfl hR.1 rfl rfl (zR.mono (c_need1 hE h' rfl (by show ¬ kdF β L i = 0; rw [q17]; decide) (by show ¬ kdF β L i = 1; rw [q17]; decide) (by show ¬ kdF β L i = 3; rw [q17]; decide) ⟨h1.1, by show stF β L i ≤ stF β L (i + 1); omega⟩ (Nat.le_refl _)) (fun v n1 w1 M1 hv => ?_))
      obtain ⟨rfl, rfl, rfl, hG⟩ := hv
      obtain ⟨x, hx⟩ := hG.h287
      repeat (first | ((with_reducible refine zR.stored ?_); dsimp only [zsto, zclr, zset, zget, zc2, cond_false, cond_true]) | ((with_reducible refine zR.atLit ?_); first | refine zR.step rfl ?_) | rw [zcc1] | rw [zcc2] | rw [zcc3] | rw [zcc4] | rw [zb1 (by decide)] | rw [zb2 (by decide)] | rw [zb3 (by decide)] | rw [zb4 (by decide)] | rw [zn1 (by decide)] | rw [zn2 (by decide)] | rw [zn3 (by decide)] | rw [zn4 (by decide)] | rw [ze1 (by decide)] | rw [ze2 (by decide)] | rw [zd1 (by decide)] | rw [zd2 (by decide)] | rw [zswy (by decide)] | rw [zswn (by decide)] | rw [zsw0])
      refine zR.cv rfl rfl rfl hx rfl rfl (zR.mono (c_cropS hE hG h1.1 (by show 2 * l.length + stF β L i ≤ 2 * l.length + stF β L (i + 1); omega)) (fun v n1 w1 M2 hv => ?_))
      obtain ⟨rfl, rfl, rfl, hG2⟩ := hv
      dsimp only at hG2 ⊢
      by_cases q3 : kdF β L (i + 1) = 3
      · have h2 := hE.1.oth (k := 3) h1.1 q3 (by omega) (by omega)
        rw [if_pos ⟨rfl, q3⟩] at hG2 ⊢
        rw [if_pos q3, q17]
        repeat (first | with_reducible refine zR.hold (pc := 48) ?_ | ((with_reducible refine zR.stored ?_); dsimp only [zsto, zclr, zset, zget, zc2, cond_false, cond_true]) | ((with_reducible refine zR.atLit ?_); first | refine zR.step rfl ?_) | rw [zcc1] | rw [zcc2] | rw [zcc3] | rw [zcc4])
        exact ⟨trivial, cm_tl (sj := 17) hE hG2 h2.1 (by show 2 * l.length + stF β L i + 2 ≤ 2 * l.length + stF β L (i + 1 + 1); omega) hl⟩
      · rw [if_neg (fun z => q3 z.2)] at hG2 ⊢
        rw [if_neg q3]
        repeat (first | with_reducible refine zR.hold (pc := 48) ?_ | ((with_reducible refine zR.stored ?_); dsimp only [zsto, zclr, zset, zget, zc2, cond_false, cond_true]) | ((with_reducible refine zR.atLit ?_); first | refine zR.step rfl ?_) | rw [zcc1] | rw [zcc2] | rw [zcc3] | rw [zcc4])
        exact ⟨trivial, cm_d1 hE hG2 h1.1 (by omega)⟩
    · exact absurd ⟨rfl, fun z => by rw [show kdF β L (true, i, l).2.1 = 17 from q17] at z; exact absurd z (by decide)⟩ hn
  by_cases q18 : kdF β L i = 18
  · have h1 := hE.1.key (k := 18) hi q18 (by omega) (by omega)
    rw [if_neg (fun z => z.elim q16 q17), if_pos (Or.inl q18)]
    obtain ⟨hS, ⟨-, -, at_, tk, va, l9, hV, ha, hC, hR⟩ | ⟨hn, -⟩⟩ := h
    · have hV' : TV (nI (10 + 8)) (vaF β L i) tk va := by
        have e : kdF β L i = nI (10 + 8) := q18
        rw [← e]
        exact hV
      obtain ⟨rfl, rfl⟩ := hV'.ky (by omega)
      have ei : inI (nI 8) 6 9 = 1 := by decide
      repeat (first | ((with_reducible refine zR.stored ?_); dsimp only [zsto, zclr, zset, zget, zc2, cond_false, cond_true]) | ((with_reducible refine zR.atLit ?_); first | refine zR.step rfl ?_ | refine zR.getf rfl hR.po rfl ?_ | (refine zR.cs rfl rfl rfl rfl rfl (zCalP.of (c_in _ _ _) ?_); rw [ei])) | rw [zcc1] | rw [zcc2] | rw [zcc3] | rw [zcc4] | rw [zb1 (by decide)] | rw [zb2 (by decide)] | rw [zb3 (by decide)] | rw [zb4 (by decide)] | rw [zn1 (by decide)] | rw [zn2 (by decide)] | rw [zn3 (by decide)] | rw [zn4 (by decide)] | rw [ze1 (by decide)] | rw [ze2 (by decide)] | rw [zd1 (by decide)] | rw [zd2 (by decide)] | rw [zswy (by decide)] | rw [zswn (by decide)] | rw [zsw0])
      refine zR.cv rfl rfl rfl hR.1 rfl rfl (zR.mono (c_need1 hE h' rfl (by show ¬ kdF β L i = 0; rw [q18]; decide) (by show ¬ kdF β L i = 1; rw [q18]; decide) (by show ¬ kdF β L i = 3; rw [q18]; decide) ⟨h1.1, by show stF β L i ≤ stF β L (i + 1); omega⟩ (Nat.le_refl _)) (fun v n1 w1 M1 hv => ?_))
      obtain ⟨rfl, rfl, rfl, hG⟩ := hv
      rw [q18]
      repeat (first | with_reducible refine zR.hold (pc := 48) ?_ | ((with_reducible refine zR.stored ?_); dsimp only [zsto, zclr, zset, zget, zc2, cond_false, cond_true]) | ((with_reducible refine zR.atLit ?_); first | refine zR.step rfl ?_) | rw [zcc1] | rw [zcc2] | rw [zcc3] | rw [zcc4] | rw [zb1 (by decide)] | rw [zb2 (by decide)] | rw [zb3 (by decide)] | rw [zb4 (by decide)] | rw [zn1 (by decide)] | rw [zn2 (by decide)] | rw [zn3 (by decide)] | rw [zn4 (by decide)] | rw [ze1 (by decide)] | rw [ze2 (by decide)] | rw [zd1 (by decide)] | rw [zd2 (by decide)] | rw [zswy (by decide)] | rw [zswn (by decide)] | rw [zsw0])
      exact ⟨trivial, cm_tl (sj := 18) hE hG h1.1 (by omega) hl⟩
    · exact absurd ⟨rfl, fun z => by rw [show kdF β L (true, i, l).2.1 = 18 from q18] at z; exact absurd z (by decide)⟩ hn
  by_cases q19 : kdF β L i = 19
  · have h1 := hE.1.key (k := 19) hi q19 (by omega) (by omega)
    rw [if_neg (fun z => z.elim q16 q17), if_pos (Or.inr q19)]
    obtain ⟨hS, ⟨-, -, at_, tk, va, l9, hV, ha, hC, hR⟩ | ⟨hn, -⟩⟩ := h
    · have hV' : TV (nI (10 + 9)) (vaF β L i) tk va := by
        have e : kdF β L i = nI (10 + 9) := q19
        rw [← e]
        exact hV
      obtain ⟨rfl, rfl⟩ := hV'.ky (by omega)
      have ei : inI (nI 9) 6 9 = 1 := by decide
      repeat (first | ((with_reducible refine zR.stored ?_); dsimp only [zsto, zclr, zset, zget, zc2, cond_false, cond_true]) | ((with_reducible refine zR.atLit ?_); first | refine zR.step rfl ?_ | refine zR.getf rfl hR.po rfl ?_ | (refine zR.cs rfl rfl rfl rfl rfl (zCalP.of (c_in _ _ _) ?_); rw [ei])) | rw [zcc1] | rw [zcc2] | rw [zcc3] | rw [zcc4] | rw [zb1 (by decide)] | rw [zb2 (by decide)] | rw [zb3 (by decide)] | rw [zb4 (by decide)] | rw [zn1 (by decide)] | rw [zn2 (by decide)] | rw [zn3 (by decide)] | rw [zn4 (by decide)] | rw [ze1 (by decide)] | rw [ze2 (by decide)] | rw [zd1 (by decide)] | rw [zd2 (by decide)] | rw [zswy (by decide)] | rw [zswn (by decide)] | rw [zsw0])
      refine zR.cv rfl rfl rfl hR.1 rfl rfl (zR.mono (c_need1 hE h' rfl (by show ¬ kdF β L i = 0; rw [q19]; decide) (by show ¬ kdF β L i = 1; rw [q19]; decide) (by show ¬ kdF β L i = 3; rw [q19]; decide) ⟨h1.1, by show stF β L i ≤ stF β L (i + 1); omega⟩ (Nat.le_refl _)) (fun v n1 w1 M1 hv => ?_))
      obtain ⟨rfl, rfl, rfl, hG⟩ := hv
      rw [q19]
      repeat (first | with_reducible refine zR.hold (pc := 48) ?_ | ((with_reducible refine zR.stored ?_); dsimp only [zsto, zclr, zset, zget, zc2, cond_false, cond_true]) | ((with_reducible refine zR.atLit ?_); first | refine zR.step rfl ?_) | rw [zcc1] | rw [zcc2] | rw [zcc3] | rw [zcc4] | rw [zb1 (by decide)] | rw [zb2 (by decide)] | rw [zb3 (by decide)] | rw [zb4 (by decide)] | rw [zn1 (by decide)] | rw [zn2 (by decide)] | rw [zn3 (by decide)] | rw [zn4 (by decide)] | rw [ze1 (by decide)] | rw [ze2 (by decide)] | rw [zd1 (by decide)] | rw [zd2 (by decide)] | rw [zswy (by decide)] | rw [zswn (by decide)] | rw [zsw0])
      exact ⟨trivial, cm_tl (sj := 19) hE hG h1.1 (by omega) hl⟩
    · exact absurd ⟨rfl, fun z => by rw [show kdF β L (true, i, l).2.1 = 19 from q19] at z; exact absurd z (by decide)⟩ hn
  rw [if_neg (fun z => z.elim q16 q17), if_neg (fun z => z.elim q18 q19)]
  obtain ⟨hS, ⟨-, -, at_, tk, va, l9, hV, ha, hC, hR⟩ | ⟨hn, k, hk, at_, va, bg, l9, hR⟩⟩ := h
  · by_cases t : tk = 2
    · obtain ⟨k, hk, e1, e2⟩ := hV.n2 t
      have k6 : k < 6 := by
        by_cases z : k < 6
        · exact z
        · exfalso
          have e1' : kdF β L i = nI (10 + k) := e1
          have : k = 6 ∨ k = 7 ∨ k = 8 ∨ k = 9 := by omega
          rcases this with rfl | rfl | rfl | rfl
          · exact q16 e1'
          · exact q17 e1'
          · exact q18 e1'
          · exact q19 e1'
      subst e2
      repeat (first | with_reducible refine zR.hold (pc := 16) ?_ | ((with_reducible refine zR.stored ?_); dsimp only [zsto, zclr, zset, zget, zc2, cond_false, cond_true]) | ((with_reducible refine zR.atLit ?_); first | refine zR.step rfl ?_ | refine zR.getf rfl hR.po rfl ?_) | rw [zcc1] | rw [zcc2] | rw [zcc3] | rw [zcc4] | rw [ze1 (t)] | rw [ze2 (t)])
      exact ⟨trivial, cm_no hE h' hi (Nat.le_refl _) (inI_z (lo := 6) (hi := 9) (Or.inl k6) (by omega) (by omega) (by omega)) (fun z => by have := zn_inj (b := 6) (by omega) (by omega) z; omega) (fun z => by have := zn_inj (b := 7) (by omega) (by omega) z; omega)⟩
    · repeat (first | with_reducible refine zR.hold (pc := 16) ?_ | ((with_reducible refine zR.stored ?_); dsimp only [zsto, zclr, zset, zget, zc2, cond_false, cond_true]) | ((with_reducible refine zR.atLit ?_); first | refine zR.step rfl ?_ | refine zR.getf rfl hR.po rfl ?_) | rw [zcc1] | rw [zcc2] | rw [zcc3] | rw [zcc4] | rw [zd1 (t)] | rw [zd2 (t)])
      exact ⟨trivial, cm_no hE h' hi (Nat.le_refl _) (by decide) (by decide) (by decide)⟩
  · repeat (first | with_reducible refine zR.hold (pc := 16) ?_ | ((with_reducible refine zR.stored ?_); dsimp only [zsto, zclr, zset, zget, zc2, cond_false, cond_true]) | ((with_reducible refine zR.atLit ?_); first | refine zR.step rfl ?_ | refine zR.getf rfl hR.po rfl ?_) | rw [zcc1] | rw [zcc2] | rw [zcc3] | rw [zcc4] | rw [zb1 (by decide)] | rw [zb2 (by decide)] | rw [zb3 (by decide)] | rw [zb4 (by decide)] | rw [zn1 (by decide)] | rw [zn2 (by decide)] | rw [zn3 (by decide)] | rw [zn4 (by decide)] | rw [ze1 (by decide)] | rw [ze2 (by decide)] | rw [zd1 (by decide)] | rw [zd2 (by decide)] | rw [zswy (by decide)] | rw [zswn (by decide)] | rw [zsw0])
    exact ⟨trivial, cm_no hE h' hi (Nat.le_refl _) (by decide) (by decide) (by decide)⟩
theorem c_compared_d (hE : EV σ β L m c) {j : Nat} (h : GS M0 σ β L c nt lm l8 i0 l0 (false, j, l) M) (hj : j ≤ m) (hb : 2 * l.length + stF β L i0 ≤ 2 * l0.length + stF β L j) : zCalP (d + 5) 166 [.ref 287] n w M (fun v n' w' M' => v = none ∧ n = n' ∧ w = w' ∧ GS M0 σ β L c nt lm l8 i0 l0 (false, j, l) M') := by
  have h' := h
  obtain ⟨hS, ⟨a, -⟩ | ⟨hn, k, hk, at_, va, bg, l9, hR⟩⟩ := h
  · exact absurd (show false = true from a) (by decide)
  · show zR ztb _ kX12_compared 0 0 [some (.ref 287), none, none, none, none] [] _ _ _ _
    repeat (first | with_reducible refine zR.hold (pc := 16) ?_ | ((with_reducible refine zR.stored ?_); dsimp only [zsto, zclr, zset, zget, zc2, cond_false, cond_true]) | ((with_reducible refine zR.atLit ?_); first | refine zR.step rfl ?_ | refine zR.getf rfl hR.po rfl ?_) | rw [zcc1] | rw [zcc2] | rw [zcc3] | rw [zcc4] | rw [zb1 (by decide)] | rw [zb2 (by decide)] | rw [zb3 (by decide)] | rw [zb4 (by decide)] | rw [zn1 (by decide)] | rw [zn2 (by decide)] | rw [zn3 (by decide)] | rw [zn4 (by decide)] | rw [ze1 (by decide)] | rw [ze2 (by decide)] | rw [zd1 (by decide)] | rw [zd2 (by decide)] | rw [zswy (by decide)] | rw [zswn (by decide)] | rw [zsw0])
    exact ⟨trivial, cm_no hE h' hj hb (by decide) (by decide) (by decide)⟩
end
