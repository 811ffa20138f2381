
/-! A WEEK: the class's next bed. -/
theorem PBk.cell {M M0 : zM} {g : Nat} {c : mS} {kp bt : Nat → Option Nat} {la : Nat} {s : Nat → Int32} {nn nc b : Nat} (hG : Gc M g c kp bt la) (hF : ∀ k, k < g ∨ g + 76 ≤ k → M k = M0 k) (hg : g + 76 ≤ 300) (h : PBk M0 nn c bt s nc b) (hb : b < 8) : (s (150 + 10 * b + 0) = -1 ∧ s (150 + 10 * b + 4) = 0 ∧ bt b = none ∧ M (g + 18 + b) = .inr (0, [.null, .int (s (150 + 10 * b + 1)), .int (s (150 + 10 * b + 2)), .int (s (150 + 10 * b + 3)), .int (s (150 + 10 * b + 4)), .int (s (150 + 10 * b + 5)), .int (s (150 + 10 * b + 6)), .int (s (150 + 10 * b + 7)), .int (c (20 + b) 8)])) ∨ ∃ i a, i < nc ∧ s (150 + 10 * b + 0) = nI i ∧ bt b = some a ∧ 300 ≤ a ∧ M (g + 18 + b) = .inr (0, [.ref a, .int (s (150 + 10 * b + 1)), .int (s (150 + 10 * b + 2)), .int (s (150 + 10 * b + 3)), .int (s (150 + 10 * b + 4)), .int (s (150 + 10 * b + 5)), .int (s (150 + 10 * b + 6)), .int (s (150 + 10 * b + 7)), .int (c (20 + b) 8)]) ∧ M a = .inr (1, [.int (nI i), .int (s (50 + 10 * i + 0)), .int (s (50 + 10 * i + 1)), .int (s (50 + 10 * i + 2)), .int (s (50 + 10 * i + 3)), .int (s (50 + 10 * i + 4)), .int (s (50 + 10 * i + 5))]) := by
  obtain ⟨q1, q2, -⟩ := h
  have hb' := hG.b hb
  unfold bof at hb'
  rw [q2 1 (by omega) (by omega), q2 2 (by omega) (by omega), q2 3 (by omega) (by omega), q2 4 (by omega) (by omega), q2 5 (by omega) (by omega), q2 6 (by omega) (by omega), q2 7 (by omega) (by omega)] at hb'
  rcases q1 with ⟨e0, e1, e2, e3, e4, e5⟩ | ⟨i, a, e1, e2, e3, e4, e5⟩
  · rw [e1] at hb'
    exact Or.inl ⟨e0, e4, e1, hb'⟩
  · rw [e3] at hb'
    obtain ⟨f1, f2, f3⟩ := e4
    refine Or.inr ⟨i, a, e1, e2, e3, f1, hb', ?_⟩
    rw [hF a (by omega), f3]
    unfold cropF
    rw [show 51 + 10 * i = 50 + 10 * i + 1 by omega, show 52 + 10 * i = 50 + 10 * i + 2 by omega, show 53 + 10 * i = 50 + 10 * i + 3 by omega, show 54 + 10 * i = 50 + 10 * i + 4 by omega, show 55 + 10 * i = 50 + 10 * i + 5 by omega]
    rfl
theorem c_isAhead {M : zM} {d n w a a' : Nat} {u1 u2 u3 u4 u5 u6 u7 v1 v2 v3 v4 v5 v6 v7 : Int32} (h1 : M a = .inr (1, [.int u1, .int u2, .int u3, .int u4, .int u5, .int u6, .int u7])) (h2 : M a' = .inr (1, [.int v1, .int v2, .int v3, .int v4, .int v5, .int v6, .int v7])) : zCall d 25 [.ref a, .ref a'] n w M (some (.int (if (¬ u6 = v6 ∧ u6 < v6) ∨ (u6 = v6 ∧ u1 < v1) then 1 else 0))) n w M := by
  intro Q hQ
  show zR ztb _ kX2_isAhead 2 0 [some (.ref a), some (.ref a')] [] _ _ _ _
  by_cases e : u6 = v6
  · by_cases l : u1 < v1
    · rw [if_pos (Or.inr ⟨e, l⟩)] at hQ
      repeat (first | ((with_reducible refine zR.stored ?_); dsimp only [zsto, zclr, zset, zget, zc2, cond_false, cond_true]) | ((with_reducible refine zR.atLit ?_); first | refine zR.step rfl ?_ | refine zR.getf rfl h1 rfl ?_ | refine zR.getf rfl h2 rfl ?_) | rw [zcc1] | rw [zcc2] | rw [zcc3] | rw [zcc4] | rw [ze1 (e)] | rw [ze2 (e)] | rw [zb1 (l)] | rw [zb2 (l)] | rw [zb3 (l)] | rw [zb4 (l)])
      exact zR.ret rfl rfl hQ
    · rw [if_neg (fun z => z.elim (fun y => y.1 e) (fun y => l y.2))] at hQ
      repeat (first | ((with_reducible refine zR.stored ?_); dsimp only [zsto, zclr, zset, zget, zc2, cond_false, cond_true]) | ((with_reducible refine zR.atLit ?_); first | refine zR.step rfl ?_ | refine zR.getf rfl h1 rfl ?_ | refine zR.getf rfl h2 rfl ?_) | rw [zcc1] | rw [zcc2] | rw [zcc3] | rw [zcc4] | rw [ze1 (e)] | rw [ze2 (e)] | rw [zn1 (l)] | rw [zn2 (l)] | rw [zn3 (l)] | rw [zn4 (l)])
      exact zR.ret rfl rfl hQ
  · by_cases l : u6 < v6
    · rw [if_pos (Or.inl ⟨e, l⟩)] at hQ
      repeat (first | ((with_reducible refine zR.stored ?_); dsimp only [zsto, zclr, zset, zget, zc2, cond_false, cond_true]) | ((with_reducible refine zR.atLit ?_); first | refine zR.step rfl ?_ | refine zR.getf rfl h1 rfl ?_ | refine zR.getf rfl h2 rfl ?_) | rw [zcc1] | rw [zcc2] | rw [zcc3] | rw [zcc4] | rw [zd1 (e)] | rw [zd2 (e)] | rw [zb1 (l)] | rw [zb2 (l)] | rw [zb3 (l)] | rw [zb4 (l)])
      exact zR.ret rfl rfl hQ
    · rw [if_neg (fun z => z.elim (fun y => l y.2) (fun y => e y.1))] at hQ
      repeat (first | ((with_reducible refine zR.stored ?_); dsimp only [zsto, zclr, zset, zget, zc2, cond_false, cond_true]) | ((with_reducible refine zR.atLit ?_); first | refine zR.step rfl ?_ | refine zR.getf rfl h1 rfl ?_ | refine zR.getf rfl h2 rfl ?_) | rw [zcc1] | rw [zcc2] | rw [zcc3] | rw [zcc4] | rw [zd1 (e)] | rw [zd2 (e)] | rw [zn1 (l)] | rw [zn2 (l)] | rw [zn3 (l)] | rw [zn4 (l)])
      exact zR.ret rfl rfl hQ
theorem np_loop {M M0 : zM} {g : Nat} {c : mS} {kp bt : Nat → Option Nat} {la : Nat} {s : Nat → Int32} {d n w nn nc : Nat} {Q : Option Value → Nat → Nat → zM → Prop} (hG : Gc M g c kp bt la) (hF : ∀ k, k < g ∨ g + 76 ≤ k → M k = M0 k) (hg : g + 76 ≤ 300) (hK : ∀ b, b < 8 → PBk M0 nn c bt s nc b) (h8 : nc ≤ 8) (hQ : Q (some (.int (optI (nxt s (fun _ => 0) 8)))) n w M) : ∀ (t b : Nat) (x3 : Option Value), b + t = 8 → zR ztb (d + 1) kX2_nextToPick 1 4 [some (.ref g), some (.int (optI (nxt s (fun _ => 0) b))), some (.int (nI b)), x3] [] n w M Q
  | 0, b, x3, h => by
    have e2 : b = 8 := by omega
    subst e2
    have e : ¬ nI 8 < 8 := by decide
    repeat (first | ((with_reducible refine zR.stored ?_); dsimp only [zsto, zclr, zset, zget, zc2, cond_false, cond_true]) | ((with_reducible refine zR.atLit ?_); first | refine zR.step rfl ?_) | rw [zcc1] | rw [zcc2] | rw [zcc3] | rw [zcc4] | rw [zn1 (e)] | rw [zn2 (e)] | rw [zn3 (e)] | rw [zn4 (e)])
    exact zR.ret rfl rfl hQ
  | t + 1, b, x3, h => by
    have hb : b < 8 := by omega
    have e : nI b < 8 := zI_ylt (b := 8) (by omega) (by omega)
    have ih := np_loop (d := d) hG hF hg hK h8 hQ t (b + 1)
    have st : nxt s (fun _ => 0) (b + 1) = if 0 < s (150 + 10 * b + 4) ∧ (0 : Int32) = 0 then (match nxt s (fun _ => 0) b with
      | none => some b
      | some o => if aheadP s b o then some b else some o) else nxt s (fun _ => 0) b := rfl
    rw [← zI_s, st] at ih
    refine zR.step rfl ?_
    rcases (hK b hb).cell hG hF hg hb with ⟨z0, z4, -, hbm⟩ | ⟨i, a, hi, hi0, -, ha, hbm, hcm⟩
    · rw [if_neg (fun z => absurd z.1 (by rw [z4]; decide))] at ih
      repeat (first | with_reducible refine zR.hold (pc := 4) ?_ | ((with_reducible refine zR.stored ?_); dsimp only [zsto, zclr, zset, zget, zc2, cond_false, cond_true]) | ((with_reducible refine zR.atLit ?_); first | refine zR.step rfl ?_ | refine zR.getf rfl (hG.o) rfl ?_ | (refine zR.aald rfl hG.br (Or.inr (Or.inl rfl)) (i := b) rfl hb (by decide) ?_; rw [brow_y hb]) | refine zR.getf rfl hbm rfl ?_) | rw [zcc1] | rw [zcc2] | rw [zcc3] | rw [zcc4] | rw [zb1 (e)] | rw [zb2 (e)] | rw [zb3 (e)] | rw [zb4 (e)] | rw [zb1 (by decide)] | rw [zb2 (by decide)] | rw [zb3 (by decide)] | rw [zb4 (by decide)] | rw [zn1 (by decide)] | rw [zn2 (by decide)] | rw [zn3 (by decide)] | rw [zn4 (by decide)] | rw [ze1 (by decide)] | rw [ze2 (by decide)] | rw [zd1 (by decide)] | rw [zd2 (by decide)] | rw [zswy (by decide)] | rw [zswn (by decide)] | rw [zsw0])
      exact ⟨trivial, ih _ (by omega)⟩
    · by_cases q4 : 0 < s (150 + 10 * b + 4)
      · rw [if_pos ⟨q4, rfl⟩] at ih
        cases en : nxt s (fun _ => 0) b with
        | none =>
          rw [en] at ih
          repeat (first | with_reducible refine zR.hold (pc := 4) ?_ | ((with_reducible refine zR.stored ?_); dsimp only [zsto, zclr, zset, zget, zc2, cond_false, cond_true]) | ((with_reducible refine zR.atLit ?_); first | refine zR.step rfl ?_ | refine zR.getf rfl (hG.o) rfl ?_ | (refine zR.aald rfl hG.br (Or.inr (Or.inl rfl)) (i := b) rfl hb (by decide) ?_; rw [brow_y hb]) | refine zR.getf rfl hbm rfl ?_) | rw [zcc1] | rw [zcc2] | rw [zcc3] | rw [zcc4] | rw [zb1 (e)] | rw [zb2 (e)] | rw [zb3 (e)] | rw [zb4 (e)] | rw [zb1 (q4)] | rw [zb2 (q4)] | rw [zb3 (q4)] | rw [zb4 (q4)] | rw [show optI none = -1 from rfl] | rw [zb1 (by decide)] | rw [zb2 (by decide)] | rw [zb3 (by decide)] | rw [zb4 (by decide)] | rw [zn1 (by decide)] | rw [zn2 (by decide)] | rw [zn3 (by decide)] | rw [zn4 (by decide)] | rw [ze1 (by decide)] | rw [ze2 (by decide)] | rw [zd1 (by decide)] | rw [zd2 (by decide)] | rw [zswy (by decide)] | rw [zswn (by decide)] | rw [zsw0])
          exact ⟨trivial, ih _ (by omega)⟩
        | some o =>
          rw [en] at ih
          obtain ⟨o1, o2, -⟩ := nxt_spec b o en
          have ho : o < 8 := by omega
          have em : ¬ nI o = -1 := zI_m1 (by omega)
          rcases (hK o ho).cell hG hF hg ho with ⟨y0, y4, -, hbo⟩ | ⟨j, a', hj, hj0, -, ha', hbo, hco⟩
          · rw [y4] at o2
            exact absurd o2 (by decide)
          have eb := bKe_eq hi0 (by omega)
          have eo := bKe_eq hj0 (by omega)
          dsimp only at ih
          have ia := fun {d n w : Nat} => c_isAhead (d := d) (n := n) (w := w) hcm hco
          rw [← eb, ← eo, ← hi0, ← hj0] at ia
          by_cases q : aheadP s b o
          · rw [if_pos q] at ih
            rw [if_pos q] at ia
            repeat (first | with_reducible refine zR.hold (pc := 4) ?_ | ((with_reducible refine zR.stored ?_); dsimp only [zsto, zclr, zset, zget, zc2, cond_false, cond_true]) | ((with_reducible refine zR.atLit ?_); first | refine zR.step rfl ?_ | refine zR.getf rfl (hG.o) rfl ?_ | (refine zR.aald rfl hG.br (Or.inr (Or.inl rfl)) (i := b) rfl hb (by decide) ?_; rw [brow_y hb]) | (refine zR.aald rfl hG.br (Or.inr (Or.inl rfl)) (i := o) rfl ho (by decide) ?_; rw [brow_y ho]) | refine zR.getf rfl hbm rfl ?_ | refine zR.getf rfl hbo rfl ?_ | refine zR.cs rfl rfl rfl rfl rfl (zCalP.of ia ?_)) | rw [zcc1] | rw [zcc2] | rw [zcc3] | rw [zcc4] | rw [zb1 (e)] | rw [zb2 (e)] | rw [zb3 (e)] | rw [zb4 (e)] | rw [zb1 (q4)] | rw [zb2 (q4)] | rw [zb3 (q4)] | rw [zb4 (q4)] | rw [show optI (some o) = nI o from rfl] | rw [zd1 (em)] | rw [zd2 (em)] | rw [zb1 (by decide)] | rw [zb2 (by decide)] | rw [zb3 (by decide)] | rw [zb4 (by decide)] | rw [zn1 (by decide)] | rw [zn2 (by decide)] | rw [zn3 (by decide)] | rw [zn4 (by decide)] | rw [ze1 (by decide)] | rw [ze2 (by decide)] | rw [zd1 (by decide)] | rw [zd2 (by decide)] | rw [zswy (by decide)] | rw [zswn (by decide)] | rw [zsw0])
            exact ⟨trivial, ih _ (by omega)⟩
          · rw [if_neg q] at ih
            rw [if_neg q] at ia
            repeat (first | with_reducible refine zR.hold (pc := 4) ?_ | ((with_reducible refine zR.stored ?_); dsimp only [zsto, zclr, zset, zget, zc2, cond_false, cond_true]) | ((with_reducible refine zR.atLit ?_); first | refine zR.step rfl ?_ | refine zR.getf rfl (hG.o) rfl ?_ | (refine zR.aald rfl hG.br (Or.inr (Or.inl rfl)) (i := b) rfl hb (by decide) ?_; rw [brow_y hb]) | (refine zR.aald rfl hG.br (Or.inr (Or.inl rfl)) (i := o) rfl ho (by decide) ?_; rw [brow_y ho]) | refine zR.getf rfl hbm rfl ?_ | refine zR.getf rfl hbo rfl ?_ | refine zR.cs rfl rfl rfl rfl rfl (zCalP.of ia ?_)) | rw [zcc1] | rw [zcc2] | rw [zcc3] | rw [zcc4] | rw [zb1 (e)] | rw [zb2 (e)] | rw [zb3 (e)] | rw [zb4 (e)] | rw [zb1 (q4)] | rw [zb2 (q4)] | rw [zb3 (q4)] | rw [zb4 (q4)] | rw [show optI (some o) = nI o from rfl] | rw [zd1 (em)] | rw [zd2 (em)] | rw [zb1 (by decide)] | rw [zb2 (by decide)] | rw [zb3 (by decide)] | rw [zb4 (by decide)] | rw [zn1 (by decide)] | rw [zn2 (by decide)] | rw [zn3 (by decide)] | rw [zn4 (by decide)] | rw [ze1 (by decide)] | rw [ze2 (by decide)] | rw [zd1 (by decide)] | rw [zd2 (by decide)] | rw [zswy (by decide)] | rw [zswn (by decide)] | rw [zsw0])
            exact ⟨trivial, ih _ (by omega)⟩
      · rw [if_neg (fun z => q4 z.1)] at ih
        repeat (first | with_reducible refine zR.hold (pc := 4) ?_ | ((with_reducible refine zR.stored ?_); dsimp only [zsto, zclr, zset, zget, zc2, cond_false, cond_true]) | ((with_reducible refine zR.atLit ?_); first | refine zR.step rfl ?_ | refine zR.getf rfl (hG.o) rfl ?_ | (refine zR.aald rfl hG.br (Or.inr (Or.inl rfl)) (i := b) rfl hb (by decide) ?_; rw [brow_y hb]) | refine zR.getf rfl hbm rfl ?_) | rw [zcc1] | rw [zcc2] | rw [zcc3] | rw [zcc4] | rw [zb1 (e)] | rw [zb2 (e)] | rw [zb3 (e)] | rw [zb4 (e)] | rw [zn1 (q4)] | rw [zn2 (q4)] | rw [zn3 (q4)] | rw [zn4 (q4)] | rw [zb1 (by decide)] | rw [zb2 (by decide)] | rw [zb3 (by decide)] | rw [zb4 (by decide)] | rw [zn1 (by decide)] | rw [zn2 (by decide)] | rw [zn3 (by decide)] | rw [zn4 (by decide)] | rw [ze1 (by decide)] | rw [ze2 (by decide)] | rw [zd1 (by decide)] | rw [zd2 (by decide)] | rw [zswy (by decide)] | rw [zswn (by decide)] | rw [zsw0])
        exact ⟨trivial, ih _ (by omega)⟩
theorem c_nextToPick {M M0 : zM} {g : Nat} {c : mS} {kp bt : Nat → Option Nat} {la : Nat} {s : Nat → Int32} {d n w nn nc : Nat} (hG : Gc M g c kp bt la) (hF : ∀ k, k < g ∨ g + 76 ≤ k → M k = M0 k) (hg : g + 76 ≤ 300) (hK : ∀ b, b < 8 → PBk M0 nn c bt s nc b) (h8 : nc ≤ 8) : zCall (d + 1) 24 [.ref g] n w M (some (.int (optI (nxt s (fun _ => 0) 8)))) n w M := by
  intro Q hQ
  show zR ztb _ kX2_nextToPick 1 0 [some (.ref g), none, none, none] [] _ _ _ _
  repeat (first | with_reducible refine zR.hold (pc := 4) ?_ | ((with_reducible refine zR.stored ?_); dsimp only [zsto, zclr, zset, zget, zc2, cond_false, cond_true]) | ((with_reducible refine zR.atLit ?_); first | refine zR.step rfl ?_) | rw [zcc1] | rw [zcc2] | rw [zcc3] | rw [zcc4])
  exact ⟨trivial, np_loop hG hF hg hK h8 hQ 8 0 none (by omega)⟩
