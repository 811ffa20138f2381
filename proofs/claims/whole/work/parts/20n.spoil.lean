
/-! A WEEK: what spoils. -/
abbrev spP (s : Nat → Int32) (l i : Nat) : Prop := s 0 - s (250 + 6 * l + 3) < s (50 + 10 * i + 4)
def spS (s : Nat → Int32) (l i : Nat) : Nat → Int32 := zuf (zuf s (50 + 10 * i + 9) (s (50 + 10 * i + 9) + s (250 + 6 * l + 5))) (250 + 6 * l + 5) 0
def spF : Nat → Nat → (Nat → Int32) → Int32 → (Nat → Int32) × Int32
  | 0, _, s, S => (s, S)
  | t + 1, l, s, S => if spP s l (s (250 + 6 * l)).toNatClampNeg then spF t (l + 1) s S else spF t (l + 1) (spS s l (s (250 + 6 * l)).toNatClampNeg) (S + s (250 + 6 * l + 5))
theorem stock_sub {s s' : Nat → Int32} {l : Nat} {x y : Int32} (h3 : s' (255 + 6 * l) = s (255 + 6 * l) - y) (h4 : s (250 + 6 * l) = x) : ∀ m, l < m → (∀ q, q < m → s' (250 + 6 * q) = s (250 + 6 * q)) → (∀ q, q < m → q ≠ l → s' (255 + 6 * q) = s (255 + 6 * q)) → stockF s' x m = stockF s x m - y
  | 0, h, _, _ => absurd h (by omega)
  | m + 1, h, h1, h2 => by
    unfold stockF
    by_cases e : m = l
    · subst e
      rw [stock_lt m (fun q hq => ⟨h1 q (by omega), h2 q (by omega) (by omega)⟩), h1 m (by omega), h3, if_pos h4, if_pos h4, Int32.sub_eq_add_neg, Int32.sub_eq_add_neg, Int32.add_assoc]
    · rw [stock_sub h3 h4 m (by omega) (fun q hq => h1 q (by omega)) (fun q hq => h2 q (by omega)), h1 m (by omega), h2 m (by omega) e, Int32.sub_eq_add_neg, Int32.sub_eq_add_neg, Int32.add_assoc, Int32.add_assoc, Int32.add_comm (-y)]
def GT (M : zM) (n : Nat) (c : mS) (kp bt : Nat → Option Nat) (la : Nat) (s : Nat → Int32) (nc nh nl lm wk : Nat) : Prop := PN c s nc nh nl lm wk ∧ PC M n kp s nc ∧ PB M n c bt s nc ∧ PL c s nc nl wk ∧ PS c s nl ∧ PH c s nh (wk + 1) ∧ PW c s ∧ PX M n la s nc lm
def clS (c : mS) (l i : Nat) (x : Int32) : mS := zuf (zuf (zuf (zuf c 6 (zuf (c 6) l 0)) 8 (zuf (c 8) i (c 8 i - x))) 12 (zuf (c 12) i (c 12 i + x))) 13 (zuf (c 13) 2 (c 13 2 + x))
section
variable {M : zM} {n : Nat} {c : mS} {kp bt : Nat → Option Nat} {la : Nat} {s : Nat → Int32} {l i : Nat} {nc nh nl lm wk : Nat}
theorem GT.spoil (hB : GT M n c kp bt la s nc nh nl lm wk) (hl : l < nl) (hi : i < nc) (hs : s (250 + 6 * l) = nI i) : GT M n (clS c l i (s (250 + 6 * l + 5))) kp bt la (spS s l i) nc nh nl lm wk := by
  obtain ⟨hN, hC, hPB, hL, hS, hH, hW, hX⟩ := hB
  have g1 : nc ≤ 8 := hN.2.1
  have g2 : nh ≤ 10 := hN.2.2.2.1
  have g3 : nl ≤ 240 := hN.2.2.2.2.2.1
  have g4 : lm ≤ 20 := hN.2.2.2.2.2.2.2.1
  have hy : ∀ k, k ≠ 59 + 10 * i → k ≠ 255 + 6 * l → spS s l i k = s k := fun k a1 a2 => by
    unfold spS
    rw [zuf_ne _ _ (by omega), zuf_ne _ _ (by omega)]
  have y9 : spS s l i (59 + 10 * i) = s (59 + 10 * i) + s (250 + 6 * l + 5) := by
    unfold spS
    rw [zuf_ne _ _ (by omega), show 59 + 10 * i = 50 + 10 * i + 9 by omega, zuf_self]
  have y5 : spS s l i (255 + 6 * l) = 0 := by
    unfold spS
    rw [show 255 + 6 * l = 250 + 6 * l + 5 by omega, zuf_self]
  generalize hx : s (250 + 6 * l + 5) = x at *
  have hc : ∀ j, j ≠ 6 → j ≠ 8 → j ≠ 12 → j ≠ 13 → clS c l i x j = c j := fun j a1 a2 a3 a4 => by
    unfold clS
    rw [zuf_ne _ _ a4, zuf_ne _ _ a3, zuf_ne _ _ a2, zuf_ne _ _ a1]
  have c6 : clS c l i x 6 = zuf (c 6) l 0 := rfl
  have c8 : clS c l i x 8 = zuf (c 8) i (c 8 i - x) := rfl
  have c12 : clS c l i x 12 = zuf (c 12) i (c 12 i + x) := rfl
  refine ⟨hN.cg2 (fun k hk => hy k (by omega) (by omega)) (fun q a b k a2 b2 => hy _ (by omega) (by omega)) (hc 0 (by omega) (by omega) (by omega) (by omega)) (fun b hb => by rw [hc _ (by omega) (by omega) (by omega) (by omega)]) (fun q hq => Or.inl (by rw [hc _ (by omega) (by omega) (by omega) (by omega)])), hC.cg g1 (fun k hk => hy k (by omega) (by omega)), hPB.cg g1 (fun k hk => hy k (by omega) (by omega)) (fun b hb => hc _ (by omega) (by omega) (by omega) (by omega)), fun q hq => ?_, fun q hq => ?_, hH.cg g2 (fun k hk => hy k (by omega) (by omega)) (fun j hj => hc _ (by omega) (by omega) (by omega) (by omega)), hW.cg (fun k hk => hy k (by omega) (by omega)) (hc 7 (by omega) (by omega) (by omega) (by omega)), hX.cg g4 (fun k hk => hy k (by omega) (by omega))⟩
  · obtain ⟨z1, z2, z3, z4⟩ := hL q hq
    rw [hy (250 + 6 * q) (by omega) (by omega), hy (253 + 6 * q) (by omega) (by omega)]
    refine ⟨fun j hj => ?_, z2, ?_, z4⟩
    · by_cases ej : j = 5
      · subst ej
        show clS c l i x 6 q = _
        rw [c6]
        by_cases e : q = l
        · subst e
          rw [zuf_self, show 250 + 6 * q + 5 = 255 + 6 * q by omega, y5]
        · rw [zuf_ne _ _ e, hy _ (by omega) (by omega)]
          exact z1 5 (by omega)
      · rw [hc _ (by omega) (by omega) (by omega) (by omega), hy _ (by omega) (by omega)]
        exact z1 j hj
    · by_cases e : q = l
      · subst e
        rw [y5]
        decide
      · rw [hy _ (by omega) (by omega)]
        exact z3
  · obtain ⟨z1, z2, z3, z4, z5⟩ := hS q hq
    have s1 : ∀ x', x' < nl → spS s l i (250 + 6 * x') = s (250 + 6 * x') := fun x' hx => hy _ (by omega) (by omega)
    have s2 : ∀ x', x' < nl → x' ≠ l → spS s l i (255 + 6 * x') = s (255 + 6 * x') := fun x' hx hxl => hy _ (by omega) (by omega)
    have yl : spS s l i (255 + 6 * l) = s (255 + 6 * l) - x := by rw [y5, show 255 + 6 * l = 250 + 6 * l + 5 by omega, hx, Int32.sub_self]
    rw [c8, c12, hc 9 (by omega) (by omega) (by omega) (by omega), hc 10 (by omega) (by omega) (by omega) (by omega), hc 11 (by omega) (by omega) (by omega) (by omega), hy (56 + 10 * q) (by omega) (by omega), hy (57 + 10 * q) (by omega) (by omega), hy (58 + 10 * q) (by omega) (by omega)]
    by_cases e : q = i
    · subst e
      rw [zuf_self, zuf_self, stock_sub yl hs nl hl s1 s2, y9, ← z1, ← z5]
      exact ⟨rfl, z2, z3, z4, rfl⟩
    · rw [zuf_ne _ _ e, zuf_ne _ _ e, stock_oth (by rw [hs]; exact fun z => e (zn_inj (by omega) (by omega) z.symm)) nl s1 s2, hy (59 + 10 * q) (by omega) (by omega)]
      exact ⟨z1, z2, z3, z4, z5⟩
end
section
variable {M0 : zM} {g : Nat} {c0 : mS} {kp bt : Nat → Option Nat} {la : Nat} {d n w nn nc nh nl lm wk : Nat}
theorem sl_loop {R : (Nat → Int32) × Int32} {Q : Option Value → Nat → Nat → zM → Prop} (hg : 48 ≤ g ∧ g + 76 ≤ 300) (hQ : ∀ M c, Gc M g c kp bt la → (∀ k, k < g ∨ g + 76 ≤ k → M k = M0 k) → GT M0 nn c kp bt la R.1 nc nh nl lm wk → c 13 0 = c0 13 0 → c 13 1 = c0 13 1 → c 13 2 = R.2 → c 13 3 = c0 13 3 → Q none n w M) : ∀ (t l : Nat) (M : zM) (c : mS) (s : Nat → Int32) (S : Int32) (x2 x3 : Option Value), l + t = nl → Gc M g c kp bt la → (∀ k, k < g ∨ g + 76 ≤ k → M k = M0 k) → GT M0 nn c kp bt la s nc nh nl lm wk → spF t l s S = R → c 13 0 = c0 13 0 → c 13 1 = c0 13 1 → c 13 2 = S → c 13 3 = c0 13 3 → zR ztb (d + 2) kX2_spoilLots 0 2 [some (.ref g), some (.int (nI l)), x2, x3] [] n w M Q
  | t, l, M, c, s, S, x2, x3, ht, hG, hF, hB, hR, k0, k1, k2, k3 => by
    have hB' := hB
    obtain ⟨hN, hC, hPB, hL, hS, hHs, hW, hX⟩ := hB'
    obtain ⟨N1, N2, N3, N4, N5, N6, N7, N8, N9, N10, N11, N12, N13, N14, N15, N16, N17⟩ := hN
    have hlo := hG.lo
    rw [N15, N5] at hlo
    refine zR.step rfl ?_
    match t, ht, hR with
    | 0, ht, hR =>
      have e2 : l = nl := by omega
      subst e2
      subst hR
      have e : ¬ nI l < nI l := zI_nlt (Nat.le_refl _) (by omega)
      repeat (first | ((with_reducible refine zR.stored ?_); dsimp only [zsto, zclr, zset, zget, zc2, cond_false, cond_true]) | ((with_reducible refine zR.atLit ?_); first | refine zR.step rfl ?_ | refine zR.getf rfl (hG.o) rfl ?_ | refine zR.getf rfl (hlo) rfl ?_) | rw [zcc1] | rw [zcc2] | rw [zcc3] | rw [zcc4] | rw [zn1 (e)] | rw [zn2 (e)] | rw [zn3 (e)] | rw [zn4 (e)])
      exact zR.ret rfl rfl (hQ M c hG hF hB k0 k1 k2 k3)
    | t + 1, ht, hR =>
      have e : nI l < nI nl := zI_ylt (by omega) (by omega)
      have hl : l < nl := by omega
      obtain ⟨z1, ⟨i, hi, z2⟩, z3, z4⟩ := hL l hl
      have c1 : c 1 l = nI i := (z1 0 (by omega)).trans z2
      have c4 : c 4 l = s (250 + 6 * l + 3) := z1 3 (by omega)
      have c6 : c 6 l = s (250 + 6 * l + 5) := z1 5 (by omega)
      obtain ⟨⟨ca, ck, ca3, can, cm⟩, -⟩ := hC.1 i hi
      have ec : inI (nI i) 0 (c 0 0 - 1) = 1 := by
        rw [N11, N1, zI_pred (by omega) (by omega)]
        exact inI_y (lo := 0) (by omega) (by omega) (by omega)
      have hcm : M ca = .inr (1, [.int (nI i), .int (s (50 + 10 * i)), .int (s (51 + 10 * i)), .int (s (52 + 10 * i)), .int (s (53 + 10 * i)), .int (s (50 + 10 * i + 4)), .int (s (55 + 10 * i))]) := by
        rw [hF ca (by omega), cm]
        unfold cropF
        rw [show 54 + 10 * i = 50 + 10 * i + 4 by omega]
      have ho := hG.o
      rw [N13] at ho
      rw [spF, z2, nI_clamp (by omega)] at hR
      by_cases q : spP s l i
      · rw [if_pos q] at hR
        have ih := sl_loop hg hQ t (l + 1) M c s S (some (.ref ca)) x3 (by omega) hG hF hB hR k0 k1 k2 k3
        rw [← zI_s] at ih
        repeat (first | with_reducible refine zR.hold (pc := 2) ?_ | ((with_reducible refine zR.stored ?_); dsimp only [zsto, zclr, zset, zget, zc2, cond_false, cond_true]) | ((with_reducible refine zR.atLit ?_); first | refine zR.step rfl ?_ | refine zR.getf rfl (ho) rfl ?_ | refine zR.getf rfl (hlo) rfl ?_ | (refine zR.iald rfl hG.l0 (Or.inl rfl) (i := l) rfl (by omega) (by omega) ?_; rw [c1]) | refine zR.cv rfl rfl rfl hG.o rfl rfl (zCalP.of (c_cropAt_y hG ec (by omega) ck) ?_) | (refine zR.iald rfl hG.l3 (Or.inl rfl) (i := l) rfl (by omega) (by omega) ?_; rw [c4]) | refine zR.getf rfl hcm rfl ?_) | rw [zcc1] | rw [zcc2] | rw [zcc3] | rw [zcc4] | rw [zb1 (e)] | rw [zb2 (e)] | rw [zb3 (e)] | rw [zb4 (e)] | rw [zb1 (q)] | rw [zb2 (q)] | rw [zb3 (q)] | rw [zb4 (q)])
        exact ⟨trivial, ih⟩
      · rw [if_neg q] at hR
        repeat (first | ((with_reducible refine zR.stored ?_); dsimp only [zsto, zclr, zset, zget, zc2, cond_false, cond_true]) | ((with_reducible refine zR.atLit ?_); first | refine zR.step rfl ?_ | refine zR.getf rfl (ho) rfl ?_ | refine zR.getf rfl (hlo) rfl ?_ | (refine zR.iald rfl hG.l0 (Or.inl rfl) (i := l) rfl (by omega) (by omega) ?_; rw [c1]) | refine zR.cv rfl rfl rfl hG.o rfl rfl (zCalP.of (c_cropAt_y hG ec (by omega) ck) ?_) | (refine zR.iald rfl hG.l3 (Or.inl rfl) (i := l) rfl (by omega) (by omega) ?_; rw [c4]) | refine zR.getf rfl hcm rfl ?_ | (refine zR.iald rfl hG.l5 (Or.inl rfl) (i := l) rfl (by omega) (by omega) ?_; rw [c6])) | rw [zcc1] | rw [zcc2] | rw [zcc3] | rw [zcc4] | rw [zb1 (e)] | rw [zb2 (e)] | rw [zb3 (e)] | rw [zb4 (e)] | rw [zn1 (q)] | rw [zn2 (q)] | rw [zn3 (q)] | rw [zn4 (q)])
        refine zR.iast rfl hG.l5 (i := l) rfl (by omega) (by decide) ?_
        have hG1 := hG.upL (j := 5) (by omega) (zuf (c 6) l 0)
        have m1 : zup M (g + 10) (.inl (0, 240, .inl (zuf (c 6) l 0))) ca = _ := (zup_ne _ _ (by omega)).trans hcm
        repeat (first | ((with_reducible refine zR.stored ?_); dsimp only [zsto, zclr, zset, zget, zc2, cond_false, cond_true]) | ((with_reducible refine zR.atLit ?_); first | refine zR.step rfl ?_ | refine zR.getf rfl (hG1.o) rfl ?_ | refine zR.getf rfl m1 rfl ?_ | refine zR.iald rfl hG1.s0 (Or.inl rfl) (i := i) rfl (by omega) (by omega) ?_) | rw [zcc1] | rw [zcc2] | rw [zcc3] | rw [zcc4])
        refine zR.iast rfl hG1.s0 (i := i) rfl (by omega) (by decide) ?_
        have hG2 := hG1.upS (j := 0) (by omega) (zuf (c 8) i (c 8 i - s (250 + 6 * l + 5)))
        have m2 : zup (zup M (g + 10) (.inl (0, 240, .inl (zuf (c 6) l 0)))) (g + 12) (.inl (0, 8, .inl (zuf (c 8) i (c 8 i - s (250 + 6 * l + 5))))) ca = _ := (zup_ne _ _ (by omega)).trans m1
        repeat (first | ((with_reducible refine zR.stored ?_); dsimp only [zsto, zclr, zset, zget, zc2, cond_false, cond_true]) | ((with_reducible refine zR.atLit ?_); first | refine zR.step rfl ?_ | refine zR.getf rfl (hG2.o) rfl ?_ | refine zR.getf rfl m2 rfl ?_ | refine zR.iald rfl hG2.s4 (Or.inl rfl) (i := i) rfl (by omega) (by omega) ?_) | rw [zcc1] | rw [zcc2] | rw [zcc3] | rw [zcc4])
        refine zR.iast rfl hG2.s4 (i := i) rfl (by omega) (by decide) ?_
        have hG3 := hG2.upS (j := 4) (by omega) (zuf (c 12) i (c 12 i + s (250 + 6 * l + 5)))
        repeat (first | ((with_reducible refine zR.stored ?_); dsimp only [zsto, zclr, zset, zget, zc2, cond_false, cond_true]) | ((with_reducible refine zR.atLit ?_); first | refine zR.step rfl ?_ | refine zR.getf rfl (hG3.o) rfl ?_ | refine zR.iald rfl hG3.su (Or.inl rfl) (i := 2) rfl (by omega) (by omega) ?_) | rw [zcc1] | rw [zcc2] | rw [zcc3] | rw [zcc4])
        refine zR.iast rfl hG3.su (i := 2) rfl (by omega) (by decide) ?_
        have hG4 := hG3.upSu (zuf (c 13) 2 (c 13 2 + s (250 + 6 * l + 5)))
        have ih := sl_loop hg hQ t (l + 1) _ (clS c l i (s (250 + 6 * l + 5))) _ (S + s (250 + 6 * l + 5)) (some (.ref ca)) (some (.int (s (250 + 6 * l + 5)))) (by omega) hG4 (fun k hk => by rw [zup_ne _ _ (by omega), zup_ne _ _ (by omega), zup_ne _ _ (by omega), zup_ne _ _ (by omega)]; exact hF k hk) (hB.spoil hl hi z2) hR (by exact k0) (by exact k1) (by show c 13 2 + s (250 + 6 * l + 5) = _; rw [k2]) (by exact k3)
        rw [← zI_s] at ih
        repeat (first | with_reducible refine zR.hold (pc := 2) ?_ | ((with_reducible refine zR.stored ?_); dsimp only [zsto, zclr, zset, zget, zc2, cond_false, cond_true]) | ((with_reducible refine zR.atLit ?_); first | refine zR.step rfl ?_) | rw [zcc1] | rw [zcc2] | rw [zcc3] | rw [zcc4])
        exact ⟨trivial, ih⟩
end
section
variable {M0 : zM} {σ : mS} {d n w nc nh nl lm wk : Nat}
theorem sr_loop {R : (Nat → Int32) × Int32} {W : Int32} {Q : Option Value → Nat → Nat → zM → Prop} (hQ : ∀ M, RS M σ R.1 W R.2 → Sm M0 M → Q none n w M) : ∀ (t l : Nat) (M : zM) (s : Nat → Int32) (S : Int32) (x2 : Option Value), l + t = nl → (∃ Mk nk ck kp bt la, GT Mk nk ck kp bt la s nc nh nl lm wk) → spF t l s S = R → RS M σ s W S → Sm M0 M → zR ztb (d + 1) kX12_spoils 0 2 [some (.ref 287), some (.int (nI l)), x2] [] n w M Q
  | t, l, M, s, S, x2, ht, hB, hR', hRS, hS => by
    obtain ⟨Mk, nk, ck, kpk, btk, lak, hB⟩ := hB
    have hB' := hB
    obtain ⟨hN, hC, hPB, hL, hSt, hHs, hW, hX⟩ := hB'
    have g1 : nc ≤ 8 := hN.2.1
    have g3 : nl ≤ 240 := hN.2.2.2.2.2.1
    have N5 : s 3 = nI nl := hN.2.2.2.2.1
    obtain ⟨ρ, hR, r0, rr, r12, r27, r28⟩ := hRS
    replace hR := hR.toY
    rw [r0] at hR
    refine zR.step rfl ?_
    match t, ht, hR' with
    | 0, ht, hR' =>
      have e2 : l = nl := by omega
      subst e2
      subst hR'
      have e : ¬ nI l < nI l := zI_nlt (Nat.le_refl _) (by omega)
      repeat (first | ((with_reducible refine zR.stored ?_); dsimp only [zsto, zclr, zset, zget, zc2, cond_false, cond_true]) | ((with_reducible refine zR.atLit ?_); first | refine zR.step rfl ?_ | refine zR.getf rfl (hR.1) rfl ?_ | (refine zR.ilY hR rfl (i := 3) rfl (by omega) ?_; rw [N5])) | rw [zcc1] | rw [zcc2] | rw [zcc3] | rw [zcc4] | rw [zn1 (e)] | rw [zn2 (e)] | rw [zn3 (e)] | rw [zn4 (e)])
      exact zR.ret rfl rfl (hQ M ⟨_, hR, zuf_self _ _ _, fun j a1 a2 a3 a4 => by rw [zuf_ne _ _ a1]; exact rr j a1 a2 a3 a4, r12, r27, r28⟩ hS)
    | t + 1, ht, hR' =>
      have e : nI l < nI nl := zI_ylt (by omega) (by omega)
      have hl : l < nl := by omega
      obtain ⟨z1, ⟨i, hi, z2⟩, z3, z4⟩ := hL l hl
      rw [spF, z2, nI_clamp (by omega)] at hR'
      have h28' : ∀ y, zuf ρ 0 y 12 28 = S := fun y => r28
      by_cases q : spP s l i
      · rw [if_pos q] at hR'
        have ih := sr_loop hQ t (l + 1) M s S (some (.int (250 + 6 * nI l))) (by omega) ⟨Mk, nk, ck, kpk, btk, lak, hB⟩ hR' ⟨_, hR, zuf_self _ _ _, fun j a1 a2 a3 a4 => by rw [zuf_ne _ _ a1]; exact rr j a1 a2 a3 a4, r12, r27, r28⟩ hS
        rw [← zI_s] at ih
        repeat (first | with_reducible refine zR.hold (pc := 2) ?_ | ((with_reducible refine zR.stored ?_); dsimp only [zsto, zclr, zset, zget, zc2, cond_false, cond_true]) | ((with_reducible refine zR.atLit ?_); first | refine zR.step rfl ?_ | refine zR.getf rfl (hR.1) rfl ?_ | (refine zR.ilY hR rfl (i := 3) rfl (by omega) ?_; rw [N5]) | (refine zR.ilY hR rfl (by (try simp only [zn_lit, zn_add, zn_mul]); rfl) (by omega) ?_) | refine zR.cv rfl rfl rfl hR.1 rfl rfl (zCalP.of (c_cropIsY hR i 4 (by omega)) ?_)) | rw [zcc1] | rw [zcc2] | rw [zcc3] | rw [zcc4] | rw [zb1 (e)] | rw [zb2 (e)] | rw [zb3 (e)] | rw [zb4 (e)] | rw [z2] | rw [zb1 (q)] | rw [zb2 (q)] | rw [zb3 (q)] | rw [zb4 (q)])
        exact ⟨trivial, ih⟩
      · rw [if_neg q] at hR'
        repeat (first | ((with_reducible refine zR.stored ?_); dsimp only [zsto, zclr, zset, zget, zc2, cond_false, cond_true]) | ((with_reducible refine zR.atLit ?_); first | refine zR.step rfl ?_ | refine zR.getf rfl (hR.1) rfl ?_ | (refine zR.ilY hR rfl (i := 3) rfl (by omega) ?_; rw [N5]) | (refine zR.ilY hR rfl (by (try simp only [zn_lit, zn_add, zn_mul]); rfl) (by omega) ?_) | refine zR.cv rfl rfl rfl hR.1 rfl rfl (zCalP.of (c_cropIsY hR i 4 (by omega)) ?_)) | rw [zcc1] | rw [zcc2] | rw [zcc3] | rw [zcc4] | rw [zb1 (e)] | rw [zb2 (e)] | rw [zb3 (e)] | rw [zb4 (e)] | rw [z2] | rw [zn1 (q)] | rw [zn2 (q)] | rw [zn3 (q)] | rw [zn4 (q)])
        refine zR.isY hR hS rfl (i := 50 + 10 * i + 9) (by simp only [zn_lit, zn_add, zn_mul]) (by omega) (fun M2 hR hS => ?_)
        repeat (first | ((with_reducible refine zR.stored ?_); dsimp only [zsto, zclr, zset, zget, zc2, cond_false, cond_true]) | ((with_reducible refine zR.atLit ?_); first | refine zR.step rfl ?_ | (refine zR.getf rfl hR.1 rfl ?_; rw [h28']) | refine zR.getf rfl (hR.1) rfl ?_ | (refine zR.ilY hR rfl (by (try simp only [zn_lit, zn_add, zn_mul]); rfl) (by omega) ?_; rw [zuf_ne _ _ (by omega)])) | rw [zcc1] | rw [zcc2] | rw [zcc3] | rw [zcc4])
        refine zR.putR hR hS rfl rfl rfl rfl (fun M3 hR hS => ?_)
        rw [zuf_cm _ _ _ (show 0 ≠ 12 by omega)] at hR
        repeat (first | ((with_reducible refine zR.stored ?_); dsimp only [zsto, zclr, zset, zget, zc2, cond_false, cond_true]) | ((with_reducible refine zR.atLit ?_); first | refine zR.step rfl ?_ | refine zR.getf rfl (hR.1) rfl ?_) | rw [zcc1] | rw [zcc2] | rw [zcc3] | rw [zcc4])
        refine zR.isY hR hS rfl (i := 250 + 6 * l + 5) (by simp only [zn_lit, zn_add, zn_mul]) (by omega) (fun M4 hR hS => ?_)
        have ih := sr_loop hQ t (l + 1) M4 (spS s l i) (S + s (250 + 6 * l + 5)) (some (.int (250 + 6 * nI l))) (by omega) ⟨Mk, nk, _, kpk, btk, lak, hB.spoil hl hi z2⟩ hR' ⟨_, hR, zuf_self _ _ _, fun j a1 a2 a3 a4 => by rw [zuf_ne _ _ a1, zuf_ne _ _ a4]; exact rr j a1 a2 a3 a4, fun k a1 a2 a3 => by rw [zuf_ne _ _ (by omega), zuf_self, zuf_ne _ _ a3]; exact r12 k a1 a2 a3, by rw [zuf_ne _ _ (by omega), zuf_self, zuf_ne _ _ (by omega)]; exact r27, by rw [zuf_ne _ _ (by omega), zuf_self, zuf_self]⟩ hS
        rw [← zI_s] at ih
        repeat (first | with_reducible refine zR.hold (pc := 2) ?_ | ((with_reducible refine zR.stored ?_); dsimp only [zsto, zclr, zset, zget, zc2, cond_false, cond_true]) | ((with_reducible refine zR.atLit ?_); first | refine zR.step rfl ?_) | rw [zcc1] | rw [zcc2] | rw [zcc3] | rw [zcc4])
        exact ⟨trivial, ih⟩
end
