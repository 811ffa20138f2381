
/-! house. -/
def hseR (a b : Int32) : Nat → Int32 := fun k => if k = 0 then a else if k = 1 then b else 0
theorem c_moveIn {M : zM} {d n w a : Nat} {r f : Nat → Int32} (hM : M a = .inr (3, hof a r)) (hf : M (a + 1) = .inl (0, 8, .inl f)) (x y : Int32) : zCall (d + 1) 36 [.ref a, .int x, .int y] n w M none n w (zup (zup M a (.inr (3, hof a (hseR x y)))) (a + 1) (.inl (0, 8, .inl (fillF f (-1) 8)))) := by
  intro Q hQ
  show zR ztb _ kX3_moveIn 0 0 [some (.ref a), some (.int x), some (.int y)] [] _ _ _ _
  repeat (first | ((with_reducible refine zR.stored ?_); dsimp only [zsto, zclr, zset, zget, zc2, cond_false, cond_true]) | ((with_reducible refine zR.atLit ?_); first | refine zR.step rfl ?_) | rw [zcc1] | rw [zcc2] | rw [zcc3] | rw [zcc4])
  refine zR.putf rfl hM rfl rfl ?_
  repeat (first | ((with_reducible refine zR.stored ?_); dsimp only [zsto, zclr, zset, zget, zc2, cond_false, cond_true]) | ((with_reducible refine zR.atLit ?_); first | refine zR.step rfl ?_) | rw [zcc1] | rw [zcc2] | rw [zcc3] | rw [zcc4])
  refine zR.putf rfl (zup_self _ _ _) rfl rfl ?_
  rw [zup_up]
  repeat (first | ((with_reducible refine zR.stored ?_); dsimp only [zsto, zclr, zset, zget, zc2, cond_false, cond_true]) | ((with_reducible refine zR.atLit ?_); first | refine zR.step rfl ?_) | rw [zcc1] | rw [zcc2] | rw [zcc3] | rw [zcc4])
  refine zR.putf rfl (zup_self _ _ _) rfl rfl ?_
  rw [zup_up]
  repeat (first | ((with_reducible refine zR.stored ?_); dsimp only [zsto, zclr, zset, zget, zc2, cond_false, cond_true]) | ((with_reducible refine zR.atLit ?_); first | refine zR.step rfl ?_) | rw [zcc1] | rw [zcc2] | rw [zcc3] | rw [zcc4])
  refine zR.putf rfl (zup_self _ _ _) rfl rfl ?_
  rw [zup_up]
  repeat (first | ((with_reducible refine zR.stored ?_); dsimp only [zsto, zclr, zset, zget, zc2, cond_false, cond_true]) | ((with_reducible refine zR.atLit ?_); first | refine zR.step rfl ?_) | rw [zcc1] | rw [zcc2] | rw [zcc3] | rw [zcc4])
  refine zR.putf rfl (zup_self _ _ _) rfl rfl ?_
  rw [zup_up]
  repeat (first | ((with_reducible refine zR.stored ?_); dsimp only [zsto, zclr, zset, zget, zc2, cond_false, cond_true]) | ((with_reducible refine zR.atLit ?_); first | refine zR.step rfl ?_) | rw [zcc1] | rw [zcc2] | rw [zcc3] | rw [zcc4])
  refine zR.putf rfl (zup_self _ _ _) rfl rfl ?_
  rw [zup_up]
  repeat (first | ((with_reducible refine zR.stored ?_); dsimp only [zsto, zclr, zset, zget, zc2, cond_false, cond_true]) | ((with_reducible refine zR.atLit ?_); first | refine zR.step rfl ?_) | rw [zcc1] | rw [zcc2] | rw [zcc3] | rw [zcc4])
  refine zR.putf rfl (zup_self _ _ _) rfl rfl ?_
  rw [zup_up]
  repeat (first | ((with_reducible refine zR.stored ?_); dsimp only [zsto, zclr, zset, zget, zc2, cond_false, cond_true]) | ((with_reducible refine zR.atLit ?_); first | refine zR.step rfl ?_ | refine zR.getf rfl (zup_self _ _ _) rfl ?_) | rw [zcc1] | rw [zcc2] | rw [zcc3] | rw [zcc4])
  refine zR.cs rfl rfl rfl rfl rfl (zCalP.of (c_fill (-1) ((zup_ne _ _ (by omega)).trans hf) (by decide)) ?_)
  repeat (first | ((with_reducible refine zR.stored ?_); dsimp only [zsto, zclr, zset, zget, zc2, cond_false, cond_true]) | ((with_reducible refine zR.atLit ?_); first | refine zR.step rfl ?_) | rw [zcc1] | rw [zcc2] | rw [zcc3] | rw [zcc4])
  exact zR.ret rfl rfl hQ
theorem c_addHouse {M : zM} {g : Nat} {c : mS} {kp bt : Nat → Option Nat} {la : Nat} {d n w m : Nat} (hG : Gc M g c kp bt la) (h0 : c 0 1 = nI m) (hm : m < 10) (x y : Int32) : zCalP (d + 2) 15 [.ref g, .int x, .int y] n w M (fun v n' w' M' => v = some (.int (nI m)) ∧ n = n' ∧ w = w' ∧ Gc M' g (zuf (zuf (zuf c (30 + m) (hseR x y)) (40 + m) (fillF (c (40 + m)) (-1) 8)) 0 (zuf (c 0) 1 (nI m + 1))) kp bt la ∧ ∀ k, k < g ∨ g + 76 ≤ k → M' k = M k) := by
  show zR ztb _ kX2_addHouse 1 0 [some (.ref g), some (.int x), some (.int y)] [] _ _ _ _
  have e1 : nI m < 10 := zI_ylt (b := 10) (by omega) (by omega)
  have e0 : nI m + 1 - 1 = nI m := by rw [zI_s, zI_pred (by omega) (by omega)]; rfl
  have ho := hG.o
  rw [h0] at ho
  repeat (first | ((with_reducible refine zR.stored ?_); dsimp only [zsto, zclr, zset, zget, zc2, cond_false, cond_true]) | ((with_reducible refine zR.atLit ?_); first | refine zR.step rfl ?_ | refine zR.getf rfl (ho) rfl ?_) | rw [zcc1] | rw [zcc2] | rw [zcc3] | rw [zcc4] | rw [zb1 (e1)] | rw [zb2 (e1)] | rw [zb3 (e1)] | rw [zb4 (e1)])
  refine zR.aald rfl hG.hr (Or.inr (Or.inr (Or.inl rfl))) (i := m) rfl (by omega) (by decide) ?_
  rw [hrow_y hm]
  repeat (first | ((with_reducible refine zR.stored ?_); dsimp only [zsto, zclr, zset, zget, zc2, cond_false, cond_true]) | ((with_reducible refine zR.atLit ?_); first | refine zR.step rfl ?_) | rw [zcc1] | rw [zcc2] | rw [zcc3] | rw [zcc4])
  refine zR.cv rfl rfl rfl (hG.h0 hm) rfl rfl (zCalP.of (c_moveIn (hG.h0 hm) (hG.h1 hm) _ _) ?_)
  have hG1 := hG.upH hm (hseR x y)
  have hG2 := hG1.upH1 hm (fillF (c (40 + m)) (-1) 8)
  have ez : zuf (zuf c (30 + m) (hseR x y)) (40 + m) (fillF (c (40 + m)) (-1) 8) 0 = c 0 := by rw [zuf_ne _ _ (by omega), zuf_ne _ _ (by omega)]
  have ho1 := hG2.o
  rw [ez, h0] at ho1
  repeat (first | ((with_reducible refine zR.stored ?_); dsimp only [zsto, zclr, zset, zget, zc2, cond_false, cond_true]) | ((with_reducible refine zR.atLit ?_); first | refine zR.step rfl ?_ | refine zR.getf rfl (ho1) rfl ?_) | rw [zcc1] | rw [zcc2] | rw [zcc3] | rw [zcc4])
  refine zR.putf rfl ho1 rfl rfl ?_
  have hG3 := hG2.row0 (zuf (c 0) 1 (nI m + 1)) (by rw [ez]; rfl)
  repeat (first | ((with_reducible refine zR.stored ?_); dsimp only [zsto, zclr, zset, zget, zc2, cond_false, cond_true]) | ((with_reducible refine zR.atLit ?_); first | refine zR.step rfl ?_ | refine zR.getf rfl (zup_self _ _ _) rfl ?_) | rw [zcc1] | rw [zcc2] | rw [zcc3] | rw [zcc4])
  refine zR.ret rfl rfl ⟨by show some (Value.int (nI m + 1 - 1)) = _; rw [e0], rfl, rfl, hG3, fun k hk => ?_⟩
  rw [zup_ne _ _ (by omega), zup_ne _ _ (by omega), zup_ne _ _ (by omega)]
/-- the reference's loop -/
theorem hs_loop {M0 : zM} {σ : mS} {d n w m : Nat} {a1 a2 : Int32} {y0 : Nat → Int32} {Q : Option Value → Nat → Nat → zM → Prop} (hm : m < 10)
    (hQ : ∀ M y, Rf M (zuf σ 0 y) → Sm M0 M → (∀ q, q < 8 → y (1708 + 40 * m + q) = -1) → (∀ q, ¬ (1708 + 40 * m ≤ q ∧ q < 1716 + 40 * m) → y q = y0 q) → zR ztb d kX12_house 1 109 [some (.ref 287), some (.int a1), some (.int a2), some (.int (nI (1700 + 40 * m))), some (.int (nI 8))] [] n w M Q) : ∀ (t k : Nat) (M : zM) (y : Nat → Int32), k + t = 8 → Rf M (zuf σ 0 y) → Sm M0 M → (∀ q, q < k → y (1708 + 40 * m + q) = -1) → (∀ q, ¬ (1708 + 40 * m ≤ q ∧ q < 1716 + 40 * m) → y q = y0 q) → zR ztb d kX12_house 1 83 [some (.ref 287), some (.int a1), some (.int a2), some (.int (nI (1700 + 40 * m))), some (.int (nI k))] [] n w M Q
  | 0, k, M, y, h, hR, hS, h1, h2 => by
    have e2 : k = 8 := by omega
    subst e2
    have e : ¬ nI 8 < 8 := by decide
    repeat (first | with_reducible refine zR.hold (pc := 109) ?_ | ((with_reducible refine zR.stored ?_); dsimp only [zsto, zclr, zset, zget, zc2, cond_false, cond_true]) | ((with_reducible refine zR.atLit ?_); first | refine zR.step rfl ?_) | rw [zcc1] | rw [zcc2] | rw [zcc3] | rw [zcc4] | rw [zn1 (e)] | rw [zn2 (e)] | rw [zn3 (e)] | rw [zn4 (e)])
    exact ⟨trivial, hQ M y hR hS h1 h2⟩
  | t + 1, k, M, y, h, hR, hS, h1, h2 => by
    have e : nI k < 8 := zI_ylt (b := 8) (by omega) (by omega)
    refine zR.step rfl ?_
    repeat (first | ((with_reducible refine zR.stored ?_); dsimp only [zsto, zclr, zset, zget, zc2, cond_false, cond_true]) | ((with_reducible refine zR.atLit ?_); first | refine zR.step rfl ?_ | refine zR.getf rfl (hR.1) rfl ?_) | rw [zcc1] | rw [zcc2] | rw [zcc3] | rw [zcc4] | rw [zb1 (e)] | rw [zb2 (e)] | rw [zb3 (e)] | rw [zb4 (e)])
    refine zR.isY hR hS rfl (i := 1708 + 40 * m + k) (by simp only [zn_lit, zn_add, zn_mul]; exact congrArg nI (by omega)) (by omega) (fun M1 hR1 hS1 => ?_)
    have ih := hs_loop (d := d) hm hQ t (k + 1) M1 (zuf y (1708 + 40 * m + k) (-1)) (by omega) hR1 hS1 (fun q hq => by
      by_cases eq : q = k
      · subst eq
        rw [zuf_self]
      · rw [zuf_ne _ _ (by omega)]
        exact h1 q (by omega)) (fun q hq => by rw [zuf_ne _ _ (by omega)]; exact h2 q hq)
    rw [← zI_s] at ih
    repeat (first | with_reducible refine zR.hold (pc := 83) ?_ | ((with_reducible refine zR.stored ?_); dsimp only [zsto, zclr, zset, zget, zc2, cond_false, cond_true]) | ((with_reducible refine zR.atLit ?_); first | refine zR.step rfl ?_) | rw [zcc1] | rw [zcc2] | rw [zcc3] | rw [zcc4])
    exact ⟨trivial, ih⟩
theorem GR.nhouse {M : zM} {n : Nat} {c : mS} {kp bt : Nat → Option Nat} {la : Nat} {s y : Nat → Int32} {m : Nat} {a b : Int32} (h : GR M n c kp bt la s) (h4 : s 4 = nI m) (hm : m < 10) (ra : inN a 1 6) (rb : inN b 0 255) (y4 : y 4 = nI m + 1) (ya : y (1700 + 40 * m) = a) (yb : y (1701 + 40 * m) = b) (yl : ∀ q, q < 8 → y (1708 + 40 * m + q) = -1) (hy : ∀ q, q ≠ 4 → q ≠ 1700 + 40 * m → q ≠ 1701 + 40 * m → ¬ (1708 + 40 * m ≤ q ∧ q < 1716 + 40 * m) → y q = s q) : GR M n (zuf (zuf (zuf c (30 + m) (hseR a b)) (40 + m) (fillF (c (40 + m)) (-1) 8)) 0 (zuf (c 0) 1 (nI m + 1))) kp bt la y := by
  obtain ⟨nc, nh, nl, lm, wk, h1, h2, h3, h4', h5, h6, h7, h8⟩ := h
  obtain ⟨N1, N2, N3, N4, N5, N6, N7, N8, N9, N10, N11, N12, N13, N14, N15, N16, N17⟩ := h1
  have en : nh = m := zn_inj (by omega) (by omega) (N3.symm.trans h4)
  subst en
  have cne : ∀ j, j ≠ 0 → j ≠ 30 + nh → j ≠ 40 + nh → zuf (zuf (zuf c (30 + nh) (hseR a b)) (40 + nh) (fillF (c (40 + nh)) (-1) 8)) 0 (zuf (c 0) 1 (nI nh + 1)) j = c j := fun j h1 h2 h3 => by rw [zuf_ne _ _ h1, zuf_ne _ _ h3, zuf_ne _ _ h2]
  refine ⟨nc, nh + 1, nl, lm, wk, ⟨?_, N2, by rw [y4, zI_s], by omega, ?_, N6, ?_, N8, ?_, N10, ?_, ?_, ?_, ?_, ?_, fun h a b k a2 b2 => ?_, fun b hb => by rw [cne _ (by omega) (by omega) (by omega)]; exact N17.1 b hb, fun q hq => by
    by_cases e : q = nh
    · subst e
      rw [zuf_ne _ _ (by omega), zuf_ne _ _ (by omega), zuf_self]
      exact Or.inl rfl
    · rw [cne _ (by omega) (by omega) (by omega)]
      exact N17.2 q hq⟩, h2.cg N2 (fun k hk => hy k (by omega) (by omega) (by omega) (by omega)), h3.cg N2 (fun k hk => hy k (by omega) (by omega) (by omega) (by omega)) (fun b hb => cne _ (by omega) (by omega) (by omega)), h4'.cg N6 (fun k hk => hy k (by omega) (by omega) (by omega) (by omega)) (fun j hj => cne _ (by omega) (by omega) (by omega)), h5.cg N6 (fun k hk => hy k (by omega) (by omega) (by omega) (by omega)) (fun j hj => cne _ (by omega) (by omega) (by omega)), fun q hq => ?_, h7.cg (fun k hk => hy k (by omega) (by omega) (by omega) (by omega)) (cne _ (by omega) (by omega) (by omega)), h8.cg N8 (fun k hk => hy k (by omega) (by omega) (by omega) (by omega))⟩
  · rw [hy _ (by omega) (by omega) (by omega) (by omega)]; exact N1
  · rw [hy _ (by omega) (by omega) (by omega) (by omega)]; exact N5
  · rw [hy _ (by omega) (by omega) (by omega) (by omega)]; exact N7
  · rw [hy _ (by omega) (by omega) (by omega) (by omega)]; exact N9
  · rw [hy _ (by omega) (by omega) (by omega) (by omega)]; exact N11
  · rw [y4]; rfl
  · rw [hy _ (by omega) (by omega) (by omega) (by omega)]; exact N13
  · rw [hy _ (by omega) (by omega) (by omega) (by omega)]; exact N14
  · rw [hy _ (by omega) (by omega) (by omega) (by omega)]; exact N15
  · rw [hy _ (by omega) (by omega) (by omega) (by omega)]; exact N16 h (by omega) b k a2 b2
  · by_cases eq : q = nh
    · subst eq
      have z : ∀ k, 2 ≤ k → k < 7 → y (1700 + 40 * q + k) = 0 := fun k h1 h2 => by rw [hy _ (by omega) (by omega) (by omega) (by omega)]; exact N16 q (Nat.le_refl _) (by omega) k h1 h2
      have r3 : zuf (zuf (zuf c (30 + q) (hseR a b)) (40 + q) (fillF (c (40 + q)) (-1) 8)) 0 (zuf (c 0) 1 (nI q + 1)) (30 + q) = hseR a b := by rw [zuf_ne _ _ (by omega), zuf_ne _ _ (by omega), zuf_self]
      have r4 : zuf (zuf (zuf c (30 + q) (hseR a b)) (40 + q) (fillF (c (40 + q)) (-1) 8)) 0 (zuf (c 0) 1 (nI q + 1)) (40 + q) = fillF (c (40 + q)) (-1) 8 := by rw [zuf_ne _ _ (by omega), zuf_self]
      have z6 := z 6 (by omega) (by omega)
      rw [show 1700 + 40 * q + 6 = 1706 + 40 * q by omega] at z6
      refine ⟨fun k hk => ?_, fun k hk => ?_, by rw [ya]; exact ra, by rw [yb]; exact rb, by rw [show 1702 + 40 * q = 1700 + 40 * q + 2 by omega, z 2 (by omega) (by omega)]; exact inN_0, by rw [show 1703 + 40 * q = 1700 + 40 * q + 3 by omega, z 3 (by omega) (by omega)]; exact inN_0, Or.inl z6, fun h => absurd (z6.symm.trans h) (by decide)⟩
      · rw [r3]
        match k, hk with
        | 0, _ => exact ya.symm
        | 1, _ => rw [show 1700 + 40 * q + 1 = 1701 + 40 * q by omega]; exact yb.symm
        | k + 2, hk => exact (z (k + 2) (by omega) hk).symm
      · rw [r4, yl k hk]
        exact ⟨if_pos hk, Or.inl rfl⟩
    · exact PHi.cg (h6 q (by omega)) (fun k hk => hy _ (by omega) (by omega) (by omega) (by omega)) (cne _ (by omega) (by omega) (by omega)) (cne _ (by omega) (by omega) (by omega)) (cne _ (by omega) (by omega) (by omega)) (cne _ (by omega) (by omega) (by omega)) (cne _ (by omega) (by omega) (by omega))
theorem msk8 : ∀ m : Fin 9, (1 : Int32) <<< (nI m.val &&& 31) - 1 = nI (2 ^ m.val - 1) ∧ 2 ^ m.val ≤ 256 := by decide +kernel
