
/-! isMet as a call. -/
/-- where a line's steps begin -/
theorem c_isMet {M : zM} {g : Nat} {c : mS} {kp bt : Nat → Option Nat} {la la2 lm sc : Nat} {r : mS} {s : Nat → Int32} {d n w nl h b e ln : Nat} (hG : Gc M g c kp bt la) (hL : Lc M la2 lm sc r) (hsc : sc ≤ 100) (hlm : lm ≤ 20) (hh : h < 10) (hbe : b ≤ e) (he : e ≤ sc) (hln : ln < lm) (hend : r 2 ln = nI e) (hbeg : (ln = 0 ∧ b = 0) ∨ (0 < ln ∧ r 2 (ln - 1) = nI b)) (hwf : b = e ∨ wfS s (e - b) b 0) (hst : ∀ k, k < sc → stepR (r 3 k) (r 4 k) (r 5 k) (r 6 k) (s (2200 + 4 * k)) (s (2201 + 4 * k)) (s (2202 + 4 * k)) (s (2203 + 4 * k)) ∧ (s (2200 + 4 * k) = 6 ∨ s (2200 + 4 * k) = 7 → ∃ i, i < 8 ∧ s (2201 + 4 * k) = nI i)) (hS : ∀ i, i < 8 → c 8 i = stockF s (nI i) nl) (hwk : c 0 2 = s 0) (hH : ∀ q, q < 8 → c (40 + h) q = s (1708 + 40 * h + q)) (hz : c (30 + h) 0 = s (1700 + 40 * h)) : zCall (d + 2) 52 [.ref la2, .int (nI ln), .ref g, .ref (g + 26 + 5 * h)] n w M (some (.int (if encN (evS s nl h (e - b) b []) % 2 = 1 then 1 else 0))) n w M := by
  intro Q hQ
  have l2 : M (la2 + 3) = .inl (0, lm, .inl (r 2)) := hL.2 2 (by omega)
  have ew : inI (nI ln) 0 (nI lm - 1) = 1 := by
    rw [zI_pred (by omega) (by omega)]
    exact inI_y (lo := 0) (by omega) (by omega) (by omega)
  have lp := fun v7 v8 => met_loop (d := d) (n := n) (w := w) (Q := Q) (ln := ln) hG hL hsc hlm hh he hln hend hst hS hwk hH hz (e - b) b [] v7 v8 (by omega) (by decide) (by
    rcases hwf with z | z
    · exact Or.inl (by omega)
    · exact Or.inr z) hQ
  show zR ztb _ kX5_isMet 2 0 [some (.ref la2), some (.int (nI ln)), some (.ref g), some (.ref (g + 26 + 5 * h)), none, none, none, none, none] [] _ _ _ _
  rcases hbeg with ⟨z1, z2⟩ | ⟨z1, z2⟩
  · subst z1; subst z2
    have e0 : nI 0 = 0 := rfl
    repeat (first | with_reducible refine zR.hold (pc := 37) ?_ | ((with_reducible refine zR.stored2 ?_); dsimp only [zsto2, zsto, zclr, zset, zget, zc2, cond_false, cond_true]) | ((with_reducible refine zR.stored ?_); dsimp only [zsto, zclr, zset, zget, zc2, cond_false, cond_true]) | ((with_reducible refine zR.atLit ?_); first | refine zR.step rfl ?_ | refine zR.getf rfl (hL.1) rfl ?_ | refine zR.cs rfl rfl rfl rfl rfl (zCalP.of (c_isWithin _ _ _) ?_)) | rw [zcc1] | rw [zcc2] | rw [zcc3] | rw [zcc4] | rw [ew] | rw [zb1 (by decide)] | rw [zb2 (by decide)] | rw [zb3 (by decide)] | rw [zb4 (by decide)] | rw [zn1 (by decide)] | rw [zn2 (by decide)] | rw [zn3 (by decide)] | rw [zn4 (by decide)] | rw [ze1 (by decide)] | rw [ze2 (by decide)] | rw [zd1 (by decide)] | rw [zd2 (by decide)] | rw [zswy (by decide)] | rw [zswn (by decide)] | rw [zsw0])
    exact ⟨trivial, lp _ _⟩
  · have e0 : ¬ nI ln = 0 := fun h => by have := zn_inj (b := 0) (by omega) (by omega) h; omega
    have ep : nI ln - 1 = nI (ln - 1) := zI_pred z1 (by omega)
    repeat (first | with_reducible refine zR.hold (pc := 37) ?_ | ((with_reducible refine zR.stored2 ?_); dsimp only [zsto2, zsto, zclr, zset, zget, zc2, cond_false, cond_true]) | ((with_reducible refine zR.stored ?_); dsimp only [zsto, zclr, zset, zget, zc2, cond_false, cond_true]) | ((with_reducible refine zR.atLit ?_); first | refine zR.step rfl ?_ | refine zR.getf rfl (hL.1) rfl ?_ | refine zR.cs rfl rfl rfl rfl rfl (zCalP.of (c_isWithin _ _ _) ?_) | (refine zR.iald rfl l2 (Or.inl rfl) (i := ln - 1) ep (by omega) (by omega) ?_; rw [z2])) | rw [zcc1] | rw [zcc2] | rw [zcc3] | rw [zcc4] | rw [ew] | rw [zd1 (e0)] | rw [zd2 (e0)])
    exact ⟨trivial, lp _ _⟩
