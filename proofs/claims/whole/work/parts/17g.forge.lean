
/-! forge: crops and sheets. -/
theorem c_isPlanted {M : zM} {d n w : Nat} : ∀ k, k ≤ 5 → zCall d 204 [.int (nI k)] n w M (some (.int (ofK k 1))) n w M
  | 0, _ => by
    intro Q hQ
    show zR ztb _ kX12_isPlanted 2 0 [some (.int 0)] [] _ _ _ _
    repeat (first | ((with_reducible refine zR.stored ?_); dsimp only [zsto, zclr, zset, zget, zc2, cond_false, cond_true]) | ((with_reducible refine zR.atLit ?_); first | refine zR.step rfl ?_) | rw [zcc1] | rw [zcc2] | rw [zcc3] | rw [zcc4] | rw [zb1 (by decide)] | rw [zb2 (by decide)] | rw [zb3 (by decide)] | rw [zb4 (by decide)] | rw [zn1 (by decide)] | rw [zn2 (by decide)] | rw [zn3 (by decide)] | rw [zn4 (by decide)] | rw [ze1 (by decide)] | rw [ze2 (by decide)] | rw [zd1 (by decide)] | rw [zd2 (by decide)] | rw [zswy (by decide)] | rw [zswn (by decide)] | rw [zsw0])
    exact zR.ret rfl rfl hQ
  | 1, _ => by
    intro Q hQ
    show zR ztb _ kX12_isPlanted 2 0 [some (.int 1)] [] _ _ _ _
    repeat (first | ((with_reducible refine zR.stored ?_); dsimp only [zsto, zclr, zset, zget, zc2, cond_false, cond_true]) | ((with_reducible refine zR.atLit ?_); first | refine zR.step rfl ?_) | rw [zcc1] | rw [zcc2] | rw [zcc3] | rw [zcc4] | rw [zb1 (by decide)] | rw [zb2 (by decide)] | rw [zb3 (by decide)] | rw [zb4 (by decide)] | rw [zn1 (by decide)] | rw [zn2 (by decide)] | rw [zn3 (by decide)] | rw [zn4 (by decide)] | rw [ze1 (by decide)] | rw [ze2 (by decide)] | rw [zd1 (by decide)] | rw [zd2 (by decide)] | rw [zswy (by decide)] | rw [zswn (by decide)] | rw [zsw0])
    exact zR.ret rfl rfl hQ
  | 2, _ => by
    intro Q hQ
    show zR ztb _ kX12_isPlanted 2 0 [some (.int 2)] [] _ _ _ _
    repeat (first | ((with_reducible refine zR.stored ?_); dsimp only [zsto, zclr, zset, zget, zc2, cond_false, cond_true]) | ((with_reducible refine zR.atLit ?_); first | refine zR.step rfl ?_) | rw [zcc1] | rw [zcc2] | rw [zcc3] | rw [zcc4] | rw [zb1 (by decide)] | rw [zb2 (by decide)] | rw [zb3 (by decide)] | rw [zb4 (by decide)] | rw [zn1 (by decide)] | rw [zn2 (by decide)] | rw [zn3 (by decide)] | rw [zn4 (by decide)] | rw [ze1 (by decide)] | rw [ze2 (by decide)] | rw [zd1 (by decide)] | rw [zd2 (by decide)] | rw [zswy (by decide)] | rw [zswn (by decide)] | rw [zsw0])
    exact zR.ret rfl rfl hQ
  | 3, _ => by
    intro Q hQ
    show zR ztb _ kX12_isPlanted 2 0 [some (.int 3)] [] _ _ _ _
    repeat (first | ((with_reducible refine zR.stored ?_); dsimp only [zsto, zclr, zset, zget, zc2, cond_false, cond_true]) | ((with_reducible refine zR.atLit ?_); first | refine zR.step rfl ?_) | rw [zcc1] | rw [zcc2] | rw [zcc3] | rw [zcc4] | rw [zb1 (by decide)] | rw [zb2 (by decide)] | rw [zb3 (by decide)] | rw [zb4 (by decide)] | rw [zn1 (by decide)] | rw [zn2 (by decide)] | rw [zn3 (by decide)] | rw [zn4 (by decide)] | rw [ze1 (by decide)] | rw [ze2 (by decide)] | rw [zd1 (by decide)] | rw [zd2 (by decide)] | rw [zswy (by decide)] | rw [zswn (by decide)] | rw [zsw0])
    exact zR.ret rfl rfl hQ
  | 4, _ => by
    intro Q hQ
    show zR ztb _ kX12_isPlanted 2 0 [some (.int 4)] [] _ _ _ _
    repeat (first | ((with_reducible refine zR.stored ?_); dsimp only [zsto, zclr, zset, zget, zc2, cond_false, cond_true]) | ((with_reducible refine zR.atLit ?_); first | refine zR.step rfl ?_) | rw [zcc1] | rw [zcc2] | rw [zcc3] | rw [zcc4] | rw [zb1 (by decide)] | rw [zb2 (by decide)] | rw [zb3 (by decide)] | rw [zb4 (by decide)] | rw [zn1 (by decide)] | rw [zn2 (by decide)] | rw [zn3 (by decide)] | rw [zn4 (by decide)] | rw [ze1 (by decide)] | rw [ze2 (by decide)] | rw [zd1 (by decide)] | rw [zd2 (by decide)] | rw [zswy (by decide)] | rw [zswn (by decide)] | rw [zsw0])
    exact zR.ret rfl rfl hQ
  | 5, _ => by
    intro Q hQ
    show zR ztb _ kX12_isPlanted 2 0 [some (.int 5)] [] _ _ _ _
    repeat (first | ((with_reducible refine zR.stored ?_); dsimp only [zsto, zclr, zset, zget, zc2, cond_false, cond_true]) | ((with_reducible refine zR.atLit ?_); first | refine zR.step rfl ?_) | rw [zcc1] | rw [zcc2] | rw [zcc3] | rw [zcc4] | rw [zb1 (by decide)] | rw [zb2 (by decide)] | rw [zb3 (by decide)] | rw [zb4 (by decide)] | rw [zn1 (by decide)] | rw [zn2 (by decide)] | rw [zn3 (by decide)] | rw [zn4 (by decide)] | rw [ze1 (by decide)] | rw [ze2 (by decide)] | rw [zd1 (by decide)] | rw [zd2 (by decide)] | rw [zswy (by decide)] | rw [zswn (by decide)] | rw [zsw0])
    exact zR.ret rfl rfl hQ
  | k + 6, h => absurd h (by omega)
theorem c_isStored {M : zM} {d n w : Nat} : ∀ k, k ≤ 5 → zCall d 205 [.int (nI k)] n w M (some (.int (ofK k 3))) n w M
  | 0, _ => by
    intro Q hQ
    show zR ztb _ kX12_isStored 2 0 [some (.int 0)] [] _ _ _ _
    repeat (first | ((with_reducible refine zR.stored ?_); dsimp only [zsto, zclr, zset, zget, zc2, cond_false, cond_true]) | ((with_reducible refine zR.atLit ?_); first | refine zR.step rfl ?_) | rw [zcc1] | rw [zcc2] | rw [zcc3] | rw [zcc4] | rw [zb1 (by decide)] | rw [zb2 (by decide)] | rw [zb3 (by decide)] | rw [zb4 (by decide)] | rw [zn1 (by decide)] | rw [zn2 (by decide)] | rw [zn3 (by decide)] | rw [zn4 (by decide)] | rw [ze1 (by decide)] | rw [ze2 (by decide)] | rw [zd1 (by decide)] | rw [zd2 (by decide)] | rw [zswy (by decide)] | rw [zswn (by decide)] | rw [zsw0])
    exact zR.ret rfl rfl hQ
  | 1, _ => by
    intro Q hQ
    show zR ztb _ kX12_isStored 2 0 [some (.int 1)] [] _ _ _ _
    repeat (first | ((with_reducible refine zR.stored ?_); dsimp only [zsto, zclr, zset, zget, zc2, cond_false, cond_true]) | ((with_reducible refine zR.atLit ?_); first | refine zR.step rfl ?_) | rw [zcc1] | rw [zcc2] | rw [zcc3] | rw [zcc4] | rw [zb1 (by decide)] | rw [zb2 (by decide)] | rw [zb3 (by decide)] | rw [zb4 (by decide)] | rw [zn1 (by decide)] | rw [zn2 (by decide)] | rw [zn3 (by decide)] | rw [zn4 (by decide)] | rw [ze1 (by decide)] | rw [ze2 (by decide)] | rw [zd1 (by decide)] | rw [zd2 (by decide)] | rw [zswy (by decide)] | rw [zswn (by decide)] | rw [zsw0])
    exact zR.ret rfl rfl hQ
  | 2, _ => by
    intro Q hQ
    show zR ztb _ kX12_isStored 2 0 [some (.int 2)] [] _ _ _ _
    repeat (first | ((with_reducible refine zR.stored ?_); dsimp only [zsto, zclr, zset, zget, zc2, cond_false, cond_true]) | ((with_reducible refine zR.atLit ?_); first | refine zR.step rfl ?_) | rw [zcc1] | rw [zcc2] | rw [zcc3] | rw [zcc4] | rw [zb1 (by decide)] | rw [zb2 (by decide)] | rw [zb3 (by decide)] | rw [zb4 (by decide)] | rw [zn1 (by decide)] | rw [zn2 (by decide)] | rw [zn3 (by decide)] | rw [zn4 (by decide)] | rw [ze1 (by decide)] | rw [ze2 (by decide)] | rw [zd1 (by decide)] | rw [zd2 (by decide)] | rw [zswy (by decide)] | rw [zswn (by decide)] | rw [zsw0])
    exact zR.ret rfl rfl hQ
  | 3, _ => by
    intro Q hQ
    show zR ztb _ kX12_isStored 2 0 [some (.int 3)] [] _ _ _ _
    repeat (first | ((with_reducible refine zR.stored ?_); dsimp only [zsto, zclr, zset, zget, zc2, cond_false, cond_true]) | ((with_reducible refine zR.atLit ?_); first | refine zR.step rfl ?_) | rw [zcc1] | rw [zcc2] | rw [zcc3] | rw [zcc4] | rw [zb1 (by decide)] | rw [zb2 (by decide)] | rw [zb3 (by decide)] | rw [zb4 (by decide)] | rw [zn1 (by decide)] | rw [zn2 (by decide)] | rw [zn3 (by decide)] | rw [zn4 (by decide)] | rw [ze1 (by decide)] | rw [ze2 (by decide)] | rw [zd1 (by decide)] | rw [zd2 (by decide)] | rw [zswy (by decide)] | rw [zswn (by decide)] | rw [zsw0])
    exact zR.ret rfl rfl hQ
  | 4, _ => by
    intro Q hQ
    show zR ztb _ kX12_isStored 2 0 [some (.int 4)] [] _ _ _ _
    repeat (first | ((with_reducible refine zR.stored ?_); dsimp only [zsto, zclr, zset, zget, zc2, cond_false, cond_true]) | ((with_reducible refine zR.atLit ?_); first | refine zR.step rfl ?_) | rw [zcc1] | rw [zcc2] | rw [zcc3] | rw [zcc4] | rw [zb1 (by decide)] | rw [zb2 (by decide)] | rw [zb3 (by decide)] | rw [zb4 (by decide)] | rw [zn1 (by decide)] | rw [zn2 (by decide)] | rw [zn3 (by decide)] | rw [zn4 (by decide)] | rw [ze1 (by decide)] | rw [ze2 (by decide)] | rw [zd1 (by decide)] | rw [zd2 (by decide)] | rw [zswy (by decide)] | rw [zswn (by decide)] | rw [zsw0])
    exact zR.ret rfl rfl hQ
  | 5, _ => by
    intro Q hQ
    show zR ztb _ kX12_isStored 2 0 [some (.int 5)] [] _ _ _ _
    repeat (first | ((with_reducible refine zR.stored ?_); dsimp only [zsto, zclr, zset, zget, zc2, cond_false, cond_true]) | ((with_reducible refine zR.atLit ?_); first | refine zR.step rfl ?_) | rw [zcc1] | rw [zcc2] | rw [zcc3] | rw [zcc4] | rw [zb1 (by decide)] | rw [zb2 (by decide)] | rw [zb3 (by decide)] | rw [zb4 (by decide)] | rw [zn1 (by decide)] | rw [zn2 (by decide)] | rw [zn3 (by decide)] | rw [zn4 (by decide)] | rw [ze1 (by decide)] | rw [ze2 (by decide)] | rw [zd1 (by decide)] | rw [zd2 (by decide)] | rw [zswy (by decide)] | rw [zswn (by decide)] | rw [zsw0])
    exact zR.ret rfl rfl hQ
  | k + 6, h => absurd h (by omega)
theorem ofK_01 (k w : Nat) : ofK k w = 0 ∨ ofK k w = 1 := by
  unfold ofK
  by_cases h : w = k ∨ w = 0 ∨ w = 1 ∧ (k = 3 ∨ k = 5) ∨ w = 3 ∧ k = 5
  · rw [if_pos h]; exact Or.inr rfl
  · rw [if_neg h]; exact Or.inl rfl
theorem ct_is {M : zM} {d n w : Nat} {x : Int32} {Q : Option Value → Nat → Nat → zM → Prop} : ∀ k, k ≤ 5 → ∀ q, q < 6 → zR ztb (d + 1) kX12_cropTaken 1 62 [some (.ref 287), some (.int x), some (.int (nI q)), some (.int (nI k)), some (.int (ofK k q))] [] n w M Q → zR ztb (d + 1) kX12_cropTaken 1 22 [some (.ref 287), some (.int x), some (.int (nI q)), some (.int (nI k)), none] [] n w M Q
  | 0, _, 0, _, h => by
    replace h : zR ztb (d + 1) kX12_cropTaken 1 62 [some (.ref 287), some (.int x), some (.int 0), some (.int 0), some (.int 1)] [] n w M Q := h
    show zR ztb (d + 1) kX12_cropTaken 1 22 [some (.ref 287), some (.int x), some (.int 0), some (.int 0), none] [] n w M Q
    have p1 : ofK 0 1 = 0 := by decide
    have p3 : ofK 0 3 = 0 := by decide
    repeat (first | with_reducible refine zR.hold (pc := 62) ?_ | ((with_reducible refine zR.stored ?_); dsimp only [zsto, zclr, zset, zget, zc2, cond_false, cond_true]) | ((with_reducible refine zR.atLit ?_); first | refine zR.step rfl ?_ | (refine zR.cs rfl rfl rfl rfl rfl (zCalP.of (c_isPlanted 0 (by omega)) ?_); rw [p1]) | (refine zR.cs rfl rfl rfl rfl rfl (zCalP.of (c_isStored 0 (by omega)) ?_); rw [p3])) | rw [zcc1] | rw [zcc2] | rw [zcc3] | rw [zcc4] | rw [zb1 (by decide)] | rw [zb2 (by decide)] | rw [zb3 (by decide)] | rw [zb4 (by decide)] | rw [zn1 (by decide)] | rw [zn2 (by decide)] | rw [zn3 (by decide)] | rw [zn4 (by decide)] | rw [ze1 (by decide)] | rw [ze2 (by decide)] | rw [zd1 (by decide)] | rw [zd2 (by decide)] | rw [zswy (by decide)] | rw [zswn (by decide)] | rw [zsw0])
    exact ⟨trivial, h⟩
  | 0, _, 1, _, h => by
    replace h : zR ztb (d + 1) kX12_cropTaken 1 62 [some (.ref 287), some (.int x), some (.int 1), some (.int 0), some (.int 0)] [] n w M Q := h
    show zR ztb (d + 1) kX12_cropTaken 1 22 [some (.ref 287), some (.int x), some (.int 1), some (.int 0), none] [] n w M Q
    have p1 : ofK 0 1 = 0 := by decide
    have p3 : ofK 0 3 = 0 := by decide
    repeat (first | with_reducible refine zR.hold (pc := 62) ?_ | ((with_reducible refine zR.stored ?_); dsimp only [zsto, zclr, zset, zget, zc2, cond_false, cond_true]) | ((with_reducible refine zR.atLit ?_); first | refine zR.step rfl ?_ | (refine zR.cs rfl rfl rfl rfl rfl (zCalP.of (c_isPlanted 0 (by omega)) ?_); rw [p1]) | (refine zR.cs rfl rfl rfl rfl rfl (zCalP.of (c_isStored 0 (by omega)) ?_); rw [p3])) | rw [zcc1] | rw [zcc2] | rw [zcc3] | rw [zcc4] | rw [zb1 (by decide)] | rw [zb2 (by decide)] | rw [zb3 (by decide)] | rw [zb4 (by decide)] | rw [zn1 (by decide)] | rw [zn2 (by decide)] | rw [zn3 (by decide)] | rw [zn4 (by decide)] | rw [ze1 (by decide)] | rw [ze2 (by decide)] | rw [zd1 (by decide)] | rw [zd2 (by decide)] | rw [zswy (by decide)] | rw [zswn (by decide)] | rw [zsw0])
    exact ⟨trivial, h⟩
  | 0, _, 2, _, h => by
    replace h : zR ztb (d + 1) kX12_cropTaken 1 62 [some (.ref 287), some (.int x), some (.int 2), some (.int 0), some (.int 0)] [] n w M Q := h
    show zR ztb (d + 1) kX12_cropTaken 1 22 [some (.ref 287), some (.int x), some (.int 2), some (.int 0), none] [] n w M Q
    have p1 : ofK 0 1 = 0 := by decide
    have p3 : ofK 0 3 = 0 := by decide
    repeat (first | with_reducible refine zR.hold (pc := 62) ?_ | ((with_reducible refine zR.stored ?_); dsimp only [zsto, zclr, zset, zget, zc2, cond_false, cond_true]) | ((with_reducible refine zR.atLit ?_); first | refine zR.step rfl ?_ | (refine zR.cs rfl rfl rfl rfl rfl (zCalP.of (c_isPlanted 0 (by omega)) ?_); rw [p1]) | (refine zR.cs rfl rfl rfl rfl rfl (zCalP.of (c_isStored 0 (by omega)) ?_); rw [p3])) | rw [zcc1] | rw [zcc2] | rw [zcc3] | rw [zcc4] | rw [zb1 (by decide)] | rw [zb2 (by decide)] | rw [zb3 (by decide)] | rw [zb4 (by decide)] | rw [zn1 (by decide)] | rw [zn2 (by decide)] | rw [zn3 (by decide)] | rw [zn4 (by decide)] | rw [ze1 (by decide)] | rw [ze2 (by decide)] | rw [zd1 (by decide)] | rw [zd2 (by decide)] | rw [zswy (by decide)] | rw [zswn (by decide)] | rw [zsw0])
    exact ⟨trivial, h⟩
  | 0, _, 3, _, h => by
    replace h : zR ztb (d + 1) kX12_cropTaken 1 62 [some (.ref 287), some (.int x), some (.int 3), some (.int 0), some (.int 0)] [] n w M Q := h
    show zR ztb (d + 1) kX12_cropTaken 1 22 [some (.ref 287), some (.int x), some (.int 3), some (.int 0), none] [] n w M Q
    have p1 : ofK 0 1 = 0 := by decide
    have p3 : ofK 0 3 = 0 := by decide
    repeat (first | with_reducible refine zR.hold (pc := 62) ?_ | ((with_reducible refine zR.stored ?_); dsimp only [zsto, zclr, zset, zget, zc2, cond_false, cond_true]) | ((with_reducible refine zR.atLit ?_); first | refine zR.step rfl ?_ | (refine zR.cs rfl rfl rfl rfl rfl (zCalP.of (c_isPlanted 0 (by omega)) ?_); rw [p1]) | (refine zR.cs rfl rfl rfl rfl rfl (zCalP.of (c_isStored 0 (by omega)) ?_); rw [p3])) | rw [zcc1] | rw [zcc2] | rw [zcc3] | rw [zcc4] | rw [zb1 (by decide)] | rw [zb2 (by decide)] | rw [zb3 (by decide)] | rw [zb4 (by decide)] | rw [zn1 (by decide)] | rw [zn2 (by decide)] | rw [zn3 (by decide)] | rw [zn4 (by decide)] | rw [ze1 (by decide)] | rw [ze2 (by decide)] | rw [zd1 (by decide)] | rw [zd2 (by decide)] | rw [zswy (by decide)] | rw [zswn (by decide)] | rw [zsw0])
    exact ⟨trivial, h⟩
  | 0, _, 4, _, h => by
    replace h : zR ztb (d + 1) kX12_cropTaken 1 62 [some (.ref 287), some (.int x), some (.int 4), some (.int 0), some (.int 0)] [] n w M Q := h
    show zR ztb (d + 1) kX12_cropTaken 1 22 [some (.ref 287), some (.int x), some (.int 4), some (.int 0), none] [] n w M Q
    have p1 : ofK 0 1 = 0 := by decide
    have p3 : ofK 0 3 = 0 := by decide
    repeat (first | with_reducible refine zR.hold (pc := 62) ?_ | ((with_reducible refine zR.stored ?_); dsimp only [zsto, zclr, zset, zget, zc2, cond_false, cond_true]) | ((with_reducible refine zR.atLit ?_); first | refine zR.step rfl ?_ | (refine zR.cs rfl rfl rfl rfl rfl (zCalP.of (c_isPlanted 0 (by omega)) ?_); rw [p1]) | (refine zR.cs rfl rfl rfl rfl rfl (zCalP.of (c_isStored 0 (by omega)) ?_); rw [p3])) | rw [zcc1] | rw [zcc2] | rw [zcc3] | rw [zcc4] | rw [zb1 (by decide)] | rw [zb2 (by decide)] | rw [zb3 (by decide)] | rw [zb4 (by decide)] | rw [zn1 (by decide)] | rw [zn2 (by decide)] | rw [zn3 (by decide)] | rw [zn4 (by decide)] | rw [ze1 (by decide)] | rw [ze2 (by decide)] | rw [zd1 (by decide)] | rw [zd2 (by decide)] | rw [zswy (by decide)] | rw [zswn (by decide)] | rw [zsw0])
    exact ⟨trivial, h⟩
  | 0, _, 5, _, h => by
    replace h : zR ztb (d + 1) kX12_cropTaken 1 62 [some (.ref 287), some (.int x), some (.int 5), some (.int 0), some (.int 0)] [] n w M Q := h
    show zR ztb (d + 1) kX12_cropTaken 1 22 [some (.ref 287), some (.int x), some (.int 5), some (.int 0), none] [] n w M Q
    have p1 : ofK 0 1 = 0 := by decide
    have p3 : ofK 0 3 = 0 := by decide
    repeat (first | with_reducible refine zR.hold (pc := 62) ?_ | ((with_reducible refine zR.stored ?_); dsimp only [zsto, zclr, zset, zget, zc2, cond_false, cond_true]) | ((with_reducible refine zR.atLit ?_); first | refine zR.step rfl ?_ | (refine zR.cs rfl rfl rfl rfl rfl (zCalP.of (c_isPlanted 0 (by omega)) ?_); rw [p1]) | (refine zR.cs rfl rfl rfl rfl rfl (zCalP.of (c_isStored 0 (by omega)) ?_); rw [p3])) | rw [zcc1] | rw [zcc2] | rw [zcc3] | rw [zcc4] | rw [zb1 (by decide)] | rw [zb2 (by decide)] | rw [zb3 (by decide)] | rw [zb4 (by decide)] | rw [zn1 (by decide)] | rw [zn2 (by decide)] | rw [zn3 (by decide)] | rw [zn4 (by decide)] | rw [ze1 (by decide)] | rw [ze2 (by decide)] | rw [zd1 (by decide)] | rw [zd2 (by decide)] | rw [zswy (by decide)] | rw [zswn (by decide)] | rw [zsw0])
    exact ⟨trivial, h⟩
  | 1, _, 0, _, h => by
    replace h : zR ztb (d + 1) kX12_cropTaken 1 62 [some (.ref 287), some (.int x), some (.int 0), some (.int 1), some (.int 1)] [] n w M Q := h
    show zR ztb (d + 1) kX12_cropTaken 1 22 [some (.ref 287), some (.int x), some (.int 0), some (.int 1), none] [] n w M Q
    have p1 : ofK 1 1 = 1 := by decide
    have p3 : ofK 1 3 = 0 := by decide
    repeat (first | with_reducible refine zR.hold (pc := 62) ?_ | ((with_reducible refine zR.stored ?_); dsimp only [zsto, zclr, zset, zget, zc2, cond_false, cond_true]) | ((with_reducible refine zR.atLit ?_); first | refine zR.step rfl ?_ | (refine zR.cs rfl rfl rfl rfl rfl (zCalP.of (c_isPlanted 1 (by omega)) ?_); rw [p1]) | (refine zR.cs rfl rfl rfl rfl rfl (zCalP.of (c_isStored 1 (by omega)) ?_); rw [p3])) | rw [zcc1] | rw [zcc2] | rw [zcc3] | rw [zcc4] | rw [zb1 (by decide)] | rw [zb2 (by decide)] | rw [zb3 (by decide)] | rw [zb4 (by decide)] | rw [zn1 (by decide)] | rw [zn2 (by decide)] | rw [zn3 (by decide)] | rw [zn4 (by decide)] | rw [ze1 (by decide)] | rw [ze2 (by decide)] | rw [zd1 (by decide)] | rw [zd2 (by decide)] | rw [zswy (by decide)] | rw [zswn (by decide)] | rw [zsw0])
    exact ⟨trivial, h⟩
  | 1, _, 1, _, h => by
    replace h : zR ztb (d + 1) kX12_cropTaken 1 62 [some (.ref 287), some (.int x), some (.int 1), some (.int 1), some (.int 1)] [] n w M Q := h
    show zR ztb (d + 1) kX12_cropTaken 1 22 [some (.ref 287), some (.int x), some (.int 1), some (.int 1), none] [] n w M Q
    have p1 : ofK 1 1 = 1 := by decide
    have p3 : ofK 1 3 = 0 := by decide
    repeat (first | with_reducible refine zR.hold (pc := 62) ?_ | ((with_reducible refine zR.stored ?_); dsimp only [zsto, zclr, zset, zget, zc2, cond_false, cond_true]) | ((with_reducible refine zR.atLit ?_); first | refine zR.step rfl ?_ | (refine zR.cs rfl rfl rfl rfl rfl (zCalP.of (c_isPlanted 1 (by omega)) ?_); rw [p1]) | (refine zR.cs rfl rfl rfl rfl rfl (zCalP.of (c_isStored 1 (by omega)) ?_); rw [p3])) | rw [zcc1] | rw [zcc2] | rw [zcc3] | rw [zcc4] | rw [zb1 (by decide)] | rw [zb2 (by decide)] | rw [zb3 (by decide)] | rw [zb4 (by decide)] | rw [zn1 (by decide)] | rw [zn2 (by decide)] | rw [zn3 (by decide)] | rw [zn4 (by decide)] | rw [ze1 (by decide)] | rw [ze2 (by decide)] | rw [zd1 (by decide)] | rw [zd2 (by decide)] | rw [zswy (by decide)] | rw [zswn (by decide)] | rw [zsw0])
    exact ⟨trivial, h⟩
  | 1, _, 2, _, h => by
    replace h : zR ztb (d + 1) kX12_cropTaken 1 62 [some (.ref 287), some (.int x), some (.int 2), some (.int 1), some (.int 0)] [] n w M Q := h
    show zR ztb (d + 1) kX12_cropTaken 1 22 [some (.ref 287), some (.int x), some (.int 2), some (.int 1), none] [] n w M Q
    have p1 : ofK 1 1 = 1 := by decide
    have p3 : ofK 1 3 = 0 := by decide
    repeat (first | with_reducible refine zR.hold (pc := 62) ?_ | ((with_reducible refine zR.stored ?_); dsimp only [zsto, zclr, zset, zget, zc2, cond_false, cond_true]) | ((with_reducible refine zR.atLit ?_); first | refine zR.step rfl ?_ | (refine zR.cs rfl rfl rfl rfl rfl (zCalP.of (c_isPlanted 1 (by omega)) ?_); rw [p1]) | (refine zR.cs rfl rfl rfl rfl rfl (zCalP.of (c_isStored 1 (by omega)) ?_); rw [p3])) | rw [zcc1] | rw [zcc2] | rw [zcc3] | rw [zcc4] | rw [zb1 (by decide)] | rw [zb2 (by decide)] | rw [zb3 (by decide)] | rw [zb4 (by decide)] | rw [zn1 (by decide)] | rw [zn2 (by decide)] | rw [zn3 (by decide)] | rw [zn4 (by decide)] | rw [ze1 (by decide)] | rw [ze2 (by decide)] | rw [zd1 (by decide)] | rw [zd2 (by decide)] | rw [zswy (by decide)] | rw [zswn (by decide)] | rw [zsw0])
    exact ⟨trivial, h⟩
  | 1, _, 3, _, h => by
    replace h : zR ztb (d + 1) kX12_cropTaken 1 62 [some (.ref 287), some (.int x), some (.int 3), some (.int 1), some (.int 0)] [] n w M Q := h
    show zR ztb (d + 1) kX12_cropTaken 1 22 [some (.ref 287), some (.int x), some (.int 3), some (.int 1), none] [] n w M Q
    have p1 : ofK 1 1 = 1 := by decide
    have p3 : ofK 1 3 = 0 := by decide
    repeat (first | with_reducible refine zR.hold (pc := 62) ?_ | ((with_reducible refine zR.stored ?_); dsimp only [zsto, zclr, zset, zget, zc2, cond_false, cond_true]) | ((with_reducible refine zR.atLit ?_); first | refine zR.step rfl ?_ | (refine zR.cs rfl rfl rfl rfl rfl (zCalP.of (c_isPlanted 1 (by omega)) ?_); rw [p1]) | (refine zR.cs rfl rfl rfl rfl rfl (zCalP.of (c_isStored 1 (by omega)) ?_); rw [p3])) | rw [zcc1] | rw [zcc2] | rw [zcc3] | rw [zcc4] | rw [zb1 (by decide)] | rw [zb2 (by decide)] | rw [zb3 (by decide)] | rw [zb4 (by decide)] | rw [zn1 (by decide)] | rw [zn2 (by decide)] | rw [zn3 (by decide)] | rw [zn4 (by decide)] | rw [ze1 (by decide)] | rw [ze2 (by decide)] | rw [zd1 (by decide)] | rw [zd2 (by decide)] | rw [zswy (by decide)] | rw [zswn (by decide)] | rw [zsw0])
    exact ⟨trivial, h⟩
  | 1, _, 4, _, h => by
    replace h : zR ztb (d + 1) kX12_cropTaken 1 62 [some (.ref 287), some (.int x), some (.int 4), some (.int 1), some (.int 0)] [] n w M Q := h
    show zR ztb (d + 1) kX12_cropTaken 1 22 [some (.ref 287), some (.int x), some (.int 4), some (.int 1), none] [] n w M Q
    have p1 : ofK 1 1 = 1 := by decide
    have p3 : ofK 1 3 = 0 := by decide
    repeat (first | with_reducible refine zR.hold (pc := 62) ?_ | ((with_reducible refine zR.stored ?_); dsimp only [zsto, zclr, zset, zget, zc2, cond_false, cond_true]) | ((with_reducible refine zR.atLit ?_); first | refine zR.step rfl ?_ | (refine zR.cs rfl rfl rfl rfl rfl (zCalP.of (c_isPlanted 1 (by omega)) ?_); rw [p1]) | (refine zR.cs rfl rfl rfl rfl rfl (zCalP.of (c_isStored 1 (by omega)) ?_); rw [p3])) | rw [zcc1] | rw [zcc2] | rw [zcc3] | rw [zcc4] | rw [zb1 (by decide)] | rw [zb2 (by decide)] | rw [zb3 (by decide)] | rw [zb4 (by decide)] | rw [zn1 (by decide)] | rw [zn2 (by decide)] | rw [zn3 (by decide)] | rw [zn4 (by decide)] | rw [ze1 (by decide)] | rw [ze2 (by decide)] | rw [zd1 (by decide)] | rw [zd2 (by decide)] | rw [zswy (by decide)] | rw [zswn (by decide)] | rw [zsw0])
    exact ⟨trivial, h⟩
  | 1, _, 5, _, h => by
    replace h : zR ztb (d + 1) kX12_cropTaken 1 62 [some (.ref 287), some (.int x), some (.int 5), some (.int 1), some (.int 0)] [] n w M Q := h
    show zR ztb (d + 1) kX12_cropTaken 1 22 [some (.ref 287), some (.int x), some (.int 5), some (.int 1), none] [] n w M Q
    have p1 : ofK 1 1 = 1 := by decide
    have p3 : ofK 1 3 = 0 := by decide
    repeat (first | with_reducible refine zR.hold (pc := 62) ?_ | ((with_reducible refine zR.stored ?_); dsimp only [zsto, zclr, zset, zget, zc2, cond_false, cond_true]) | ((with_reducible refine zR.atLit ?_); first | refine zR.step rfl ?_ | (refine zR.cs rfl rfl rfl rfl rfl (zCalP.of (c_isPlanted 1 (by omega)) ?_); rw [p1]) | (refine zR.cs rfl rfl rfl rfl rfl (zCalP.of (c_isStored 1 (by omega)) ?_); rw [p3])) | rw [zcc1] | rw [zcc2] | rw [zcc3] | rw [zcc4] | rw [zb1 (by decide)] | rw [zb2 (by decide)] | rw [zb3 (by decide)] | rw [zb4 (by decide)] | rw [zn1 (by decide)] | rw [zn2 (by decide)] | rw [zn3 (by decide)] | rw [zn4 (by decide)] | rw [ze1 (by decide)] | rw [ze2 (by decide)] | rw [zd1 (by decide)] | rw [zd2 (by decide)] | rw [zswy (by decide)] | rw [zswn (by decide)] | rw [zsw0])
    exact ⟨trivial, h⟩
  | 2, _, 0, _, h => by
    replace h : zR ztb (d + 1) kX12_cropTaken 1 62 [some (.ref 287), some (.int x), some (.int 0), some (.int 2), some (.int 1)] [] n w M Q := h
    show zR ztb (d + 1) kX12_cropTaken 1 22 [some (.ref 287), some (.int x), some (.int 0), some (.int 2), none] [] n w M Q
    have p1 : ofK 2 1 = 0 := by decide
    have p3 : ofK 2 3 = 0 := by decide
    repeat (first | with_reducible refine zR.hold (pc := 62) ?_ | ((with_reducible refine zR.stored ?_); dsimp only [zsto, zclr, zset, zget, zc2, cond_false, cond_true]) | ((with_reducible refine zR.atLit ?_); first | refine zR.step rfl ?_ | (refine zR.cs rfl rfl rfl rfl rfl (zCalP.of (c_isPlanted 2 (by omega)) ?_); rw [p1]) | (refine zR.cs rfl rfl rfl rfl rfl (zCalP.of (c_isStored 2 (by omega)) ?_); rw [p3])) | rw [zcc1] | rw [zcc2] | rw [zcc3] | rw [zcc4] | rw [zb1 (by decide)] | rw [zb2 (by decide)] | rw [zb3 (by decide)] | rw [zb4 (by decide)] | rw [zn1 (by decide)] | rw [zn2 (by decide)] | rw [zn3 (by decide)] | rw [zn4 (by decide)] | rw [ze1 (by decide)] | rw [ze2 (by decide)] | rw [zd1 (by decide)] | rw [zd2 (by decide)] | rw [zswy (by decide)] | rw [zswn (by decide)] | rw [zsw0])
    exact ⟨trivial, h⟩
  | 2, _, 1, _, h => by
    replace h : zR ztb (d + 1) kX12_cropTaken 1 62 [some (.ref 287), some (.int x), some (.int 1), some (.int 2), some (.int 0)] [] n w M Q := h
    show zR ztb (d + 1) kX12_cropTaken 1 22 [some (.ref 287), some (.int x), some (.int 1), some (.int 2), none] [] n w M Q
    have p1 : ofK 2 1 = 0 := by decide
    have p3 : ofK 2 3 = 0 := by decide
    repeat (first | with_reducible refine zR.hold (pc := 62) ?_ | ((with_reducible refine zR.stored ?_); dsimp only [zsto, zclr, zset, zget, zc2, cond_false, cond_true]) | ((with_reducible refine zR.atLit ?_); first | refine zR.step rfl ?_ | (refine zR.cs rfl rfl rfl rfl rfl (zCalP.of (c_isPlanted 2 (by omega)) ?_); rw [p1]) | (refine zR.cs rfl rfl rfl rfl rfl (zCalP.of (c_isStored 2 (by omega)) ?_); rw [p3])) | rw [zcc1] | rw [zcc2] | rw [zcc3] | rw [zcc4] | rw [zb1 (by decide)] | rw [zb2 (by decide)] | rw [zb3 (by decide)] | rw [zb4 (by decide)] | rw [zn1 (by decide)] | rw [zn2 (by decide)] | rw [zn3 (by decide)] | rw [zn4 (by decide)] | rw [ze1 (by decide)] | rw [ze2 (by decide)] | rw [zd1 (by decide)] | rw [zd2 (by decide)] | rw [zswy (by decide)] | rw [zswn (by decide)] | rw [zsw0])
    exact ⟨trivial, h⟩
  | 2, _, 2, _, h => by
    replace h : zR ztb (d + 1) kX12_cropTaken 1 62 [some (.ref 287), some (.int x), some (.int 2), some (.int 2), some (.int 1)] [] n w M Q := h
    show zR ztb (d + 1) kX12_cropTaken 1 22 [some (.ref 287), some (.int x), some (.int 2), some (.int 2), none] [] n w M Q
    have p1 : ofK 2 1 = 0 := by decide
    have p3 : ofK 2 3 = 0 := by decide
    repeat (first | with_reducible refine zR.hold (pc := 62) ?_ | ((with_reducible refine zR.stored ?_); dsimp only [zsto, zclr, zset, zget, zc2, cond_false, cond_true]) | ((with_reducible refine zR.atLit ?_); first | refine zR.step rfl ?_ | (refine zR.cs rfl rfl rfl rfl rfl (zCalP.of (c_isPlanted 2 (by omega)) ?_); rw [p1]) | (refine zR.cs rfl rfl rfl rfl rfl (zCalP.of (c_isStored 2 (by omega)) ?_); rw [p3])) | rw [zcc1] | rw [zcc2] | rw [zcc3] | rw [zcc4] | rw [zb1 (by decide)] | rw [zb2 (by decide)] | rw [zb3 (by decide)] | rw [zb4 (by decide)] | rw [zn1 (by decide)] | rw [zn2 (by decide)] | rw [zn3 (by decide)] | rw [zn4 (by decide)] | rw [ze1 (by decide)] | rw [ze2 (by decide)] | rw [zd1 (by decide)] | rw [zd2 (by decide)] | rw [zswy (by decide)] | rw [zswn (by decide)] | rw [zsw0])
    exact ⟨trivial, h⟩
  | 2, _, 3, _, h => by
    replace h : zR ztb (d + 1) kX12_cropTaken 1 62 [some (.ref 287), some (.int x), some (.int 3), some (.int 2), some (.int 0)] [] n w M Q := h
    show zR ztb (d + 1) kX12_cropTaken 1 22 [some (.ref 287), some (.int x), some (.int 3), some (.int 2), none] [] n w M Q
    have p1 : ofK 2 1 = 0 := by decide
    have p3 : ofK 2 3 = 0 := by decide
    repeat (first | with_reducible refine zR.hold (pc := 62) ?_ | ((with_reducible refine zR.stored ?_); dsimp only [zsto, zclr, zset, zget, zc2, cond_false, cond_true]) | ((with_reducible refine zR.atLit ?_); first | refine zR.step rfl ?_ | (refine zR.cs rfl rfl rfl rfl rfl (zCalP.of (c_isPlanted 2 (by omega)) ?_); rw [p1]) | (refine zR.cs rfl rfl rfl rfl rfl (zCalP.of (c_isStored 2 (by omega)) ?_); rw [p3])) | rw [zcc1] | rw [zcc2] | rw [zcc3] | rw [zcc4] | rw [zb1 (by decide)] | rw [zb2 (by decide)] | rw [zb3 (by decide)] | rw [zb4 (by decide)] | rw [zn1 (by decide)] | rw [zn2 (by decide)] | rw [zn3 (by decide)] | rw [zn4 (by decide)] | rw [ze1 (by decide)] | rw [ze2 (by decide)] | rw [zd1 (by decide)] | rw [zd2 (by decide)] | rw [zswy (by decide)] | rw [zswn (by decide)] | rw [zsw0])
    exact ⟨trivial, h⟩
  | 2, _, 4, _, h => by
    replace h : zR ztb (d + 1) kX12_cropTaken 1 62 [some (.ref 287), some (.int x), some (.int 4), some (.int 2), some (.int 0)] [] n w M Q := h
    show zR ztb (d + 1) kX12_cropTaken 1 22 [some (.ref 287), some (.int x), some (.int 4), some (.int 2), none] [] n w M Q
    have p1 : ofK 2 1 = 0 := by decide
    have p3 : ofK 2 3 = 0 := by decide
    repeat (first | with_reducible refine zR.hold (pc := 62) ?_ | ((with_reducible refine zR.stored ?_); dsimp only [zsto, zclr, zset, zget, zc2, cond_false, cond_true]) | ((with_reducible refine zR.atLit ?_); first | refine zR.step rfl ?_ | (refine zR.cs rfl rfl rfl rfl rfl (zCalP.of (c_isPlanted 2 (by omega)) ?_); rw [p1]) | (refine zR.cs rfl rfl rfl rfl rfl (zCalP.of (c_isStored 2 (by omega)) ?_); rw [p3])) | rw [zcc1] | rw [zcc2] | rw [zcc3] | rw [zcc4] | rw [zb1 (by decide)] | rw [zb2 (by decide)] | rw [zb3 (by decide)] | rw [zb4 (by decide)] | rw [zn1 (by decide)] | rw [zn2 (by decide)] | rw [zn3 (by decide)] | rw [zn4 (by decide)] | rw [ze1 (by decide)] | rw [ze2 (by decide)] | rw [zd1 (by decide)] | rw [zd2 (by decide)] | rw [zswy (by decide)] | rw [zswn (by decide)] | rw [zsw0])
    exact ⟨trivial, h⟩
  | 2, _, 5, _, h => by
    replace h : zR ztb (d + 1) kX12_cropTaken 1 62 [some (.ref 287), some (.int x), some (.int 5), some (.int 2), some (.int 0)] [] n w M Q := h
    show zR ztb (d + 1) kX12_cropTaken 1 22 [some (.ref 287), some (.int x), some (.int 5), some (.int 2), none] [] n w M Q
    have p1 : ofK 2 1 = 0 := by decide
    have p3 : ofK 2 3 = 0 := by decide
    repeat (first | with_reducible refine zR.hold (pc := 62) ?_ | ((with_reducible refine zR.stored ?_); dsimp only [zsto, zclr, zset, zget, zc2, cond_false, cond_true]) | ((with_reducible refine zR.atLit ?_); first | refine zR.step rfl ?_ | (refine zR.cs rfl rfl rfl rfl rfl (zCalP.of (c_isPlanted 2 (by omega)) ?_); rw [p1]) | (refine zR.cs rfl rfl rfl rfl rfl (zCalP.of (c_isStored 2 (by omega)) ?_); rw [p3])) | rw [zcc1] | rw [zcc2] | rw [zcc3] | rw [zcc4] | rw [zb1 (by decide)] | rw [zb2 (by decide)] | rw [zb3 (by decide)] | rw [zb4 (by decide)] | rw [zn1 (by decide)] | rw [zn2 (by decide)] | rw [zn3 (by decide)] | rw [zn4 (by decide)] | rw [ze1 (by decide)] | rw [ze2 (by decide)] | rw [zd1 (by decide)] | rw [zd2 (by decide)] | rw [zswy (by decide)] | rw [zswn (by decide)] | rw [zsw0])
    exact ⟨trivial, h⟩
  | 3, _, 0, _, h => by
    replace h : zR ztb (d + 1) kX12_cropTaken 1 62 [some (.ref 287), some (.int x), some (.int 0), some (.int 3), some (.int 1)] [] n w M Q := h
    show zR ztb (d + 1) kX12_cropTaken 1 22 [some (.ref 287), some (.int x), some (.int 0), some (.int 3), none] [] n w M Q
    have p1 : ofK 3 1 = 1 := by decide
    have p3 : ofK 3 3 = 1 := by decide
    repeat (first | with_reducible refine zR.hold (pc := 62) ?_ | ((with_reducible refine zR.stored ?_); dsimp only [zsto, zclr, zset, zget, zc2, cond_false, cond_true]) | ((with_reducible refine zR.atLit ?_); first | refine zR.step rfl ?_ | (refine zR.cs rfl rfl rfl rfl rfl (zCalP.of (c_isPlanted 3 (by omega)) ?_); rw [p1]) | (refine zR.cs rfl rfl rfl rfl rfl (zCalP.of (c_isStored 3 (by omega)) ?_); rw [p3])) | rw [zcc1] | rw [zcc2] | rw [zcc3] | rw [zcc4] | rw [zb1 (by decide)] | rw [zb2 (by decide)] | rw [zb3 (by decide)] | rw [zb4 (by decide)] | rw [zn1 (by decide)] | rw [zn2 (by decide)] | rw [zn3 (by decide)] | rw [zn4 (by decide)] | rw [ze1 (by decide)] | rw [ze2 (by decide)] | rw [zd1 (by decide)] | rw [zd2 (by decide)] | rw [zswy (by decide)] | rw [zswn (by decide)] | rw [zsw0])
    exact ⟨trivial, h⟩
  | 3, _, 1, _, h => by
    replace h : zR ztb (d + 1) kX12_cropTaken 1 62 [some (.ref 287), some (.int x), some (.int 1), some (.int 3), some (.int 1)] [] n w M Q := h
    show zR ztb (d + 1) kX12_cropTaken 1 22 [some (.ref 287), some (.int x), some (.int 1), some (.int 3), none] [] n w M Q
    have p1 : ofK 3 1 = 1 := by decide
    have p3 : ofK 3 3 = 1 := by decide
    repeat (first | with_reducible refine zR.hold (pc := 62) ?_ | ((with_reducible refine zR.stored ?_); dsimp only [zsto, zclr, zset, zget, zc2, cond_false, cond_true]) | ((with_reducible refine zR.atLit ?_); first | refine zR.step rfl ?_ | (refine zR.cs rfl rfl rfl rfl rfl (zCalP.of (c_isPlanted 3 (by omega)) ?_); rw [p1]) | (refine zR.cs rfl rfl rfl rfl rfl (zCalP.of (c_isStored 3 (by omega)) ?_); rw [p3])) | rw [zcc1] | rw [zcc2] | rw [zcc3] | rw [zcc4] | rw [zb1 (by decide)] | rw [zb2 (by decide)] | rw [zb3 (by decide)] | rw [zb4 (by decide)] | rw [zn1 (by decide)] | rw [zn2 (by decide)] | rw [zn3 (by decide)] | rw [zn4 (by decide)] | rw [ze1 (by decide)] | rw [ze2 (by decide)] | rw [zd1 (by decide)] | rw [zd2 (by decide)] | rw [zswy (by decide)] | rw [zswn (by decide)] | rw [zsw0])
    exact ⟨trivial, h⟩
  | 3, _, 2, _, h => by
    replace h : zR ztb (d + 1) kX12_cropTaken 1 62 [some (.ref 287), some (.int x), some (.int 2), some (.int 3), some (.int 0)] [] n w M Q := h
    show zR ztb (d + 1) kX12_cropTaken 1 22 [some (.ref 287), some (.int x), some (.int 2), some (.int 3), none] [] n w M Q
    have p1 : ofK 3 1 = 1 := by decide
    have p3 : ofK 3 3 = 1 := by decide
    repeat (first | with_reducible refine zR.hold (pc := 62) ?_ | ((with_reducible refine zR.stored ?_); dsimp only [zsto, zclr, zset, zget, zc2, cond_false, cond_true]) | ((with_reducible refine zR.atLit ?_); first | refine zR.step rfl ?_ | (refine zR.cs rfl rfl rfl rfl rfl (zCalP.of (c_isPlanted 3 (by omega)) ?_); rw [p1]) | (refine zR.cs rfl rfl rfl rfl rfl (zCalP.of (c_isStored 3 (by omega)) ?_); rw [p3])) | rw [zcc1] | rw [zcc2] | rw [zcc3] | rw [zcc4] | rw [zb1 (by decide)] | rw [zb2 (by decide)] | rw [zb3 (by decide)] | rw [zb4 (by decide)] | rw [zn1 (by decide)] | rw [zn2 (by decide)] | rw [zn3 (by decide)] | rw [zn4 (by decide)] | rw [ze1 (by decide)] | rw [ze2 (by decide)] | rw [zd1 (by decide)] | rw [zd2 (by decide)] | rw [zswy (by decide)] | rw [zswn (by decide)] | rw [zsw0])
    exact ⟨trivial, h⟩
  | 3, _, 3, _, h => by
    replace h : zR ztb (d + 1) kX12_cropTaken 1 62 [some (.ref 287), some (.int x), some (.int 3), some (.int 3), some (.int 1)] [] n w M Q := h
    show zR ztb (d + 1) kX12_cropTaken 1 22 [some (.ref 287), some (.int x), some (.int 3), some (.int 3), none] [] n w M Q
    have p1 : ofK 3 1 = 1 := by decide
    have p3 : ofK 3 3 = 1 := by decide
    repeat (first | with_reducible refine zR.hold (pc := 62) ?_ | ((with_reducible refine zR.stored ?_); dsimp only [zsto, zclr, zset, zget, zc2, cond_false, cond_true]) | ((with_reducible refine zR.atLit ?_); first | refine zR.step rfl ?_ | (refine zR.cs rfl rfl rfl rfl rfl (zCalP.of (c_isPlanted 3 (by omega)) ?_); rw [p1]) | (refine zR.cs rfl rfl rfl rfl rfl (zCalP.of (c_isStored 3 (by omega)) ?_); rw [p3])) | rw [zcc1] | rw [zcc2] | rw [zcc3] | rw [zcc4] | rw [zb1 (by decide)] | rw [zb2 (by decide)] | rw [zb3 (by decide)] | rw [zb4 (by decide)] | rw [zn1 (by decide)] | rw [zn2 (by decide)] | rw [zn3 (by decide)] | rw [zn4 (by decide)] | rw [ze1 (by decide)] | rw [ze2 (by decide)] | rw [zd1 (by decide)] | rw [zd2 (by decide)] | rw [zswy (by decide)] | rw [zswn (by decide)] | rw [zsw0])
    exact ⟨trivial, h⟩
  | 3, _, 4, _, h => by
    replace h : zR ztb (d + 1) kX12_cropTaken 1 62 [some (.ref 287), some (.int x), some (.int 4), some (.int 3), some (.int 0)] [] n w M Q := h
    show zR ztb (d + 1) kX12_cropTaken 1 22 [some (.ref 287), some (.int x), some (.int 4), some (.int 3), none] [] n w M Q
    have p1 : ofK 3 1 = 1 := by decide
    have p3 : ofK 3 3 = 1 := by decide
    repeat (first | with_reducible refine zR.hold (pc := 62) ?_ | ((with_reducible refine zR.stored ?_); dsimp only [zsto, zclr, zset, zget, zc2, cond_false, cond_true]) | ((with_reducible refine zR.atLit ?_); first | refine zR.step rfl ?_ | (refine zR.cs rfl rfl rfl rfl rfl (zCalP.of (c_isPlanted 3 (by omega)) ?_); rw [p1]) | (refine zR.cs rfl rfl rfl rfl rfl (zCalP.of (c_isStored 3 (by omega)) ?_); rw [p3])) | rw [zcc1] | rw [zcc2] | rw [zcc3] | rw [zcc4] | rw [zb1 (by decide)] | rw [zb2 (by decide)] | rw [zb3 (by decide)] | rw [zb4 (by decide)] | rw [zn1 (by decide)] | rw [zn2 (by decide)] | rw [zn3 (by decide)] | rw [zn4 (by decide)] | rw [ze1 (by decide)] | rw [ze2 (by decide)] | rw [zd1 (by decide)] | rw [zd2 (by decide)] | rw [zswy (by decide)] | rw [zswn (by decide)] | rw [zsw0])
    exact ⟨trivial, h⟩
  | 3, _, 5, _, h => by
    replace h : zR ztb (d + 1) kX12_cropTaken 1 62 [some (.ref 287), some (.int x), some (.int 5), some (.int 3), some (.int 0)] [] n w M Q := h
    show zR ztb (d + 1) kX12_cropTaken 1 22 [some (.ref 287), some (.int x), some (.int 5), some (.int 3), none] [] n w M Q
    have p1 : ofK 3 1 = 1 := by decide
    have p3 : ofK 3 3 = 1 := by decide
    repeat (first | with_reducible refine zR.hold (pc := 62) ?_ | ((with_reducible refine zR.stored ?_); dsimp only [zsto, zclr, zset, zget, zc2, cond_false, cond_true]) | ((with_reducible refine zR.atLit ?_); first | refine zR.step rfl ?_ | (refine zR.cs rfl rfl rfl rfl rfl (zCalP.of (c_isPlanted 3 (by omega)) ?_); rw [p1]) | (refine zR.cs rfl rfl rfl rfl rfl (zCalP.of (c_isStored 3 (by omega)) ?_); rw [p3])) | rw [zcc1] | rw [zcc2] | rw [zcc3] | rw [zcc4] | rw [zb1 (by decide)] | rw [zb2 (by decide)] | rw [zb3 (by decide)] | rw [zb4 (by decide)] | rw [zn1 (by decide)] | rw [zn2 (by decide)] | rw [zn3 (by decide)] | rw [zn4 (by decide)] | rw [ze1 (by decide)] | rw [ze2 (by decide)] | rw [zd1 (by decide)] | rw [zd2 (by decide)] | rw [zswy (by decide)] | rw [zswn (by decide)] | rw [zsw0])
    exact ⟨trivial, h⟩
  | 4, _, 0, _, h => by
    replace h : zR ztb (d + 1) kX12_cropTaken 1 62 [some (.ref 287), some (.int x), some (.int 0), some (.int 4), some (.int 1)] [] n w M Q := h
    show zR ztb (d + 1) kX12_cropTaken 1 22 [some (.ref 287), some (.int x), some (.int 0), some (.int 4), none] [] n w M Q
    have p1 : ofK 4 1 = 0 := by decide
    have p3 : ofK 4 3 = 0 := by decide
    repeat (first | with_reducible refine zR.hold (pc := 62) ?_ | ((with_reducible refine zR.stored ?_); dsimp only [zsto, zclr, zset, zget, zc2, cond_false, cond_true]) | ((with_reducible refine zR.atLit ?_); first | refine zR.step rfl ?_ | (refine zR.cs rfl rfl rfl rfl rfl (zCalP.of (c_isPlanted 4 (by omega)) ?_); rw [p1]) | (refine zR.cs rfl rfl rfl rfl rfl (zCalP.of (c_isStored 4 (by omega)) ?_); rw [p3])) | rw [zcc1] | rw [zcc2] | rw [zcc3] | rw [zcc4] | rw [zb1 (by decide)] | rw [zb2 (by decide)] | rw [zb3 (by decide)] | rw [zb4 (by decide)] | rw [zn1 (by decide)] | rw [zn2 (by decide)] | rw [zn3 (by decide)] | rw [zn4 (by decide)] | rw [ze1 (by decide)] | rw [ze2 (by decide)] | rw [zd1 (by decide)] | rw [zd2 (by decide)] | rw [zswy (by decide)] | rw [zswn (by decide)] | rw [zsw0])
    exact ⟨trivial, h⟩
  | 4, _, 1, _, h => by
    replace h : zR ztb (d + 1) kX12_cropTaken 1 62 [some (.ref 287), some (.int x), some (.int 1), some (.int 4), some (.int 0)] [] n w M Q := h
    show zR ztb (d + 1) kX12_cropTaken 1 22 [some (.ref 287), some (.int x), some (.int 1), some (.int 4), none] [] n w M Q
    have p1 : ofK 4 1 = 0 := by decide
    have p3 : ofK 4 3 = 0 := by decide
    repeat (first | with_reducible refine zR.hold (pc := 62) ?_ | ((with_reducible refine zR.stored ?_); dsimp only [zsto, zclr, zset, zget, zc2, cond_false, cond_true]) | ((with_reducible refine zR.atLit ?_); first | refine zR.step rfl ?_ | (refine zR.cs rfl rfl rfl rfl rfl (zCalP.of (c_isPlanted 4 (by omega)) ?_); rw [p1]) | (refine zR.cs rfl rfl rfl rfl rfl (zCalP.of (c_isStored 4 (by omega)) ?_); rw [p3])) | rw [zcc1] | rw [zcc2] | rw [zcc3] | rw [zcc4] | rw [zb1 (by decide)] | rw [zb2 (by decide)] | rw [zb3 (by decide)] | rw [zb4 (by decide)] | rw [zn1 (by decide)] | rw [zn2 (by decide)] | rw [zn3 (by decide)] | rw [zn4 (by decide)] | rw [ze1 (by decide)] | rw [ze2 (by decide)] | rw [zd1 (by decide)] | rw [zd2 (by decide)] | rw [zswy (by decide)] | rw [zswn (by decide)] | rw [zsw0])
    exact ⟨trivial, h⟩
  | 4, _, 2, _, h => by
    replace h : zR ztb (d + 1) kX12_cropTaken 1 62 [some (.ref 287), some (.int x), some (.int 2), some (.int 4), some (.int 0)] [] n w M Q := h
    show zR ztb (d + 1) kX12_cropTaken 1 22 [some (.ref 287), some (.int x), some (.int 2), some (.int 4), none] [] n w M Q
    have p1 : ofK 4 1 = 0 := by decide
    have p3 : ofK 4 3 = 0 := by decide
    repeat (first | with_reducible refine zR.hold (pc := 62) ?_ | ((with_reducible refine zR.stored ?_); dsimp only [zsto, zclr, zset, zget, zc2, cond_false, cond_true]) | ((with_reducible refine zR.atLit ?_); first | refine zR.step rfl ?_ | (refine zR.cs rfl rfl rfl rfl rfl (zCalP.of (c_isPlanted 4 (by omega)) ?_); rw [p1]) | (refine zR.cs rfl rfl rfl rfl rfl (zCalP.of (c_isStored 4 (by omega)) ?_); rw [p3])) | rw [zcc1] | rw [zcc2] | rw [zcc3] | rw [zcc4] | rw [zb1 (by decide)] | rw [zb2 (by decide)] | rw [zb3 (by decide)] | rw [zb4 (by decide)] | rw [zn1 (by decide)] | rw [zn2 (by decide)] | rw [zn3 (by decide)] | rw [zn4 (by decide)] | rw [ze1 (by decide)] | rw [ze2 (by decide)] | rw [zd1 (by decide)] | rw [zd2 (by decide)] | rw [zswy (by decide)] | rw [zswn (by decide)] | rw [zsw0])
    exact ⟨trivial, h⟩
  | 4, _, 3, _, h => by
    replace h : zR ztb (d + 1) kX12_cropTaken 1 62 [some (.ref 287), some (.int x), some (.int 3), some (.int 4), some (.int 0)] [] n w M Q := h
    show zR ztb (d + 1) kX12_cropTaken 1 22 [some (.ref 287), some (.int x), some (.int 3), some (.int 4), none] [] n w M Q
    have p1 : ofK 4 1 = 0 := by decide
    have p3 : ofK 4 3 = 0 := by decide
    repeat (first | with_reducible refine zR.hold (pc := 62) ?_ | ((with_reducible refine zR.stored ?_); dsimp only [zsto, zclr, zset, zget, zc2, cond_false, cond_true]) | ((with_reducible refine zR.atLit ?_); first | refine zR.step rfl ?_ | (refine zR.cs rfl rfl rfl rfl rfl (zCalP.of (c_isPlanted 4 (by omega)) ?_); rw [p1]) | (refine zR.cs rfl rfl rfl rfl rfl (zCalP.of (c_isStored 4 (by omega)) ?_); rw [p3])) | rw [zcc1] | rw [zcc2] | rw [zcc3] | rw [zcc4] | rw [zb1 (by decide)] | rw [zb2 (by decide)] | rw [zb3 (by decide)] | rw [zb4 (by decide)] | rw [zn1 (by decide)] | rw [zn2 (by decide)] | rw [zn3 (by decide)] | rw [zn4 (by decide)] | rw [ze1 (by decide)] | rw [ze2 (by decide)] | rw [zd1 (by decide)] | rw [zd2 (by decide)] | rw [zswy (by decide)] | rw [zswn (by decide)] | rw [zsw0])
    exact ⟨trivial, h⟩
  | 4, _, 4, _, h => by
    replace h : zR ztb (d + 1) kX12_cropTaken 1 62 [some (.ref 287), some (.int x), some (.int 4), some (.int 4), some (.int 1)] [] n w M Q := h
    show zR ztb (d + 1) kX12_cropTaken 1 22 [some (.ref 287), some (.int x), some (.int 4), some (.int 4), none] [] n w M Q
    have p1 : ofK 4 1 = 0 := by decide
    have p3 : ofK 4 3 = 0 := by decide
    repeat (first | with_reducible refine zR.hold (pc := 62) ?_ | ((with_reducible refine zR.stored ?_); dsimp only [zsto, zclr, zset, zget, zc2, cond_false, cond_true]) | ((with_reducible refine zR.atLit ?_); first | refine zR.step rfl ?_ | (refine zR.cs rfl rfl rfl rfl rfl (zCalP.of (c_isPlanted 4 (by omega)) ?_); rw [p1]) | (refine zR.cs rfl rfl rfl rfl rfl (zCalP.of (c_isStored 4 (by omega)) ?_); rw [p3])) | rw [zcc1] | rw [zcc2] | rw [zcc3] | rw [zcc4] | rw [zb1 (by decide)] | rw [zb2 (by decide)] | rw [zb3 (by decide)] | rw [zb4 (by decide)] | rw [zn1 (by decide)] | rw [zn2 (by decide)] | rw [zn3 (by decide)] | rw [zn4 (by decide)] | rw [ze1 (by decide)] | rw [ze2 (by decide)] | rw [zd1 (by decide)] | rw [zd2 (by decide)] | rw [zswy (by decide)] | rw [zswn (by decide)] | rw [zsw0])
    exact ⟨trivial, h⟩
  | 4, _, 5, _, h => by
    replace h : zR ztb (d + 1) kX12_cropTaken 1 62 [some (.ref 287), some (.int x), some (.int 5), some (.int 4), some (.int 0)] [] n w M Q := h
    show zR ztb (d + 1) kX12_cropTaken 1 22 [some (.ref 287), some (.int x), some (.int 5), some (.int 4), none] [] n w M Q
    have p1 : ofK 4 1 = 0 := by decide
    have p3 : ofK 4 3 = 0 := by decide
    repeat (first | with_reducible refine zR.hold (pc := 62) ?_ | ((with_reducible refine zR.stored ?_); dsimp only [zsto, zclr, zset, zget, zc2, cond_false, cond_true]) | ((with_reducible refine zR.atLit ?_); first | refine zR.step rfl ?_ | (refine zR.cs rfl rfl rfl rfl rfl (zCalP.of (c_isPlanted 4 (by omega)) ?_); rw [p1]) | (refine zR.cs rfl rfl rfl rfl rfl (zCalP.of (c_isStored 4 (by omega)) ?_); rw [p3])) | rw [zcc1] | rw [zcc2] | rw [zcc3] | rw [zcc4] | rw [zb1 (by decide)] | rw [zb2 (by decide)] | rw [zb3 (by decide)] | rw [zb4 (by decide)] | rw [zn1 (by decide)] | rw [zn2 (by decide)] | rw [zn3 (by decide)] | rw [zn4 (by decide)] | rw [ze1 (by decide)] | rw [ze2 (by decide)] | rw [zd1 (by decide)] | rw [zd2 (by decide)] | rw [zswy (by decide)] | rw [zswn (by decide)] | rw [zsw0])
    exact ⟨trivial, h⟩
  | 5, _, 0, _, h => by
    replace h : zR ztb (d + 1) kX12_cropTaken 1 62 [some (.ref 287), some (.int x), some (.int 0), some (.int 5), some (.int 1)] [] n w M Q := h
    show zR ztb (d + 1) kX12_cropTaken 1 22 [some (.ref 287), some (.int x), some (.int 0), some (.int 5), none] [] n w M Q
    have p1 : ofK 5 1 = 1 := by decide
    have p3 : ofK 5 3 = 1 := by decide
    repeat (first | with_reducible refine zR.hold (pc := 62) ?_ | ((with_reducible refine zR.stored ?_); dsimp only [zsto, zclr, zset, zget, zc2, cond_false, cond_true]) | ((with_reducible refine zR.atLit ?_); first | refine zR.step rfl ?_ | (refine zR.cs rfl rfl rfl rfl rfl (zCalP.of (c_isPlanted 5 (by omega)) ?_); rw [p1]) | (refine zR.cs rfl rfl rfl rfl rfl (zCalP.of (c_isStored 5 (by omega)) ?_); rw [p3])) | rw [zcc1] | rw [zcc2] | rw [zcc3] | rw [zcc4] | rw [zb1 (by decide)] | rw [zb2 (by decide)] | rw [zb3 (by decide)] | rw [zb4 (by decide)] | rw [zn1 (by decide)] | rw [zn2 (by decide)] | rw [zn3 (by decide)] | rw [zn4 (by decide)] | rw [ze1 (by decide)] | rw [ze2 (by decide)] | rw [zd1 (by decide)] | rw [zd2 (by decide)] | rw [zswy (by decide)] | rw [zswn (by decide)] | rw [zsw0])
    exact ⟨trivial, h⟩
  | 5, _, 1, _, h => by
    replace h : zR ztb (d + 1) kX12_cropTaken 1 62 [some (.ref 287), some (.int x), some (.int 1), some (.int 5), some (.int 1)] [] n w M Q := h
    show zR ztb (d + 1) kX12_cropTaken 1 22 [some (.ref 287), some (.int x), some (.int 1), some (.int 5), none] [] n w M Q
    have p1 : ofK 5 1 = 1 := by decide
    have p3 : ofK 5 3 = 1 := by decide
    repeat (first | with_reducible refine zR.hold (pc := 62) ?_ | ((with_reducible refine zR.stored ?_); dsimp only [zsto, zclr, zset, zget, zc2, cond_false, cond_true]) | ((with_reducible refine zR.atLit ?_); first | refine zR.step rfl ?_ | (refine zR.cs rfl rfl rfl rfl rfl (zCalP.of (c_isPlanted 5 (by omega)) ?_); rw [p1]) | (refine zR.cs rfl rfl rfl rfl rfl (zCalP.of (c_isStored 5 (by omega)) ?_); rw [p3])) | rw [zcc1] | rw [zcc2] | rw [zcc3] | rw [zcc4] | rw [zb1 (by decide)] | rw [zb2 (by decide)] | rw [zb3 (by decide)] | rw [zb4 (by decide)] | rw [zn1 (by decide)] | rw [zn2 (by decide)] | rw [zn3 (by decide)] | rw [zn4 (by decide)] | rw [ze1 (by decide)] | rw [ze2 (by decide)] | rw [zd1 (by decide)] | rw [zd2 (by decide)] | rw [zswy (by decide)] | rw [zswn (by decide)] | rw [zsw0])
    exact ⟨trivial, h⟩
  | 5, _, 2, _, h => by
    replace h : zR ztb (d + 1) kX12_cropTaken 1 62 [some (.ref 287), some (.int x), some (.int 2), some (.int 5), some (.int 0)] [] n w M Q := h
    show zR ztb (d + 1) kX12_cropTaken 1 22 [some (.ref 287), some (.int x), some (.int 2), some (.int 5), none] [] n w M Q
    have p1 : ofK 5 1 = 1 := by decide
    have p3 : ofK 5 3 = 1 := by decide
    repeat (first | with_reducible refine zR.hold (pc := 62) ?_ | ((with_reducible refine zR.stored ?_); dsimp only [zsto, zclr, zset, zget, zc2, cond_false, cond_true]) | ((with_reducible refine zR.atLit ?_); first | refine zR.step rfl ?_ | (refine zR.cs rfl rfl rfl rfl rfl (zCalP.of (c_isPlanted 5 (by omega)) ?_); rw [p1]) | (refine zR.cs rfl rfl rfl rfl rfl (zCalP.of (c_isStored 5 (by omega)) ?_); rw [p3])) | rw [zcc1] | rw [zcc2] | rw [zcc3] | rw [zcc4] | rw [zb1 (by decide)] | rw [zb2 (by decide)] | rw [zb3 (by decide)] | rw [zb4 (by decide)] | rw [zn1 (by decide)] | rw [zn2 (by decide)] | rw [zn3 (by decide)] | rw [zn4 (by decide)] | rw [ze1 (by decide)] | rw [ze2 (by decide)] | rw [zd1 (by decide)] | rw [zd2 (by decide)] | rw [zswy (by decide)] | rw [zswn (by decide)] | rw [zsw0])
    exact ⟨trivial, h⟩
  | 5, _, 3, _, h => by
    replace h : zR ztb (d + 1) kX12_cropTaken 1 62 [some (.ref 287), some (.int x), some (.int 3), some (.int 5), some (.int 1)] [] n w M Q := h
    show zR ztb (d + 1) kX12_cropTaken 1 22 [some (.ref 287), some (.int x), some (.int 3), some (.int 5), none] [] n w M Q
    have p1 : ofK 5 1 = 1 := by decide
    have p3 : ofK 5 3 = 1 := by decide
    repeat (first | with_reducible refine zR.hold (pc := 62) ?_ | ((with_reducible refine zR.stored ?_); dsimp only [zsto, zclr, zset, zget, zc2, cond_false, cond_true]) | ((with_reducible refine zR.atLit ?_); first | refine zR.step rfl ?_ | (refine zR.cs rfl rfl rfl rfl rfl (zCalP.of (c_isPlanted 5 (by omega)) ?_); rw [p1]) | (refine zR.cs rfl rfl rfl rfl rfl (zCalP.of (c_isStored 5 (by omega)) ?_); rw [p3])) | rw [zcc1] | rw [zcc2] | rw [zcc3] | rw [zcc4] | rw [zb1 (by decide)] | rw [zb2 (by decide)] | rw [zb3 (by decide)] | rw [zb4 (by decide)] | rw [zn1 (by decide)] | rw [zn2 (by decide)] | rw [zn3 (by decide)] | rw [zn4 (by decide)] | rw [ze1 (by decide)] | rw [ze2 (by decide)] | rw [zd1 (by decide)] | rw [zd2 (by decide)] | rw [zswy (by decide)] | rw [zswn (by decide)] | rw [zsw0])
    exact ⟨trivial, h⟩
  | 5, _, 4, _, h => by
    replace h : zR ztb (d + 1) kX12_cropTaken 1 62 [some (.ref 287), some (.int x), some (.int 4), some (.int 5), some (.int 0)] [] n w M Q := h
    show zR ztb (d + 1) kX12_cropTaken 1 22 [some (.ref 287), some (.int x), some (.int 4), some (.int 5), none] [] n w M Q
    have p1 : ofK 5 1 = 1 := by decide
    have p3 : ofK 5 3 = 1 := by decide
    repeat (first | with_reducible refine zR.hold (pc := 62) ?_ | ((with_reducible refine zR.stored ?_); dsimp only [zsto, zclr, zset, zget, zc2, cond_false, cond_true]) | ((with_reducible refine zR.atLit ?_); first | refine zR.step rfl ?_ | (refine zR.cs rfl rfl rfl rfl rfl (zCalP.of (c_isPlanted 5 (by omega)) ?_); rw [p1]) | (refine zR.cs rfl rfl rfl rfl rfl (zCalP.of (c_isStored 5 (by omega)) ?_); rw [p3])) | rw [zcc1] | rw [zcc2] | rw [zcc3] | rw [zcc4] | rw [zb1 (by decide)] | rw [zb2 (by decide)] | rw [zb3 (by decide)] | rw [zb4 (by decide)] | rw [zn1 (by decide)] | rw [zn2 (by decide)] | rw [zn3 (by decide)] | rw [zn4 (by decide)] | rw [ze1 (by decide)] | rw [ze2 (by decide)] | rw [zd1 (by decide)] | rw [zd2 (by decide)] | rw [zswy (by decide)] | rw [zswn (by decide)] | rw [zsw0])
    exact ⟨trivial, h⟩
  | 5, _, 5, _, h => by
    replace h : zR ztb (d + 1) kX12_cropTaken 1 62 [some (.ref 287), some (.int x), some (.int 5), some (.int 5), some (.int 1)] [] n w M Q := h
    show zR ztb (d + 1) kX12_cropTaken 1 22 [some (.ref 287), some (.int x), some (.int 5), some (.int 5), none] [] n w M Q
    have p1 : ofK 5 1 = 1 := by decide
    have p3 : ofK 5 3 = 1 := by decide
    repeat (first | with_reducible refine zR.hold (pc := 62) ?_ | ((with_reducible refine zR.stored ?_); dsimp only [zsto, zclr, zset, zget, zc2, cond_false, cond_true]) | ((with_reducible refine zR.atLit ?_); first | refine zR.step rfl ?_ | (refine zR.cs rfl rfl rfl rfl rfl (zCalP.of (c_isPlanted 5 (by omega)) ?_); rw [p1]) | (refine zR.cs rfl rfl rfl rfl rfl (zCalP.of (c_isStored 5 (by omega)) ?_); rw [p3])) | rw [zcc1] | rw [zcc2] | rw [zcc3] | rw [zcc4] | rw [zb1 (by decide)] | rw [zb2 (by decide)] | rw [zb3 (by decide)] | rw [zb4 (by decide)] | rw [zn1 (by decide)] | rw [zn2 (by decide)] | rw [zn3 (by decide)] | rw [zn4 (by decide)] | rw [ze1 (by decide)] | rw [ze2 (by decide)] | rw [zd1 (by decide)] | rw [zd2 (by decide)] | rw [zswy (by decide)] | rw [zswn (by decide)] | rw [zsw0])
    exact ⟨trivial, h⟩
  | k + 6, h, _, _, _ => absurd h (by omega)
  | _, _, q + 6, h, _ => absurd h (by omega)
theorem forge_0 {L : Nat} {xs : Nat → Int32} {b c : Int32} (eb : inI b (-100) 100 = 1) (ec : inI c (-100) 100 = 1) : opOK (Inv L xs) 115 222 [.int 0, .int b, .int c] := by
  intro  M σ n w hI
  have hI' := hI
  obtain ⟨t, tr, c0, c1, c2, k0, k1, k2, b0, b1, b2, l0, l1, l2, hR, ⟨hT, hG0, hG1, hG2⟩, hg, hk, ht, hx, hn⟩ := hI
  have h25 := hT.1
  have hg' := hg
  obtain ⟨nc, nh, nl, lm, wk, hN, ⟨hC, hCn⟩, hB, hL, hSt, hH, hW, hX⟩ := hg'
  obtain ⟨N1, N2, N3, N4, N5, N6, N7, N8, N9, N10, N11, N12, N13, N14, N15, N16, N17⟩ := hN
  obtain ⟨ic, hic⟩ := in100 ec
  obtain ⟨ib, hib⟩ := in100 eb
  obtain ⟨⟨f8, m8⟩, ⟨f4, m4⟩, -⟩ := md8 ic
  obtain ⟨-, -, ⟨f6, m6⟩, -⟩ := md8 ib
  rw [← hic] at f8 m8 f4 m4
  rw [← hib] at f6 m6
  have h8 : (ic.val + 4) % 8 < 8 := Nat.mod_lt _ (by omega)
  have h4 : ic.val % 4 < 4 := Nat.mod_lt _ (by omega)
  have h6 : (ib.val + 2) % 6 < 6 := Nat.mod_lt _ (by omega)
  generalize (ic.val + 4) % 8 = c8 at f8 m8 h8
  generalize ic.val % 4 = t4 at f4 m4 h4
  generalize (ib.val + 2) % 6 = n6 at f6 m6 h6
  have ej : inI 0 0 6 = 1 := by decide
  show zR ztb _ kX11_forge 1 0 [some (.ref 25), some (.int 0), some (.int b), some (.int c)] [] _ _ _ _
  rcases inI_sub (nI c8) nc (by omega) with ⟨i, hi, e, ez⟩ | ⟨-, ez⟩
  · have ei : c8 = i := zn_inj (by omega) (by omega) e
    subst ei
    have ecc : inI (nI c8) 0 (c0 0 0 - 1) = 1 := by rw [N11, N1]; exact ez
    have er : inI (nI c8) 0 (σ 0 2 - 1) = 1 := by rw [N1]; exact ez
    obtain ⟨⟨ca, hk1, hc1⟩, ⟨kd, hkd, -, hkd2⟩, -⟩ := hC c8 hi
    have hcM := hc1.2.2
    have ek : σ 0 (50 + 10 * c8 + 0) = nI kd := hkd
    repeat (first | ((with_reducible refine zR.stored ?_); dsimp only [zsto, zclr, zset, zget, zc2, cond_false, cond_true]) | ((with_reducible refine zR.atLit ?_); first | refine zR.step rfl ?_ | refine zR.cs rfl rfl rfl rfl rfl (zCalP.of (c_isWithin _ _ _) ?_) | refine zR.getf rfl (h25) rfl ?_ | (refine zR.cs rfl rfl rfl rfl rfl (zCalP.of (c_floorMod _ 8 (by decide)) ?_); rw [f8]) | refine zR.cv rfl rfl rfl hG0.o rfl rfl (zCalP.of (c_cropAt_y hG0 ecc (by omega) hk1) ?_) | (refine zR.cs rfl rfl rfl rfl rfl (zCalP.of (c_floorMod _ 6 (by decide)) ?_); rw [f6])) | rw [zcc1] | rw [zcc2] | rw [zcc3] | rw [zcc4] | rw [eb] | rw [ec] | rw [zb1 (by decide)] | rw [zb2 (by decide)] | rw [zb3 (by decide)] | rw [zb4 (by decide)] | rw [zn1 (by decide)] | rw [zn2 (by decide)] | rw [zn3 (by decide)] | rw [zn4 (by decide)] | rw [ze1 (by decide)] | rw [ze2 (by decide)] | rw [zd1 (by decide)] | rw [zd2 (by decide)] | rw [zswy (by decide)] | rw [zswn (by decide)] | rw [zsw0])
    refine zR.cv rfl rfl rfl h25 rfl rfl ?_
    show zR ztb _ kX11_takeForKind 1 0 [some (.ref 25), some (.ref ca), some (.int (nI n6))] [] _ _ _ _
    repeat (first | ((with_reducible refine zR.stored ?_); dsimp only [zsto, zclr, zset, zget, zc2, cond_false, cond_true]) | ((with_reducible refine zR.atLit ?_); first | refine zR.step rfl ?_ | refine zR.getf rfl (hcM) rfl ?_) | rw [zcc1] | rw [zcc2] | rw [zcc3] | rw [zcc4])
    rw [hkd]
    refine zR.cs rfl rfl rfl rfl rfl (zCalP.of (c_isOfKind (hAb hx) kd (by omega) n6 h6) ?_)
    rcases ofK_01 kd n6 with z | z
    · rw [z]
      repeat (first | ((with_reducible refine zR.stored ?_); dsimp only [zsto, zclr, zset, zget, zc2, cond_false, cond_true]) | ((with_reducible refine zR.atLit ?_); first | refine zR.step rfl ?_ | refine zR.getf rfl (hcM) rfl ?_ | refine zR.cv rfl rfl rfl h25 rfl rfl (zCalP.of (c_refuse h25 _) ?_)) | rw [zcc1] | rw [zcc2] | rw [zcc3] | rw [zcc4])
      refine zR.ret rfl rfl ?_
      repeat (first | ((with_reducible refine zR.stored ?_); dsimp only [zsto, zclr, zset, zget, zc2, cond_false, cond_true]) | ((with_reducible refine zR.atLit ?_); first | refine zR.step rfl ?_) | rw [zcc1] | rw [zcc2] | rw [zcc3] | rw [zcc4])
      refine zR.ret rfl rfl ⟨_, rfl, ⟨_, (hR.out (by omega)).1⟩, rfl, ?_⟩
      replace hR : Rf (zup M 25 (.inr (11, tob (tst t 11)))) σ := hR.out (by omega)
      have hS : Sm (zup M 25 (.inr (11, tob (tst t 11)))) (zup M 25 (.inr (11, tob (tst t 11)))) := Sm.rf
      show zR ztb _ kX12_forge 1 0 [some (.ref 287), some (.int 0), some (.int b), some (.int c), none, none] [] _ _ _ _
      repeat (first | ((with_reducible refine zR.stored ?_); dsimp only [zsto, zclr, zset, zget, zc2, cond_false, cond_true]) | ((with_reducible refine zR.atLit ?_); first | refine zR.step rfl ?_ | refine zR.cs rfl rfl rfl rfl rfl (zCalP.of (c_in _ _ _) ?_) | (refine zR.cs rfl rfl rfl rfl rfl (zCalP.of (c_modulo _ 8 (by decide)) ?_); rw [m8]) | (refine zR.cs rfl rfl rfl rfl rfl (zCalP.of (c_modulo _ 4 (by decide)) ?_); rw [m4]) | (refine zR.cs rfl rfl rfl rfl rfl (zCalP.of (c_modulo _ 6 (by decide)) ?_); rw [m6])) | rw [zcc1] | rw [zcc2] | rw [zcc3] | rw [zcc4] | rw [ej] | rw [eb] | rw [ec] | rw [zb1 (by decide)] | rw [zb2 (by decide)] | rw [zb3 (by decide)] | rw [zb4 (by decide)] | rw [zn1 (by decide)] | rw [zn2 (by decide)] | rw [zn3 (by decide)] | rw [zn4 (by decide)] | rw [ze1 (by decide)] | rw [ze2 (by decide)] | rw [zd1 (by decide)] | rw [zd2 (by decide)] | rw [zswy (by decide)] | rw [zswn (by decide)] | rw [zsw0])
      refine zR.cv rfl rfl rfl hR.1 rfl rfl ?_
      show zR ztb _ kX12_cropTaken 1 0 [some (.ref 287), some (.int (nI c8)), some (.int (nI n6)), none, none] [] _ _ _ _
      repeat (first | with_reducible refine zR.hold (pc := 22) ?_ | ((with_reducible refine zR.stored ?_); dsimp only [zsto, zclr, zset, zget, zc2, cond_false, cond_true]) | ((with_reducible refine zR.atLit ?_); first | refine zR.step rfl ?_ | refine zR.cv rfl rfl rfl hR.1 rfl rfl (zCalP.of (c_isCrop hR _) ?_) | (refine zR.cv rfl rfl rfl hR.1 rfl rfl (zCalP.of (c_cropIs hR c8 0 (by omega)) ?_); rw [ek])) | rw [zcc1] | rw [zcc2] | rw [zcc3] | rw [zcc4] | rw [er])
      refine ⟨trivial, ct_is kd hkd2 n6 h6 ?_⟩
      rw [z]
      repeat (first | ((with_reducible refine zR.stored ?_); dsimp only [zsto, zclr, zset, zget, zc2, cond_false, cond_true]) | ((with_reducible refine zR.atLit ?_); first | refine zR.step rfl ?_) | rw [zcc1] | rw [zcc2] | rw [zcc3] | rw [zcc4])
      refine zR.cv rfl rfl rfl hR.1 rfl rfl (zR.mono (c_refused hR _) (fun v n' w' M' hv => ?_))
      obtain ⟨rfl, rfl, rfl, hR2, hS2⟩ := hv
      repeat (first | ((with_reducible refine zR.stored ?_); dsimp only [zsto, zclr, zset, zget, zc2, cond_false, cond_true]) | ((with_reducible refine zR.atLit ?_); first | refine zR.step rfl ?_) | rw [zcc1] | rw [zcc2] | rw [zcc3] | rw [zcc4])
      refine zR.ret rfl rfl ?_
      repeat (first | ((with_reducible refine zR.stored ?_); dsimp only [zsto, zclr, zset, zget, zc2, cond_false, cond_true]) | ((with_reducible refine zR.atLit ?_); first | refine zR.step rfl ?_) | rw [zcc1] | rw [zcc2] | rw [zcc3] | rw [zcc4])
      refine zR.ret rfl rfl ⟨rfl, by omega, by omega, _, inv_fin ⟨hT, hG0, hG1, hG2⟩ hg hk ht hx hn hR2 (hS.trans hS2)⟩
    · rw [z]
      repeat (first | ((with_reducible refine zR.stored ?_); dsimp only [zsto, zclr, zset, zget, zc2, cond_false, cond_true]) | ((with_reducible refine zR.atLit ?_); first | refine zR.step rfl ?_ | refine zR.getf rfl (hcM) rfl ?_ | refine zR.cv rfl rfl rfl h25 rfl rfl (zCalP.of (c_doneC h25 _) ?_)) | rw [zcc1] | rw [zcc2] | rw [zcc3] | rw [zcc4])
      refine zR.ret rfl rfl ?_
      repeat (first | ((with_reducible refine zR.stored ?_); dsimp only [zsto, zclr, zset, zget, zc2, cond_false, cond_true]) | ((with_reducible refine zR.atLit ?_); first | refine zR.step rfl ?_) | rw [zcc1] | rw [zcc2] | rw [zcc3] | rw [zcc4])
      refine zR.ret rfl rfl ⟨_, rfl, ⟨_, (hR.out (by omega)).1⟩, rfl, ?_⟩
      replace hR : Rf (zup M 25 (.inr (11, tob (tst t 0)))) σ := hR.out (by omega)
      have hS : Sm (zup M 25 (.inr (11, tob (tst t 0)))) (zup M 25 (.inr (11, tob (tst t 0)))) := Sm.rf
      show zR ztb _ kX12_forge 1 0 [some (.ref 287), some (.int 0), some (.int b), some (.int c), none, none] [] _ _ _ _
      repeat (first | ((with_reducible refine zR.stored ?_); dsimp only [zsto, zclr, zset, zget, zc2, cond_false, cond_true]) | ((with_reducible refine zR.atLit ?_); first | refine zR.step rfl ?_ | refine zR.cs rfl rfl rfl rfl rfl (zCalP.of (c_in _ _ _) ?_) | (refine zR.cs rfl rfl rfl rfl rfl (zCalP.of (c_modulo _ 8 (by decide)) ?_); rw [m8]) | (refine zR.cs rfl rfl rfl rfl rfl (zCalP.of (c_modulo _ 4 (by decide)) ?_); rw [m4]) | (refine zR.cs rfl rfl rfl rfl rfl (zCalP.of (c_modulo _ 6 (by decide)) ?_); rw [m6])) | rw [zcc1] | rw [zcc2] | rw [zcc3] | rw [zcc4] | rw [ej] | rw [eb] | rw [ec] | rw [zb1 (by decide)] | rw [zb2 (by decide)] | rw [zb3 (by decide)] | rw [zb4 (by decide)] | rw [zn1 (by decide)] | rw [zn2 (by decide)] | rw [zn3 (by decide)] | rw [zn4 (by decide)] | rw [ze1 (by decide)] | rw [ze2 (by decide)] | rw [zd1 (by decide)] | rw [zd2 (by decide)] | rw [zswy (by decide)] | rw [zswn (by decide)] | rw [zsw0])
      refine zR.cv rfl rfl rfl hR.1 rfl rfl ?_
      show zR ztb _ kX12_cropTaken 1 0 [some (.ref 287), some (.int (nI c8)), some (.int (nI n6)), none, none] [] _ _ _ _
      repeat (first | with_reducible refine zR.hold (pc := 22) ?_ | ((with_reducible refine zR.stored ?_); dsimp only [zsto, zclr, zset, zget, zc2, cond_false, cond_true]) | ((with_reducible refine zR.atLit ?_); first | refine zR.step rfl ?_ | refine zR.cv rfl rfl rfl hR.1 rfl rfl (zCalP.of (c_isCrop hR _) ?_) | (refine zR.cv rfl rfl rfl hR.1 rfl rfl (zCalP.of (c_cropIs hR c8 0 (by omega)) ?_); rw [ek])) | rw [zcc1] | rw [zcc2] | rw [zcc3] | rw [zcc4] | rw [er])
      refine ⟨trivial, ct_is kd hkd2 n6 h6 ?_⟩
      rw [z]
      repeat (first | ((with_reducible refine zR.stored ?_); dsimp only [zsto, zclr, zset, zget, zc2, cond_false, cond_true]) | ((with_reducible refine zR.atLit ?_); first | refine zR.step rfl ?_) | rw [zcc1] | rw [zcc2] | rw [zcc3] | rw [zcc4])
      refine zR.cv rfl rfl rfl hR.1 rfl rfl (zR.mono (c_done hR _) (fun v n' w' M' hv => ?_))
      obtain ⟨rfl, rfl, rfl, hR2, hS2⟩ := hv
      repeat (first | ((with_reducible refine zR.stored ?_); dsimp only [zsto, zclr, zset, zget, zc2, cond_false, cond_true]) | ((with_reducible refine zR.atLit ?_); first | refine zR.step rfl ?_) | rw [zcc1] | rw [zcc2] | rw [zcc3] | rw [zcc4])
      refine zR.ret rfl rfl ?_
      repeat (first | ((with_reducible refine zR.stored ?_); dsimp only [zsto, zclr, zset, zget, zc2, cond_false, cond_true]) | ((with_reducible refine zR.atLit ?_); first | refine zR.step rfl ?_) | rw [zcc1] | rw [zcc2] | rw [zcc3] | rw [zcc4])
      refine zR.ret rfl rfl ⟨by rw [hkd], by omega, by omega, _, inv_fin ⟨hT, hG0, hG1, hG2⟩ hg hk ht hx hn hR2 (hS.trans hS2)⟩
  · have ecc : inI (nI c8) 0 (c0 0 0 - 1) = 0 := by rw [N11, N1]; exact ez
    have er : inI (nI c8) 0 (σ 0 2 - 1) = 0 := by rw [N1]; exact ez
    repeat (first | ((with_reducible refine zR.stored ?_); dsimp only [zsto, zclr, zset, zget, zc2, cond_false, cond_true]) | ((with_reducible refine zR.atLit ?_); first | refine zR.step rfl ?_ | refine zR.cs rfl rfl rfl rfl rfl (zCalP.of (c_isWithin _ _ _) ?_) | refine zR.getf rfl (h25) rfl ?_ | (refine zR.cs rfl rfl rfl rfl rfl (zCalP.of (c_floorMod _ 8 (by decide)) ?_); rw [f8]) | refine zR.cv rfl rfl rfl hG0.o rfl rfl (zCalP.of (c_cropAt_n hG0 ecc) ?_) | (refine zR.cs rfl rfl rfl rfl rfl (zCalP.of (c_floorMod _ 6 (by decide)) ?_); rw [f6])) | rw [zcc1] | rw [zcc2] | rw [zcc3] | rw [zcc4] | rw [eb] | rw [ec] | rw [zb1 (by decide)] | rw [zb2 (by decide)] | rw [zb3 (by decide)] | rw [zb4 (by decide)] | rw [zn1 (by decide)] | rw [zn2 (by decide)] | rw [zn3 (by decide)] | rw [zn4 (by decide)] | rw [ze1 (by decide)] | rw [ze2 (by decide)] | rw [zd1 (by decide)] | rw [zd2 (by decide)] | rw [zswy (by decide)] | rw [zswn (by decide)] | rw [zsw0])
    refine zR.cv rfl rfl rfl h25 rfl rfl ?_
    show zR ztb _ kX11_takeForKind 1 0 [some (.ref 25), some (.null), some (.int (nI n6))] [] _ _ _ _
    repeat (first | ((with_reducible refine zR.stored ?_); dsimp only [zsto, zclr, zset, zget, zc2, cond_false, cond_true]) | ((with_reducible refine zR.atLit ?_); first | refine zR.step rfl ?_ | refine zR.cv rfl rfl rfl h25 rfl rfl (zCalP.of (c_refuse h25 _) ?_)) | rw [zcc1] | rw [zcc2] | rw [zcc3] | rw [zcc4])
    refine zR.ret rfl rfl ?_
    repeat (first | ((with_reducible refine zR.stored ?_); dsimp only [zsto, zclr, zset, zget, zc2, cond_false, cond_true]) | ((with_reducible refine zR.atLit ?_); first | refine zR.step rfl ?_) | rw [zcc1] | rw [zcc2] | rw [zcc3] | rw [zcc4])
    refine zR.ret rfl rfl ⟨_, rfl, ⟨_, (hR.out (by omega)).1⟩, rfl, ?_⟩
    replace hR : Rf (zup M 25 (.inr (11, tob (tst t 10)))) σ := hR.out (by omega)
    have hS : Sm (zup M 25 (.inr (11, tob (tst t 10)))) (zup M 25 (.inr (11, tob (tst t 10)))) := Sm.rf
    show zR ztb _ kX12_forge 1 0 [some (.ref 287), some (.int 0), some (.int b), some (.int c), none, none] [] _ _ _ _
    repeat (first | ((with_reducible refine zR.stored ?_); dsimp only [zsto, zclr, zset, zget, zc2, cond_false, cond_true]) | ((with_reducible refine zR.atLit ?_); first | refine zR.step rfl ?_ | refine zR.cs rfl rfl rfl rfl rfl (zCalP.of (c_in _ _ _) ?_) | (refine zR.cs rfl rfl rfl rfl rfl (zCalP.of (c_modulo _ 8 (by decide)) ?_); rw [m8]) | (refine zR.cs rfl rfl rfl rfl rfl (zCalP.of (c_modulo _ 4 (by decide)) ?_); rw [m4]) | (refine zR.cs rfl rfl rfl rfl rfl (zCalP.of (c_modulo _ 6 (by decide)) ?_); rw [m6])) | rw [zcc1] | rw [zcc2] | rw [zcc3] | rw [zcc4] | rw [ej] | rw [eb] | rw [ec] | rw [zb1 (by decide)] | rw [zb2 (by decide)] | rw [zb3 (by decide)] | rw [zb4 (by decide)] | rw [zn1 (by decide)] | rw [zn2 (by decide)] | rw [zn3 (by decide)] | rw [zn4 (by decide)] | rw [ze1 (by decide)] | rw [ze2 (by decide)] | rw [zd1 (by decide)] | rw [zd2 (by decide)] | rw [zswy (by decide)] | rw [zswn (by decide)] | rw [zsw0])
    refine zR.cv rfl rfl rfl hR.1 rfl rfl ?_
    show zR ztb _ kX12_cropTaken 1 0 [some (.ref 287), some (.int (nI c8)), some (.int (nI n6)), none, none] [] _ _ _ _
    repeat (first | ((with_reducible refine zR.stored ?_); dsimp only [zsto, zclr, zset, zget, zc2, cond_false, cond_true]) | ((with_reducible refine zR.atLit ?_); first | refine zR.step rfl ?_ | refine zR.cv rfl rfl rfl hR.1 rfl rfl (zCalP.of (c_isCrop hR _) ?_)) | rw [zcc1] | rw [zcc2] | rw [zcc3] | rw [zcc4] | rw [er])
    refine zR.cv rfl rfl rfl hR.1 rfl rfl (zR.mono (c_refused hR _) (fun v n' w' M' hv => ?_))
    obtain ⟨rfl, rfl, rfl, hR2, hS2⟩ := hv
    repeat (first | ((with_reducible refine zR.stored ?_); dsimp only [zsto, zclr, zset, zget, zc2, cond_false, cond_true]) | ((with_reducible refine zR.atLit ?_); first | refine zR.step rfl ?_) | rw [zcc1] | rw [zcc2] | rw [zcc3] | rw [zcc4])
    refine zR.ret rfl rfl ?_
    repeat (first | ((with_reducible refine zR.stored ?_); dsimp only [zsto, zclr, zset, zget, zc2, cond_false, cond_true]) | ((with_reducible refine zR.atLit ?_); first | refine zR.step rfl ?_) | rw [zcc1] | rw [zcc2] | rw [zcc3] | rw [zcc4])
    refine zR.ret rfl rfl ⟨rfl, by omega, by omega, _, inv_fin ⟨hT, hG0, hG1, hG2⟩ hg hk ht hx hn hR2 (hS.trans hS2)⟩
theorem forge_4 {L : Nat} {xs : Nat → Int32} {b c : Int32} (eb : inI b (-100) 100 = 1) (ec : inI c (-100) 100 = 1) : opOK (Inv L xs) 115 222 [.int 4, .int b, .int c] := by
  intro  M σ n w hI
  have hI' := hI
  obtain ⟨t, tr, c0, c1, c2, k0, k1, k2, b0, b1, b2, l0, l1, l2, hR, ⟨hT, hG0, hG1, hG2⟩, hg, hk, ht, hx, hn⟩ := hI
  have h25 := hT.1
  have hg' := hg
  obtain ⟨nc, nh, nl, lm, wk, hN, ⟨hC, hCn⟩, hB, hL, hSt, hH, hW, hX⟩ := hg'
  obtain ⟨N1, N2, N3, N4, N5, N6, N7, N8, N9, N10, N11, N12, N13, N14, N15, N16, N17⟩ := hN
  obtain ⟨ic, hic⟩ := in100 ec
  obtain ⟨ib, hib⟩ := in100 eb
  obtain ⟨⟨f8, m8⟩, ⟨f4, m4⟩, -⟩ := md8 ic
  obtain ⟨-, -, ⟨f6, m6⟩, -⟩ := md8 ib
  rw [← hic] at f8 m8 f4 m4
  rw [← hib] at f6 m6
  have h8 : (ic.val + 4) % 8 < 8 := Nat.mod_lt _ (by omega)
  have h4 : ic.val % 4 < 4 := Nat.mod_lt _ (by omega)
  have h6 : (ib.val + 2) % 6 < 6 := Nat.mod_lt _ (by omega)
  generalize (ic.val + 4) % 8 = c8 at f8 m8 h8
  generalize ic.val % 4 = t4 at f4 m4 h4
  generalize (ib.val + 2) % 6 = n6 at f6 m6 h6
  have ej : inI 4 0 6 = 1 := by decide
  show zR ztb _ kX11_forge 1 0 [some (.ref 25), some (.int 4), some (.int b), some (.int c)] [] _ _ _ _
  rcases inI_sub (nI c8) nc (by omega) with ⟨i, hi, e, ez⟩ | ⟨-, ez⟩
  · have ei : c8 = i := zn_inj (by omega) (by omega) e
    subst ei
    have ecc : inI (nI c8) 0 (c0 0 0 - 1) = 1 := by rw [N11, N1]; exact ez
    have er : inI (nI c8) 0 (σ 0 2 - 1) = 1 := by rw [N1]; exact ez
    obtain ⟨⟨ca, hk1, hc1⟩, ⟨kd, hkd, -, hkd2⟩, -⟩ := hC c8 hi
    have hcM := hc1.2.2
    have ek : σ 0 (50 + 10 * c8 + 0) = nI kd := hkd
    repeat (first | ((with_reducible refine zR.stored ?_); dsimp only [zsto, zclr, zset, zget, zc2, cond_false, cond_true]) | ((with_reducible refine zR.atLit ?_); first | refine zR.step rfl ?_ | refine zR.cs rfl rfl rfl rfl rfl (zCalP.of (c_isWithin _ _ _) ?_) | refine zR.getf rfl (h25) rfl ?_ | (refine zR.cs rfl rfl rfl rfl rfl (zCalP.of (c_floorMod _ 8 (by decide)) ?_); rw [f8]) | refine zR.cv rfl rfl rfl hG0.o rfl rfl (zCalP.of (c_cropAt_y hG0 ecc (by omega) hk1) ?_) | (refine zR.cs rfl rfl rfl rfl rfl (zCalP.of (c_floorMod _ 6 (by decide)) ?_); rw [f6])) | rw [zcc1] | rw [zcc2] | rw [zcc3] | rw [zcc4] | rw [eb] | rw [ec] | rw [zb1 (by decide)] | rw [zb2 (by decide)] | rw [zb3 (by decide)] | rw [zb4 (by decide)] | rw [zn1 (by decide)] | rw [zn2 (by decide)] | rw [zn3 (by decide)] | rw [zn4 (by decide)] | rw [ze1 (by decide)] | rw [ze2 (by decide)] | rw [zd1 (by decide)] | rw [zd2 (by decide)] | rw [zswy (by decide)] | rw [zswn (by decide)] | rw [zsw0])
    refine zR.cv rfl rfl rfl h25 rfl rfl ?_
    show zR ztb _ kX11_putAmongPlanted 1 0 [some (.ref 25), some (.ref ca)] [] _ _ _ _
    repeat (first | ((with_reducible refine zR.stored ?_); dsimp only [zsto, zclr, zset, zget, zc2, cond_false, cond_true]) | ((with_reducible refine zR.atLit ?_); first | refine zR.step rfl ?_ | refine zR.getf rfl (hcM) rfl ?_) | rw [zcc1] | rw [zcc2] | rw [zcc3] | rw [zcc4])
    rw [hkd]
    refine zR.cs rfl rfl rfl rfl rfl (zCalP.of (c_isOfKind (hAb hx) kd (by omega) 1 (by omega)) ?_)
    rcases ofK_01 kd 1 with z | z
    · rw [z]
      repeat (first | ((with_reducible refine zR.stored ?_); dsimp only [zsto, zclr, zset, zget, zc2, cond_false, cond_true]) | ((with_reducible refine zR.atLit ?_); first | refine zR.step rfl ?_ | refine zR.getf rfl (hcM) rfl ?_ | refine zR.cv rfl rfl rfl h25 rfl rfl (zCalP.of (c_refuse h25 _) ?_)) | rw [zcc1] | rw [zcc2] | rw [zcc3] | rw [zcc4])
      refine zR.ret rfl rfl ?_
      repeat (first | ((with_reducible refine zR.stored ?_); dsimp only [zsto, zclr, zset, zget, zc2, cond_false, cond_true]) | ((with_reducible refine zR.atLit ?_); first | refine zR.step rfl ?_) | rw [zcc1] | rw [zcc2] | rw [zcc3] | rw [zcc4])
      refine zR.ret rfl rfl ⟨_, rfl, ⟨_, (hR.out (by omega)).1⟩, rfl, ?_⟩
      replace hR : Rf (zup M 25 (.inr (11, tob (tst t 14)))) σ := hR.out (by omega)
      have hS : Sm (zup M 25 (.inr (11, tob (tst t 14)))) (zup M 25 (.inr (11, tob (tst t 14)))) := Sm.rf
      show zR ztb _ kX12_forge 1 0 [some (.ref 287), some (.int 4), some (.int b), some (.int c), none, none] [] _ _ _ _
      repeat (first | ((with_reducible refine zR.stored ?_); dsimp only [zsto, zclr, zset, zget, zc2, cond_false, cond_true]) | ((with_reducible refine zR.atLit ?_); first | refine zR.step rfl ?_ | refine zR.cs rfl rfl rfl rfl rfl (zCalP.of (c_in _ _ _) ?_) | (refine zR.cs rfl rfl rfl rfl rfl (zCalP.of (c_modulo _ 8 (by decide)) ?_); rw [m8]) | (refine zR.cs rfl rfl rfl rfl rfl (zCalP.of (c_modulo _ 4 (by decide)) ?_); rw [m4]) | refine zR.cv rfl rfl rfl hR.1 rfl rfl (zCalP.of (c_isCrop hR _) ?_) | (refine zR.cv rfl rfl rfl hR.1 rfl rfl (zCalP.of (c_cropIs hR c8 0 (by omega)) ?_); rw [ek]) | (refine zR.cs rfl rfl rfl rfl rfl (zCalP.of (c_isPlanted kd hkd2) ?_); rw [z])) | rw [zcc1] | rw [zcc2] | rw [zcc3] | rw [zcc4] | rw [ej] | rw [eb] | rw [ec] | rw [zb1 (by decide)] | rw [zb2 (by decide)] | rw [zb3 (by decide)] | rw [zb4 (by decide)] | rw [zn1 (by decide)] | rw [zn2 (by decide)] | rw [zn3 (by decide)] | rw [zn4 (by decide)] | rw [ze1 (by decide)] | rw [ze2 (by decide)] | rw [zd1 (by decide)] | rw [zd2 (by decide)] | rw [zswy (by decide)] | rw [zswn (by decide)] | rw [zsw0] | rw [er])
      refine zR.cv rfl rfl rfl hR.1 rfl rfl (zR.mono (c_refused hR _) (fun v n' w' M' hv => ?_))
      obtain ⟨rfl, rfl, rfl, hR2, hS2⟩ := hv
      repeat (first | ((with_reducible refine zR.stored ?_); dsimp only [zsto, zclr, zset, zget, zc2, cond_false, cond_true]) | ((with_reducible refine zR.atLit ?_); first | refine zR.step rfl ?_) | rw [zcc1] | rw [zcc2] | rw [zcc3] | rw [zcc4])
      refine zR.ret rfl rfl ⟨rfl, by omega, by omega, _, inv_fin ⟨hT, hG0, hG1, hG2⟩ hg hk ht hx hn hR2 (hS.trans hS2)⟩
    · rw [z]
      repeat (first | ((with_reducible refine zR.stored ?_); dsimp only [zsto, zclr, zset, zget, zc2, cond_false, cond_true]) | ((with_reducible refine zR.atLit ?_); first | refine zR.step rfl ?_ | refine zR.getf rfl (hcM) rfl ?_ | refine zR.cv rfl rfl rfl h25 rfl rfl (zCalP.of (c_doneC h25 _) ?_)) | rw [zcc1] | rw [zcc2] | rw [zcc3] | rw [zcc4])
      refine zR.ret rfl rfl ?_
      repeat (first | ((with_reducible refine zR.stored ?_); dsimp only [zsto, zclr, zset, zget, zc2, cond_false, cond_true]) | ((with_reducible refine zR.atLit ?_); first | refine zR.step rfl ?_) | rw [zcc1] | rw [zcc2] | rw [zcc3] | rw [zcc4])
      refine zR.ret rfl rfl ⟨_, rfl, ⟨_, (hR.out (by omega)).1⟩, rfl, ?_⟩
      replace hR : Rf (zup M 25 (.inr (11, tob (tst t 0)))) σ := hR.out (by omega)
      have hS : Sm (zup M 25 (.inr (11, tob (tst t 0)))) (zup M 25 (.inr (11, tob (tst t 0)))) := Sm.rf
      show zR ztb _ kX12_forge 1 0 [some (.ref 287), some (.int 4), some (.int b), some (.int c), none, none] [] _ _ _ _
      repeat (first | ((with_reducible refine zR.stored ?_); dsimp only [zsto, zclr, zset, zget, zc2, cond_false, cond_true]) | ((with_reducible refine zR.atLit ?_); first | refine zR.step rfl ?_ | refine zR.cs rfl rfl rfl rfl rfl (zCalP.of (c_in _ _ _) ?_) | (refine zR.cs rfl rfl rfl rfl rfl (zCalP.of (c_modulo _ 8 (by decide)) ?_); rw [m8]) | (refine zR.cs rfl rfl rfl rfl rfl (zCalP.of (c_modulo _ 4 (by decide)) ?_); rw [m4]) | refine zR.cv rfl rfl rfl hR.1 rfl rfl (zCalP.of (c_isCrop hR _) ?_) | (refine zR.cv rfl rfl rfl hR.1 rfl rfl (zCalP.of (c_cropIs hR c8 0 (by omega)) ?_); rw [ek]) | (refine zR.cs rfl rfl rfl rfl rfl (zCalP.of (c_isPlanted kd hkd2) ?_); rw [z])) | rw [zcc1] | rw [zcc2] | rw [zcc3] | rw [zcc4] | rw [ej] | rw [eb] | rw [ec] | rw [zb1 (by decide)] | rw [zb2 (by decide)] | rw [zb3 (by decide)] | rw [zb4 (by decide)] | rw [zn1 (by decide)] | rw [zn2 (by decide)] | rw [zn3 (by decide)] | rw [zn4 (by decide)] | rw [ze1 (by decide)] | rw [ze2 (by decide)] | rw [zd1 (by decide)] | rw [zd2 (by decide)] | rw [zswy (by decide)] | rw [zswn (by decide)] | rw [zsw0] | rw [er])
      refine zR.cv rfl rfl rfl hR.1 rfl rfl (zR.mono (c_done hR _) (fun v n' w' M' hv => ?_))
      obtain ⟨rfl, rfl, rfl, hR2, hS2⟩ := hv
      repeat (first | ((with_reducible refine zR.stored ?_); dsimp only [zsto, zclr, zset, zget, zc2, cond_false, cond_true]) | ((with_reducible refine zR.atLit ?_); first | refine zR.step rfl ?_) | rw [zcc1] | rw [zcc2] | rw [zcc3] | rw [zcc4])
      refine zR.ret rfl rfl ⟨by rw [hkd], by omega, by omega, _, inv_fin ⟨hT, hG0, hG1, hG2⟩ hg hk ht hx hn hR2 (hS.trans hS2)⟩
  · have ecc : inI (nI c8) 0 (c0 0 0 - 1) = 0 := by rw [N11, N1]; exact ez
    have er : inI (nI c8) 0 (σ 0 2 - 1) = 0 := by rw [N1]; exact ez
    repeat (first | ((with_reducible refine zR.stored ?_); dsimp only [zsto, zclr, zset, zget, zc2, cond_false, cond_true]) | ((with_reducible refine zR.atLit ?_); first | refine zR.step rfl ?_ | refine zR.cs rfl rfl rfl rfl rfl (zCalP.of (c_isWithin _ _ _) ?_) | refine zR.getf rfl (h25) rfl ?_ | (refine zR.cs rfl rfl rfl rfl rfl (zCalP.of (c_floorMod _ 8 (by decide)) ?_); rw [f8]) | refine zR.cv rfl rfl rfl hG0.o rfl rfl (zCalP.of (c_cropAt_n hG0 ecc) ?_) | (refine zR.cs rfl rfl rfl rfl rfl (zCalP.of (c_floorMod _ 6 (by decide)) ?_); rw [f6])) | rw [zcc1] | rw [zcc2] | rw [zcc3] | rw [zcc4] | rw [eb] | rw [ec] | rw [zb1 (by decide)] | rw [zb2 (by decide)] | rw [zb3 (by decide)] | rw [zb4 (by decide)] | rw [zn1 (by decide)] | rw [zn2 (by decide)] | rw [zn3 (by decide)] | rw [zn4 (by decide)] | rw [ze1 (by decide)] | rw [ze2 (by decide)] | rw [zd1 (by decide)] | rw [zd2 (by decide)] | rw [zswy (by decide)] | rw [zswn (by decide)] | rw [zsw0])
    refine zR.cv rfl rfl rfl h25 rfl rfl ?_
    show zR ztb _ kX11_putAmongPlanted 1 0 [some (.ref 25), some (.null)] [] _ _ _ _
    repeat (first | ((with_reducible refine zR.stored ?_); dsimp only [zsto, zclr, zset, zget, zc2, cond_false, cond_true]) | ((with_reducible refine zR.atLit ?_); first | refine zR.step rfl ?_ | refine zR.cv rfl rfl rfl h25 rfl rfl (zCalP.of (c_doneC h25 _) ?_)) | rw [zcc1] | rw [zcc2] | rw [zcc3] | rw [zcc4])
    refine zR.ret rfl rfl ?_
    repeat (first | ((with_reducible refine zR.stored ?_); dsimp only [zsto, zclr, zset, zget, zc2, cond_false, cond_true]) | ((with_reducible refine zR.atLit ?_); first | refine zR.step rfl ?_) | rw [zcc1] | rw [zcc2] | rw [zcc3] | rw [zcc4])
    refine zR.ret rfl rfl ⟨_, rfl, ⟨_, (hR.out (by omega)).1⟩, rfl, ?_⟩
    replace hR : Rf (zup M 25 (.inr (11, tob (tst t 0)))) σ := hR.out (by omega)
    have hS : Sm (zup M 25 (.inr (11, tob (tst t 0)))) (zup M 25 (.inr (11, tob (tst t 0)))) := Sm.rf
    show zR ztb _ kX12_forge 1 0 [some (.ref 287), some (.int 4), some (.int b), some (.int c), none, none] [] _ _ _ _
    repeat (first | ((with_reducible refine zR.stored ?_); dsimp only [zsto, zclr, zset, zget, zc2, cond_false, cond_true]) | ((with_reducible refine zR.atLit ?_); first | refine zR.step rfl ?_ | refine zR.cs rfl rfl rfl rfl rfl (zCalP.of (c_in _ _ _) ?_) | (refine zR.cs rfl rfl rfl rfl rfl (zCalP.of (c_modulo _ 8 (by decide)) ?_); rw [m8]) | (refine zR.cs rfl rfl rfl rfl rfl (zCalP.of (c_modulo _ 4 (by decide)) ?_); rw [m4]) | refine zR.cv rfl rfl rfl hR.1 rfl rfl (zCalP.of (c_isCrop hR _) ?_)) | rw [zcc1] | rw [zcc2] | rw [zcc3] | rw [zcc4] | rw [ej] | rw [eb] | rw [ec] | rw [zb1 (by decide)] | rw [zb2 (by decide)] | rw [zb3 (by decide)] | rw [zb4 (by decide)] | rw [zn1 (by decide)] | rw [zn2 (by decide)] | rw [zn3 (by decide)] | rw [zn4 (by decide)] | rw [ze1 (by decide)] | rw [ze2 (by decide)] | rw [zd1 (by decide)] | rw [zd2 (by decide)] | rw [zswy (by decide)] | rw [zswn (by decide)] | rw [zsw0] | rw [er])
    refine zR.cv rfl rfl rfl hR.1 rfl rfl (zR.mono (c_done hR _) (fun v n' w' M' hv => ?_))
    obtain ⟨rfl, rfl, rfl, hR2, hS2⟩ := hv
    repeat (first | ((with_reducible refine zR.stored ?_); dsimp only [zsto, zclr, zset, zget, zc2, cond_false, cond_true]) | ((with_reducible refine zR.atLit ?_); first | refine zR.step rfl ?_) | rw [zcc1] | rw [zcc2] | rw [zcc3] | rw [zcc4])
    refine zR.ret rfl rfl ⟨rfl, by omega, by omega, _, inv_fin ⟨hT, hG0, hG1, hG2⟩ hg hk ht hx hn hR2 (hS.trans hS2)⟩
