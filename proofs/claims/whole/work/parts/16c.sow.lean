
/-! sow. -/
def sowR (r : Nat → Int32) (x : Int32) : Nat → Int32 := zuf (zuf (zuf (zuf (zuf r 1 x) 2 0) 3 0) 4 0) 5 0
theorem c_setSowing_y {M : zM} {d n w a ca : Nat} {z : Option Nat} {r : Nat → Int32} (hb : M a = .inr (0, bof z r)) (x : Int32) : zCall d 3 [.ref a, .ref ca, .int x] n w M none n w (zup M a (.inr (0, bof (some ca) (sowR r x)))) := by
  intro Q hQ
  show zR ztb _ kX0_setSowing 0 0 [some (.ref a), some (.ref ca), some (.int x)] [] _ _ _ _
  repeat (first | ((with_reducible refine zR.stored ?_); dsimp only [zsto, zclr, zset, zget, zc2, cond_false, cond_true]) | ((with_reducible refine zR.atLit ?_); first | refine zR.step rfl ?_) | rw [zcc1] | rw [zcc2] | rw [zcc3] | rw [zcc4])
  refine zR.putf rfl hb rfl rfl ?_
  repeat (first | ((with_reducible refine zR.stored ?_); dsimp only [zsto, zclr, zset, zget, zc2, cond_false, cond_true]) | ((with_reducible refine zR.atLit ?_); first | refine zR.step rfl ?_) | rw [zcc1] | rw [zcc2] | rw [zcc3] | rw [zcc4])
  refine zR.putf rfl (zup_self _ _ _) rfl rfl ?_
  rw [zup_up]
  repeat (first | ((with_reducible refine zR.stored ?_); dsimp only [zsto, zclr, zset, zget, zc2, cond_false, cond_true]) | ((with_reducible refine zR.atLit ?_); first | refine zR.step rfl ?_) | rw [zcc1] | rw [zcc2] | rw [zcc3] | rw [zcc4])
  refine zR.putf rfl (zup_self _ _ _) rfl rfl ?_
  rw [zup_up]
  repeat (first | ((with_reducible refine zR.stored ?_); dsimp only [zsto, zclr, zset, zget, zc2, cond_false, cond_true]) | ((with_reducible refine zR.atLit ?_); first | refine zR.step rfl ?_) | rw [zcc1] | rw [zcc2] | rw [zcc3] | rw [zcc4])
  refine zR.putf rfl (zup_self _ _ _) rfl rfl ?_
  rw [zup_up]
  repeat (first | ((with_reducible refine zR.stored ?_); dsimp only [zsto, zclr, zset, zget, zc2, cond_false, cond_true]) | ((with_reducible refine zR.atLit ?_); first | refine zR.step rfl ?_) | rw [zcc1] | rw [zcc2] | rw [zcc3] | rw [zcc4])
  refine zR.putf rfl (zup_self _ _ _) rfl rfl ?_
  rw [zup_up]
  repeat (first | ((with_reducible refine zR.stored ?_); dsimp only [zsto, zclr, zset, zget, zc2, cond_false, cond_true]) | ((with_reducible refine zR.atLit ?_); first | refine zR.step rfl ?_) | rw [zcc1] | rw [zcc2] | rw [zcc3] | rw [zcc4])
  refine zR.putf rfl (zup_self _ _ _) rfl rfl ?_
  rw [zup_up]
  repeat (first | ((with_reducible refine zR.stored ?_); dsimp only [zsto, zclr, zset, zget, zc2, cond_false, cond_true]) | ((with_reducible refine zR.atLit ?_); first | refine zR.step rfl ?_) | rw [zcc1] | rw [zcc2] | rw [zcc3] | rw [zcc4])
  exact zR.ret rfl rfl hQ
theorem c_setSowing_n {M : zM} {d n w a ca : Nat} {z : Option Nat} {r : Nat → Int32} (hb : M a = .inr (0, bof z r)) (x : Int32) : zCall d 3 [.ref a, .null, .int x] n w M none n w (zup M a (.inr (0, bof none (sowR r x)))) := by
  intro Q hQ
  show zR ztb _ kX0_setSowing 0 0 [some (.ref a), some (.null), some (.int x)] [] _ _ _ _
  repeat (first | ((with_reducible refine zR.stored ?_); dsimp only [zsto, zclr, zset, zget, zc2, cond_false, cond_true]) | ((with_reducible refine zR.atLit ?_); first | refine zR.step rfl ?_) | rw [zcc1] | rw [zcc2] | rw [zcc3] | rw [zcc4])
  refine zR.putf rfl hb rfl rfl ?_
  repeat (first | ((with_reducible refine zR.stored ?_); dsimp only [zsto, zclr, zset, zget, zc2, cond_false, cond_true]) | ((with_reducible refine zR.atLit ?_); first | refine zR.step rfl ?_) | rw [zcc1] | rw [zcc2] | rw [zcc3] | rw [zcc4])
  refine zR.putf rfl (zup_self _ _ _) rfl rfl ?_
  rw [zup_up]
  repeat (first | ((with_reducible refine zR.stored ?_); dsimp only [zsto, zclr, zset, zget, zc2, cond_false, cond_true]) | ((with_reducible refine zR.atLit ?_); first | refine zR.step rfl ?_) | rw [zcc1] | rw [zcc2] | rw [zcc3] | rw [zcc4])
  refine zR.putf rfl (zup_self _ _ _) rfl rfl ?_
  rw [zup_up]
  repeat (first | ((with_reducible refine zR.stored ?_); dsimp only [zsto, zclr, zset, zget, zc2, cond_false, cond_true]) | ((with_reducible refine zR.atLit ?_); first | refine zR.step rfl ?_) | rw [zcc1] | rw [zcc2] | rw [zcc3] | rw [zcc4])
  refine zR.putf rfl (zup_self _ _ _) rfl rfl ?_
  rw [zup_up]
  repeat (first | ((with_reducible refine zR.stored ?_); dsimp only [zsto, zclr, zset, zget, zc2, cond_false, cond_true]) | ((with_reducible refine zR.atLit ?_); first | refine zR.step rfl ?_) | rw [zcc1] | rw [zcc2] | rw [zcc3] | rw [zcc4])
  refine zR.putf rfl (zup_self _ _ _) rfl rfl ?_
  rw [zup_up]
  repeat (first | ((with_reducible refine zR.stored ?_); dsimp only [zsto, zclr, zset, zget, zc2, cond_false, cond_true]) | ((with_reducible refine zR.atLit ?_); first | refine zR.step rfl ?_) | rw [zcc1] | rw [zcc2] | rw [zcc3] | rw [zcc4])
  refine zR.putf rfl (zup_self _ _ _) rfl rfl ?_
  rw [zup_up]
  repeat (first | ((with_reducible refine zR.stored ?_); dsimp only [zsto, zclr, zset, zget, zc2, cond_false, cond_true]) | ((with_reducible refine zR.atLit ?_); first | refine zR.step rfl ?_) | rw [zcc1] | rw [zcc2] | rw [zcc3] | rw [zcc4])
  exact zR.ret rfl rfl hQ
theorem c_begin {M : zM} {d n w a ca i k : Nat} {z : Option Nat} {r s : Nat → Int32} (hb : M a = .inr (0, bof z r)) (hc : M ca = .inr (1, cropF s i)) (hne : ca ≠ a) (h1 : M 1 = .inl (7, 6, .inl above)) (ha : 1 ≠ a) (hk : s (50 + 10 * i) = nI k) (h6 : k < 6) (x h : Int32) (hh : h = if ofK k 1 = 1 then s (51 + 10 * i) / 2 else 0) : zCall (d + 2) 2 [.ref a, .ref ca, .int x] n w M none n w (zup M a (.inr (0, bof (some ca) (zuf (sowR r x) 2 h)))) := by
  intro Q hQ
  show zR ztb _ kX0_begin 0 0 [some (.ref a), some (.ref ca), some (.int x)] [] _ _ _ _
  have hc2 : zup M a (.inr (0, bof (some ca) (sowR r x))) ca = .inr (1, cropF s i) := by rw [zup_ne _ _ hne]; exact hc
  have h12 : zup M a (.inr (0, bof (some ca) (sowR r x))) 1 = .inl (7, 6, .inl above) := by rw [zup_ne _ _ ha]; exact h1
  repeat (first | ((with_reducible refine zR.stored ?_); dsimp only [zsto, zclr, zset, zget, zc2, cond_false, cond_true]) | ((with_reducible refine zR.atLit ?_); first | refine zR.step rfl ?_ | refine zR.cv rfl rfl rfl hb rfl rfl (zCalP.of (c_setSowing_y hb _) ?_) | refine zR.getf rfl (hc2) rfl ?_ | refine zR.cs rfl rfl rfl rfl rfl (zCalP.of (c_isOfKind h12 k h6 1 (by omega)) ?_)) | rw [zcc1] | rw [zcc2] | rw [zcc3] | rw [zcc4] | rw [hk])
  by_cases e : ofK k 1 = 1
  · rw [if_pos e] at hh
    subst hh
    repeat (first | ((with_reducible refine zR.stored ?_); dsimp only [zsto, zclr, zset, zget, zc2, cond_false, cond_true]) | ((with_reducible refine zR.atLit ?_); first | refine zR.step rfl ?_ | refine zR.getf rfl (hc2) rfl ?_) | rw [zcc1] | rw [zcc2] | rw [zcc3] | rw [zcc4] | rw [e])
    refine zR.putf rfl (zup_self _ _ _) rfl rfl ?_
    rw [zup_up]
    repeat (first | ((with_reducible refine zR.stored ?_); dsimp only [zsto, zclr, zset, zget, zc2, cond_false, cond_true]) | ((with_reducible refine zR.atLit ?_); first | refine zR.step rfl ?_) | rw [zcc1] | rw [zcc2] | rw [zcc3] | rw [zcc4])
    exact zR.ret rfl rfl hQ
  · rw [if_neg e] at hh
    subst hh
    have e0 : ofK k 1 = 0 := by
      unfold ofK at e ⊢
      by_cases q : 1 = k ∨ 1 = 0 ∨ 1 = 1 ∧ (k = 3 ∨ k = 5) ∨ 1 = 3 ∧ k = 5
      · rw [if_pos q] at e
        exact absurd rfl e
      · rw [if_neg q]
    repeat (first | ((with_reducible refine zR.stored ?_); dsimp only [zsto, zclr, zset, zget, zc2, cond_false, cond_true]) | ((with_reducible refine zR.atLit ?_); first | refine zR.step rfl ?_ | refine zR.getf rfl (hc2) rfl ?_) | rw [zcc1] | rw [zcc2] | rw [zcc3] | rw [zcc4] | rw [e0])
    refine zR.putf rfl (zup_self _ _ _) rfl rfl ?_
    rw [zup_up]
    repeat (first | ((with_reducible refine zR.stored ?_); dsimp only [zsto, zclr, zset, zget, zc2, cond_false, cond_true]) | ((with_reducible refine zR.atLit ?_); first | refine zR.step rfl ?_) | rw [zcc1] | rw [zcc2] | rw [zcc3] | rw [zcc4])
    exact zR.ret rfl rfl hQ
def sowY (y : Nat → Int32) (j i : Nat) (hv : Int32) : Nat → Int32 := zuf (zuf (zuf y (150 + 10 * j) (nI i)) (150 + 10 * j + 1) (y 0)) (150 + 10 * j + 2) hv
theorem sow_R00 {M : zM} {σ : mS} {d n w i j : Nat} (hR : Rf M σ) (hj : j < 8) (hi : i < 8) (e : inI (nI j) 0 7 = 1) (er : inI (nI i) 0 (σ 0 2 - 1) = 1) (t6 : σ 0 (150 + 10 * j + 6) = nI i) (t7 : σ 0 (150 + 10 * j + 7) = 1) (z0 : σ 0 (150 + 10 * j + 0) = -1) (w2 : ¬ σ 0 0 = 30) (k1 : σ 0 (50 + 10 * i + 0) = 1) : zCalP (d + 2) 141 [.ref 287, .int (nI j), .int (nI i)] n w M (fun v n' w' M' => v = some (.int 1) ∧ n' = n ∧ w' = w ∧ Rf M' (sst (zuf σ 0 (sowY (σ 0) j i (σ 0 (51 + 10 * i) / 2))) 0) ∧ Sm M M') := by
  show zR ztb _ kX12_sow 1 0 [some (.ref 287), some (.int (nI j)), some (.int (nI i)), none, none, none] [] _ _ _ _
  repeat (first | ((with_reducible refine zR.stored ?_); dsimp only [zsto, zclr, zset, zget, zc2, cond_false, cond_true]) | ((with_reducible refine zR.atLit ?_); first | refine zR.step rfl ?_ | refine zR.cs rfl rfl rfl rfl rfl (zCalP.of (c_in _ _ _) ?_) | refine zR.cv rfl rfl rfl hR.1 rfl rfl (zCalP.of (c_isCrop hR _) ?_) | refine zR.cv rfl rfl rfl hR.1 rfl rfl (zCalP.of (c_cropIs hR i 0 (by omega)) ?_) | refine zR.cv rfl rfl rfl hR.1 rfl rfl (zCalP.of (c_bedIs hR j 0 (by omega)) ?_) | refine zR.cv rfl rfl rfl hR.1 rfl rfl (zCalP.of (c_bedIs hR j 6 (by omega)) ?_) | refine zR.cv rfl rfl rfl hR.1 rfl rfl (zCalP.of (c_bedIs hR j 7 (by omega)) ?_) | refine zR.getf rfl (hR.1) rfl ?_ | refine zR.ilR0 hR rfl (by (try simp only [zn_lit, zn_add, zn_mul]); rfl) (by omega) ?_) | rw [zcc1] | rw [zcc2] | rw [zcc3] | rw [zcc4] | rw [e] | rw [er] | rw [k1] | rw [ze1 (t6)] | rw [ze2 (t6)] | rw [t7] | rw [zb1 (by decide)] | rw [zb2 (by decide)] | rw [zb3 (by decide)] | rw [zb4 (by decide)] | rw [zn1 (by decide)] | rw [zn2 (by decide)] | rw [zn3 (by decide)] | rw [zn4 (by decide)] | rw [ze1 (by decide)] | rw [ze2 (by decide)] | rw [zd1 (by decide)] | rw [zd2 (by decide)] | rw [zswy (by decide)] | rw [zswn (by decide)] | rw [zsw0] | rw [z0] | rw [zd1 (w2)] | rw [zd2 (w2)])
  replace hR := hR.toY
  refine zR.isY hR Sm.rf rfl (i := 150 + 10 * j) (by simp only [zn_lit, zn_add, zn_mul]; rfl) (by omega) (fun M1 hR hS1 => ?_)
  have w0 : zuf (σ 0) (150 + 10 * j) (nI i) 0 = σ 0 0 := zuf_ne _ _ (by omega)
  repeat (first | ((with_reducible refine zR.stored ?_); dsimp only [zsto, zclr, zset, zget, zc2, cond_false, cond_true]) | ((with_reducible refine zR.atLit ?_); first | refine zR.step rfl ?_ | refine zR.getf rfl (hR.1) rfl ?_ | refine zR.ilY hR rfl (by (try simp only [zn_lit, zn_add, zn_mul]); rfl) (by omega) ?_) | rw [zcc1] | rw [zcc2] | rw [zcc3] | rw [zcc4])
  rw [w0]
  refine zR.isY hR hS1 rfl (i := 150 + 10 * j + 1) (by simp only [zn_lit, zn_add, zn_mul]) (by omega) (fun M2 hR hS2 => ?_)
  have w3 : zuf (zuf (σ 0) (150 + 10 * j) (nI i)) (150 + 10 * j + 1) (σ 0 0) (50 + 10 * i + 1) = σ 0 (51 + 10 * i) := by rw [zuf_ne _ _ (by omega), zuf_ne _ _ (by omega), show 50 + 10 * i + 1 = 51 + 10 * i by omega]
  repeat (first | ((with_reducible refine zR.stored ?_); dsimp only [zsto, zclr, zset, zget, zc2, cond_false, cond_true]) | ((with_reducible refine zR.atLit ?_); first | refine zR.step rfl ?_ | refine zR.getf rfl (hR.1) rfl ?_ | (refine zR.cv rfl rfl rfl hR.1 rfl rfl (zCalP.of (c_cropIsY hR i 1 (by omega)) ?_); rw [w3])) | rw [zcc1] | rw [zcc2] | rw [zcc3] | rw [zcc4] | rw [zb1 (by decide)] | rw [zb2 (by decide)] | rw [zb3 (by decide)] | rw [zb4 (by decide)] | rw [zn1 (by decide)] | rw [zn2 (by decide)] | rw [zn3 (by decide)] | rw [zn4 (by decide)] | rw [ze1 (by decide)] | rw [ze2 (by decide)] | rw [zd1 (by decide)] | rw [zd2 (by decide)] | rw [zswy (by decide)] | rw [zswn (by decide)] | rw [zsw0])
  refine zR.isY hR hS2 rfl (i := 150 + 10 * j + 2) (by simp only [zn_lit, zn_add, zn_mul]) (by omega) (fun M3 hR hS => ?_)
  repeat (first | ((with_reducible refine zR.stored ?_); dsimp only [zsto, zclr, zset, zget, zc2, cond_false, cond_true]) | ((with_reducible refine zR.atLit ?_); first | refine zR.step rfl ?_) | rw [zcc1] | rw [zcc2] | rw [zcc3] | rw [zcc4])
  refine zR.cv rfl rfl rfl hR.1 rfl rfl (zR.mono (c_done hR _) (fun v n' w' M' hv => ?_))
  obtain ⟨rfl, rfl, rfl, hR2, hS2⟩ := hv
  repeat (first | rw [zcc1] | rw [zcc2] | rw [zcc3] | rw [zcc4] | refine zR.step rfl ?_)
  refine zR.ret rfl rfl ⟨rfl, rfl, rfl, hR2, hS.trans hS2⟩
theorem sow_R01 {M : zM} {σ : mS} {d n w i j : Nat} (hR : Rf M σ) (hj : j < 8) (hi : i < 8) (e : inI (nI j) 0 7 = 1) (er : inI (nI i) 0 (σ 0 2 - 1) = 1) (t6 : σ 0 (150 + 10 * j + 6) = nI i) (t7 : σ 0 (150 + 10 * j + 7) = 1) (z0 : σ 0 (150 + 10 * j + 0) = -1) (w2 : ¬ σ 0 0 = 30) (k1 : σ 0 (50 + 10 * i + 0) = 3) : zCalP (d + 2) 141 [.ref 287, .int (nI j), .int (nI i)] n w M (fun v n' w' M' => v = some (.int 1) ∧ n' = n ∧ w' = w ∧ Rf M' (sst (zuf σ 0 (sowY (σ 0) j i (σ 0 (51 + 10 * i) / 2))) 0) ∧ Sm M M') := by
  show zR ztb _ kX12_sow 1 0 [some (.ref 287), some (.int (nI j)), some (.int (nI i)), none, none, none] [] _ _ _ _
  repeat (first | ((with_reducible refine zR.stored ?_); dsimp only [zsto, zclr, zset, zget, zc2, cond_false, cond_true]) | ((with_reducible refine zR.atLit ?_); first | refine zR.step rfl ?_ | refine zR.cs rfl rfl rfl rfl rfl (zCalP.of (c_in _ _ _) ?_) | refine zR.cv rfl rfl rfl hR.1 rfl rfl (zCalP.of (c_isCrop hR _) ?_) | refine zR.cv rfl rfl rfl hR.1 rfl rfl (zCalP.of (c_cropIs hR i 0 (by omega)) ?_) | refine zR.cv rfl rfl rfl hR.1 rfl rfl (zCalP.of (c_bedIs hR j 0 (by omega)) ?_) | refine zR.cv rfl rfl rfl hR.1 rfl rfl (zCalP.of (c_bedIs hR j 6 (by omega)) ?_) | refine zR.cv rfl rfl rfl hR.1 rfl rfl (zCalP.of (c_bedIs hR j 7 (by omega)) ?_) | refine zR.getf rfl (hR.1) rfl ?_ | refine zR.ilR0 hR rfl (by (try simp only [zn_lit, zn_add, zn_mul]); rfl) (by omega) ?_) | rw [zcc1] | rw [zcc2] | rw [zcc3] | rw [zcc4] | rw [e] | rw [er] | rw [k1] | rw [ze1 (t6)] | rw [ze2 (t6)] | rw [t7] | rw [zb1 (by decide)] | rw [zb2 (by decide)] | rw [zb3 (by decide)] | rw [zb4 (by decide)] | rw [zn1 (by decide)] | rw [zn2 (by decide)] | rw [zn3 (by decide)] | rw [zn4 (by decide)] | rw [ze1 (by decide)] | rw [ze2 (by decide)] | rw [zd1 (by decide)] | rw [zd2 (by decide)] | rw [zswy (by decide)] | rw [zswn (by decide)] | rw [zsw0] | rw [z0] | rw [zd1 (w2)] | rw [zd2 (w2)])
  replace hR := hR.toY
  refine zR.isY hR Sm.rf rfl (i := 150 + 10 * j) (by simp only [zn_lit, zn_add, zn_mul]; rfl) (by omega) (fun M1 hR hS1 => ?_)
  have w0 : zuf (σ 0) (150 + 10 * j) (nI i) 0 = σ 0 0 := zuf_ne _ _ (by omega)
  repeat (first | ((with_reducible refine zR.stored ?_); dsimp only [zsto, zclr, zset, zget, zc2, cond_false, cond_true]) | ((with_reducible refine zR.atLit ?_); first | refine zR.step rfl ?_ | refine zR.getf rfl (hR.1) rfl ?_ | refine zR.ilY hR rfl (by (try simp only [zn_lit, zn_add, zn_mul]); rfl) (by omega) ?_) | rw [zcc1] | rw [zcc2] | rw [zcc3] | rw [zcc4])
  rw [w0]
  refine zR.isY hR hS1 rfl (i := 150 + 10 * j + 1) (by simp only [zn_lit, zn_add, zn_mul]) (by omega) (fun M2 hR hS2 => ?_)
  have w3 : zuf (zuf (σ 0) (150 + 10 * j) (nI i)) (150 + 10 * j + 1) (σ 0 0) (50 + 10 * i + 1) = σ 0 (51 + 10 * i) := by rw [zuf_ne _ _ (by omega), zuf_ne _ _ (by omega), show 50 + 10 * i + 1 = 51 + 10 * i by omega]
  repeat (first | ((with_reducible refine zR.stored ?_); dsimp only [zsto, zclr, zset, zget, zc2, cond_false, cond_true]) | ((with_reducible refine zR.atLit ?_); first | refine zR.step rfl ?_ | refine zR.getf rfl (hR.1) rfl ?_ | (refine zR.cv rfl rfl rfl hR.1 rfl rfl (zCalP.of (c_cropIsY hR i 1 (by omega)) ?_); rw [w3])) | rw [zcc1] | rw [zcc2] | rw [zcc3] | rw [zcc4] | rw [zb1 (by decide)] | rw [zb2 (by decide)] | rw [zb3 (by decide)] | rw [zb4 (by decide)] | rw [zn1 (by decide)] | rw [zn2 (by decide)] | rw [zn3 (by decide)] | rw [zn4 (by decide)] | rw [ze1 (by decide)] | rw [ze2 (by decide)] | rw [zd1 (by decide)] | rw [zd2 (by decide)] | rw [zswy (by decide)] | rw [zswn (by decide)] | rw [zsw0])
  refine zR.isY hR hS2 rfl (i := 150 + 10 * j + 2) (by simp only [zn_lit, zn_add, zn_mul]) (by omega) (fun M3 hR hS => ?_)
  repeat (first | ((with_reducible refine zR.stored ?_); dsimp only [zsto, zclr, zset, zget, zc2, cond_false, cond_true]) | ((with_reducible refine zR.atLit ?_); first | refine zR.step rfl ?_) | rw [zcc1] | rw [zcc2] | rw [zcc3] | rw [zcc4])
  refine zR.cv rfl rfl rfl hR.1 rfl rfl (zR.mono (c_done hR _) (fun v n' w' M' hv => ?_))
  obtain ⟨rfl, rfl, rfl, hR2, hS2⟩ := hv
  repeat (first | rw [zcc1] | rw [zcc2] | rw [zcc3] | rw [zcc4] | refine zR.step rfl ?_)
  refine zR.ret rfl rfl ⟨rfl, rfl, rfl, hR2, hS.trans hS2⟩
theorem sow_R02 {M : zM} {σ : mS} {d n w i j : Nat} (hR : Rf M σ) (hj : j < 8) (hi : i < 8) (e : inI (nI j) 0 7 = 1) (er : inI (nI i) 0 (σ 0 2 - 1) = 1) (t6 : σ 0 (150 + 10 * j + 6) = nI i) (t7 : σ 0 (150 + 10 * j + 7) = 1) (z0 : σ 0 (150 + 10 * j + 0) = -1) (w2 : ¬ σ 0 0 = 30) (k1 : ¬ σ 0 (50 + 10 * i + 0) = 1) (k3 : ¬ σ 0 (50 + 10 * i + 0) = 3) (k5 : ¬ σ 0 (50 + 10 * i + 0) = 5) : zCalP (d + 2) 141 [.ref 287, .int (nI j), .int (nI i)] n w M (fun v n' w' M' => v = some (.int 1) ∧ n' = n ∧ w' = w ∧ Rf M' (sst (zuf σ 0 (sowY (σ 0) j i (0))) 0) ∧ Sm M M') := by
  show zR ztb _ kX12_sow 1 0 [some (.ref 287), some (.int (nI j)), some (.int (nI i)), none, none, none] [] _ _ _ _
  repeat (first | ((with_reducible refine zR.stored ?_); dsimp only [zsto, zclr, zset, zget, zc2, cond_false, cond_true]) | ((with_reducible refine zR.atLit ?_); first | refine zR.step rfl ?_ | refine zR.cs rfl rfl rfl rfl rfl (zCalP.of (c_in _ _ _) ?_) | refine zR.cv rfl rfl rfl hR.1 rfl rfl (zCalP.of (c_isCrop hR _) ?_) | refine zR.cv rfl rfl rfl hR.1 rfl rfl (zCalP.of (c_cropIs hR i 0 (by omega)) ?_) | refine zR.cv rfl rfl rfl hR.1 rfl rfl (zCalP.of (c_bedIs hR j 0 (by omega)) ?_) | refine zR.cv rfl rfl rfl hR.1 rfl rfl (zCalP.of (c_bedIs hR j 6 (by omega)) ?_) | refine zR.cv rfl rfl rfl hR.1 rfl rfl (zCalP.of (c_bedIs hR j 7 (by omega)) ?_) | refine zR.getf rfl (hR.1) rfl ?_ | refine zR.ilR0 hR rfl (by (try simp only [zn_lit, zn_add, zn_mul]); rfl) (by omega) ?_) | rw [zcc1] | rw [zcc2] | rw [zcc3] | rw [zcc4] | rw [e] | rw [er] | rw [zd1 (k1)] | rw [zd2 (k1)] | rw [zd1 (k3)] | rw [zd2 (k3)] | rw [zd1 (k5)] | rw [zd2 (k5)] | rw [ze1 (t6)] | rw [ze2 (t6)] | rw [t7] | rw [zb1 (by decide)] | rw [zb2 (by decide)] | rw [zb3 (by decide)] | rw [zb4 (by decide)] | rw [zn1 (by decide)] | rw [zn2 (by decide)] | rw [zn3 (by decide)] | rw [zn4 (by decide)] | rw [ze1 (by decide)] | rw [ze2 (by decide)] | rw [zd1 (by decide)] | rw [zd2 (by decide)] | rw [zswy (by decide)] | rw [zswn (by decide)] | rw [zsw0] | rw [z0] | rw [zd1 (w2)] | rw [zd2 (w2)])
  replace hR := hR.toY
  refine zR.isY hR Sm.rf rfl (i := 150 + 10 * j) (by simp only [zn_lit, zn_add, zn_mul]; rfl) (by omega) (fun M1 hR hS1 => ?_)
  have w0 : zuf (σ 0) (150 + 10 * j) (nI i) 0 = σ 0 0 := zuf_ne _ _ (by omega)
  repeat (first | ((with_reducible refine zR.stored ?_); dsimp only [zsto, zclr, zset, zget, zc2, cond_false, cond_true]) | ((with_reducible refine zR.atLit ?_); first | refine zR.step rfl ?_ | refine zR.getf rfl (hR.1) rfl ?_ | refine zR.ilY hR rfl (by (try simp only [zn_lit, zn_add, zn_mul]); rfl) (by omega) ?_) | rw [zcc1] | rw [zcc2] | rw [zcc3] | rw [zcc4])
  rw [w0]
  refine zR.isY hR hS1 rfl (i := 150 + 10 * j + 1) (by simp only [zn_lit, zn_add, zn_mul]) (by omega) (fun M2 hR hS2 => ?_)
  repeat (first | ((with_reducible refine zR.stored ?_); dsimp only [zsto, zclr, zset, zget, zc2, cond_false, cond_true]) | ((with_reducible refine zR.atLit ?_); first | refine zR.step rfl ?_ | refine zR.getf rfl (hR.1) rfl ?_) | rw [zcc1] | rw [zcc2] | rw [zcc3] | rw [zcc4] | rw [zb1 (by decide)] | rw [zb2 (by decide)] | rw [zb3 (by decide)] | rw [zb4 (by decide)] | rw [zn1 (by decide)] | rw [zn2 (by decide)] | rw [zn3 (by decide)] | rw [zn4 (by decide)] | rw [ze1 (by decide)] | rw [ze2 (by decide)] | rw [zd1 (by decide)] | rw [zd2 (by decide)] | rw [zswy (by decide)] | rw [zswn (by decide)] | rw [zsw0])
  refine zR.isY hR hS2 rfl (i := 150 + 10 * j + 2) (by simp only [zn_lit, zn_add, zn_mul]) (by omega) (fun M3 hR hS => ?_)
  repeat (first | ((with_reducible refine zR.stored ?_); dsimp only [zsto, zclr, zset, zget, zc2, cond_false, cond_true]) | ((with_reducible refine zR.atLit ?_); first | refine zR.step rfl ?_) | rw [zcc1] | rw [zcc2] | rw [zcc3] | rw [zcc4])
  refine zR.cv rfl rfl rfl hR.1 rfl rfl (zR.mono (c_done hR _) (fun v n' w' M' hv => ?_))
  obtain ⟨rfl, rfl, rfl, hR2, hS2⟩ := hv
  repeat (first | rw [zcc1] | rw [zcc2] | rw [zcc3] | rw [zcc4] | refine zR.step rfl ?_)
  refine zR.ret rfl rfl ⟨rfl, rfl, rfl, hR2, hS.trans hS2⟩
theorem sow_R10 {M : zM} {σ : mS} {d n w i j : Nat} (hR : Rf M σ) (hj : j < 8) (hi : i < 8) (e : inI (nI j) 0 7 = 1) (er : inI (nI i) 0 (σ 0 2 - 1) = 1) (t6 : ¬ σ 0 (150 + 10 * j + 6) = nI i) (z0 : σ 0 (150 + 10 * j + 0) = -1) (w2 : ¬ σ 0 0 = 30) (k1 : σ 0 (50 + 10 * i + 0) = 1) : zCalP (d + 2) 141 [.ref 287, .int (nI j), .int (nI i)] n w M (fun v n' w' M' => v = some (.int 1) ∧ n' = n ∧ w' = w ∧ Rf M' (sst (zuf σ 0 (sowY (σ 0) j i (σ 0 (51 + 10 * i) / 2))) 0) ∧ Sm M M') := by
  show zR ztb _ kX12_sow 1 0 [some (.ref 287), some (.int (nI j)), some (.int (nI i)), none, none, none] [] _ _ _ _
  repeat (first | ((with_reducible refine zR.stored ?_); dsimp only [zsto, zclr, zset, zget, zc2, cond_false, cond_true]) | ((with_reducible refine zR.atLit ?_); first | refine zR.step rfl ?_ | refine zR.cs rfl rfl rfl rfl rfl (zCalP.of (c_in _ _ _) ?_) | refine zR.cv rfl rfl rfl hR.1 rfl rfl (zCalP.of (c_isCrop hR _) ?_) | refine zR.cv rfl rfl rfl hR.1 rfl rfl (zCalP.of (c_cropIs hR i 0 (by omega)) ?_) | refine zR.cv rfl rfl rfl hR.1 rfl rfl (zCalP.of (c_bedIs hR j 0 (by omega)) ?_) | refine zR.cv rfl rfl rfl hR.1 rfl rfl (zCalP.of (c_bedIs hR j 6 (by omega)) ?_) | refine zR.cv rfl rfl rfl hR.1 rfl rfl (zCalP.of (c_bedIs hR j 7 (by omega)) ?_) | refine zR.getf rfl (hR.1) rfl ?_ | refine zR.ilR0 hR rfl (by (try simp only [zn_lit, zn_add, zn_mul]); rfl) (by omega) ?_) | rw [zcc1] | rw [zcc2] | rw [zcc3] | rw [zcc4] | rw [e] | rw [er] | rw [k1] | rw [zd1 (t6)] | rw [zd2 (t6)] | rw [zb1 (by decide)] | rw [zb2 (by decide)] | rw [zb3 (by decide)] | rw [zb4 (by decide)] | rw [zn1 (by decide)] | rw [zn2 (by decide)] | rw [zn3 (by decide)] | rw [zn4 (by decide)] | rw [ze1 (by decide)] | rw [ze2 (by decide)] | rw [zd1 (by decide)] | rw [zd2 (by decide)] | rw [zswy (by decide)] | rw [zswn (by decide)] | rw [zsw0] | rw [z0] | rw [zd1 (w2)] | rw [zd2 (w2)])
  replace hR := hR.toY
  refine zR.isY hR Sm.rf rfl (i := 150 + 10 * j) (by simp only [zn_lit, zn_add, zn_mul]; rfl) (by omega) (fun M1 hR hS1 => ?_)
  have w0 : zuf (σ 0) (150 + 10 * j) (nI i) 0 = σ 0 0 := zuf_ne _ _ (by omega)
  repeat (first | ((with_reducible refine zR.stored ?_); dsimp only [zsto, zclr, zset, zget, zc2, cond_false, cond_true]) | ((with_reducible refine zR.atLit ?_); first | refine zR.step rfl ?_ | refine zR.getf rfl (hR.1) rfl ?_ | refine zR.ilY hR rfl (by (try simp only [zn_lit, zn_add, zn_mul]); rfl) (by omega) ?_) | rw [zcc1] | rw [zcc2] | rw [zcc3] | rw [zcc4])
  rw [w0]
  refine zR.isY hR hS1 rfl (i := 150 + 10 * j + 1) (by simp only [zn_lit, zn_add, zn_mul]) (by omega) (fun M2 hR hS2 => ?_)
  have w3 : zuf (zuf (σ 0) (150 + 10 * j) (nI i)) (150 + 10 * j + 1) (σ 0 0) (50 + 10 * i + 1) = σ 0 (51 + 10 * i) := by rw [zuf_ne _ _ (by omega), zuf_ne _ _ (by omega), show 50 + 10 * i + 1 = 51 + 10 * i by omega]
  repeat (first | ((with_reducible refine zR.stored ?_); dsimp only [zsto, zclr, zset, zget, zc2, cond_false, cond_true]) | ((with_reducible refine zR.atLit ?_); first | refine zR.step rfl ?_ | refine zR.getf rfl (hR.1) rfl ?_ | (refine zR.cv rfl rfl rfl hR.1 rfl rfl (zCalP.of (c_cropIsY hR i 1 (by omega)) ?_); rw [w3])) | rw [zcc1] | rw [zcc2] | rw [zcc3] | rw [zcc4] | rw [zb1 (by decide)] | rw [zb2 (by decide)] | rw [zb3 (by decide)] | rw [zb4 (by decide)] | rw [zn1 (by decide)] | rw [zn2 (by decide)] | rw [zn3 (by decide)] | rw [zn4 (by decide)] | rw [ze1 (by decide)] | rw [ze2 (by decide)] | rw [zd1 (by decide)] | rw [zd2 (by decide)] | rw [zswy (by decide)] | rw [zswn (by decide)] | rw [zsw0])
  refine zR.isY hR hS2 rfl (i := 150 + 10 * j + 2) (by simp only [zn_lit, zn_add, zn_mul]) (by omega) (fun M3 hR hS => ?_)
  repeat (first | ((with_reducible refine zR.stored ?_); dsimp only [zsto, zclr, zset, zget, zc2, cond_false, cond_true]) | ((with_reducible refine zR.atLit ?_); first | refine zR.step rfl ?_) | rw [zcc1] | rw [zcc2] | rw [zcc3] | rw [zcc4])
  refine zR.cv rfl rfl rfl hR.1 rfl rfl (zR.mono (c_done hR _) (fun v n' w' M' hv => ?_))
  obtain ⟨rfl, rfl, rfl, hR2, hS2⟩ := hv
  repeat (first | rw [zcc1] | rw [zcc2] | rw [zcc3] | rw [zcc4] | refine zR.step rfl ?_)
  refine zR.ret rfl rfl ⟨rfl, rfl, rfl, hR2, hS.trans hS2⟩
theorem sow_R11 {M : zM} {σ : mS} {d n w i j : Nat} (hR : Rf M σ) (hj : j < 8) (hi : i < 8) (e : inI (nI j) 0 7 = 1) (er : inI (nI i) 0 (σ 0 2 - 1) = 1) (t6 : ¬ σ 0 (150 + 10 * j + 6) = nI i) (z0 : σ 0 (150 + 10 * j + 0) = -1) (w2 : ¬ σ 0 0 = 30) (k1 : σ 0 (50 + 10 * i + 0) = 3) : zCalP (d + 2) 141 [.ref 287, .int (nI j), .int (nI i)] n w M (fun v n' w' M' => v = some (.int 1) ∧ n' = n ∧ w' = w ∧ Rf M' (sst (zuf σ 0 (sowY (σ 0) j i (σ 0 (51 + 10 * i) / 2))) 0) ∧ Sm M M') := by
  show zR ztb _ kX12_sow 1 0 [some (.ref 287), some (.int (nI j)), some (.int (nI i)), none, none, none] [] _ _ _ _
  repeat (first | ((with_reducible refine zR.stored ?_); dsimp only [zsto, zclr, zset, zget, zc2, cond_false, cond_true]) | ((with_reducible refine zR.atLit ?_); first | refine zR.step rfl ?_ | refine zR.cs rfl rfl rfl rfl rfl (zCalP.of (c_in _ _ _) ?_) | refine zR.cv rfl rfl rfl hR.1 rfl rfl (zCalP.of (c_isCrop hR _) ?_) | refine zR.cv rfl rfl rfl hR.1 rfl rfl (zCalP.of (c_cropIs hR i 0 (by omega)) ?_) | refine zR.cv rfl rfl rfl hR.1 rfl rfl (zCalP.of (c_bedIs hR j 0 (by omega)) ?_) | refine zR.cv rfl rfl rfl hR.1 rfl rfl (zCalP.of (c_bedIs hR j 6 (by omega)) ?_) | refine zR.cv rfl rfl rfl hR.1 rfl rfl (zCalP.of (c_bedIs hR j 7 (by omega)) ?_) | refine zR.getf rfl (hR.1) rfl ?_ | refine zR.ilR0 hR rfl (by (try simp only [zn_lit, zn_add, zn_mul]); rfl) (by omega) ?_) | rw [zcc1] | rw [zcc2] | rw [zcc3] | rw [zcc4] | rw [e] | rw [er] | rw [k1] | rw [zd1 (t6)] | rw [zd2 (t6)] | rw [zb1 (by decide)] | rw [zb2 (by decide)] | rw [zb3 (by decide)] | rw [zb4 (by decide)] | rw [zn1 (by decide)] | rw [zn2 (by decide)] | rw [zn3 (by decide)] | rw [zn4 (by decide)] | rw [ze1 (by decide)] | rw [ze2 (by decide)] | rw [zd1 (by decide)] | rw [zd2 (by decide)] | rw [zswy (by decide)] | rw [zswn (by decide)] | rw [zsw0] | rw [z0] | rw [zd1 (w2)] | rw [zd2 (w2)])
  replace hR := hR.toY
  refine zR.isY hR Sm.rf rfl (i := 150 + 10 * j) (by simp only [zn_lit, zn_add, zn_mul]; rfl) (by omega) (fun M1 hR hS1 => ?_)
  have w0 : zuf (σ 0) (150 + 10 * j) (nI i) 0 = σ 0 0 := zuf_ne _ _ (by omega)
  repeat (first | ((with_reducible refine zR.stored ?_); dsimp only [zsto, zclr, zset, zget, zc2, cond_false, cond_true]) | ((with_reducible refine zR.atLit ?_); first | refine zR.step rfl ?_ | refine zR.getf rfl (hR.1) rfl ?_ | refine zR.ilY hR rfl (by (try simp only [zn_lit, zn_add, zn_mul]); rfl) (by omega) ?_) | rw [zcc1] | rw [zcc2] | rw [zcc3] | rw [zcc4])
  rw [w0]
  refine zR.isY hR hS1 rfl (i := 150 + 10 * j + 1) (by simp only [zn_lit, zn_add, zn_mul]) (by omega) (fun M2 hR hS2 => ?_)
  have w3 : zuf (zuf (σ 0) (150 + 10 * j) (nI i)) (150 + 10 * j + 1) (σ 0 0) (50 + 10 * i + 1) = σ 0 (51 + 10 * i) := by rw [zuf_ne _ _ (by omega), zuf_ne _ _ (by omega), show 50 + 10 * i + 1 = 51 + 10 * i by omega]
  repeat (first | ((with_reducible refine zR.stored ?_); dsimp only [zsto, zclr, zset, zget, zc2, cond_false, cond_true]) | ((with_reducible refine zR.atLit ?_); first | refine zR.step rfl ?_ | refine zR.getf rfl (hR.1) rfl ?_ | (refine zR.cv rfl rfl rfl hR.1 rfl rfl (zCalP.of (c_cropIsY hR i 1 (by omega)) ?_); rw [w3])) | rw [zcc1] | rw [zcc2] | rw [zcc3] | rw [zcc4] | rw [zb1 (by decide)] | rw [zb2 (by decide)] | rw [zb3 (by decide)] | rw [zb4 (by decide)] | rw [zn1 (by decide)] | rw [zn2 (by decide)] | rw [zn3 (by decide)] | rw [zn4 (by decide)] | rw [ze1 (by decide)] | rw [ze2 (by decide)] | rw [zd1 (by decide)] | rw [zd2 (by decide)] | rw [zswy (by decide)] | rw [zswn (by decide)] | rw [zsw0])
  refine zR.isY hR hS2 rfl (i := 150 + 10 * j + 2) (by simp only [zn_lit, zn_add, zn_mul]) (by omega) (fun M3 hR hS => ?_)
  repeat (first | ((with_reducible refine zR.stored ?_); dsimp only [zsto, zclr, zset, zget, zc2, cond_false, cond_true]) | ((with_reducible refine zR.atLit ?_); first | refine zR.step rfl ?_) | rw [zcc1] | rw [zcc2] | rw [zcc3] | rw [zcc4])
  refine zR.cv rfl rfl rfl hR.1 rfl rfl (zR.mono (c_done hR _) (fun v n' w' M' hv => ?_))
  obtain ⟨rfl, rfl, rfl, hR2, hS2⟩ := hv
  repeat (first | rw [zcc1] | rw [zcc2] | rw [zcc3] | rw [zcc4] | refine zR.step rfl ?_)
  refine zR.ret rfl rfl ⟨rfl, rfl, rfl, hR2, hS.trans hS2⟩
theorem sow_R12 {M : zM} {σ : mS} {d n w i j : Nat} (hR : Rf M σ) (hj : j < 8) (hi : i < 8) (e : inI (nI j) 0 7 = 1) (er : inI (nI i) 0 (σ 0 2 - 1) = 1) (t6 : ¬ σ 0 (150 + 10 * j + 6) = nI i) (z0 : σ 0 (150 + 10 * j + 0) = -1) (w2 : ¬ σ 0 0 = 30) (k1 : ¬ σ 0 (50 + 10 * i + 0) = 1) (k3 : ¬ σ 0 (50 + 10 * i + 0) = 3) (k5 : ¬ σ 0 (50 + 10 * i + 0) = 5) : zCalP (d + 2) 141 [.ref 287, .int (nI j), .int (nI i)] n w M (fun v n' w' M' => v = some (.int 1) ∧ n' = n ∧ w' = w ∧ Rf M' (sst (zuf σ 0 (sowY (σ 0) j i (0))) 0) ∧ Sm M M') := by
  show zR ztb _ kX12_sow 1 0 [some (.ref 287), some (.int (nI j)), some (.int (nI i)), none, none, none] [] _ _ _ _
  repeat (first | ((with_reducible refine zR.stored ?_); dsimp only [zsto, zclr, zset, zget, zc2, cond_false, cond_true]) | ((with_reducible refine zR.atLit ?_); first | refine zR.step rfl ?_ | refine zR.cs rfl rfl rfl rfl rfl (zCalP.of (c_in _ _ _) ?_) | refine zR.cv rfl rfl rfl hR.1 rfl rfl (zCalP.of (c_isCrop hR _) ?_) | refine zR.cv rfl rfl rfl hR.1 rfl rfl (zCalP.of (c_cropIs hR i 0 (by omega)) ?_) | refine zR.cv rfl rfl rfl hR.1 rfl rfl (zCalP.of (c_bedIs hR j 0 (by omega)) ?_) | refine zR.cv rfl rfl rfl hR.1 rfl rfl (zCalP.of (c_bedIs hR j 6 (by omega)) ?_) | refine zR.cv rfl rfl rfl hR.1 rfl rfl (zCalP.of (c_bedIs hR j 7 (by omega)) ?_) | refine zR.getf rfl (hR.1) rfl ?_ | refine zR.ilR0 hR rfl (by (try simp only [zn_lit, zn_add, zn_mul]); rfl) (by omega) ?_) | rw [zcc1] | rw [zcc2] | rw [zcc3] | rw [zcc4] | rw [e] | rw [er] | rw [zd1 (k1)] | rw [zd2 (k1)] | rw [zd1 (k3)] | rw [zd2 (k3)] | rw [zd1 (k5)] | rw [zd2 (k5)] | rw [zd1 (t6)] | rw [zd2 (t6)] | rw [zb1 (by decide)] | rw [zb2 (by decide)] | rw [zb3 (by decide)] | rw [zb4 (by decide)] | rw [zn1 (by decide)] | rw [zn2 (by decide)] | rw [zn3 (by decide)] | rw [zn4 (by decide)] | rw [ze1 (by decide)] | rw [ze2 (by decide)] | rw [zd1 (by decide)] | rw [zd2 (by decide)] | rw [zswy (by decide)] | rw [zswn (by decide)] | rw [zsw0] | rw [z0] | rw [zd1 (w2)] | rw [zd2 (w2)])
  replace hR := hR.toY
  refine zR.isY hR Sm.rf rfl (i := 150 + 10 * j) (by simp only [zn_lit, zn_add, zn_mul]; rfl) (by omega) (fun M1 hR hS1 => ?_)
  have w0 : zuf (σ 0) (150 + 10 * j) (nI i) 0 = σ 0 0 := zuf_ne _ _ (by omega)
  repeat (first | ((with_reducible refine zR.stored ?_); dsimp only [zsto, zclr, zset, zget, zc2, cond_false, cond_true]) | ((with_reducible refine zR.atLit ?_); first | refine zR.step rfl ?_ | refine zR.getf rfl (hR.1) rfl ?_ | refine zR.ilY hR rfl (by (try simp only [zn_lit, zn_add, zn_mul]); rfl) (by omega) ?_) | rw [zcc1] | rw [zcc2] | rw [zcc3] | rw [zcc4])
  rw [w0]
  refine zR.isY hR hS1 rfl (i := 150 + 10 * j + 1) (by simp only [zn_lit, zn_add, zn_mul]) (by omega) (fun M2 hR hS2 => ?_)
  repeat (first | ((with_reducible refine zR.stored ?_); dsimp only [zsto, zclr, zset, zget, zc2, cond_false, cond_true]) | ((with_reducible refine zR.atLit ?_); first | refine zR.step rfl ?_ | refine zR.getf rfl (hR.1) rfl ?_) | rw [zcc1] | rw [zcc2] | rw [zcc3] | rw [zcc4] | rw [zb1 (by decide)] | rw [zb2 (by decide)] | rw [zb3 (by decide)] | rw [zb4 (by decide)] | rw [zn1 (by decide)] | rw [zn2 (by decide)] | rw [zn3 (by decide)] | rw [zn4 (by decide)] | rw [ze1 (by decide)] | rw [ze2 (by decide)] | rw [zd1 (by decide)] | rw [zd2 (by decide)] | rw [zswy (by decide)] | rw [zswn (by decide)] | rw [zsw0])
  refine zR.isY hR hS2 rfl (i := 150 + 10 * j + 2) (by simp only [zn_lit, zn_add, zn_mul]) (by omega) (fun M3 hR hS => ?_)
  repeat (first | ((with_reducible refine zR.stored ?_); dsimp only [zsto, zclr, zset, zget, zc2, cond_false, cond_true]) | ((with_reducible refine zR.atLit ?_); first | refine zR.step rfl ?_) | rw [zcc1] | rw [zcc2] | rw [zcc3] | rw [zcc4])
  refine zR.cv rfl rfl rfl hR.1 rfl rfl (zR.mono (c_done hR _) (fun v n' w' M' hv => ?_))
  obtain ⟨rfl, rfl, rfl, hR2, hS2⟩ := hv
  repeat (first | rw [zcc1] | rw [zcc2] | rw [zcc3] | rw [zcc4] | refine zR.step rfl ?_)
  refine zR.ret rfl rfl ⟨rfl, rfl, rfl, hR2, hS.trans hS2⟩
theorem sow_R {M : zM} {σ : mS} {d n w i j kd : Nat} {hv : Int32} (hR : Rf M σ) (hj : j < 8) (hi : i < 8) (e : inI (nI j) 0 7 = 1) (er : inI (nI i) 0 (σ 0 2 - 1) = 1) (tq : (σ 0 (150 + 10 * j + 6) = nI i ∧ σ 0 (150 + 10 * j + 7) = 1) ∨ ¬ σ 0 (150 + 10 * j + 6) = nI i) (z0 : σ 0 (150 + 10 * j + 0) = -1) (w2 : ¬ σ 0 0 = 30) (ek : σ 0 (50 + 10 * i + 0) = nI kd) (hkd : kd ≤ 5) (k5 : ¬ nI kd = 5) (hh : hv = if ofK kd 1 = 1 then σ 0 (51 + 10 * i) / 2 else 0) : zCalP (d + 2) 141 [.ref 287, .int (nI j), .int (nI i)] n w M (fun v n' w' M' => v = some (.int 1) ∧ n' = n ∧ w' = w ∧ Rf M' (sst (zuf σ 0 (sowY (σ 0) j i hv)) 0) ∧ Sm M M') := by
  subst hh
  match kd, hkd with
  | 0, _ => exact tq.elim (fun t => sow_R02 hR hj hi e er t.1 t.2 z0 w2 (by rw [ek]; decide) (by rw [ek]; decide) (by rw [ek]; decide)) (fun t => sow_R12 hR hj hi e er t z0 w2 (by rw [ek]; decide) (by rw [ek]; decide) (by rw [ek]; decide))
  | 1, _ => exact tq.elim (fun t => sow_R00 hR hj hi e er t.1 t.2 z0 w2 ek) (fun t => sow_R10 hR hj hi e er t z0 w2 ek)
  | 2, _ => exact tq.elim (fun t => sow_R02 hR hj hi e er t.1 t.2 z0 w2 (by rw [ek]; decide) (by rw [ek]; decide) (by rw [ek]; decide)) (fun t => sow_R12 hR hj hi e er t z0 w2 (by rw [ek]; decide) (by rw [ek]; decide) (by rw [ek]; decide))
  | 3, _ => exact tq.elim (fun t => sow_R01 hR hj hi e er t.1 t.2 z0 w2 ek) (fun t => sow_R11 hR hj hi e er t z0 w2 ek)
  | 4, _ => exact tq.elim (fun t => sow_R02 hR hj hi e er t.1 t.2 z0 w2 (by rw [ek]; decide) (by rw [ek]; decide) (by rw [ek]; decide)) (fun t => sow_R12 hR hj hi e er t z0 w2 (by rw [ek]; decide) (by rw [ek]; decide) (by rw [ek]; decide))
  | 5, _ => exact absurd rfl k5
theorem o_sow {L : Nat} {xs : Nat → Int32} : op_sow (Inv L xs) := by
  intro a b M σ n w hI
  have hI' := hI
  obtain ⟨t, tr, c0, c1, c2, k0, k1, k2, b0, b1, b2, l0, l1, l2, hR, ⟨hT, hG0, hG1, hG2⟩, hg, hk, ht, hx, hn⟩ := hI
  have h25 := hT.1
  have hg' := hg
  obtain ⟨nc, nh, nl, lm, wk, hN, ⟨hC, hCn⟩, hB, hL, hSt, hH, hW, hX⟩ := hg'
  obtain ⟨N1, N2, N3, N4, N5, N6, N7, N8, N9, N10, N11, N12, N13, N14, N15, N16, N17⟩ := hN
  show zR ztb _ kX11_sow 1 0 [some (.ref 25), some (.int a), some (.int b), none, none, none] [] _ _ _ _
  rcases inI_nat a 0 7 (by omega) (by omega) with ⟨j, -, hj, rfl, e⟩ | ⟨-, e⟩
  · replace e : inI (nI j) 0 7 = 1 := e
    rcases inI_sub b nc (by omega) with ⟨i, hi, rfl, ez⟩ | ⟨-, ez⟩
    · have ec : inI (nI i) 0 (c0 0 0 - 1) = 1 := by rw [N11, N1]; exact ez
      have er : inI (nI i) 0 (σ 0 2 - 1) = 1 := by rw [N1]; exact ez
      obtain ⟨⟨ca, hk1, hc1⟩, ⟨kd, hkd, -, hkd2⟩, -⟩ := hC i hi
      have hcM := hc1.2.2
      have ek : σ 0 (50 + 10 * i + 0) = nI kd := hkd
      obtain ⟨B1, B2, B3, B4, B5⟩ := hB j (by omega)
      have hb := hG0.b (i := j) (by omega)
      by_cases k5 : nI kd = 5
      · repeat (first | ((with_reducible refine zR.stored ?_); dsimp only [zsto, zclr, zset, zget, zc2, cond_false, cond_true]) | ((with_reducible refine zR.atLit ?_); first | refine zR.step rfl ?_ | refine zR.getf rfl (h25) rfl ?_ | refine zR.cv rfl rfl rfl hG0.o rfl rfl (zCalP.of (c_bedAt_y hG0 (by omega)) ?_) | refine zR.cv rfl rfl rfl hG0.o rfl rfl (zCalP.of (c_cropAt_y hG0 ec (by omega) hk1) ?_) | refine zR.getf rfl (hcM) rfl ?_) | rw [zcc1] | rw [zcc2] | rw [zcc3] | rw [zcc4] | rw [hkd] | rw [ze1 (k5)] | rw [ze2 (k5)])
        refine zR.cv rfl rfl rfl h25 rfl rfl (zCalP.of (c_refuse h25 _) ?_)
        repeat (first | rw [zcc1] | rw [zcc2] | rw [zcc3] | rw [zcc4] | refine zR.step rfl ?_)
        refine zR.ret rfl rfl ⟨_, rfl, ⟨_, (hR.out (by omega)).1⟩, rfl, ?_⟩
        replace hR : Rf (zup M 25 (.inr (11, tob (tst t 1)))) σ := hR.out (by omega)
        have hS : Sm (zup M 25 (.inr (11, tob (tst t 1)))) (zup M 25 (.inr (11, tob (tst t 1)))) := Sm.rf
        show zR ztb _ kX12_sow 1 0 [some (.ref 287), some (.int (nI j)), some (.int (nI i)), none, none, none] [] _ _ _ _
        repeat (first | ((with_reducible refine zR.stored ?_); dsimp only [zsto, zclr, zset, zget, zc2, cond_false, cond_true]) | ((with_reducible refine zR.atLit ?_); first | refine zR.step rfl ?_ | refine zR.cs rfl rfl rfl rfl rfl (zCalP.of (c_in _ _ _) ?_) | refine zR.cv rfl rfl rfl hR.1 rfl rfl (zCalP.of (c_isCrop hR _) ?_) | refine zR.cv rfl rfl rfl hR.1 rfl rfl (zCalP.of (c_cropIs hR i 0 (by omega)) ?_)) | rw [zcc1] | rw [zcc2] | rw [zcc3] | rw [zcc4] | rw [e] | rw [er] | rw [ek] | rw [ze1 (k5)] | rw [ze2 (k5)])
        refine zR.cv rfl rfl rfl hR.1 rfl rfl (zR.mono (c_refused hR _) (fun v n' w' M' hv => ?_))
        obtain ⟨rfl, rfl, rfl, hR2, hS2⟩ := hv
        repeat (first | rw [zcc1] | rw [zcc2] | rw [zcc3] | rw [zcc4] | refine zR.step rfl ?_)
        refine zR.ret rfl rfl ⟨rfl, by omega, by omega, _, inv_fin ⟨hT, hG0, hG1, hG2⟩ hg hk ht hx hn hR2 (hS.trans hS2)⟩
      · have q6 : c0 (20 + j) 6 = σ 0 (150 + 10 * j + 6) := B2 6 (by omega) (by omega)
        have q7 : c0 (20 + j) 7 = σ 0 (150 + 10 * j + 7) := B2 7 (by omega) (by omega)
        rw [show 157 + 10 * j = 150 + 10 * j + 7 by omega] at B3
        have tq : (σ 0 (150 + 10 * j + 6) = nI i ∧ σ 0 (150 + 10 * j + 7) = 0) ∨ (σ 0 (150 + 10 * j + 6) = nI i ∧ σ 0 (150 + 10 * j + 7) = 1) ∨ ¬ σ 0 (150 + 10 * j + 6) = nI i := by
          by_cases z : σ 0 (150 + 10 * j + 6) = nI i
          · rcases B3 with z2 | z2
            · exact Or.inl ⟨z, z2⟩
            · exact Or.inr (Or.inl ⟨z, z2⟩)
          · exact Or.inr (Or.inr z)
        rcases B1 with ⟨z1, z2, z3, z4, z5, z6⟩ | ⟨ci, cb, z1, z2, z3, z4, -⟩
        · rw [z2] at hb
          have z0 : σ 0 (150 + 10 * j + 0) = -1 := z1
          rcases tq with ⟨t6, t7⟩ | ⟨t6, t7⟩ | t6
          · repeat (first | ((with_reducible refine zR.stored ?_); dsimp only [zsto, zclr, zset, zget, zc2, cond_false, cond_true]) | ((with_reducible refine zR.atLit ?_); first | refine zR.step rfl ?_ | refine zR.getf rfl (h25) rfl ?_ | refine zR.getf rfl (hG0.o) rfl ?_ | refine zR.cv rfl rfl rfl hG0.o rfl rfl (zCalP.of (c_bedAt_y hG0 (by omega)) ?_) | refine zR.cv rfl rfl rfl hG0.o rfl rfl (zCalP.of (c_cropAt_y hG0 ec (by omega) hk1) ?_) | refine zR.getf rfl (hcM) rfl ?_ | refine zR.getf rfl (hb) rfl ?_) | rw [zcc1] | rw [zcc2] | rw [zcc3] | rw [zcc4] | rw [hkd] | rw [zd1 (k5)] | rw [zd2 (k5)] | rw [zb1 (by decide)] | rw [zb2 (by decide)] | rw [zb3 (by decide)] | rw [zb4 (by decide)] | rw [zn1 (by decide)] | rw [zn2 (by decide)] | rw [zn3 (by decide)] | rw [zn4 (by decide)] | rw [ze1 (by decide)] | rw [ze2 (by decide)] | rw [zd1 (by decide)] | rw [zd2 (by decide)] | rw [zswy (by decide)] | rw [zswn (by decide)] | rw [zsw0] | rw [q6] | rw [q7] | rw [ze1 (t6)] | rw [ze2 (t6)] | rw [t7])
            refine zR.cv rfl rfl rfl h25 rfl rfl (zCalP.of (c_refuse h25 _) ?_)
            repeat (first | rw [zcc1] | rw [zcc2] | rw [zcc3] | rw [zcc4] | refine zR.step rfl ?_)
            refine zR.ret rfl rfl ⟨_, rfl, ⟨_, (hR.out (by omega)).1⟩, rfl, ?_⟩
            replace hR : Rf (zup M 25 (.inr (11, tob (tst t 3)))) σ := hR.out (by omega)
            have hS : Sm (zup M 25 (.inr (11, tob (tst t 3)))) (zup M 25 (.inr (11, tob (tst t 3)))) := Sm.rf
            show zR ztb _ kX12_sow 1 0 [some (.ref 287), some (.int (nI j)), some (.int (nI i)), none, none, none] [] _ _ _ _
            repeat (first | ((with_reducible refine zR.stored ?_); dsimp only [zsto, zclr, zset, zget, zc2, cond_false, cond_true]) | ((with_reducible refine zR.atLit ?_); first | refine zR.step rfl ?_ | refine zR.cs rfl rfl rfl rfl rfl (zCalP.of (c_in _ _ _) ?_) | refine zR.cv rfl rfl rfl hR.1 rfl rfl (zCalP.of (c_isCrop hR _) ?_) | refine zR.cv rfl rfl rfl hR.1 rfl rfl (zCalP.of (c_cropIs hR i 0 (by omega)) ?_) | refine zR.cv rfl rfl rfl hR.1 rfl rfl (zCalP.of (c_cropIs hR i 1 (by omega)) ?_) | refine zR.cv rfl rfl rfl hR.1 rfl rfl (zCalP.of (c_bedIs hR j 0 (by omega)) ?_) | refine zR.cv rfl rfl rfl hR.1 rfl rfl (zCalP.of (c_bedIs hR j 6 (by omega)) ?_) | refine zR.cv rfl rfl rfl hR.1 rfl rfl (zCalP.of (c_bedIs hR j 7 (by omega)) ?_) | refine zR.getf rfl (hR.1) rfl ?_) | rw [zcc1] | rw [zcc2] | rw [zcc3] | rw [zcc4] | rw [e] | rw [er] | rw [ek] | rw [zd1 (k5)] | rw [zd2 (k5)] | rw [zb1 (by decide)] | rw [zb2 (by decide)] | rw [zb3 (by decide)] | rw [zb4 (by decide)] | rw [zn1 (by decide)] | rw [zn2 (by decide)] | rw [zn3 (by decide)] | rw [zn4 (by decide)] | rw [ze1 (by decide)] | rw [ze2 (by decide)] | rw [zd1 (by decide)] | rw [zd2 (by decide)] | rw [zswy (by decide)] | rw [zswn (by decide)] | rw [zsw0] | rw [ze1 (t6)] | rw [ze2 (t6)] | rw [t7] | rw [ze1 (z0)] | rw [ze2 (z0)] | rw [z0])
            refine zR.cv rfl rfl rfl hR.1 rfl rfl (zR.mono (c_refused hR _) (fun v n' w' M' hv => ?_))
            obtain ⟨rfl, rfl, rfl, hR2, hS2⟩ := hv
            repeat (first | rw [zcc1] | rw [zcc2] | rw [zcc3] | rw [zcc4] | refine zR.step rfl ?_)
            refine zR.ret rfl rfl ⟨rfl, by omega, by omega, _, inv_fin ⟨hT, hG0, hG1, hG2⟩ hg hk ht hx hn hR2 (hS.trans hS2)⟩
          · by_cases hw : wk = 30
            · have w1 : ¬ c0 0 2 < 30 := by rw [N13, N9, hw]; decide
              have w2 : σ 0 0 = 30 := by rw [N9, hw]; rfl
              repeat (first | ((with_reducible refine zR.stored ?_); dsimp only [zsto, zclr, zset, zget, zc2, cond_false, cond_true]) | ((with_reducible refine zR.atLit ?_); first | refine zR.step rfl ?_ | refine zR.getf rfl (h25) rfl ?_ | refine zR.getf rfl (hG0.o) rfl ?_ | refine zR.cv rfl rfl rfl hG0.o rfl rfl (zCalP.of (c_bedAt_y hG0 (by omega)) ?_) | refine zR.cv rfl rfl rfl hG0.o rfl rfl (zCalP.of (c_cropAt_y hG0 ec (by omega) hk1) ?_) | refine zR.getf rfl (hcM) rfl ?_ | refine zR.getf rfl (hb) rfl ?_) | rw [zcc1] | rw [zcc2] | rw [zcc3] | rw [zcc4] | rw [hkd] | rw [zd1 (k5)] | rw [zd2 (k5)] | rw [zb1 (by decide)] | rw [zb2 (by decide)] | rw [zb3 (by decide)] | rw [zb4 (by decide)] | rw [zn1 (by decide)] | rw [zn2 (by decide)] | rw [zn3 (by decide)] | rw [zn4 (by decide)] | rw [ze1 (by decide)] | rw [ze2 (by decide)] | rw [zd1 (by decide)] | rw [zd2 (by decide)] | rw [zswy (by decide)] | rw [zswn (by decide)] | rw [zsw0] | rw [q6] | rw [q7] | rw [ze1 (t6)] | rw [ze2 (t6)] | rw [t7] | rw [zn1 (w1)] | rw [zn2 (w1)] | rw [zn3 (w1)] | rw [zn4 (w1)])
              refine zR.cv rfl rfl rfl h25 rfl rfl (zCalP.of (c_refuse h25 _) ?_)
              repeat (first | rw [zcc1] | rw [zcc2] | rw [zcc3] | rw [zcc4] | refine zR.step rfl ?_)
              refine zR.ret rfl rfl ⟨_, rfl, ⟨_, (hR.out (by omega)).1⟩, rfl, ?_⟩
              replace hR : Rf (zup M 25 (.inr (11, tob (tst t 3)))) σ := hR.out (by omega)
              have hS : Sm (zup M 25 (.inr (11, tob (tst t 3)))) (zup M 25 (.inr (11, tob (tst t 3)))) := Sm.rf
              show zR ztb _ kX12_sow 1 0 [some (.ref 287), some (.int (nI j)), some (.int (nI i)), none, none, none] [] _ _ _ _
              repeat (first | ((with_reducible refine zR.stored ?_); dsimp only [zsto, zclr, zset, zget, zc2, cond_false, cond_true]) | ((with_reducible refine zR.atLit ?_); first | refine zR.step rfl ?_ | refine zR.cs rfl rfl rfl rfl rfl (zCalP.of (c_in _ _ _) ?_) | refine zR.cv rfl rfl rfl hR.1 rfl rfl (zCalP.of (c_isCrop hR _) ?_) | refine zR.cv rfl rfl rfl hR.1 rfl rfl (zCalP.of (c_cropIs hR i 0 (by omega)) ?_) | refine zR.cv rfl rfl rfl hR.1 rfl rfl (zCalP.of (c_cropIs hR i 1 (by omega)) ?_) | refine zR.cv rfl rfl rfl hR.1 rfl rfl (zCalP.of (c_bedIs hR j 0 (by omega)) ?_) | refine zR.cv rfl rfl rfl hR.1 rfl rfl (zCalP.of (c_bedIs hR j 6 (by omega)) ?_) | refine zR.cv rfl rfl rfl hR.1 rfl rfl (zCalP.of (c_bedIs hR j 7 (by omega)) ?_) | refine zR.getf rfl (hR.1) rfl ?_ | refine zR.ilR0 hR rfl (by (try simp only [zn_lit, zn_add, zn_mul]); rfl) (by omega) ?_) | rw [zcc1] | rw [zcc2] | rw [zcc3] | rw [zcc4] | rw [e] | rw [er] | rw [ek] | rw [zd1 (k5)] | rw [zd2 (k5)] | rw [zb1 (by decide)] | rw [zb2 (by decide)] | rw [zb3 (by decide)] | rw [zb4 (by decide)] | rw [zn1 (by decide)] | rw [zn2 (by decide)] | rw [zn3 (by decide)] | rw [zn4 (by decide)] | rw [ze1 (by decide)] | rw [ze2 (by decide)] | rw [zd1 (by decide)] | rw [zd2 (by decide)] | rw [zswy (by decide)] | rw [zswn (by decide)] | rw [zsw0] | rw [ze1 (t6)] | rw [ze2 (t6)] | rw [t7] | rw [ze1 (z0)] | rw [ze2 (z0)] | rw [z0] | rw [ze1 (w2)] | rw [ze2 (w2)])
              refine zR.cv rfl rfl rfl hR.1 rfl rfl (zR.mono (c_refused hR _) (fun v n' w' M' hv => ?_))
              obtain ⟨rfl, rfl, rfl, hR2, hS2⟩ := hv
              repeat (first | rw [zcc1] | rw [zcc2] | rw [zcc3] | rw [zcc4] | refine zR.step rfl ?_)
              refine zR.ret rfl rfl ⟨rfl, by omega, by omega, _, inv_fin ⟨hT, hG0, hG1, hG2⟩ hg hk ht hx hn hR2 (hS.trans hS2)⟩
            · have w1 : c0 0 2 < 30 := by rw [N13, N9]; exact zI_ylt (b := 30) (by omega) (by omega)
              have w2 : ¬ σ 0 0 = 30 := by rw [N9]; exact fun h => hw (zn_inj (b := 30) (by omega) (by omega) h)
              have hh : ∃ h : Int32, h = if ofK kd 1 = 1 then σ 0 (51 + 10 * i) / 2 else 0 := ⟨_, rfl⟩
              obtain ⟨hv, hh⟩ := hh
              repeat (first | ((with_reducible refine zR.stored ?_); dsimp only [zsto, zclr, zset, zget, zc2, cond_false, cond_true]) | ((with_reducible refine zR.atLit ?_); first | refine zR.step rfl ?_ | refine zR.getf rfl (h25) rfl ?_ | refine zR.getf rfl (hG0.o) rfl ?_ | refine zR.cv rfl rfl rfl hG0.o rfl rfl (zCalP.of (c_bedAt_y hG0 (by omega)) ?_) | refine zR.cv rfl rfl rfl hG0.o rfl rfl (zCalP.of (c_cropAt_y hG0 ec (by omega) hk1) ?_) | refine zR.getf rfl (hcM) rfl ?_ | refine zR.getf rfl (hb) rfl ?_) | rw [zcc1] | rw [zcc2] | rw [zcc3] | rw [zcc4] | rw [hkd] | rw [zd1 (k5)] | rw [zd2 (k5)] | rw [zb1 (by decide)] | rw [zb2 (by decide)] | rw [zb3 (by decide)] | rw [zb4 (by decide)] | rw [zn1 (by decide)] | rw [zn2 (by decide)] | rw [zn3 (by decide)] | rw [zn4 (by decide)] | rw [ze1 (by decide)] | rw [ze2 (by decide)] | rw [zd1 (by decide)] | rw [zd2 (by decide)] | rw [zswy (by decide)] | rw [zswn (by decide)] | rw [zsw0] | rw [q6] | rw [q7] | rw [ze1 (t6)] | rw [ze2 (t6)] | rw [t7] | rw [zb1 (w1)] | rw [zb2 (w1)] | rw [zb3 (w1)] | rw [zb4 (w1)])
              refine zR.cv rfl rfl rfl hb rfl rfl (zCalP.of (c_begin hb hcM (by have := hc1.1; omega) (hAb hx) (by omega) hkd (by omega) _ hv hh) ?_)
              have hG0' := hG0.upB (i := j) (by omega) (some ca) (zuf (sowR (c0 (20 + j)) (c0 0 2)) 2 hv)
              have hT' := hT.out (a := 48 + 18 + j) (c := .inr (0, bof (some ca) (zuf (sowR (c0 (20 + j)) (c0 0 2)) 2 hv))) (by omega)
              repeat (first | ((with_reducible refine zR.stored ?_); dsimp only [zsto, zclr, zset, zget, zc2, cond_false, cond_true]) | ((with_reducible refine zR.atLit ?_); first | refine zR.step rfl ?_) | rw [zcc1] | rw [zcc2] | rw [zcc3] | rw [zcc4])
              refine zR.cv rfl rfl rfl hT'.1 rfl rfl (zCalP.of (c_doneC hT'.1 _) ?_)
              repeat (first | ((with_reducible refine zR.stored ?_); dsimp only [zsto, zclr, zset, zget, zc2, cond_false, cond_true]) | ((with_reducible refine zR.atLit ?_); first | refine zR.step rfl ?_) | rw [zcc1] | rw [zcc2] | rw [zcc3] | rw [zcc4])
              replace hR := (hR.out (a := 48 + 18 + j) (c := .inr (0, bof (some ca) (zuf (sowR (c0 (20 + j)) (c0 0 2)) 2 hv))) (by omega)).out (a := 25) (c := .inr (11, tob (tst t 0))) (by omega)
              refine zR.ret rfl rfl ⟨_, rfl, ⟨_, hR.1⟩, by rw [zup_ne _ _ (by omega), zup_ne _ _ (by omega)], ?_⟩
              have hfin : GR (zup M (48 + 18 + j) (.inr (0, bof (some ca) (zuf (sowR (c0 (20 + j)) (c0 0 2)) 2 hv)))) n (zuf c0 (20 + j) (zuf (sowR (c0 (20 + j)) (c0 0 2)) 2 hv)) k0 (zuf b0 j (some ca)) l0 (sowY (σ 0) j i hv) := by
                have yn : ∀ k, k ≠ 150 + 10 * j → k ≠ 150 + 10 * j + 1 → k ≠ 150 + 10 * j + 2 → sowY (σ 0) j i hv k = σ 0 k := fun k h1 h2 h3 => by unfold sowY; rw [zuf_ne _ _ h3, zuf_ne _ _ h2, zuf_ne _ _ h1]
                have y0 : sowY (σ 0) j i hv (150 + 10 * j) = nI i := by unfold sowY; rw [zuf_ne _ _ (by omega), zuf_ne _ _ (by omega), zuf_self]
                have y1 : sowY (σ 0) j i hv (150 + 10 * j + 1) = σ 0 0 := by unfold sowY; rw [zuf_ne _ _ (by omega), zuf_self]
                refine (hg.out (by omega)).bed (by omega) (fun h => h) (fun k hk => yn k (by omega) (by omega) (by omega)) (fun nc9 hn9 hs9 hp => ?_)
                have en : nc9 = nc := zn_inj (by omega) (by omega) (hs9.symm.trans N1)
                subst en
                unfold PBi
                rw [zuf_self, zuf_self, y0, yn (153 + 10 * j) (by omega) (by omega) (by omega), yn (154 + 10 * j) (by omega) (by omega) (by omega), yn (155 + 10 * j) (by omega) (by omega) (by omega), yn (156 + 10 * j) (by omega) (by omega) (by omega), yn (157 + 10 * j) (by omega) (by omega) (by omega)]
                refine ⟨Or.inr ⟨i, ca, hi, rfl, rfl, (hc1.mv (fun k a b => zup_ne _ _ (by omega)) (Nat.le_refl _)).cg (by omega) (fun k hk => yn k (by omega) (by omega) (by omega)), by rw [yn (50 + 10 * i) (by omega) (by omega) (by omega), hkd]; exact k5, fun _ => z5⟩, fun k h1 h2 => ?_, by rw [show 157 + 10 * j = 150 + 10 * j + 7 by omega]; exact B3, B4, B5⟩
                match k, h1, h2 with
                | 1, _, _ => rw [y1, ← N13]; rfl
                | 2, _, _ => exact (zuf_self _ _ _).trans (zuf_self _ _ _).symm
                | 3, _, _ => rw [yn _ (by omega) (by omega) (by omega), show 150 + 10 * j + 3 = 153 + 10 * j by omega, z4]; rfl
                | 4, _, _ => rw [yn _ (by omega) (by omega) (by omega), show 150 + 10 * j + 4 = 154 + 10 * j by omega, z5]; rfl
                | 5, _, _ => rw [yn _ (by omega) (by omega) (by omega), show 150 + 10 * j + 5 = 155 + 10 * j by omega, z6]; rfl
                | 6, _, _ => rw [yn _ (by omega) (by omega) (by omega), ← B2 6 (by omega) (by omega)]; rfl
                | 7, _, _ => rw [yn _ (by omega) (by omega) (by omega), ← B2 7 (by omega) (by omega)]; rfl
              clear hg
              refine zR.mono (sow_R hR (by omega) (by omega) e er (Or.inl ⟨t6, t7⟩) z0 w2 ek hkd2 k5 hh) (fun v n2 w2 M2 hv2 => ?_)
              obtain ⟨rfl, rfl, rfl, hR2, hS2⟩ := hv2
              exact ⟨rfl, by omega, by omega, _, inv_now hT hG1 hG2 hk ht hx hn (fun k h1 h2 => zup_ne _ _ (by omega)) (Nat.le_refl _) hG0' hfin hR2 hS2⟩
          · by_cases hw : wk = 30
            · have w1 : ¬ c0 0 2 < 30 := by rw [N13, N9, hw]; decide
              have w2 : σ 0 0 = 30 := by rw [N9, hw]; rfl
              repeat (first | ((with_reducible refine zR.stored ?_); dsimp only [zsto, zclr, zset, zget, zc2, cond_false, cond_true]) | ((with_reducible refine zR.atLit ?_); first | refine zR.step rfl ?_ | refine zR.getf rfl (h25) rfl ?_ | refine zR.getf rfl (hG0.o) rfl ?_ | refine zR.cv rfl rfl rfl hG0.o rfl rfl (zCalP.of (c_bedAt_y hG0 (by omega)) ?_) | refine zR.cv rfl rfl rfl hG0.o rfl rfl (zCalP.of (c_cropAt_y hG0 ec (by omega) hk1) ?_) | refine zR.getf rfl (hcM) rfl ?_ | refine zR.getf rfl (hb) rfl ?_) | rw [zcc1] | rw [zcc2] | rw [zcc3] | rw [zcc4] | rw [hkd] | rw [zd1 (k5)] | rw [zd2 (k5)] | rw [zb1 (by decide)] | rw [zb2 (by decide)] | rw [zb3 (by decide)] | rw [zb4 (by decide)] | rw [zn1 (by decide)] | rw [zn2 (by decide)] | rw [zn3 (by decide)] | rw [zn4 (by decide)] | rw [ze1 (by decide)] | rw [ze2 (by decide)] | rw [zd1 (by decide)] | rw [zd2 (by decide)] | rw [zswy (by decide)] | rw [zswn (by decide)] | rw [zsw0] | rw [q6] | rw [q7] | rw [zd1 (t6)] | rw [zd2 (t6)] | rw [zn1 (w1)] | rw [zn2 (w1)] | rw [zn3 (w1)] | rw [zn4 (w1)])
              refine zR.cv rfl rfl rfl h25 rfl rfl (zCalP.of (c_refuse h25 _) ?_)
              repeat (first | rw [zcc1] | rw [zcc2] | rw [zcc3] | rw [zcc4] | refine zR.step rfl ?_)
              refine zR.ret rfl rfl ⟨_, rfl, ⟨_, (hR.out (by omega)).1⟩, rfl, ?_⟩
              replace hR : Rf (zup M 25 (.inr (11, tob (tst t 3)))) σ := hR.out (by omega)
              have hS : Sm (zup M 25 (.inr (11, tob (tst t 3)))) (zup M 25 (.inr (11, tob (tst t 3)))) := Sm.rf
              show zR ztb _ kX12_sow 1 0 [some (.ref 287), some (.int (nI j)), some (.int (nI i)), none, none, none] [] _ _ _ _
              repeat (first | ((with_reducible refine zR.stored ?_); dsimp only [zsto, zclr, zset, zget, zc2, cond_false, cond_true]) | ((with_reducible refine zR.atLit ?_); first | refine zR.step rfl ?_ | refine zR.cs rfl rfl rfl rfl rfl (zCalP.of (c_in _ _ _) ?_) | refine zR.cv rfl rfl rfl hR.1 rfl rfl (zCalP.of (c_isCrop hR _) ?_) | refine zR.cv rfl rfl rfl hR.1 rfl rfl (zCalP.of (c_cropIs hR i 0 (by omega)) ?_) | refine zR.cv rfl rfl rfl hR.1 rfl rfl (zCalP.of (c_cropIs hR i 1 (by omega)) ?_) | refine zR.cv rfl rfl rfl hR.1 rfl rfl (zCalP.of (c_bedIs hR j 0 (by omega)) ?_) | refine zR.cv rfl rfl rfl hR.1 rfl rfl (zCalP.of (c_bedIs hR j 6 (by omega)) ?_) | refine zR.cv rfl rfl rfl hR.1 rfl rfl (zCalP.of (c_bedIs hR j 7 (by omega)) ?_) | refine zR.getf rfl (hR.1) rfl ?_ | refine zR.ilR0 hR rfl (by (try simp only [zn_lit, zn_add, zn_mul]); rfl) (by omega) ?_) | rw [zcc1] | rw [zcc2] | rw [zcc3] | rw [zcc4] | rw [e] | rw [er] | rw [ek] | rw [zd1 (k5)] | rw [zd2 (k5)] | rw [zb1 (by decide)] | rw [zb2 (by decide)] | rw [zb3 (by decide)] | rw [zb4 (by decide)] | rw [zn1 (by decide)] | rw [zn2 (by decide)] | rw [zn3 (by decide)] | rw [zn4 (by decide)] | rw [ze1 (by decide)] | rw [ze2 (by decide)] | rw [zd1 (by decide)] | rw [zd2 (by decide)] | rw [zswy (by decide)] | rw [zswn (by decide)] | rw [zsw0] | rw [zd1 (t6)] | rw [zd2 (t6)] | rw [ze1 (z0)] | rw [ze2 (z0)] | rw [z0] | rw [ze1 (w2)] | rw [ze2 (w2)])
              refine zR.cv rfl rfl rfl hR.1 rfl rfl (zR.mono (c_refused hR _) (fun v n' w' M' hv => ?_))
              obtain ⟨rfl, rfl, rfl, hR2, hS2⟩ := hv
              repeat (first | rw [zcc1] | rw [zcc2] | rw [zcc3] | rw [zcc4] | refine zR.step rfl ?_)
              refine zR.ret rfl rfl ⟨rfl, by omega, by omega, _, inv_fin ⟨hT, hG0, hG1, hG2⟩ hg hk ht hx hn hR2 (hS.trans hS2)⟩
            · have w1 : c0 0 2 < 30 := by rw [N13, N9]; exact zI_ylt (b := 30) (by omega) (by omega)
              have w2 : ¬ σ 0 0 = 30 := by rw [N9]; exact fun h => hw (zn_inj (b := 30) (by omega) (by omega) h)
              have hh : ∃ h : Int32, h = if ofK kd 1 = 1 then σ 0 (51 + 10 * i) / 2 else 0 := ⟨_, rfl⟩
              obtain ⟨hv, hh⟩ := hh
              repeat (first | ((with_reducible refine zR.stored ?_); dsimp only [zsto, zclr, zset, zget, zc2, cond_false, cond_true]) | ((with_reducible refine zR.atLit ?_); first | refine zR.step rfl ?_ | refine zR.getf rfl (h25) rfl ?_ | refine zR.getf rfl (hG0.o) rfl ?_ | refine zR.cv rfl rfl rfl hG0.o rfl rfl (zCalP.of (c_bedAt_y hG0 (by omega)) ?_) | refine zR.cv rfl rfl rfl hG0.o rfl rfl (zCalP.of (c_cropAt_y hG0 ec (by omega) hk1) ?_) | refine zR.getf rfl (hcM) rfl ?_ | refine zR.getf rfl (hb) rfl ?_) | rw [zcc1] | rw [zcc2] | rw [zcc3] | rw [zcc4] | rw [hkd] | rw [zd1 (k5)] | rw [zd2 (k5)] | rw [zb1 (by decide)] | rw [zb2 (by decide)] | rw [zb3 (by decide)] | rw [zb4 (by decide)] | rw [zn1 (by decide)] | rw [zn2 (by decide)] | rw [zn3 (by decide)] | rw [zn4 (by decide)] | rw [ze1 (by decide)] | rw [ze2 (by decide)] | rw [zd1 (by decide)] | rw [zd2 (by decide)] | rw [zswy (by decide)] | rw [zswn (by decide)] | rw [zsw0] | rw [q6] | rw [q7] | rw [zd1 (t6)] | rw [zd2 (t6)] | rw [zb1 (w1)] | rw [zb2 (w1)] | rw [zb3 (w1)] | rw [zb4 (w1)])
              refine zR.cv rfl rfl rfl hb rfl rfl (zCalP.of (c_begin hb hcM (by have := hc1.1; omega) (hAb hx) (by omega) hkd (by omega) _ hv hh) ?_)
              have hG0' := hG0.upB (i := j) (by omega) (some ca) (zuf (sowR (c0 (20 + j)) (c0 0 2)) 2 hv)
              have hT' := hT.out (a := 48 + 18 + j) (c := .inr (0, bof (some ca) (zuf (sowR (c0 (20 + j)) (c0 0 2)) 2 hv))) (by omega)
              repeat (first | ((with_reducible refine zR.stored ?_); dsimp only [zsto, zclr, zset, zget, zc2, cond_false, cond_true]) | ((with_reducible refine zR.atLit ?_); first | refine zR.step rfl ?_) | rw [zcc1] | rw [zcc2] | rw [zcc3] | rw [zcc4])
              refine zR.cv rfl rfl rfl hT'.1 rfl rfl (zCalP.of (c_doneC hT'.1 _) ?_)
              repeat (first | ((with_reducible refine zR.stored ?_); dsimp only [zsto, zclr, zset, zget, zc2, cond_false, cond_true]) | ((with_reducible refine zR.atLit ?_); first | refine zR.step rfl ?_) | rw [zcc1] | rw [zcc2] | rw [zcc3] | rw [zcc4])
              replace hR := (hR.out (a := 48 + 18 + j) (c := .inr (0, bof (some ca) (zuf (sowR (c0 (20 + j)) (c0 0 2)) 2 hv))) (by omega)).out (a := 25) (c := .inr (11, tob (tst t 0))) (by omega)
              refine zR.ret rfl rfl ⟨_, rfl, ⟨_, hR.1⟩, by rw [zup_ne _ _ (by omega), zup_ne _ _ (by omega)], ?_⟩
              have hfin : GR (zup M (48 + 18 + j) (.inr (0, bof (some ca) (zuf (sowR (c0 (20 + j)) (c0 0 2)) 2 hv)))) n (zuf c0 (20 + j) (zuf (sowR (c0 (20 + j)) (c0 0 2)) 2 hv)) k0 (zuf b0 j (some ca)) l0 (sowY (σ 0) j i hv) := by
                have yn : ∀ k, k ≠ 150 + 10 * j → k ≠ 150 + 10 * j + 1 → k ≠ 150 + 10 * j + 2 → sowY (σ 0) j i hv k = σ 0 k := fun k h1 h2 h3 => by unfold sowY; rw [zuf_ne _ _ h3, zuf_ne _ _ h2, zuf_ne _ _ h1]
                have y0 : sowY (σ 0) j i hv (150 + 10 * j) = nI i := by unfold sowY; rw [zuf_ne _ _ (by omega), zuf_ne _ _ (by omega), zuf_self]
                have y1 : sowY (σ 0) j i hv (150 + 10 * j + 1) = σ 0 0 := by unfold sowY; rw [zuf_ne _ _ (by omega), zuf_self]
                refine (hg.out (by omega)).bed (by omega) (fun h => h) (fun k hk => yn k (by omega) (by omega) (by omega)) (fun nc9 hn9 hs9 hp => ?_)
                have en : nc9 = nc := zn_inj (by omega) (by omega) (hs9.symm.trans N1)
                subst en
                unfold PBi
                rw [zuf_self, zuf_self, y0, yn (153 + 10 * j) (by omega) (by omega) (by omega), yn (154 + 10 * j) (by omega) (by omega) (by omega), yn (155 + 10 * j) (by omega) (by omega) (by omega), yn (156 + 10 * j) (by omega) (by omega) (by omega), yn (157 + 10 * j) (by omega) (by omega) (by omega)]
                refine ⟨Or.inr ⟨i, ca, hi, rfl, rfl, (hc1.mv (fun k a b => zup_ne _ _ (by omega)) (Nat.le_refl _)).cg (by omega) (fun k hk => yn k (by omega) (by omega) (by omega)), by rw [yn (50 + 10 * i) (by omega) (by omega) (by omega), hkd]; exact k5, fun _ => z5⟩, fun k h1 h2 => ?_, by rw [show 157 + 10 * j = 150 + 10 * j + 7 by omega]; exact B3, B4, B5⟩
                match k, h1, h2 with
                | 1, _, _ => rw [y1, ← N13]; rfl
                | 2, _, _ => exact (zuf_self _ _ _).trans (zuf_self _ _ _).symm
                | 3, _, _ => rw [yn _ (by omega) (by omega) (by omega), show 150 + 10 * j + 3 = 153 + 10 * j by omega, z4]; rfl
                | 4, _, _ => rw [yn _ (by omega) (by omega) (by omega), show 150 + 10 * j + 4 = 154 + 10 * j by omega, z5]; rfl
                | 5, _, _ => rw [yn _ (by omega) (by omega) (by omega), show 150 + 10 * j + 5 = 155 + 10 * j by omega, z6]; rfl
                | 6, _, _ => rw [yn _ (by omega) (by omega) (by omega), ← B2 6 (by omega) (by omega)]; rfl
                | 7, _, _ => rw [yn _ (by omega) (by omega) (by omega), ← B2 7 (by omega) (by omega)]; rfl
              clear hg
              refine zR.mono (sow_R hR (by omega) (by omega) e er (Or.inr t6) z0 w2 ek hkd2 k5 hh) (fun v n2 w2 M2 hv2 => ?_)
              obtain ⟨rfl, rfl, rfl, hR2, hS2⟩ := hv2
              exact ⟨rfl, by omega, by omega, _, inv_now hT hG1 hG2 hk ht hx hn (fun k h1 h2 => zup_ne _ _ (by omega)) (Nat.le_refl _) hG0' hfin hR2 hS2⟩
        · rw [z3] at hb
          have z0 : ¬ σ 0 (150 + 10 * j + 0) = -1 := by rw [show 150 + 10 * j + 0 = 150 + 10 * j by omega, z2]; exact zI_m1 (by omega)
          rcases tq with ⟨t6, t7⟩ | ⟨t6, t7⟩ | t6
          · repeat (first | ((with_reducible refine zR.stored ?_); dsimp only [zsto, zclr, zset, zget, zc2, cond_false, cond_true]) | ((with_reducible refine zR.atLit ?_); first | refine zR.step rfl ?_ | refine zR.getf rfl (h25) rfl ?_ | refine zR.getf rfl (hG0.o) rfl ?_ | refine zR.cv rfl rfl rfl hG0.o rfl rfl (zCalP.of (c_bedAt_y hG0 (by omega)) ?_) | refine zR.cv rfl rfl rfl hG0.o rfl rfl (zCalP.of (c_cropAt_y hG0 ec (by omega) hk1) ?_) | refine zR.getf rfl (hcM) rfl ?_ | refine zR.getf rfl (hb) rfl ?_) | rw [zcc1] | rw [zcc2] | rw [zcc3] | rw [zcc4] | rw [hkd] | rw [zd1 (k5)] | rw [zd2 (k5)] | rw [zb1 (by decide)] | rw [zb2 (by decide)] | rw [zb3 (by decide)] | rw [zb4 (by decide)] | rw [zn1 (by decide)] | rw [zn2 (by decide)] | rw [zn3 (by decide)] | rw [zn4 (by decide)] | rw [ze1 (by decide)] | rw [ze2 (by decide)] | rw [zd1 (by decide)] | rw [zd2 (by decide)] | rw [zswy (by decide)] | rw [zswn (by decide)] | rw [zsw0] | rw [q6] | rw [q7] | rw [ze1 (t6)] | rw [ze2 (t6)] | rw [t7])
            refine zR.cv rfl rfl rfl h25 rfl rfl (zCalP.of (c_refuse h25 _) ?_)
            repeat (first | rw [zcc1] | rw [zcc2] | rw [zcc3] | rw [zcc4] | refine zR.step rfl ?_)
            refine zR.ret rfl rfl ⟨_, rfl, ⟨_, (hR.out (by omega)).1⟩, rfl, ?_⟩
            replace hR : Rf (zup M 25 (.inr (11, tob (tst t 3)))) σ := hR.out (by omega)
            have hS : Sm (zup M 25 (.inr (11, tob (tst t 3)))) (zup M 25 (.inr (11, tob (tst t 3)))) := Sm.rf
            show zR ztb _ kX12_sow 1 0 [some (.ref 287), some (.int (nI j)), some (.int (nI i)), none, none, none] [] _ _ _ _
            repeat (first | ((with_reducible refine zR.stored ?_); dsimp only [zsto, zclr, zset, zget, zc2, cond_false, cond_true]) | ((with_reducible refine zR.atLit ?_); first | refine zR.step rfl ?_ | refine zR.cs rfl rfl rfl rfl rfl (zCalP.of (c_in _ _ _) ?_) | refine zR.cv rfl rfl rfl hR.1 rfl rfl (zCalP.of (c_isCrop hR _) ?_) | refine zR.cv rfl rfl rfl hR.1 rfl rfl (zCalP.of (c_cropIs hR i 0 (by omega)) ?_) | refine zR.cv rfl rfl rfl hR.1 rfl rfl (zCalP.of (c_cropIs hR i 1 (by omega)) ?_) | refine zR.cv rfl rfl rfl hR.1 rfl rfl (zCalP.of (c_bedIs hR j 0 (by omega)) ?_) | refine zR.cv rfl rfl rfl hR.1 rfl rfl (zCalP.of (c_bedIs hR j 6 (by omega)) ?_) | refine zR.cv rfl rfl rfl hR.1 rfl rfl (zCalP.of (c_bedIs hR j 7 (by omega)) ?_) | refine zR.getf rfl (hR.1) rfl ?_) | rw [zcc1] | rw [zcc2] | rw [zcc3] | rw [zcc4] | rw [e] | rw [er] | rw [ek] | rw [zd1 (k5)] | rw [zd2 (k5)] | rw [zb1 (by decide)] | rw [zb2 (by decide)] | rw [zb3 (by decide)] | rw [zb4 (by decide)] | rw [zn1 (by decide)] | rw [zn2 (by decide)] | rw [zn3 (by decide)] | rw [zn4 (by decide)] | rw [ze1 (by decide)] | rw [ze2 (by decide)] | rw [zd1 (by decide)] | rw [zd2 (by decide)] | rw [zswy (by decide)] | rw [zswn (by decide)] | rw [zsw0] | rw [ze1 (t6)] | rw [ze2 (t6)] | rw [t7] | rw [zd1 (z0)] | rw [zd2 (z0)])
            refine zR.cv rfl rfl rfl hR.1 rfl rfl (zR.mono (c_refused hR _) (fun v n' w' M' hv => ?_))
            obtain ⟨rfl, rfl, rfl, hR2, hS2⟩ := hv
            repeat (first | rw [zcc1] | rw [zcc2] | rw [zcc3] | rw [zcc4] | refine zR.step rfl ?_)
            refine zR.ret rfl rfl ⟨rfl, by omega, by omega, _, inv_fin ⟨hT, hG0, hG1, hG2⟩ hg hk ht hx hn hR2 (hS.trans hS2)⟩
          · repeat (first | ((with_reducible refine zR.stored ?_); dsimp only [zsto, zclr, zset, zget, zc2, cond_false, cond_true]) | ((with_reducible refine zR.atLit ?_); first | refine zR.step rfl ?_ | refine zR.getf rfl (h25) rfl ?_ | refine zR.getf rfl (hG0.o) rfl ?_ | refine zR.cv rfl rfl rfl hG0.o rfl rfl (zCalP.of (c_bedAt_y hG0 (by omega)) ?_) | refine zR.cv rfl rfl rfl hG0.o rfl rfl (zCalP.of (c_cropAt_y hG0 ec (by omega) hk1) ?_) | refine zR.getf rfl (hcM) rfl ?_ | refine zR.getf rfl (hb) rfl ?_) | rw [zcc1] | rw [zcc2] | rw [zcc3] | rw [zcc4] | rw [hkd] | rw [zd1 (k5)] | rw [zd2 (k5)] | rw [zb1 (by decide)] | rw [zb2 (by decide)] | rw [zb3 (by decide)] | rw [zb4 (by decide)] | rw [zn1 (by decide)] | rw [zn2 (by decide)] | rw [zn3 (by decide)] | rw [zn4 (by decide)] | rw [ze1 (by decide)] | rw [ze2 (by decide)] | rw [zd1 (by decide)] | rw [zd2 (by decide)] | rw [zswy (by decide)] | rw [zswn (by decide)] | rw [zsw0] | rw [q6] | rw [q7] | rw [ze1 (t6)] | rw [ze2 (t6)] | rw [t7])
            refine zR.cv rfl rfl rfl h25 rfl rfl (zCalP.of (c_refuse h25 _) ?_)
            repeat (first | rw [zcc1] | rw [zcc2] | rw [zcc3] | rw [zcc4] | refine zR.step rfl ?_)
            refine zR.ret rfl rfl ⟨_, rfl, ⟨_, (hR.out (by omega)).1⟩, rfl, ?_⟩
            replace hR : Rf (zup M 25 (.inr (11, tob (tst t 3)))) σ := hR.out (by omega)
            have hS : Sm (zup M 25 (.inr (11, tob (tst t 3)))) (zup M 25 (.inr (11, tob (tst t 3)))) := Sm.rf
            show zR ztb _ kX12_sow 1 0 [some (.ref 287), some (.int (nI j)), some (.int (nI i)), none, none, none] [] _ _ _ _
            repeat (first | ((with_reducible refine zR.stored ?_); dsimp only [zsto, zclr, zset, zget, zc2, cond_false, cond_true]) | ((with_reducible refine zR.atLit ?_); first | refine zR.step rfl ?_ | refine zR.cs rfl rfl rfl rfl rfl (zCalP.of (c_in _ _ _) ?_) | refine zR.cv rfl rfl rfl hR.1 rfl rfl (zCalP.of (c_isCrop hR _) ?_) | refine zR.cv rfl rfl rfl hR.1 rfl rfl (zCalP.of (c_cropIs hR i 0 (by omega)) ?_) | refine zR.cv rfl rfl rfl hR.1 rfl rfl (zCalP.of (c_cropIs hR i 1 (by omega)) ?_) | refine zR.cv rfl rfl rfl hR.1 rfl rfl (zCalP.of (c_bedIs hR j 0 (by omega)) ?_) | refine zR.cv rfl rfl rfl hR.1 rfl rfl (zCalP.of (c_bedIs hR j 6 (by omega)) ?_) | refine zR.cv rfl rfl rfl hR.1 rfl rfl (zCalP.of (c_bedIs hR j 7 (by omega)) ?_) | refine zR.getf rfl (hR.1) rfl ?_) | rw [zcc1] | rw [zcc2] | rw [zcc3] | rw [zcc4] | rw [e] | rw [er] | rw [ek] | rw [zd1 (k5)] | rw [zd2 (k5)] | rw [zb1 (by decide)] | rw [zb2 (by decide)] | rw [zb3 (by decide)] | rw [zb4 (by decide)] | rw [zn1 (by decide)] | rw [zn2 (by decide)] | rw [zn3 (by decide)] | rw [zn4 (by decide)] | rw [ze1 (by decide)] | rw [ze2 (by decide)] | rw [zd1 (by decide)] | rw [zd2 (by decide)] | rw [zswy (by decide)] | rw [zswn (by decide)] | rw [zsw0] | rw [ze1 (t6)] | rw [ze2 (t6)] | rw [t7] | rw [zd1 (z0)] | rw [zd2 (z0)])
            refine zR.cv rfl rfl rfl hR.1 rfl rfl (zR.mono (c_refused hR _) (fun v n' w' M' hv => ?_))
            obtain ⟨rfl, rfl, rfl, hR2, hS2⟩ := hv
            repeat (first | rw [zcc1] | rw [zcc2] | rw [zcc3] | rw [zcc4] | refine zR.step rfl ?_)
            refine zR.ret rfl rfl ⟨rfl, by omega, by omega, _, inv_fin ⟨hT, hG0, hG1, hG2⟩ hg hk ht hx hn hR2 (hS.trans hS2)⟩
          · repeat (first | ((with_reducible refine zR.stored ?_); dsimp only [zsto, zclr, zset, zget, zc2, cond_false, cond_true]) | ((with_reducible refine zR.atLit ?_); first | refine zR.step rfl ?_ | refine zR.getf rfl (h25) rfl ?_ | refine zR.getf rfl (hG0.o) rfl ?_ | refine zR.cv rfl rfl rfl hG0.o rfl rfl (zCalP.of (c_bedAt_y hG0 (by omega)) ?_) | refine zR.cv rfl rfl rfl hG0.o rfl rfl (zCalP.of (c_cropAt_y hG0 ec (by omega) hk1) ?_) | refine zR.getf rfl (hcM) rfl ?_ | refine zR.getf rfl (hb) rfl ?_) | rw [zcc1] | rw [zcc2] | rw [zcc3] | rw [zcc4] | rw [hkd] | rw [zd1 (k5)] | rw [zd2 (k5)] | rw [zb1 (by decide)] | rw [zb2 (by decide)] | rw [zb3 (by decide)] | rw [zb4 (by decide)] | rw [zn1 (by decide)] | rw [zn2 (by decide)] | rw [zn3 (by decide)] | rw [zn4 (by decide)] | rw [ze1 (by decide)] | rw [ze2 (by decide)] | rw [zd1 (by decide)] | rw [zd2 (by decide)] | rw [zswy (by decide)] | rw [zswn (by decide)] | rw [zsw0] | rw [q6] | rw [q7] | rw [zd1 (t6)] | rw [zd2 (t6)])
            refine zR.cv rfl rfl rfl h25 rfl rfl (zCalP.of (c_refuse h25 _) ?_)
            repeat (first | rw [zcc1] | rw [zcc2] | rw [zcc3] | rw [zcc4] | refine zR.step rfl ?_)
            refine zR.ret rfl rfl ⟨_, rfl, ⟨_, (hR.out (by omega)).1⟩, rfl, ?_⟩
            replace hR : Rf (zup M 25 (.inr (11, tob (tst t 3)))) σ := hR.out (by omega)
            have hS : Sm (zup M 25 (.inr (11, tob (tst t 3)))) (zup M 25 (.inr (11, tob (tst t 3)))) := Sm.rf
            show zR ztb _ kX12_sow 1 0 [some (.ref 287), some (.int (nI j)), some (.int (nI i)), none, none, none] [] _ _ _ _
            repeat (first | ((with_reducible refine zR.stored ?_); dsimp only [zsto, zclr, zset, zget, zc2, cond_false, cond_true]) | ((with_reducible refine zR.atLit ?_); first | refine zR.step rfl ?_ | refine zR.cs rfl rfl rfl rfl rfl (zCalP.of (c_in _ _ _) ?_) | refine zR.cv rfl rfl rfl hR.1 rfl rfl (zCalP.of (c_isCrop hR _) ?_) | refine zR.cv rfl rfl rfl hR.1 rfl rfl (zCalP.of (c_cropIs hR i 0 (by omega)) ?_) | refine zR.cv rfl rfl rfl hR.1 rfl rfl (zCalP.of (c_cropIs hR i 1 (by omega)) ?_) | refine zR.cv rfl rfl rfl hR.1 rfl rfl (zCalP.of (c_bedIs hR j 0 (by omega)) ?_) | refine zR.cv rfl rfl rfl hR.1 rfl rfl (zCalP.of (c_bedIs hR j 6 (by omega)) ?_) | refine zR.cv rfl rfl rfl hR.1 rfl rfl (zCalP.of (c_bedIs hR j 7 (by omega)) ?_) | refine zR.getf rfl (hR.1) rfl ?_) | rw [zcc1] | rw [zcc2] | rw [zcc3] | rw [zcc4] | rw [e] | rw [er] | rw [ek] | rw [zd1 (k5)] | rw [zd2 (k5)] | rw [zb1 (by decide)] | rw [zb2 (by decide)] | rw [zb3 (by decide)] | rw [zb4 (by decide)] | rw [zn1 (by decide)] | rw [zn2 (by decide)] | rw [zn3 (by decide)] | rw [zn4 (by decide)] | rw [ze1 (by decide)] | rw [ze2 (by decide)] | rw [zd1 (by decide)] | rw [zd2 (by decide)] | rw [zswy (by decide)] | rw [zswn (by decide)] | rw [zsw0] | rw [zd1 (t6)] | rw [zd2 (t6)] | rw [zd1 (z0)] | rw [zd2 (z0)])
            refine zR.cv rfl rfl rfl hR.1 rfl rfl (zR.mono (c_refused hR _) (fun v n' w' M' hv => ?_))
            obtain ⟨rfl, rfl, rfl, hR2, hS2⟩ := hv
            repeat (first | rw [zcc1] | rw [zcc2] | rw [zcc3] | rw [zcc4] | refine zR.step rfl ?_)
            refine zR.ret rfl rfl ⟨rfl, by omega, by omega, _, inv_fin ⟨hT, hG0, hG1, hG2⟩ hg hk ht hx hn hR2 (hS.trans hS2)⟩
    · have ec : inI b 0 (c0 0 0 - 1) = 0 := by rw [N11, N1]; exact ez
      have er : inI b 0 (σ 0 2 - 1) = 0 := by rw [N1]; exact ez
      repeat (first | ((with_reducible refine zR.stored ?_); dsimp only [zsto, zclr, zset, zget, zc2, cond_false, cond_true]) | ((with_reducible refine zR.atLit ?_); first | refine zR.step rfl ?_ | refine zR.getf rfl (h25) rfl ?_ | refine zR.cv rfl rfl rfl hG0.o rfl rfl (zCalP.of (c_bedAt_y hG0 (by omega)) ?_) | refine zR.cv rfl rfl rfl hG0.o rfl rfl (zCalP.of (c_cropAt_n hG0 ec) ?_)) | rw [zcc1] | rw [zcc2] | rw [zcc3] | rw [zcc4])
      refine zR.cv rfl rfl rfl h25 rfl rfl (zCalP.of (c_refuse h25 _) ?_)
      repeat (first | rw [zcc1] | rw [zcc2] | rw [zcc3] | rw [zcc4] | refine zR.step rfl ?_)
      refine zR.ret rfl rfl ⟨_, rfl, ⟨_, (hR.out (by omega)).1⟩, rfl, ?_⟩
      replace hR : Rf (zup M 25 (.inr (11, tob (tst t 1)))) σ := hR.out (by omega)
      have hS : Sm (zup M 25 (.inr (11, tob (tst t 1)))) (zup M 25 (.inr (11, tob (tst t 1)))) := Sm.rf
      show zR ztb _ kX12_sow 1 0 [some (.ref 287), some (.int (nI j)), some (.int b), none, none, none] [] _ _ _ _
      repeat (first | ((with_reducible refine zR.stored ?_); dsimp only [zsto, zclr, zset, zget, zc2, cond_false, cond_true]) | ((with_reducible refine zR.atLit ?_); first | refine zR.step rfl ?_ | refine zR.cs rfl rfl rfl rfl rfl (zCalP.of (c_in _ _ _) ?_) | refine zR.cv rfl rfl rfl hR.1 rfl rfl (zCalP.of (c_isCrop hR _) ?_)) | rw [zcc1] | rw [zcc2] | rw [zcc3] | rw [zcc4] | rw [e] | rw [er])
      refine zR.cv rfl rfl rfl hR.1 rfl rfl (zR.mono (c_refused hR _) (fun v n' w' M' hv => ?_))
      obtain ⟨rfl, rfl, rfl, hR2, hS2⟩ := hv
      repeat (first | rw [zcc1] | rw [zcc2] | rw [zcc3] | rw [zcc4] | refine zR.step rfl ?_)
      refine zR.ret rfl rfl ⟨rfl, by omega, by omega, _, inv_fin ⟨hT, hG0, hG1, hG2⟩ hg hk ht hx hn hR2 (hS.trans hS2)⟩
  · replace e : inI a 0 7 = 0 := e
    rcases inI_sub b nc (by omega) with ⟨i, hi, rfl, ez⟩ | ⟨-, ez⟩
    · have ec : inI (nI i) 0 (c0 0 0 - 1) = 1 := by rw [N11, N1]; exact ez
      obtain ⟨⟨ca, hk1, hc1⟩, -⟩ := hC i hi
      repeat (first | ((with_reducible refine zR.stored ?_); dsimp only [zsto, zclr, zset, zget, zc2, cond_false, cond_true]) | ((with_reducible refine zR.atLit ?_); first | refine zR.step rfl ?_ | refine zR.getf rfl (h25) rfl ?_ | refine zR.cv rfl rfl rfl hG0.o rfl rfl (zCalP.of (c_bedAt_n (g := 48) e) ?_) | refine zR.cv rfl rfl rfl hG0.o rfl rfl (zCalP.of (c_cropAt_y hG0 ec (by omega) hk1) ?_)) | rw [zcc1] | rw [zcc2] | rw [zcc3] | rw [zcc4])
      refine zR.cv rfl rfl rfl h25 rfl rfl (zCalP.of (c_refuse h25 _) ?_)
      repeat (first | rw [zcc1] | rw [zcc2] | rw [zcc3] | rw [zcc4] | refine zR.step rfl ?_)
      refine zR.ret rfl rfl ⟨_, rfl, ⟨_, (hR.out (by omega)).1⟩, rfl, ?_⟩
      replace hR : Rf (zup M 25 (.inr (11, tob (tst t 1)))) σ := hR.out (by omega)
      have hS : Sm (zup M 25 (.inr (11, tob (tst t 1)))) (zup M 25 (.inr (11, tob (tst t 1)))) := Sm.rf
      show zR ztb _ kX12_sow 1 0 [some (.ref 287), some (.int a), some (.int (nI i)), none, none, none] [] _ _ _ _
      repeat (first | ((with_reducible refine zR.stored ?_); dsimp only [zsto, zclr, zset, zget, zc2, cond_false, cond_true]) | ((with_reducible refine zR.atLit ?_); first | refine zR.step rfl ?_ | refine zR.cs rfl rfl rfl rfl rfl (zCalP.of (c_in _ _ _) ?_)) | rw [zcc1] | rw [zcc2] | rw [zcc3] | rw [zcc4] | rw [e])
      refine zR.cv rfl rfl rfl hR.1 rfl rfl (zR.mono (c_refused hR _) (fun v n' w' M' hv => ?_))
      obtain ⟨rfl, rfl, rfl, hR2, hS2⟩ := hv
      repeat (first | rw [zcc1] | rw [zcc2] | rw [zcc3] | rw [zcc4] | refine zR.step rfl ?_)
      refine zR.ret rfl rfl ⟨rfl, by omega, by omega, _, inv_fin ⟨hT, hG0, hG1, hG2⟩ hg hk ht hx hn hR2 (hS.trans hS2)⟩
    · have ec : inI b 0 (c0 0 0 - 1) = 0 := by rw [N11, N1]; exact ez
      repeat (first | ((with_reducible refine zR.stored ?_); dsimp only [zsto, zclr, zset, zget, zc2, cond_false, cond_true]) | ((with_reducible refine zR.atLit ?_); first | refine zR.step rfl ?_ | refine zR.getf rfl (h25) rfl ?_ | refine zR.cv rfl rfl rfl hG0.o rfl rfl (zCalP.of (c_bedAt_n (g := 48) e) ?_) | refine zR.cv rfl rfl rfl hG0.o rfl rfl (zCalP.of (c_cropAt_n hG0 ec) ?_)) | rw [zcc1] | rw [zcc2] | rw [zcc3] | rw [zcc4])
      refine zR.cv rfl rfl rfl h25 rfl rfl (zCalP.of (c_refuse h25 _) ?_)
      repeat (first | rw [zcc1] | rw [zcc2] | rw [zcc3] | rw [zcc4] | refine zR.step rfl ?_)
      refine zR.ret rfl rfl ⟨_, rfl, ⟨_, (hR.out (by omega)).1⟩, rfl, ?_⟩
      replace hR : Rf (zup M 25 (.inr (11, tob (tst t 1)))) σ := hR.out (by omega)
      have hS : Sm (zup M 25 (.inr (11, tob (tst t 1)))) (zup M 25 (.inr (11, tob (tst t 1)))) := Sm.rf
      show zR ztb _ kX12_sow 1 0 [some (.ref 287), some (.int a), some (.int b), none, none, none] [] _ _ _ _
      repeat (first | ((with_reducible refine zR.stored ?_); dsimp only [zsto, zclr, zset, zget, zc2, cond_false, cond_true]) | ((with_reducible refine zR.atLit ?_); first | refine zR.step rfl ?_ | refine zR.cs rfl rfl rfl rfl rfl (zCalP.of (c_in _ _ _) ?_)) | rw [zcc1] | rw [zcc2] | rw [zcc3] | rw [zcc4] | rw [e])
      refine zR.cv rfl rfl rfl hR.1 rfl rfl (zR.mono (c_refused hR _) (fun v n' w' M' hv => ?_))
      obtain ⟨rfl, rfl, rfl, hR2, hS2⟩ := hv
      repeat (first | rw [zcc1] | rw [zcc2] | rw [zcc3] | rw [zcc4] | refine zR.step rfl ?_)
      refine zR.ret rfl rfl ⟨rfl, by omega, by omega, _, inv_fin ⟨hT, hG0, hG1, hG2⟩ hg hk ht hx hn hR2 (hS.trans hS2)⟩
