
/-! ripens. -/
def ripF (s : Nat → Int32) (need : Int32) : Nat → Nat → Int32 → Int32
  | 0, _, _ => -1
  | t + 1, w, h => if h + wmF s w < need then ripF s need t (w + 1) (h + wmF s w) else nI w
theorem ripC {M : zM} {g : Nat} {c : mS} {kp bt : Nat → Option Nat} {la : Nat} {s : Nat → Int32} {d n w b ca : Nat} {r : Nat → Int32} {i : Nat} {Q : Option Value → Nat → Nat → zM → Prop} (hG : Gc M g c kp bt la) (hW : PW c s) (hb : M b = .inr (0, bof (some ca) r)) (hc : M ca = .inr (1, cropF s i)) : ∀ (t v : Nat) (h : Int32), v + t = 30 → Q (some (.int (ripF s (s (51 + 10 * i)) t v h))) n w M → zR ztb (d + 2) kX2_firstOffer 1 26 [some (.ref g), some (.ref b), some (.int h), some (.int (nI v))] [] n w M Q
  | 0, v, h, hv, hQ => by
    have e2 : v = 30 := by omega
    subst e2
    have e : ¬ nI 30 < 30 := by decide
    repeat (first | ((with_reducible refine zR.stored ?_); dsimp only [zsto, zclr, zset, zget, zc2, cond_false, cond_true]) | ((with_reducible refine zR.atLit ?_); first | refine zR.step rfl ?_) | rw [zcc1] | rw [zcc2] | rw [zcc3] | rw [zcc4] | rw [zn1 (e)] | rw [zn2 (e)] | rw [zn3 (e)] | rw [zn4 (e)])
    exact zR.ret rfl rfl hQ
  | t + 1, v, h, hv, hQ => by
    have e : nI v < 30 := zI_ylt (b := 30) (by omega) (by omega)
    unfold ripF at hQ
    refine zR.step rfl ?_
    repeat (first | ((with_reducible refine zR.stored ?_); dsimp only [zsto, zclr, zset, zget, zc2, cond_false, cond_true]) | ((with_reducible refine zR.atLit ?_); first | refine zR.step rfl ?_ | refine zR.getf rfl (hG.o) rfl ?_ | refine zR.cv rfl rfl rfl hG.o rfl rfl (zCalP.of (c_warmthOf hG hW (by omega)) ?_) | refine zR.getf rfl (hb) rfl ?_ | refine zR.getf rfl (hc) rfl ?_) | rw [zcc1] | rw [zcc2] | rw [zcc3] | rw [zcc4] | rw [zb1 (e)] | rw [zb2 (e)] | rw [zb3 (e)] | rw [zb4 (e)])
    by_cases q : h + wmF s v < s (51 + 10 * i)
    · rw [if_pos q] at hQ
      have ih := ripC (d := d) hG hW hb hc t (v + 1) _ (by omega) hQ
      rw [← zI_s] at ih
      repeat (first | with_reducible refine zR.hold (pc := 26) ?_ | ((with_reducible refine zR.stored ?_); dsimp only [zsto, zclr, zset, zget, zc2, cond_false, cond_true]) | ((with_reducible refine zR.atLit ?_); first | refine zR.step rfl ?_) | rw [zcc1] | rw [zcc2] | rw [zcc3] | rw [zcc4] | rw [zb1 (q)] | rw [zb2 (q)] | rw [zb3 (q)] | rw [zb4 (q)])
      exact ⟨trivial, ih⟩
    · rw [if_neg q] at hQ
      repeat (first | ((with_reducible refine zR.stored ?_); dsimp only [zsto, zclr, zset, zget, zc2, cond_false, cond_true]) | ((with_reducible refine zR.atLit ?_); first | refine zR.step rfl ?_) | rw [zcc1] | rw [zcc2] | rw [zcc3] | rw [zcc4] | rw [zn1 (q)] | rw [zn2 (q)] | rw [zn3 (q)] | rw [zn4 (q)])
      exact zR.ret rfl rfl hQ
theorem ripR {M : zM} {σ : mS} {d n w b i : Nat} {Q : Option Value → Nat → Nat → zM → Prop} (hR : Rf M σ) (hb : b < 8) (hi : i < 8) (e0 : σ 0 (150 + 10 * b + 0) = nI i) : ∀ (t v : Nat) (h : Int32), v + t = 30 → Q (some (.int (ripF (σ 0) (σ 0 (51 + 10 * i)) t v h))) n w M → zR ztb (d + 2) kX12_ripens 1 45 [some (.ref 287), some (.int (nI b)), some (.int h), some (.int (nI v))] [] n w M Q
  | 0, v, h, hv, hQ => by
    have e2 : v = 30 := by omega
    subst e2
    have e : ¬ nI 30 < 30 := by decide
    repeat (first | ((with_reducible refine zR.stored ?_); dsimp only [zsto, zclr, zset, zget, zc2, cond_false, cond_true]) | ((with_reducible refine zR.atLit ?_); first | refine zR.step rfl ?_) | rw [zcc1] | rw [zcc2] | rw [zcc3] | rw [zcc4] | rw [zn1 (e)] | rw [zn2 (e)] | rw [zn3 (e)] | rw [zn4 (e)])
    exact zR.ret rfl rfl hQ
  | t + 1, v, h, hv, hQ => by
    have e : nI v < 30 := zI_ylt (b := 30) (by omega) (by omega)
    unfold ripF at hQ
    refine zR.step rfl ?_
    repeat (first | ((with_reducible refine zR.stored ?_); dsimp only [zsto, zclr, zset, zget, zc2, cond_false, cond_true]) | ((with_reducible refine zR.atLit ?_); first | refine zR.step rfl ?_ | refine zR.cv rfl rfl rfl hR.1 rfl rfl (zCalP.of (c_warmth hR (by omega)) ?_) | (refine zR.cv rfl rfl rfl hR.1 rfl rfl (zCalP.of (c_bedIs hR b 0 (by omega)) ?_); rw [e0]) | (refine zR.cv rfl rfl rfl hR.1 rfl rfl (zCalP.of (c_cropIs hR i 1 (by omega)) ?_); rw [show 50 + 10 * i + 1 = 51 + 10 * i by omega])) | rw [zcc1] | rw [zcc2] | rw [zcc3] | rw [zcc4] | rw [zb1 (e)] | rw [zb2 (e)] | rw [zb3 (e)] | rw [zb4 (e)])
    by_cases q : h + wmF (σ 0) v < σ 0 (51 + 10 * i)
    · rw [if_pos q] at hQ
      have ih := ripR (d := d) hR hb hi e0 t (v + 1) _ (by omega) hQ
      rw [← zI_s] at ih
      repeat (first | with_reducible refine zR.hold (pc := 45) ?_ | ((with_reducible refine zR.stored ?_); dsimp only [zsto, zclr, zset, zget, zc2, cond_false, cond_true]) | ((with_reducible refine zR.atLit ?_); first | refine zR.step rfl ?_) | rw [zcc1] | rw [zcc2] | rw [zcc3] | rw [zcc4] | rw [zb1 (q)] | rw [zb2 (q)] | rw [zb3 (q)] | rw [zb4 (q)])
      exact ⟨trivial, ih⟩
    · rw [if_neg q] at hQ
      repeat (first | ((with_reducible refine zR.stored ?_); dsimp only [zsto, zclr, zset, zget, zc2, cond_false, cond_true]) | ((with_reducible refine zR.atLit ?_); first | refine zR.step rfl ?_) | rw [zcc1] | rw [zcc2] | rw [zcc3] | rw [zcc4] | rw [zn1 (q)] | rw [zn2 (q)] | rw [zn3 (q)] | rw [zn4 (q)])
      exact zR.ret rfl rfl hQ
theorem o_ripens {L : Nat} {xs : Nat → Int32} : op_ripens (Inv L xs) := by
  intro a M σ n w hI
  have hI' := hI
  obtain ⟨t, tr, c0, c1, c2, k0, k1, k2, b0, b1, b2, l0, l1, l2, hR, ⟨hT, hG0, hG1, hG2⟩, hg, hk, ht, hx, hn⟩ := hI
  have h25 := hT.1
  have hg' := hg
  obtain ⟨nc, nh, nl, lm, wk, hN, ⟨hC, hCn⟩, hB, hL, hSt, hH, hW, hX⟩ := hg'
  obtain ⟨N1, N2, N3, N4, N5, N6, N7, N8, N9, N10, N11, N12, N13, N14, N15, N16, N17⟩ := hN
  show zR ztb _ kX11_ripens 1 0 [some (.ref 25), some (.int a), none] [] _ _ _ _
  rcases inI_nat a 0 7 (by omega) (by omega) with ⟨j, -, hj, rfl, e⟩ | ⟨-, e⟩
  · replace e : inI (nI j) 0 7 = 1 := e
    obtain ⟨B1, B2, B3, -⟩ := hB j (by omega)
    have hb := hG0.b (i := j) (by omega)
    have q3 : c0 (20 + j) 3 = σ 0 (150 + 10 * j + 3) := B2 3 (by omega) (by omega)
    have q2 : c0 (20 + j) 2 = σ 0 (150 + 10 * j + 2) := B2 2 (by omega) (by omega)
    rcases B1 with ⟨z1, z2, -⟩ | ⟨i, ca, z1, z2, z3, z4, -⟩
    · rw [z2] at hb
      have z0 : σ 0 (150 + 10 * j + 0) = -1 := z1
      repeat (first | ((with_reducible refine zR.stored ?_); dsimp only [zsto, zclr, zset, zget, zc2, cond_false, cond_true]) | ((with_reducible refine zR.atLit ?_); first | refine zR.step rfl ?_ | refine zR.getf rfl (h25) rfl ?_ | refine zR.cv rfl rfl rfl hG0.o rfl rfl (zCalP.of (c_bedAt_y hG0 (by omega)) ?_)) | rw [zcc1] | rw [zcc2] | rw [zcc3] | rw [zcc4])
      refine zR.cv rfl rfl rfl hG0.o rfl rfl ?_
      show zR ztb _ kX2_firstOffer 1 0 [some (.ref 48), some (.ref (48 + 18 + j)), none, none] [] _ _ _ _
      repeat (first | ((with_reducible refine zR.stored ?_); dsimp only [zsto, zclr, zset, zget, zc2, cond_false, cond_true]) | ((with_reducible refine zR.atLit ?_); first | refine zR.step rfl ?_ | refine zR.getf rfl (hb) rfl ?_) | rw [zcc1] | rw [zcc2] | rw [zcc3] | rw [zcc4])
      refine zR.ret rfl rfl ?_
      repeat (first | ((with_reducible refine zR.stored ?_); dsimp only [zsto, zclr, zset, zget, zc2, cond_false, cond_true]) | ((with_reducible refine zR.atLit ?_); first | refine zR.step rfl ?_) | rw [zcc1] | rw [zcc2] | rw [zcc3] | rw [zcc4])
      refine zR.ret rfl rfl ⟨_, rfl, ⟨_, hR.1⟩, rfl, ?_⟩
      show zR ztb _ kX12_ripens 1 0 [some (.ref 287), some (.int (nI j)), none, none] [] _ _ _ _
      repeat (first | ((with_reducible refine zR.stored ?_); dsimp only [zsto, zclr, zset, zget, zc2, cond_false, cond_true]) | ((with_reducible refine zR.atLit ?_); first | refine zR.step rfl ?_ | refine zR.cs rfl rfl rfl rfl rfl (zCalP.of (c_in _ _ _) ?_) | refine zR.cv rfl rfl rfl hR.1 rfl rfl (zCalP.of (c_bedIs hR j 0 (by omega)) ?_)) | rw [zcc1] | rw [zcc2] | rw [zcc3] | rw [zcc4] | rw [e] | rw [ze1 (z0)] | rw [ze2 (z0)])
      refine zR.ret rfl rfl ⟨rfl, by omega, by omega, σ, hI'⟩
    · rw [z3] at hb
      have hc := z4.2.2
      have z0 : ¬ σ 0 (150 + 10 * j + 0) = -1 := by rw [show 150 + 10 * j + 0 = 150 + 10 * j by omega, z2]; exact zI_m1 (by omega)
      by_cases ho : 0 < σ 0 (150 + 10 * j + 3)
      · repeat (first | ((with_reducible refine zR.stored ?_); dsimp only [zsto, zclr, zset, zget, zc2, cond_false, cond_true]) | ((with_reducible refine zR.atLit ?_); first | refine zR.step rfl ?_ | refine zR.getf rfl (h25) rfl ?_ | refine zR.cv rfl rfl rfl hG0.o rfl rfl (zCalP.of (c_bedAt_y hG0 (by omega)) ?_)) | rw [zcc1] | rw [zcc2] | rw [zcc3] | rw [zcc4])
        refine zR.cv rfl rfl rfl hG0.o rfl rfl ?_
        show zR ztb _ kX2_firstOffer 1 0 [some (.ref 48), some (.ref (48 + 18 + j)), none, none] [] _ _ _ _
        repeat (first | ((with_reducible refine zR.stored ?_); dsimp only [zsto, zclr, zset, zget, zc2, cond_false, cond_true]) | ((with_reducible refine zR.atLit ?_); first | refine zR.step rfl ?_ | refine zR.getf rfl (hb) rfl ?_) | rw [zcc1] | rw [zcc2] | rw [zcc3] | rw [zcc4] | rw [q3] | rw [zb1 (ho)] | rw [zb2 (ho)] | rw [zb3 (ho)] | rw [zb4 (ho)])
        refine zR.ret rfl rfl ?_
        repeat (first | ((with_reducible refine zR.stored ?_); dsimp only [zsto, zclr, zset, zget, zc2, cond_false, cond_true]) | ((with_reducible refine zR.atLit ?_); first | refine zR.step rfl ?_) | rw [zcc1] | rw [zcc2] | rw [zcc3] | rw [zcc4])
        refine zR.ret rfl rfl ⟨_, rfl, ⟨_, hR.1⟩, rfl, ?_⟩
        show zR ztb _ kX12_ripens 1 0 [some (.ref 287), some (.int (nI j)), none, none] [] _ _ _ _
        repeat (first | ((with_reducible refine zR.stored ?_); dsimp only [zsto, zclr, zset, zget, zc2, cond_false, cond_true]) | ((with_reducible refine zR.atLit ?_); first | refine zR.step rfl ?_ | refine zR.cs rfl rfl rfl rfl rfl (zCalP.of (c_in _ _ _) ?_) | refine zR.cv rfl rfl rfl hR.1 rfl rfl (zCalP.of (c_bedIs hR j 0 (by omega)) ?_) | refine zR.cv rfl rfl rfl hR.1 rfl rfl (zCalP.of (c_bedIs hR j 3 (by omega)) ?_)) | rw [zcc1] | rw [zcc2] | rw [zcc3] | rw [zcc4] | rw [e] | rw [zd1 (z0)] | rw [zd2 (z0)] | rw [zb1 (ho)] | rw [zb2 (ho)] | rw [zb3 (ho)] | rw [zb4 (ho)])
        refine zR.ret rfl rfl ⟨rfl, by omega, by omega, σ, hI'⟩
      · repeat (first | ((with_reducible refine zR.stored ?_); dsimp only [zsto, zclr, zset, zget, zc2, cond_false, cond_true]) | ((with_reducible refine zR.atLit ?_); first | refine zR.step rfl ?_ | refine zR.getf rfl (h25) rfl ?_ | refine zR.cv rfl rfl rfl hG0.o rfl rfl (zCalP.of (c_bedAt_y hG0 (by omega)) ?_)) | rw [zcc1] | rw [zcc2] | rw [zcc3] | rw [zcc4])
        refine zR.cv rfl rfl rfl hG0.o rfl rfl ?_
        show zR ztb _ kX2_firstOffer 1 0 [some (.ref 48), some (.ref (48 + 18 + j)), none, none] [] _ _ _ _
        repeat (first | with_reducible refine zR.hold (pc := 26) ?_ | ((with_reducible refine zR.stored ?_); dsimp only [zsto, zclr, zset, zget, zc2, cond_false, cond_true]) | ((with_reducible refine zR.atLit ?_); first | refine zR.step rfl ?_ | refine zR.getf rfl (hb) rfl ?_ | refine zR.getf rfl (hG0.o) rfl ?_) | rw [zcc1] | rw [zcc2] | rw [zcc3] | rw [zcc4] | rw [q3] | rw [zn1 (ho)] | rw [zn2 (ho)] | rw [zn3 (ho)] | rw [zn4 (ho)])
        rw [q2, N13, N9]
        refine ⟨trivial, ripC (d := 996) hG0 hW hb hc (30 - wk) wk _ (by omega) ?_⟩
        repeat (first | ((with_reducible refine zR.stored ?_); dsimp only [zsto, zclr, zset, zget, zc2, cond_false, cond_true]) | ((with_reducible refine zR.atLit ?_); first | refine zR.step rfl ?_) | rw [zcc1] | rw [zcc2] | rw [zcc3] | rw [zcc4])
        refine zR.ret rfl rfl ⟨_, rfl, ⟨_, hR.1⟩, rfl, ?_⟩
        show zR ztb _ kX12_ripens 1 0 [some (.ref 287), some (.int (nI j)), none, none] [] _ _ _ _
        repeat (first | with_reducible refine zR.hold (pc := 45) ?_ | ((with_reducible refine zR.stored ?_); dsimp only [zsto, zclr, zset, zget, zc2, cond_false, cond_true]) | ((with_reducible refine zR.atLit ?_); first | refine zR.step rfl ?_ | refine zR.cs rfl rfl rfl rfl rfl (zCalP.of (c_in _ _ _) ?_) | refine zR.cv rfl rfl rfl hR.1 rfl rfl (zCalP.of (c_bedIs hR j 0 (by omega)) ?_) | refine zR.cv rfl rfl rfl hR.1 rfl rfl (zCalP.of (c_bedIs hR j 3 (by omega)) ?_) | refine zR.cv rfl rfl rfl hR.1 rfl rfl (zCalP.of (c_bedIs hR j 2 (by omega)) ?_) | refine zR.getf rfl (hR.1) rfl ?_ | refine zR.ilR0 hR rfl (by (try simp only [zn_lit, zn_add, zn_mul]); rfl) (by omega) ?_) | rw [zcc1] | rw [zcc2] | rw [zcc3] | rw [zcc4] | rw [e] | rw [zd1 (z0)] | rw [zd2 (z0)] | rw [zn1 (ho)] | rw [zn2 (ho)] | rw [zn3 (ho)] | rw [zn4 (ho)])
        rw [N9]
        refine ⟨trivial, ripR (d := 997) hR (by omega) (by omega) (i := i) z2 (30 - wk) wk _ (by omega) ⟨rfl, by omega, by omega, σ, hI'⟩⟩
  · replace e : inI a 0 7 = 0 := e
    repeat (first | ((with_reducible refine zR.stored ?_); dsimp only [zsto, zclr, zset, zget, zc2, cond_false, cond_true]) | ((with_reducible refine zR.atLit ?_); first | refine zR.step rfl ?_ | refine zR.getf rfl (h25) rfl ?_ | refine zR.cv rfl rfl rfl hG0.o rfl rfl (zCalP.of (c_bedAt_n (g := 48) e) ?_)) | rw [zcc1] | rw [zcc2] | rw [zcc3] | rw [zcc4])
    refine zR.ret rfl rfl ⟨_, rfl, ⟨_, hR.1⟩, rfl, ?_⟩
    show zR ztb _ kX12_ripens 1 0 [some (.ref 287), some (.int a), none, none] [] _ _ _ _
    repeat (first | ((with_reducible refine zR.stored ?_); dsimp only [zsto, zclr, zset, zget, zc2, cond_false, cond_true]) | ((with_reducible refine zR.atLit ?_); first | refine zR.step rfl ?_ | refine zR.cs rfl rfl rfl rfl rfl (zCalP.of (c_in _ _ _) ?_)) | rw [zcc1] | rw [zcc2] | rw [zcc3] | rw [zcc4] | rw [e])
    refine zR.ret rfl rfl ⟨rfl, by omega, by omega, σ, hI'⟩
