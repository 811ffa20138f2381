
/-! crop. -/
theorem c_addCrop {M : zM} {g : Nat} {c : mS} {kp bt : Nat → Option Nat} {la : Nat} {d n w m a : Nat} {fs : List Value} (hG : Gc M g c kp bt la) (h0 : c 0 0 = nI m) (hm : m < 8) (ha : M a = .inr (1, fs)) (hg : a < g ∨ g + 76 ≤ a) : zCalP d 14 [.ref g, .ref a] n w M (fun v n' w' M' => v = some (.int (nI m)) ∧ n = n' ∧ w = w' ∧ Gc M' g (zuf c 0 (zuf (c 0) 0 (nI m + 1))) (zuf kp m (some a)) bt la ∧ ∀ k, k < g ∨ g + 76 ≤ k → M' k = M k) := by
  show zR ztb _ kX2_addCrop 1 0 [some (.ref g), some (.ref a)] [] _ _ _ _
  have e1 : nI m < 8 := zI_ylt (b := 8) (by omega) (by omega)
  have e0 : nI m + 1 - 1 = nI m := by rw [zI_s, zI_pred (by omega) (by omega)]; rfl
  have ho := hG.o
  rw [h0] at ho
  repeat (first | ((with_reducible refine zR.stored ?_); dsimp only [zsto, zclr, zset, zget, zc2, cond_false, cond_true]) | ((with_reducible refine zR.atLit ?_); first | refine zR.step rfl ?_ | refine zR.getf rfl (ho) rfl ?_) | rw [zcc1] | rw [zcc2] | rw [zcc3] | rw [zcc4] | rw [zb1 (e1)] | rw [zb2 (e1)] | rw [zb3 (e1)] | rw [zb4 (e1)])
  refine zR.aast rfl hG.kr ha (Or.inl rfl) rfl (i := m) rfl (by omega) (by decide) ?_
  have hG1 := hG.upK (zuf kp m (some a))
  have ho1 := hG1.o
  rw [h0] at ho1
  repeat (first | ((with_reducible refine zR.stored ?_); dsimp only [zsto, zclr, zset, zget, zc2, cond_false, cond_true]) | ((with_reducible refine zR.atLit ?_); first | refine zR.step rfl ?_ | refine zR.getf rfl (ho1) rfl ?_) | rw [zcc1] | rw [zcc2] | rw [zcc3] | rw [zcc4])
  refine zR.putf rfl ho1 rfl rfl ?_
  have hG2 := hG1.row0 (zuf (c 0) 0 (nI m + 1)) rfl
  repeat (first | ((with_reducible refine zR.stored ?_); dsimp only [zsto, zclr, zset, zget, zc2, cond_false, cond_true]) | ((with_reducible refine zR.atLit ?_); first | refine zR.step rfl ?_ | refine zR.getf rfl (zup_self _ _ _) rfl ?_) | rw [zcc1] | rw [zcc2] | rw [zcc3] | rw [zcc4])
  refine zR.ret rfl rfl ⟨by show some (Value.int (nI m + 1 - 1)) = _; rw [e0], rfl, rfl, hG2, fun k hk => ?_⟩
  rw [zup_ne _ _ (by omega), zup_ne _ _ (by omega)]
def cropY (y : Nat → Int32) (m : Nat) (a b e l k u : Int32) : Nat → Int32 := zuf (zuf (zuf (zuf (zuf (zuf (zuf y (50 + 10 * m) a) (50 + 10 * m + 1) b) (50 + 10 * m + 2) e) (50 + 10 * m + 3) l) (50 + 10 * m + 4) k) (50 + 10 * m + 5) u) 2 (nI m + 1)
section
variable {y : Nat → Int32} {m : Nat} {a b e l k u : Int32}
theorem cropY_ne {q : Nat} (h2 : q ≠ 2) (h : ¬ (50 + 10 * m ≤ q ∧ q < 56 + 10 * m)) : cropY y m a b e l k u q = y q := by
  unfold cropY
  rw [zuf_ne _ _ h2, zuf_ne _ _ (by omega), zuf_ne _ _ (by omega), zuf_ne _ _ (by omega), zuf_ne _ _ (by omega), zuf_ne _ _ (by omega), zuf_ne _ _ (by omega)]
theorem cropY_2 : cropY y m a b e l k u 2 = nI m + 1 := zuf_self _ _ _
theorem cropY_l : cropY y m a b e l k u (50 + 10 * m) = a ∧ cropY y m a b e l k u (51 + 10 * m) = b ∧ cropY y m a b e l k u (52 + 10 * m) = e ∧ cropY y m a b e l k u (53 + 10 * m) = l ∧ cropY y m a b e l k u (54 + 10 * m) = k ∧ cropY y m a b e l k u (55 + 10 * m) = u := by
  unfold cropY
  rw [show 51 + 10 * m = 50 + 10 * m + 1 by omega, show 52 + 10 * m = 50 + 10 * m + 2 by omega, show 53 + 10 * m = 50 + 10 * m + 3 by omega, show 54 + 10 * m = 50 + 10 * m + 4 by omega, show 55 + 10 * m = 50 + 10 * m + 5 by omega]
  refine ⟨?_, ?_, ?_, ?_, ?_, ?_⟩
  · rw [zuf_ne _ _ (by omega), zuf_ne _ _ (by omega), zuf_ne _ _ (by omega), zuf_ne _ _ (by omega), zuf_ne _ _ (by omega), zuf_ne _ _ (by omega), zuf_self]
  · rw [zuf_ne _ _ (by omega), zuf_ne _ _ (by omega), zuf_ne _ _ (by omega), zuf_ne _ _ (by omega), zuf_ne _ _ (by omega), zuf_self]
  · rw [zuf_ne _ _ (by omega), zuf_ne _ _ (by omega), zuf_ne _ _ (by omega), zuf_ne _ _ (by omega), zuf_self]
  · rw [zuf_ne _ _ (by omega), zuf_ne _ _ (by omega), zuf_ne _ _ (by omega), zuf_self]
  · rw [zuf_ne _ _ (by omega), zuf_ne _ _ (by omega), zuf_self]
  · rw [zuf_ne _ _ (by omega), zuf_self]
end
theorem GR.crop {M M' : zM} {n : Nat} {c : mS} {kp bt : Nat → Option Nat} {la : Nat} {s : Nat → Int32} {m : Nat} {a b e l k u : Int32} (h : GR M n c kp bt la s) (h2m : s 2 = nI m) (hm : m < 8) (h300 : 300 ≤ n) (hF : ∀ k, (40 ≤ k ∧ k < 48) ∨ 300 ≤ k → k < n → M' k = M k) (hc : M' n = .inr (1, [.int (nI m), .int a, .int b, .int e, .int l, .int k, .int u])) (r1 : inN a 0 5) (r2 : inN b 1 400) (r3 : inN e 1 20) (r4 : inN l 1 10) (r5 : inN k 0 12) (r6 : inN u 1 9) : GR M' (n + 1) (zuf c 0 (zuf (c 0) 0 (nI m + 1))) (zuf kp m (some n)) bt la (cropY s m a b e l k u) := by
  have h' := h.mv hF (Nat.le_succ n)
  obtain ⟨nc, nh, nl, lm, wk, h1, h2, h3, h4, h5, h6, h7, h8⟩ := h'
  obtain ⟨N1, N2, N3, N4, N5, N6, N7, N8, N9, N10, N11, N12, N13, N14, N15, N16, N17⟩ := h1
  have en : nc = m := zn_inj (by omega) (by omega) (N1.symm.trans h2m)
  subst en
  obtain ⟨L0, L1, L2, L3, L4, L5⟩ := cropY_l (y := s) (m := nc) (a := a) (b := b) (e := e) (l := l) (k := k) (u := u)
  have ca : ∀ q i, i < nc → CropAt M' (n + 1) q i s → CropAt M' (n + 1) q i (cropY s nc a b e l k u) := fun q i hi hq => by
    refine ⟨hq.1, hq.2.1, ?_⟩
    rw [hq.2.2]
    unfold cropF
    rw [cropY_ne (by omega) (by omega), cropY_ne (by omega) (by omega), cropY_ne (by omega) (by omega), cropY_ne (by omega) (by omega), cropY_ne (by omega) (by omega), cropY_ne (by omega) (by omega)]
  refine ⟨nc + 1, nh, nl, lm, wk, ⟨by rw [cropY_2, zI_s], by omega, ?_, N4, ?_, N6, ?_, N8, ?_, N10, ?_, ?_, ?_, ?_, ?_, fun h a b k a2 b2 => ?_, N17.cg (fun j h1 h2 => zuf_ne _ _ (by omega))⟩, ⟨fun i hi => ?_, fun i h1 h9 => by rw [zuf_ne _ _ (by omega)]; exact h2.2 i (by omega) h9⟩, fun q hq => ?_, fun q hq => ?_, h5.cg N6 (fun k hk => cropY_ne (by omega) (by omega)) (fun j hj => zuf_ne _ _ (by omega)), h6.cg N4 (fun k hk => cropY_ne (by omega) (by omega)) (fun j hj => zuf_ne _ _ (by omega)), h7.cg (fun k hk => cropY_ne (by omega) (by omega)) (zuf_ne _ _ (by omega)), ?_⟩
  · rw [cropY_ne (by omega) (by omega)]; exact N3
  · rw [cropY_ne (by omega) (by omega)]; exact N5
  · rw [cropY_ne (by omega) (by omega)]; exact N7
  · rw [cropY_ne (by omega) (by omega)]; exact N9
  · rw [cropY_2]; rfl
  · rw [cropY_ne (by omega) (by omega)]; exact N12
  · rw [cropY_ne (by omega) (by omega)]; exact N13
  · rw [cropY_ne (by omega) (by omega)]; exact N14
  · rw [cropY_ne (by omega) (by omega)]; exact N15
  · rw [cropY_ne (by omega) (by omega)]; exact N16 h a b k a2 b2
  · by_cases ei : i = nc
    · subst ei
      rw [L0, L1, L2, L3, L4, L5]
      exact ⟨⟨n, zuf_self _ _ _, h300, Nat.lt_succ_self n, by unfold cropF; rw [L0, L1, L2, L3, L4, L5]; exact hc⟩, r1, r2, r3, r4, r5, r6⟩
    · obtain ⟨⟨q, q1, q2⟩, q3⟩ := h2.1 i (by omega)
      rw [cropY_ne (by omega) (by omega), cropY_ne (by omega) (by omega), cropY_ne (by omega) (by omega), cropY_ne (by omega) (by omega), cropY_ne (by omega) (by omega), cropY_ne (by omega) (by omega)]
      exact ⟨⟨q, by rw [zuf_ne _ _ ei]; exact q1, ca q i (by omega) q2⟩, q3⟩
  · obtain ⟨q1, q2, q3⟩ := h3 q hq
    rw [cropY_ne (q := 150 + 10 * q) (by omega) (by omega), cropY_ne (q := 151 + 10 * q) (by omega) (by omega), cropY_ne (q := 153 + 10 * q) (by omega) (by omega), cropY_ne (q := 154 + 10 * q) (by omega) (by omega), cropY_ne (q := 155 + 10 * q) (by omega) (by omega), cropY_ne (q := 156 + 10 * q) (by omega) (by omega), cropY_ne (q := 157 + 10 * q) (by omega) (by omega)]
    refine ⟨?_, fun k h1 h2 => by rw [cropY_ne (by omega) (by omega), zuf_ne _ _ (by omega)]; exact q2 k h1 h2, q3⟩
    rcases q1 with q1 | ⟨i, x, e1, e2, e3, e4, e5, e6⟩
    · exact Or.inl q1
    · refine Or.inr ⟨i, x, by omega, e2, e3, ca x i e1 e4, ?_⟩
      rw [cropY_ne (by omega) (by omega)]
      exact ⟨e5, e6⟩
  · exact PLi.cg (h4 q hq) (by omega) (Nat.le_refl _) (fun k hk => cropY_ne (by omega) (by omega)) (fun j hj => by rw [zuf_ne _ _ (by omega)])
  · obtain ⟨sc, r, en, x1, x2, x3, x4, x5, x6, x7, x8, x9⟩ := h8.cg N8 (fun z hz => cropY_ne (y := s) (m := nc) (a := a) (b := b) (e := e) (l := l) (k := k) (u := u) (q := z) (by omega) (by omega))
    refine ⟨sc, r, en, x1, x2, x3, x4, x5, x6, x7, fun q hq => ?_, fun q hq => ?_⟩
    · obtain ⟨z1, z2, z3, z4, z5, z6, ⟨i, z7, z8⟩, z9⟩ := x8 q hq
      exact ⟨z1, z2, z3, z4, z5, z6, ⟨i, by omega, z8⟩, z9⟩
    · obtain ⟨z1, z2⟩ := x9 q hq
      refine ⟨z1, fun h => ?_⟩
      obtain ⟨i, z3, z4⟩ := z2 h
      exact ⟨i, by omega, z4⟩
theorem crop_n0 {L : Nat} {xs : Nat → Int32} {a b c e : Int32}  (f0 : inI (a) 0 5 = 0) : opOK (Inv L xs) 84 140 [.int a, .int b, .int c, .int e] := by
  intro  M σ n w hI
  have hI' := hI
  obtain ⟨t, tr, c0, c1, c2, k0, k1, k2, b0, b1, b2, l0, l1, l2, hR, ⟨hT, hG0, hG1, hG2⟩, hg, hk, ht, hx, hn⟩ := hI
  have h25 := hT.1
  have hg' := hg
  obtain ⟨nc, nh, nl, lm, wk, hN, ⟨hC, hCn⟩, hB, hL, hSt, hH, hW, hX⟩ := hg'
  obtain ⟨N1, N2, N3, N4, N5, N6, N7, N8, N9, N10, N11, N12, N13, N14, N15, N16, N17⟩ := hN
  show zR ztb _ kX11_crop 1 0 [some (.ref 25), some (.int a), some (.int b), some (.int c), some (.int e), none] [] _ _ _ _
  repeat (first | ((with_reducible refine zR.stored ?_); dsimp only [zsto, zclr, zset, zget, zc2, cond_false, cond_true]) | ((with_reducible refine zR.atLit ?_); first | refine zR.step rfl ?_ | refine zR.cs rfl rfl rfl rfl rfl (zCalP.of (c_isWithin _ _ _) ?_) | refine zR.cs rfl rfl rfl rfl rfl (zCalP.of (c_lastOf _) ?_) | refine zR.cs rfl rfl rfl rfl rfl (zCalP.of (c_keepOf _) ?_) | refine zR.cs rfl rfl rfl rfl rfl (zCalP.of (c_worthOf _) ?_)) | rw [zcc1] | rw [zcc2] | rw [zcc3] | rw [zcc4] | rw [f0])
  refine zR.cv rfl rfl rfl h25 rfl rfl (zCalP.of (c_refuse h25 _) ?_)
  repeat (first | rw [zcc1] | rw [zcc2] | rw [zcc3] | rw [zcc4] | refine zR.step rfl ?_)
  refine zR.ret rfl rfl ⟨_, rfl, ⟨_, (hR.out (by omega)).1⟩, rfl, ?_⟩
  replace hR : Rf (zup M 25 (.inr (11, tob (tst t 1)))) σ := hR.out (by omega)
  have hS : Sm (zup M 25 (.inr (11, tob (tst t 1)))) (zup M 25 (.inr (11, tob (tst t 1)))) := Sm.rf
  show zR ztb _ kX12_crop 1 0 [some (.ref 287), some (.int a), some (.int b), some (.int c), some (.int e), none, none, none, none, none] [] _ _ _ _
  repeat (first | ((with_reducible refine zR.stored ?_); dsimp only [zsto, zclr, zset, zget, zc2, cond_false, cond_true]) | ((with_reducible refine zR.atLit ?_); first | refine zR.step rfl ?_ | refine zR.cs rfl rfl rfl rfl rfl (zCalP.of (c_in _ _ _) ?_)) | rw [zcc1] | rw [zcc2] | rw [zcc3] | rw [zcc4] | rw [f0])
  refine zR.cv rfl rfl rfl hR.1 rfl rfl (zR.mono (c_refused hR _) (fun v n' w' M' hv => ?_))
  obtain ⟨rfl, rfl, rfl, hR2, hS2⟩ := hv
  repeat (first | rw [zcc1] | rw [zcc2] | rw [zcc3] | rw [zcc4] | refine zR.step rfl ?_)
  refine zR.ret rfl rfl ⟨rfl, by omega, by omega, _, inv_fin ⟨hT, hG0, hG1, hG2⟩ hg hk ht hx hn hR2 (hS.trans hS2)⟩
theorem crop_n1 {L : Nat} {xs : Nat → Int32} {a b c e : Int32} (f0 : inI (a) 0 5 = 1) (f1 : inI (b) 1 400 = 0) : opOK (Inv L xs) 84 140 [.int a, .int b, .int c, .int e] := by
  intro  M σ n w hI
  have hI' := hI
  obtain ⟨t, tr, c0, c1, c2, k0, k1, k2, b0, b1, b2, l0, l1, l2, hR, ⟨hT, hG0, hG1, hG2⟩, hg, hk, ht, hx, hn⟩ := hI
  have h25 := hT.1
  have hg' := hg
  obtain ⟨nc, nh, nl, lm, wk, hN, ⟨hC, hCn⟩, hB, hL, hSt, hH, hW, hX⟩ := hg'
  obtain ⟨N1, N2, N3, N4, N5, N6, N7, N8, N9, N10, N11, N12, N13, N14, N15, N16, N17⟩ := hN
  show zR ztb _ kX11_crop 1 0 [some (.ref 25), some (.int a), some (.int b), some (.int c), some (.int e), none] [] _ _ _ _
  repeat (first | ((with_reducible refine zR.stored ?_); dsimp only [zsto, zclr, zset, zget, zc2, cond_false, cond_true]) | ((with_reducible refine zR.atLit ?_); first | refine zR.step rfl ?_ | refine zR.cs rfl rfl rfl rfl rfl (zCalP.of (c_isWithin _ _ _) ?_) | refine zR.cs rfl rfl rfl rfl rfl (zCalP.of (c_lastOf _) ?_) | refine zR.cs rfl rfl rfl rfl rfl (zCalP.of (c_keepOf _) ?_) | refine zR.cs rfl rfl rfl rfl rfl (zCalP.of (c_worthOf _) ?_)) | rw [zcc1] | rw [zcc2] | rw [zcc3] | rw [zcc4] | rw [f0] | rw [f1])
  refine zR.cv rfl rfl rfl h25 rfl rfl (zCalP.of (c_refuse h25 _) ?_)
  repeat (first | rw [zcc1] | rw [zcc2] | rw [zcc3] | rw [zcc4] | refine zR.step rfl ?_)
  refine zR.ret rfl rfl ⟨_, rfl, ⟨_, (hR.out (by omega)).1⟩, rfl, ?_⟩
  replace hR : Rf (zup M 25 (.inr (11, tob (tst t 1)))) σ := hR.out (by omega)
  have hS : Sm (zup M 25 (.inr (11, tob (tst t 1)))) (zup M 25 (.inr (11, tob (tst t 1)))) := Sm.rf
  show zR ztb _ kX12_crop 1 0 [some (.ref 287), some (.int a), some (.int b), some (.int c), some (.int e), none, none, none, none, none] [] _ _ _ _
  repeat (first | ((with_reducible refine zR.stored ?_); dsimp only [zsto, zclr, zset, zget, zc2, cond_false, cond_true]) | ((with_reducible refine zR.atLit ?_); first | refine zR.step rfl ?_ | refine zR.cs rfl rfl rfl rfl rfl (zCalP.of (c_in _ _ _) ?_)) | rw [zcc1] | rw [zcc2] | rw [zcc3] | rw [zcc4] | rw [f0] | rw [f1])
  refine zR.cv rfl rfl rfl hR.1 rfl rfl (zR.mono (c_refused hR _) (fun v n' w' M' hv => ?_))
  obtain ⟨rfl, rfl, rfl, hR2, hS2⟩ := hv
  repeat (first | rw [zcc1] | rw [zcc2] | rw [zcc3] | rw [zcc4] | refine zR.step rfl ?_)
  refine zR.ret rfl rfl ⟨rfl, by omega, by omega, _, inv_fin ⟨hT, hG0, hG1, hG2⟩ hg hk ht hx hn hR2 (hS.trans hS2)⟩
theorem crop_n2 {L : Nat} {xs : Nat → Int32} {a b c e : Int32} (f0 : inI (a) 0 5 = 1) (f1 : inI (b) 1 400 = 1) (f2 : inI (c) 1 20 = 0) : opOK (Inv L xs) 84 140 [.int a, .int b, .int c, .int e] := by
  intro  M σ n w hI
  have hI' := hI
  obtain ⟨t, tr, c0, c1, c2, k0, k1, k2, b0, b1, b2, l0, l1, l2, hR, ⟨hT, hG0, hG1, hG2⟩, hg, hk, ht, hx, hn⟩ := hI
  have h25 := hT.1
  have hg' := hg
  obtain ⟨nc, nh, nl, lm, wk, hN, ⟨hC, hCn⟩, hB, hL, hSt, hH, hW, hX⟩ := hg'
  obtain ⟨N1, N2, N3, N4, N5, N6, N7, N8, N9, N10, N11, N12, N13, N14, N15, N16, N17⟩ := hN
  show zR ztb _ kX11_crop 1 0 [some (.ref 25), some (.int a), some (.int b), some (.int c), some (.int e), none] [] _ _ _ _
  repeat (first | ((with_reducible refine zR.stored ?_); dsimp only [zsto, zclr, zset, zget, zc2, cond_false, cond_true]) | ((with_reducible refine zR.atLit ?_); first | refine zR.step rfl ?_ | refine zR.cs rfl rfl rfl rfl rfl (zCalP.of (c_isWithin _ _ _) ?_) | refine zR.cs rfl rfl rfl rfl rfl (zCalP.of (c_lastOf _) ?_) | refine zR.cs rfl rfl rfl rfl rfl (zCalP.of (c_keepOf _) ?_) | refine zR.cs rfl rfl rfl rfl rfl (zCalP.of (c_worthOf _) ?_)) | rw [zcc1] | rw [zcc2] | rw [zcc3] | rw [zcc4] | rw [f0] | rw [f1] | rw [f2])
  refine zR.cv rfl rfl rfl h25 rfl rfl (zCalP.of (c_refuse h25 _) ?_)
  repeat (first | rw [zcc1] | rw [zcc2] | rw [zcc3] | rw [zcc4] | refine zR.step rfl ?_)
  refine zR.ret rfl rfl ⟨_, rfl, ⟨_, (hR.out (by omega)).1⟩, rfl, ?_⟩
  replace hR : Rf (zup M 25 (.inr (11, tob (tst t 1)))) σ := hR.out (by omega)
  have hS : Sm (zup M 25 (.inr (11, tob (tst t 1)))) (zup M 25 (.inr (11, tob (tst t 1)))) := Sm.rf
  show zR ztb _ kX12_crop 1 0 [some (.ref 287), some (.int a), some (.int b), some (.int c), some (.int e), none, none, none, none, none] [] _ _ _ _
  repeat (first | ((with_reducible refine zR.stored ?_); dsimp only [zsto, zclr, zset, zget, zc2, cond_false, cond_true]) | ((with_reducible refine zR.atLit ?_); first | refine zR.step rfl ?_ | refine zR.cs rfl rfl rfl rfl rfl (zCalP.of (c_in _ _ _) ?_)) | rw [zcc1] | rw [zcc2] | rw [zcc3] | rw [zcc4] | rw [f0] | rw [f1] | rw [f2])
  refine zR.cv rfl rfl rfl hR.1 rfl rfl (zR.mono (c_refused hR _) (fun v n' w' M' hv => ?_))
  obtain ⟨rfl, rfl, rfl, hR2, hS2⟩ := hv
  repeat (first | rw [zcc1] | rw [zcc2] | rw [zcc3] | rw [zcc4] | refine zR.step rfl ?_)
  refine zR.ret rfl rfl ⟨rfl, by omega, by omega, _, inv_fin ⟨hT, hG0, hG1, hG2⟩ hg hk ht hx hn hR2 (hS.trans hS2)⟩
theorem crop_n3 {L : Nat} {xs : Nat → Int32} {a b c e : Int32} (f0 : inI (a) 0 5 = 1) (f1 : inI (b) 1 400 = 1) (f2 : inI (c) 1 20 = 1) (f3 : inI (e &&& 15) 1 10 = 0) : opOK (Inv L xs) 84 140 [.int a, .int b, .int c, .int e] := by
  intro  M σ n w hI
  have hI' := hI
  obtain ⟨t, tr, c0, c1, c2, k0, k1, k2, b0, b1, b2, l0, l1, l2, hR, ⟨hT, hG0, hG1, hG2⟩, hg, hk, ht, hx, hn⟩ := hI
  have h25 := hT.1
  have hg' := hg
  obtain ⟨nc, nh, nl, lm, wk, hN, ⟨hC, hCn⟩, hB, hL, hSt, hH, hW, hX⟩ := hg'
  obtain ⟨N1, N2, N3, N4, N5, N6, N7, N8, N9, N10, N11, N12, N13, N14, N15, N16, N17⟩ := hN
  show zR ztb _ kX11_crop 1 0 [some (.ref 25), some (.int a), some (.int b), some (.int c), some (.int e), none] [] _ _ _ _
  repeat (first | ((with_reducible refine zR.stored ?_); dsimp only [zsto, zclr, zset, zget, zc2, cond_false, cond_true]) | ((with_reducible refine zR.atLit ?_); first | refine zR.step rfl ?_ | refine zR.cs rfl rfl rfl rfl rfl (zCalP.of (c_isWithin _ _ _) ?_) | refine zR.cs rfl rfl rfl rfl rfl (zCalP.of (c_lastOf _) ?_) | refine zR.cs rfl rfl rfl rfl rfl (zCalP.of (c_keepOf _) ?_) | refine zR.cs rfl rfl rfl rfl rfl (zCalP.of (c_worthOf _) ?_)) | rw [zcc1] | rw [zcc2] | rw [zcc3] | rw [zcc4] | rw [f0] | rw [f1] | rw [f2] | rw [f3])
  refine zR.cv rfl rfl rfl h25 rfl rfl (zCalP.of (c_refuse h25 _) ?_)
  repeat (first | rw [zcc1] | rw [zcc2] | rw [zcc3] | rw [zcc4] | refine zR.step rfl ?_)
  refine zR.ret rfl rfl ⟨_, rfl, ⟨_, (hR.out (by omega)).1⟩, rfl, ?_⟩
  replace hR : Rf (zup M 25 (.inr (11, tob (tst t 1)))) σ := hR.out (by omega)
  have hS : Sm (zup M 25 (.inr (11, tob (tst t 1)))) (zup M 25 (.inr (11, tob (tst t 1)))) := Sm.rf
  show zR ztb _ kX12_crop 1 0 [some (.ref 287), some (.int a), some (.int b), some (.int c), some (.int e), none, none, none, none, none] [] _ _ _ _
  repeat (first | ((with_reducible refine zR.stored ?_); dsimp only [zsto, zclr, zset, zget, zc2, cond_false, cond_true]) | ((with_reducible refine zR.atLit ?_); first | refine zR.step rfl ?_ | refine zR.cs rfl rfl rfl rfl rfl (zCalP.of (c_in _ _ _) ?_)) | rw [zcc1] | rw [zcc2] | rw [zcc3] | rw [zcc4] | rw [f0] | rw [f1] | rw [f2] | rw [f3])
  refine zR.cv rfl rfl rfl hR.1 rfl rfl (zR.mono (c_refused hR _) (fun v n' w' M' hv => ?_))
  obtain ⟨rfl, rfl, rfl, hR2, hS2⟩ := hv
  repeat (first | rw [zcc1] | rw [zcc2] | rw [zcc3] | rw [zcc4] | refine zR.step rfl ?_)
  refine zR.ret rfl rfl ⟨rfl, by omega, by omega, _, inv_fin ⟨hT, hG0, hG1, hG2⟩ hg hk ht hx hn hR2 (hS.trans hS2)⟩
theorem crop_n4 {L : Nat} {xs : Nat → Int32} {a b c e : Int32} (f0 : inI (a) 0 5 = 1) (f1 : inI (b) 1 400 = 1) (f2 : inI (c) 1 20 = 1) (f3 : inI (e &&& 15) 1 10 = 1) (f4 : inI (e >>> (4 &&& 31) &&& 15) 0 12 = 0) : opOK (Inv L xs) 84 140 [.int a, .int b, .int c, .int e] := by
  intro  M σ n w hI
  have hI' := hI
  obtain ⟨t, tr, c0, c1, c2, k0, k1, k2, b0, b1, b2, l0, l1, l2, hR, ⟨hT, hG0, hG1, hG2⟩, hg, hk, ht, hx, hn⟩ := hI
  have h25 := hT.1
  have hg' := hg
  obtain ⟨nc, nh, nl, lm, wk, hN, ⟨hC, hCn⟩, hB, hL, hSt, hH, hW, hX⟩ := hg'
  obtain ⟨N1, N2, N3, N4, N5, N6, N7, N8, N9, N10, N11, N12, N13, N14, N15, N16, N17⟩ := hN
  show zR ztb _ kX11_crop 1 0 [some (.ref 25), some (.int a), some (.int b), some (.int c), some (.int e), none] [] _ _ _ _
  repeat (first | ((with_reducible refine zR.stored ?_); dsimp only [zsto, zclr, zset, zget, zc2, cond_false, cond_true]) | ((with_reducible refine zR.atLit ?_); first | refine zR.step rfl ?_ | refine zR.cs rfl rfl rfl rfl rfl (zCalP.of (c_isWithin _ _ _) ?_) | refine zR.cs rfl rfl rfl rfl rfl (zCalP.of (c_lastOf _) ?_) | refine zR.cs rfl rfl rfl rfl rfl (zCalP.of (c_keepOf _) ?_) | refine zR.cs rfl rfl rfl rfl rfl (zCalP.of (c_worthOf _) ?_)) | rw [zcc1] | rw [zcc2] | rw [zcc3] | rw [zcc4] | rw [f0] | rw [f1] | rw [f2] | rw [f3] | rw [f4])
  refine zR.cv rfl rfl rfl h25 rfl rfl (zCalP.of (c_refuse h25 _) ?_)
  repeat (first | rw [zcc1] | rw [zcc2] | rw [zcc3] | rw [zcc4] | refine zR.step rfl ?_)
  refine zR.ret rfl rfl ⟨_, rfl, ⟨_, (hR.out (by omega)).1⟩, rfl, ?_⟩
  replace hR : Rf (zup M 25 (.inr (11, tob (tst t 1)))) σ := hR.out (by omega)
  have hS : Sm (zup M 25 (.inr (11, tob (tst t 1)))) (zup M 25 (.inr (11, tob (tst t 1)))) := Sm.rf
  show zR ztb _ kX12_crop 1 0 [some (.ref 287), some (.int a), some (.int b), some (.int c), some (.int e), none, none, none, none, none] [] _ _ _ _
  repeat (first | ((with_reducible refine zR.stored ?_); dsimp only [zsto, zclr, zset, zget, zc2, cond_false, cond_true]) | ((with_reducible refine zR.atLit ?_); first | refine zR.step rfl ?_ | refine zR.cs rfl rfl rfl rfl rfl (zCalP.of (c_in _ _ _) ?_)) | rw [zcc1] | rw [zcc2] | rw [zcc3] | rw [zcc4] | rw [f0] | rw [f1] | rw [f2] | rw [f3] | rw [f4])
  refine zR.cv rfl rfl rfl hR.1 rfl rfl (zR.mono (c_refused hR _) (fun v n' w' M' hv => ?_))
  obtain ⟨rfl, rfl, rfl, hR2, hS2⟩ := hv
  repeat (first | rw [zcc1] | rw [zcc2] | rw [zcc3] | rw [zcc4] | refine zR.step rfl ?_)
  refine zR.ret rfl rfl ⟨rfl, by omega, by omega, _, inv_fin ⟨hT, hG0, hG1, hG2⟩ hg hk ht hx hn hR2 (hS.trans hS2)⟩
theorem crop_n5 {L : Nat} {xs : Nat → Int32} {a b c e : Int32} (f0 : inI (a) 0 5 = 1) (f1 : inI (b) 1 400 = 1) (f2 : inI (c) 1 20 = 1) (f3 : inI (e &&& 15) 1 10 = 1) (f4 : inI (e >>> (4 &&& 31) &&& 15) 0 12 = 1) (f5 : inI (e >>> (8 &&& 31)) 1 9 = 0) : opOK (Inv L xs) 84 140 [.int a, .int b, .int c, .int e] := by
  intro  M σ n w hI
  have hI' := hI
  obtain ⟨t, tr, c0, c1, c2, k0, k1, k2, b0, b1, b2, l0, l1, l2, hR, ⟨hT, hG0, hG1, hG2⟩, hg, hk, ht, hx, hn⟩ := hI
  have h25 := hT.1
  have hg' := hg
  obtain ⟨nc, nh, nl, lm, wk, hN, ⟨hC, hCn⟩, hB, hL, hSt, hH, hW, hX⟩ := hg'
  obtain ⟨N1, N2, N3, N4, N5, N6, N7, N8, N9, N10, N11, N12, N13, N14, N15, N16, N17⟩ := hN
  show zR ztb _ kX11_crop 1 0 [some (.ref 25), some (.int a), some (.int b), some (.int c), some (.int e), none] [] _ _ _ _
  repeat (first | ((with_reducible refine zR.stored ?_); dsimp only [zsto, zclr, zset, zget, zc2, cond_false, cond_true]) | ((with_reducible refine zR.atLit ?_); first | refine zR.step rfl ?_ | refine zR.cs rfl rfl rfl rfl rfl (zCalP.of (c_isWithin _ _ _) ?_) | refine zR.cs rfl rfl rfl rfl rfl (zCalP.of (c_lastOf _) ?_) | refine zR.cs rfl rfl rfl rfl rfl (zCalP.of (c_keepOf _) ?_) | refine zR.cs rfl rfl rfl rfl rfl (zCalP.of (c_worthOf _) ?_)) | rw [zcc1] | rw [zcc2] | rw [zcc3] | rw [zcc4] | rw [f0] | rw [f1] | rw [f2] | rw [f3] | rw [f4] | rw [f5])
  refine zR.cv rfl rfl rfl h25 rfl rfl (zCalP.of (c_refuse h25 _) ?_)
  repeat (first | rw [zcc1] | rw [zcc2] | rw [zcc3] | rw [zcc4] | refine zR.step rfl ?_)
  refine zR.ret rfl rfl ⟨_, rfl, ⟨_, (hR.out (by omega)).1⟩, rfl, ?_⟩
  replace hR : Rf (zup M 25 (.inr (11, tob (tst t 1)))) σ := hR.out (by omega)
  have hS : Sm (zup M 25 (.inr (11, tob (tst t 1)))) (zup M 25 (.inr (11, tob (tst t 1)))) := Sm.rf
  show zR ztb _ kX12_crop 1 0 [some (.ref 287), some (.int a), some (.int b), some (.int c), some (.int e), none, none, none, none, none] [] _ _ _ _
  repeat (first | ((with_reducible refine zR.stored ?_); dsimp only [zsto, zclr, zset, zget, zc2, cond_false, cond_true]) | ((with_reducible refine zR.atLit ?_); first | refine zR.step rfl ?_ | refine zR.cs rfl rfl rfl rfl rfl (zCalP.of (c_in _ _ _) ?_)) | rw [zcc1] | rw [zcc2] | rw [zcc3] | rw [zcc4] | rw [f0] | rw [f1] | rw [f2] | rw [f3] | rw [f4] | rw [f5])
  refine zR.cv rfl rfl rfl hR.1 rfl rfl (zR.mono (c_refused hR _) (fun v n' w' M' hv => ?_))
  obtain ⟨rfl, rfl, rfl, hR2, hS2⟩ := hv
  repeat (first | rw [zcc1] | rw [zcc2] | rw [zcc3] | rw [zcc4] | refine zR.step rfl ?_)
  refine zR.ret rfl rfl ⟨rfl, by omega, by omega, _, inv_fin ⟨hT, hG0, hG1, hG2⟩ hg hk ht hx hn hR2 (hS.trans hS2)⟩
theorem crop_y {L : Nat} {xs : Nat → Int32} {a b c e : Int32} (f0 : inI (a) 0 5 = 1) (f1 : inI (b) 1 400 = 1) (f2 : inI (c) 1 20 = 1) (f3 : inI (e &&& 15) 1 10 = 1) (f4 : inI (e >>> (4 &&& 31) &&& 15) 0 12 = 1) (f5 : inI (e >>> (8 &&& 31)) 1 9 = 1) (z0 : inN (a) 0 5) (z1 : inN (b) 1 400) (z2 : inN (c) 1 20) (z3 : inN (e &&& 15) 1 10) (z4 : inN (e >>> (4 &&& 31) &&& 15) 0 12) (z5 : inN (e >>> (8 &&& 31)) 1 9) : opOK (Inv L xs) 84 140 [.int a, .int b, .int c, .int e] := by
  intro  M σ n w hI
  have hI' := hI
  obtain ⟨t, tr, c0, c1, c2, k0, k1, k2, b0, b1, b2, l0, l1, l2, hR, ⟨hT, hG0, hG1, hG2⟩, hg, hk, ht, hx, hn⟩ := hI
  have h25 := hT.1
  have hg' := hg
  obtain ⟨nc, nh, nl, lm, wk, hN, ⟨hC, hCn⟩, hB, hL, hSt, hH, hW, hX⟩ := hg'
  obtain ⟨N1, N2, N3, N4, N5, N6, N7, N8, N9, N10, N11, N12, N13, N14, N15, N16, N17⟩ := hN
  show zR ztb _ kX11_crop 1 0 [some (.ref 25), some (.int a), some (.int b), some (.int c), some (.int e), none] [] _ _ _ _
  by_cases hm : nc = 8
  · have w1 : ¬ c0 0 0 < 8 := by rw [N11, N1, hm]; decide
    have w2 : σ 0 2 = 8 := by rw [N1, hm]; rfl
    repeat (first | ((with_reducible refine zR.stored ?_); dsimp only [zsto, zclr, zset, zget, zc2, cond_false, cond_true]) | ((with_reducible refine zR.atLit ?_); first | refine zR.step rfl ?_ | refine zR.cs rfl rfl rfl rfl rfl (zCalP.of (c_isWithin _ _ _) ?_) | refine zR.cs rfl rfl rfl rfl rfl (zCalP.of (c_lastOf _) ?_) | refine zR.cs rfl rfl rfl rfl rfl (zCalP.of (c_keepOf _) ?_) | refine zR.cs rfl rfl rfl rfl rfl (zCalP.of (c_worthOf _) ?_) | refine zR.getf rfl (h25) rfl ?_ | refine zR.getf rfl (hG0.o) rfl ?_) | rw [zcc1] | rw [zcc2] | rw [zcc3] | rw [zcc4] | rw [f0] | rw [f1] | rw [f2] | rw [f3] | rw [f4] | rw [f5] | rw [zn1 (w1)] | rw [zn2 (w1)] | rw [zn3 (w1)] | rw [zn4 (w1)])
    refine zR.cv rfl rfl rfl h25 rfl rfl (zCalP.of (c_refuse h25 _) ?_)
    repeat (first | rw [zcc1] | rw [zcc2] | rw [zcc3] | rw [zcc4] | refine zR.step rfl ?_)
    refine zR.ret rfl rfl ⟨_, rfl, ⟨_, (hR.out (by omega)).1⟩, rfl, ?_⟩
    replace hR : Rf (zup M 25 (.inr (11, tob (tst t 2)))) σ := hR.out (by omega)
    have hS : Sm (zup M 25 (.inr (11, tob (tst t 2)))) (zup M 25 (.inr (11, tob (tst t 2)))) := Sm.rf
    show zR ztb _ kX12_crop 1 0 [some (.ref 287), some (.int a), some (.int b), some (.int c), some (.int e), none, none, none, none, none] [] _ _ _ _
    repeat (first | ((with_reducible refine zR.stored ?_); dsimp only [zsto, zclr, zset, zget, zc2, cond_false, cond_true]) | ((with_reducible refine zR.atLit ?_); first | refine zR.step rfl ?_ | refine zR.cs rfl rfl rfl rfl rfl (zCalP.of (c_in _ _ _) ?_) | refine zR.getf rfl (hR.1) rfl ?_ | refine zR.ilR0 hR rfl (by (try simp only [zn_lit, zn_add, zn_mul]); rfl) (by omega) ?_) | rw [zcc1] | rw [zcc2] | rw [zcc3] | rw [zcc4] | rw [f0] | rw [f1] | rw [f2] | rw [f3] | rw [f4] | rw [f5] | rw [ze1 (w2)] | rw [ze2 (w2)])
    refine zR.cv rfl rfl rfl hR.1 rfl rfl (zR.mono (c_refused hR _) (fun v n' w' M' hv => ?_))
    obtain ⟨rfl, rfl, rfl, hR2, hS2⟩ := hv
    repeat (first | rw [zcc1] | rw [zcc2] | rw [zcc3] | rw [zcc4] | refine zR.step rfl ?_)
    refine zR.ret rfl rfl ⟨rfl, by omega, by omega, _, inv_fin ⟨hT, hG0, hG1, hG2⟩ hg hk ht hx hn hR2 (hS.trans hS2)⟩
  · have w1 : c0 0 0 < 8 := by rw [N11, N1]; exact zI_ylt (b := 8) (by omega) (by omega)
    have w2 : ¬ σ 0 2 = 8 := by rw [N1]; exact fun h => hm (zn_inj (b := 8) (by omega) (by omega) h)
    have w3 : c0 0 0 = nI nc := by rw [N11, N1]
    repeat (first | ((with_reducible refine zR.stored ?_); dsimp only [zsto, zclr, zset, zget, zc2, cond_false, cond_true]) | ((with_reducible refine zR.atLit ?_); first | refine zR.step rfl ?_ | refine zR.cs rfl rfl rfl rfl rfl (zCalP.of (c_isWithin _ _ _) ?_) | refine zR.cs rfl rfl rfl rfl rfl (zCalP.of (c_lastOf _) ?_) | refine zR.cs rfl rfl rfl rfl rfl (zCalP.of (c_keepOf _) ?_) | refine zR.cs rfl rfl rfl rfl rfl (zCalP.of (c_worthOf _) ?_) | refine zR.getf rfl (h25) rfl ?_ | refine zR.getf rfl (hG0.o) rfl ?_) | rw [zcc1] | rw [zcc2] | rw [zcc3] | rw [zcc4] | rw [f0] | rw [f1] | rw [f2] | rw [f3] | rw [f4] | rw [f5] | rw [zb1 (w1)] | rw [zb2 (w1)] | rw [zb3 (w1)] | rw [zb4 (w1)])
    have h25n : zup M n (.inr (1, zdef 1)) 25 = .inr (11, tob t) := by rw [zup_ne _ _ (by omega)]; exact h25
    have h48n : zup M n (.inr (1, zdef 1)) 48 = _ := (zup_ne _ _ (by omega)).trans hG0.o
    repeat (first | ((with_reducible refine zR.stored ?_); dsimp only [zsto, zclr, zset, zget, zc2, cond_false, cond_true]) | ((with_reducible refine zR.atLit ?_); first | refine zR.step rfl ?_ | refine zR.getf rfl (h25n) rfl ?_ | refine zR.getf rfl (h48n) rfl ?_) | rw [zcc1] | rw [zcc2] | rw [zcc3] | rw [zcc4])
    rw [w3]
    refine zR.ci rfl rfl rfl rfl rfl (zCalP.of (c_Crop_init (zup_self _ _ _) _ _ _ _ _) ?_)
    rw [zup_up]
    have hGn := hG0.out (a := n) (x := .inr (1, [.int (nI nc), .int a, .int b, .int c, .int (e &&& 15), .int (e >>> (4 &&& 31) &&& 15), .int (e >>> (8 &&& 31))])) (by omega)
    repeat (first | ((with_reducible refine zR.stored ?_); dsimp only [zsto, zclr, zset, zget, zc2, cond_false, cond_true]) | ((with_reducible refine zR.atLit ?_); first | refine zR.step rfl ?_) | rw [zcc1] | rw [zcc2] | rw [zcc3] | rw [zcc4])
    refine zR.cv rfl rfl rfl hGn.o rfl rfl (zR.mono (c_addCrop hGn w3 (by omega) (zup_self _ _ _) (by omega)) (fun v' n' w' M' hv => ?_))
    obtain ⟨rfl, rfl, rfl, hG0', hF⟩ := hv
    have hF2 : ∀ k, ¬ (48 ≤ k ∧ k < 124) → k < n → M' k = M k := fun k h1 h2 => by rw [hF k (by omega), zup_ne _ _ (by omega)]
    have hT' : Tc M' t tr := hT.same (fun k hk => hF2 k (by omega) (by omega))
    repeat (first | ((with_reducible refine zR.stored ?_); dsimp only [zsto, zclr, zset, zget, zc2, cond_false, cond_true]) | ((with_reducible refine zR.atLit ?_); first | refine zR.step rfl ?_) | rw [zcc1] | rw [zcc2] | rw [zcc3] | rw [zcc4])
    refine zR.cv rfl rfl rfl hT'.1 rfl rfl (zCalP.of (c_doneC hT'.1 _) ?_)
    repeat (first | ((with_reducible refine zR.stored ?_); dsimp only [zsto, zclr, zset, zget, zc2, cond_false, cond_true]) | ((with_reducible refine zR.atLit ?_); first | refine zR.step rfl ?_) | rw [zcc1] | rw [zcc2] | rw [zcc3] | rw [zcc4])
    replace hR : Rf (zup M' 25 (.inr (11, tob (tst t 0)))) σ := Rf.out ⟨by rw [hF2 _ (by omega) (by omega)]; exact hR.1, fun j hj => by rw [hF2 _ (by omega) (by omega)]; exact hR.2 j hj⟩ (by omega)
    refine zR.ret rfl rfl ⟨_, rfl, ⟨_, hR.1⟩, by rw [zup_ne _ _ (by omega), hF2 _ (by omega) (by omega)], ?_⟩
    show zR ztb _ kX12_crop 1 0 [some (.ref 287), some (.int a), some (.int b), some (.int c), some (.int e), none, none, none, none, none] [] _ _ _ _
    repeat (first | ((with_reducible refine zR.stored ?_); dsimp only [zsto, zclr, zset, zget, zc2, cond_false, cond_true]) | ((with_reducible refine zR.atLit ?_); first | refine zR.step rfl ?_ | refine zR.cs rfl rfl rfl rfl rfl (zCalP.of (c_in _ _ _) ?_) | refine zR.getf rfl (hR.1) rfl ?_ | refine zR.ilR0 hR rfl (i := 2) rfl (by omega) ?_) | rw [zcc1] | rw [zcc2] | rw [zcc3] | rw [zcc4] | rw [f0] | rw [f1] | rw [f2] | rw [f3] | rw [f4] | rw [f5] | rw [zd1 (w2)] | rw [zd2 (w2)])
    rw [N1]
    replace hR := hR.toY
    have hS := Sm.rf (M := zup M' 25 (.inr (11, tob (tst t 0))))
    repeat (first | ((with_reducible refine zR.stored ?_); dsimp only [zsto, zclr, zset, zget, zc2, cond_false, cond_true]) | ((with_reducible refine zR.atLit ?_); first | refine zR.step rfl ?_ | refine zR.getf rfl (hR.1) rfl ?_) | rw [zcc1] | rw [zcc2] | rw [zcc3] | rw [zcc4])
    refine zR.isY hR hS rfl (i := 50 + 10 * nc) (by simp only [zn_lit, zn_add, zn_mul]; rfl) (by omega) (fun M1 hR hS => ?_)
    repeat (first | ((with_reducible refine zR.stored ?_); dsimp only [zsto, zclr, zset, zget, zc2, cond_false, cond_true]) | ((with_reducible refine zR.atLit ?_); first | refine zR.step rfl ?_ | refine zR.getf rfl (hR.1) rfl ?_) | rw [zcc1] | rw [zcc2] | rw [zcc3] | rw [zcc4])
    refine zR.isY hR hS rfl (i := 50 + 10 * nc + 1) (by simp only [zn_lit, zn_add, zn_mul]) (by omega) (fun M1 hR hS => ?_)
    repeat (first | ((with_reducible refine zR.stored ?_); dsimp only [zsto, zclr, zset, zget, zc2, cond_false, cond_true]) | ((with_reducible refine zR.atLit ?_); first | refine zR.step rfl ?_ | refine zR.getf rfl (hR.1) rfl ?_) | rw [zcc1] | rw [zcc2] | rw [zcc3] | rw [zcc4])
    refine zR.isY hR hS rfl (i := 50 + 10 * nc + 2) (by simp only [zn_lit, zn_add, zn_mul]) (by omega) (fun M1 hR hS => ?_)
    repeat (first | ((with_reducible refine zR.stored ?_); dsimp only [zsto, zclr, zset, zget, zc2, cond_false, cond_true]) | ((with_reducible refine zR.atLit ?_); first | refine zR.step rfl ?_ | refine zR.getf rfl (hR.1) rfl ?_) | rw [zcc1] | rw [zcc2] | rw [zcc3] | rw [zcc4])
    refine zR.isY hR hS rfl (i := 50 + 10 * nc + 3) (by simp only [zn_lit, zn_add, zn_mul]) (by omega) (fun M1 hR hS => ?_)
    repeat (first | ((with_reducible refine zR.stored ?_); dsimp only [zsto, zclr, zset, zget, zc2, cond_false, cond_true]) | ((with_reducible refine zR.atLit ?_); first | refine zR.step rfl ?_ | refine zR.getf rfl (hR.1) rfl ?_) | rw [zcc1] | rw [zcc2] | rw [zcc3] | rw [zcc4])
    refine zR.isY hR hS rfl (i := 50 + 10 * nc + 4) (by simp only [zn_lit, zn_add, zn_mul]) (by omega) (fun M1 hR hS => ?_)
    repeat (first | ((with_reducible refine zR.stored ?_); dsimp only [zsto, zclr, zset, zget, zc2, cond_false, cond_true]) | ((with_reducible refine zR.atLit ?_); first | refine zR.step rfl ?_ | refine zR.getf rfl (hR.1) rfl ?_) | rw [zcc1] | rw [zcc2] | rw [zcc3] | rw [zcc4])
    refine zR.isY hR hS rfl (i := 50 + 10 * nc + 5) (by simp only [zn_lit, zn_add, zn_mul]) (by omega) (fun M1 hR hS => ?_)
    repeat (first | ((with_reducible refine zR.stored ?_); dsimp only [zsto, zclr, zset, zget, zc2, cond_false, cond_true]) | ((with_reducible refine zR.atLit ?_); first | refine zR.step rfl ?_ | refine zR.getf rfl (hR.1) rfl ?_ | (refine zR.ilY hR rfl (i := 2) rfl (by omega) ?_; rw [zuf_ne _ _ (by omega), zuf_ne _ _ (by omega), zuf_ne _ _ (by omega), zuf_ne _ _ (by omega), zuf_ne _ _ (by omega), zuf_ne _ _ (by omega), N1])) | rw [zcc1] | rw [zcc2] | rw [zcc3] | rw [zcc4])
    refine zR.isY hR hS rfl (i := 2) rfl (by omega) (fun M1 hR hS => ?_)
    have e0 : nI nc + 1 - 1 = nI nc := by rw [zI_s, zI_pred (by omega) (by omega)]; rfl
    repeat (first | ((with_reducible refine zR.stored ?_); dsimp only [zsto, zclr, zset, zget, zc2, cond_false, cond_true]) | ((with_reducible refine zR.atLit ?_); first | refine zR.step rfl ?_ | refine zR.getf rfl (hR.1) rfl ?_ | (refine zR.ilY hR rfl (i := 2) rfl (by omega) ?_; rw [zuf_self])) | rw [zcc1] | rw [zcc2] | rw [zcc3] | rw [zcc4])
    rw [e0]
    refine zR.cv rfl rfl rfl hR.1 rfl rfl (zR.mono (c_done hR _) (fun v n' w' M' hv => ?_))
    obtain ⟨rfl, rfl, rfl, hR2, hS2⟩ := hv
    repeat (first | rw [zcc1] | rw [zcc2] | rw [zcc3] | rw [zcc4] | refine zR.step rfl ?_)
    refine zR.ret rfl rfl ⟨rfl, by omega, by omega, _, inv_now hT hG1 hG2 hk ht hx hn hF2 (Nat.le_succ _) hG0' (hg.crop N1 (by omega) hn (fun k a b => hF2 k (by omega) b) ((hF n (by omega)).trans (zup_self _ _ _)) z0 z1 z2 z3 z4 z5) hR2 (hS.trans hS2)⟩
theorem o_crop {L : Nat} {xs : Nat → Int32} : op_crop (Inv L xs) := by
  intro a b c e
  rcases inI_nat (a) 0 5 (by omega) (by omega) with ⟨i0, g0, u0, v0, f0⟩ | ⟨-, f0⟩
  rotate_left
  · exact crop_n0 f0
  rcases inI_nat (b) 1 400 (by omega) (by omega) with ⟨i1, g1, u1, v1, f1⟩ | ⟨-, f1⟩
  rotate_left
  · exact crop_n1 f0 f1
  rcases inI_nat (c) 1 20 (by omega) (by omega) with ⟨i2, g2, u2, v2, f2⟩ | ⟨-, f2⟩
  rotate_left
  · exact crop_n2 f0 f1 f2
  rcases inI_nat (e &&& 15) 1 10 (by omega) (by omega) with ⟨i3, g3, u3, v3, f3⟩ | ⟨-, f3⟩
  rotate_left
  · exact crop_n3 f0 f1 f2 f3
  rcases inI_nat (e >>> (4 &&& 31) &&& 15) 0 12 (by omega) (by omega) with ⟨i4, g4, u4, v4, f4⟩ | ⟨-, f4⟩
  rotate_left
  · exact crop_n4 f0 f1 f2 f3 f4
  rcases inI_nat (e >>> (8 &&& 31)) 1 9 (by omega) (by omega) with ⟨i5, g5, u5, v5, f5⟩ | ⟨-, f5⟩
  rotate_left
  · exact crop_n5 f0 f1 f2 f3 f4 f5
  exact crop_y f0 f1 f2 f3 f4 f5 ⟨i0, v0, g0, u0⟩ ⟨i1, v1, g1, u1⟩ ⟨i2, v2, g2, u2⟩ ⟨i3, v3, g3, u3⟩ ⟨i4, v4, g4, u4⟩ ⟨i5, v5, g5, u5⟩
