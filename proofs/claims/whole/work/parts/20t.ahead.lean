
/-! ahead: the pair. -/
theorem o_ahead {L : Nat} {xs : Nat → Int32} : op_ahead (Inv L xs) := by
  intro a b M σ n w hI
  have hI' := hI
  obtain ⟨t, tr, c0, c1, c2, k0, k1, k2, b0, b1, b2, l0, l1, l2, hR, ⟨hT, hG0, hG1, hG2⟩, hg, hk, ht, hx, hn⟩ := hI
  have h25 := hT.1
  have hg' := hg
  obtain ⟨nc, nh, nl, lm, wk, hN, ⟨hC, hCn⟩, hB, hL, hSt, hH, hW, hX⟩ := hg'
  obtain ⟨N1, N2, N3, N4, N5, N6, N7, N8, N9, N10, N11, N12, N13, N14, N15, N16, N17⟩ := hN
  show zR ztb _ kX11_ahead 1 0 [some (.ref 25), some (.int a), some (.int b), none] [] _ _ _ _
  rcases inI_nat a 1 10 (by omega) (by omega) with ⟨m, hm1, hm2, rfl, e⟩ | ⟨-, e⟩
  · replace e : inI (nI m) 1 10 = 1 := e
    rcases inI_nat b 0 3 (by omega) (by omega) with ⟨q, -, hq, rfl, e2⟩ | ⟨-, e2⟩
    · replace e2 : inI (nI q) 0 3 = 1 := e2
      obtain ⟨s1, s2, s3, l, s4, s5⟩ := hg.src 200 (by omega)
      repeat (first | ((with_reducible refine zR.stored ?_); dsimp only [zsto, zclr, zset, zget, zc2, cond_false, cond_true]) | ((with_reducible refine zR.atLit ?_); first | refine zR.step rfl ?_ | refine zR.cs rfl rfl rfl rfl rfl (zCalP.of (c_isWithin _ _ _) ?_) | refine zR.getf rfl (h25) rfl ?_) | rw [zcc1] | rw [zcc2] | rw [zcc3] | rw [zcc4] | rw [e] | rw [e2])
      refine zR.cv rfl rfl rfl hG2.o rfl rfl (zR.mono (c_Garden_copy hG2 hG0 (by omega) s1 s2 s3 s4 s5) (fun v n' w' M' hv => ?_))
      obtain ⟨rfl, rfl, rfl, ⟨c2', k2', b2', hG2', hkb, hca⟩, hF⟩ := hv
      have h25a : M' 25 = .inr (11, tob t) := (hF 25 (by omega)).trans h25
      have hGa := hG2'.upSu (fillF (c2' 13) 0 4)
      have hGRa : GR M n (zuf c2' 13 (fillF (c2' 13) 0 4)) k2' b2' l0 (σ 0) := (hg.copy (M' := M) (fun _ _ _ => rfl) s4 s5 hkb hca).c13 _
      have k0 : ∀ j, j < 4 → zuf c2' 13 (fillF (c2' 13) 0 4) 13 j = 0 := fun j hj => by rw [zuf_self]; exact if_pos hj
      repeat (first | with_reducible refine zR.hold (pc := 41) ?_ | ((with_reducible refine zR.stored ?_); dsimp only [zsto, zclr, zset, zget, zc2, cond_false, cond_true]) | ((with_reducible refine zR.atLit ?_); first | refine zR.step rfl ?_ | refine zR.getf rfl h25a rfl ?_ | refine zR.cv rfl rfl rfl hG2'.o rfl rfl (zCalP.of (c_clearSums hG2') ?_)) | rw [zcc1] | rw [zcc2] | rw [zcc3] | rw [zcc4])
      generalize hRR : ahF m (σ 0) 0 0 0 0 = R
      refine ⟨trivial, ahc_loop (M0 := M) (t' := t) (nn := n) (s0 := σ 0) (R := R) h25 hm2 (fun M3 c3 b3 x3 hG3 hF3 v0 v1 v2 v3 hAW => ?_) m 0 _ _ b2' (σ 0) 0 0 0 0 (by omega) hGa (fun k hk => by rw [zup_ne _ _ (by omega)]; exact hF k hk) hGRa hRR (k0 0 (by omega)) (k0 1 (by omega)) (k0 2 (by omega)) (k0 3 (by omega)) id⟩
      have h25b : M3 25 = .inr (11, tob t) := (hF3 25 (by omega)).trans h25
      repeat (first | ((with_reducible refine zR.stored ?_); dsimp only [zsto, zclr, zset, zget, zc2, cond_false, cond_true]) | ((with_reducible refine zR.atLit ?_); first | refine zR.step rfl ?_ | refine zR.getf rfl h25b rfl ?_ | refine zR.getf rfl (hG3.o) rfl ?_ | refine zR.iald rfl hG3.su (Or.inl rfl) (i := q) rfl (by omega) (by omega) ?_) | rw [zcc1] | rw [zcc2] | rw [zcc3] | rw [zcc4])
      replace hR : Rf M3 σ := ⟨by rw [hF3 _ (by omega)]; exact hR.1, fun j hj => by rw [hF3 _ (by omega)]; exact hR.2 j hj⟩
      refine zR.ret rfl rfl ⟨_, rfl, ⟨_, hR.1⟩, hF3 0 (by omega), ?_⟩
      show zR ztb _ kX12_ahead 1 0 [some (.ref 287), some (.int (nI m)), some (.int (nI q)), none, none, none] [] _ _ _ _
      repeat (first | with_reducible refine zR.hold (pc := 23) ?_ | ((with_reducible refine zR.stored ?_); dsimp only [zsto, zclr, zset, zget, zc2, cond_false, cond_true]) | ((with_reducible refine zR.atLit ?_); first | refine zR.step rfl ?_ | refine zR.cs rfl rfl rfl rfl rfl (zCalP.of (c_in _ _ _) ?_)) | rw [zcc1] | rw [zcc2] | rw [zcc3] | rw [zcc4] | rw [e] | rw [e2])
      refine ⟨trivial, ak_loop (M0 := M3) (σ := σ) (fun M4 y hR4 hS4 hy => ?_) 2700 0 M3 (σ 2) (by omega) (by rw [zuf_id rfl]; exact hR) Sm.rf (fun q hq => by omega)⟩
      repeat (first | ((with_reducible refine zR.stored ?_); dsimp only [zsto, zclr, zset, zget, zc2, cond_false, cond_true]) | ((with_reducible refine zR.atLit ?_); first | refine zR.step rfl ?_ | refine zR.cv rfl rfl rfl hR4.1 rfl rfl (zCalP.of (c_lostAll hR4 N1 N2) ?_)) | rw [zcc1] | rw [zcc2] | rw [zcc3] | rw [zcc4])
      refine zR.putR hR4 hS4 rfl rfl rfl rfl (fun M5 hR5 hS5 => ?_)
      repeat (first | ((with_reducible refine zR.stored ?_); dsimp only [zsto, zclr, zset, zget, zc2, cond_false, cond_true]) | ((with_reducible refine zR.atLit ?_); first | refine zR.step rfl ?_) | rw [zcc1] | rw [zcc2] | rw [zcc3] | rw [zcc4])
      refine zR.putR hR5 hS5 rfl rfl rfl rfl (fun M6 hR6 hS6 => ?_)
      repeat (first | with_reducible refine zR.hold (pc := 69) ?_ | ((with_reducible refine zR.stored ?_); dsimp only [zsto, zclr, zset, zget, zc2, cond_false, cond_true]) | ((with_reducible refine zR.atLit ?_); first | refine zR.step rfl ?_) | rw [zcc1] | rw [zcc2] | rw [zcc3] | rw [zcc4])
      refine ⟨trivial, aw_loop (M0 := M3) (σ := zuf σ 2 y) (d := 991) (R := R) (L0 := lostSum (σ 0) nc) (nc := nc) hm2 N2 (fun M7 x5 hRS7 hS7 h27 hl7 => ?_) m 0 M6 (σ 0) 0 0 0 0 (by omega) hAW hRR ⟨_, hR6, rfl, fun j a1 a2 a3 a4 => by rw [zuf_ne _ _ a4, zuf_ne _ _ a4], fun k a1 a2 a3 => by rw [zuf_self, zuf_ne _ _ a3, zuf_self, zuf_ne _ _ a2], rfl, rfl⟩ hS6 N1 (by rw [Int32.add_zero])⟩
      obtain ⟨ρ, hR7, r0, rr, r12, r27, r28⟩ := hRS7
      have ls := fun {d n w : Nat} => c_lostAll (d := d) (n := n) (w := w) (nc := nc) hR7 (by rw [r0]; exact h27) N2
      rw [r0, hl7] at ls
      have es : lostSum (σ 0) nc + R.2.2.2.2 - lostSum (σ 0) nc = R.2.2.2.2 := by rw [Int32.add_comm, Int32.add_sub_cancel]
      repeat (first | with_reducible refine zR.hold (pc := 111) ?_ | ((with_reducible refine zR.stored ?_); dsimp only [zsto, zclr, zset, zget, zc2, cond_false, cond_true]) | ((with_reducible refine zR.atLit ?_); first | refine zR.step rfl ?_ | refine zR.cv rfl rfl rfl hR7.1 rfl rfl (zCalP.of ls ?_)) | rw [zcc1] | rw [zcc2] | rw [zcc3] | rw [zcc4] | rw [show lostSum (zuf σ 2 y 0) nc = lostSum (σ 0) nc from rfl] | rw [es])
      refine ⟨trivial, ar_loop (M0 := M3) (σ := ρ) (fun M8 y8 hR8 hS8 hy8 => ?_) 2700 0 M7 (ρ 0) (by omega) hR7.toY hS7 (fun q hq => by omega)⟩
      have yy : ∀ k, k < 2700 → y8 k = σ 0 k := fun k hk => by rw [hy8 k hk, rr 2 (by omega) (by omega) (by omega) (by omega), zuf_self]; exact hy k hk
      have p1 : zuf ρ 0 y8 1 = σ 1 := (zuf_ne _ _ (by omega)).trans ((rr 1 (by omega) (by omega) (by omega) (by omega)).trans (zuf_ne _ _ (by omega)))
      have p123 : zuf ρ 0 y8 12 3 = σ 12 3 := r12 3 (by omega) (by omega) (by omega)
      have hTR : TR t (zuf ρ 0 y8) := (show TR t (zuf σ 2 y) from ht).rs (fun j a1 a2 a3 a4 => by rw [zuf_ne _ _ a1]; exact rr j a1 a2 a3 a4) r12
      have fin : ∀ v : Int32, v = c3 13 q → (some (Value.int v) = some (.int (c3 13 q)) ∧ n ≤ n + 9 ∧ w ≤ w + 1000 ∧ ∃ σ', Inv L xs M8 σ' n w) := fun v hv => ⟨by rw [hv], by omega, by omega, _, inv_of hR8 hS8 ⟨hT.same (fun k hk => hF3 k (by omega)), hG0.same (fun k a b => hF3 k (by omega)), hG1.same (fun k a b => hF3 k (by omega)), hG3⟩ ((hg.mv (fun k a b => hF3 k (by omega)) (Nat.le_refl _)).ext yy) (fun h => by rw [p1]; exact (hk (by rw [← p123]; exact h)).mv (fun k a b => hF3 k (by omega)) (Nat.le_refl _)) hTR (fun k hk => by rw [hF3 k (by omega)]; exact hx k hk) hn⟩
      have u27 : ∀ y, zuf ρ 0 y 12 27 = R.2.2.1 := fun _ => r27
      have u28 : ∀ y, zuf ρ 0 y 12 28 = R.2.2.2.1 := fun _ => r28
      match q, hq, fin, v0, v1, v2, v3 with
      | 0, _, fin, v0, v1, v2, v3 =>
        repeat (first | ((with_reducible refine zR.stored ?_); dsimp only [zsto, zclr, zset, zget, zc2, cond_false, cond_true]) | ((with_reducible refine zR.atLit ?_); first | refine zR.step rfl ?_) | rw [zcc1] | rw [zcc2] | rw [zcc3] | rw [zcc4] | rw [zb1 (by decide)] | rw [zb2 (by decide)] | rw [zb3 (by decide)] | rw [zb4 (by decide)] | rw [zn1 (by decide)] | rw [zn2 (by decide)] | rw [zn3 (by decide)] | rw [zn4 (by decide)] | rw [ze1 (by decide)] | rw [ze2 (by decide)] | rw [zd1 (by decide)] | rw [zd2 (by decide)] | rw [zswy (by decide)] | rw [zswn (by decide)] | rw [zsw0])
        exact zR.ret rfl rfl (fin _ v0.symm)
      | 1, _, fin, v0, v1, v2, v3 =>
        repeat (first | ((with_reducible refine zR.stored ?_); dsimp only [zsto, zclr, zset, zget, zc2, cond_false, cond_true]) | ((with_reducible refine zR.atLit ?_); first | refine zR.step rfl ?_ | (refine zR.getf rfl hR8.1 rfl ?_; rw [u27])) | rw [zcc1] | rw [zcc2] | rw [zcc3] | rw [zcc4] | rw [zb1 (by decide)] | rw [zb2 (by decide)] | rw [zb3 (by decide)] | rw [zb4 (by decide)] | rw [zn1 (by decide)] | rw [zn2 (by decide)] | rw [zn3 (by decide)] | rw [zn4 (by decide)] | rw [ze1 (by decide)] | rw [ze2 (by decide)] | rw [zd1 (by decide)] | rw [zd2 (by decide)] | rw [zswy (by decide)] | rw [zswn (by decide)] | rw [zsw0])
        exact zR.ret rfl rfl (fin _ v1.symm)
      | 2, _, fin, v0, v1, v2, v3 =>
        repeat (first | ((with_reducible refine zR.stored ?_); dsimp only [zsto, zclr, zset, zget, zc2, cond_false, cond_true]) | ((with_reducible refine zR.atLit ?_); first | refine zR.step rfl ?_ | (refine zR.getf rfl hR8.1 rfl ?_; rw [u28])) | rw [zcc1] | rw [zcc2] | rw [zcc3] | rw [zcc4] | rw [zb1 (by decide)] | rw [zb2 (by decide)] | rw [zb3 (by decide)] | rw [zb4 (by decide)] | rw [zn1 (by decide)] | rw [zn2 (by decide)] | rw [zn3 (by decide)] | rw [zn4 (by decide)] | rw [ze1 (by decide)] | rw [ze2 (by decide)] | rw [zd1 (by decide)] | rw [zd2 (by decide)] | rw [zswy (by decide)] | rw [zswn (by decide)] | rw [zsw0])
        exact zR.ret rfl rfl (fin _ v2.symm)
      | 3, _, fin, v0, v1, v2, v3 =>
        repeat (first | ((with_reducible refine zR.stored ?_); dsimp only [zsto, zclr, zset, zget, zc2, cond_false, cond_true]) | ((with_reducible refine zR.atLit ?_); first | refine zR.step rfl ?_) | rw [zcc1] | rw [zcc2] | rw [zcc3] | rw [zcc4] | rw [zb1 (by decide)] | rw [zb2 (by decide)] | rw [zb3 (by decide)] | rw [zb4 (by decide)] | rw [zn1 (by decide)] | rw [zn2 (by decide)] | rw [zn3 (by decide)] | rw [zn4 (by decide)] | rw [ze1 (by decide)] | rw [ze2 (by decide)] | rw [zd1 (by decide)] | rw [zd2 (by decide)] | rw [zswy (by decide)] | rw [zswn (by decide)] | rw [zsw0])
        exact zR.ret rfl rfl (fin _ v3.symm)
      | q + 4, h, _, _, _, _, _ => exact absurd h (by omega)
    · replace e2 : inI b 0 3 = 0 := e2
      repeat (first | ((with_reducible refine zR.stored ?_); dsimp only [zsto, zclr, zset, zget, zc2, cond_false, cond_true]) | ((with_reducible refine zR.atLit ?_); first | refine zR.step rfl ?_ | refine zR.cs rfl rfl rfl rfl rfl (zCalP.of (c_isWithin _ _ _) ?_)) | rw [zcc1] | rw [zcc2] | rw [zcc3] | rw [zcc4] | rw [e] | rw [e2])
      refine zR.ret rfl rfl ⟨_, rfl, ⟨_, hR.1⟩, rfl, ?_⟩
      show zR ztb _ kX12_ahead 1 0 [some (.ref 287), some (.int (nI m)), some (.int b), none, none, none] [] _ _ _ _
      repeat (first | ((with_reducible refine zR.stored ?_); dsimp only [zsto, zclr, zset, zget, zc2, cond_false, cond_true]) | ((with_reducible refine zR.atLit ?_); first | refine zR.step rfl ?_ | refine zR.cs rfl rfl rfl rfl rfl (zCalP.of (c_in _ _ _) ?_)) | rw [zcc1] | rw [zcc2] | rw [zcc3] | rw [zcc4] | rw [e] | rw [e2])
      exact zR.ret rfl rfl ⟨rfl, by omega, by omega, σ, hI'⟩
  · replace e : inI a 1 10 = 0 := e
    repeat (first | ((with_reducible refine zR.stored ?_); dsimp only [zsto, zclr, zset, zget, zc2, cond_false, cond_true]) | ((with_reducible refine zR.atLit ?_); first | refine zR.step rfl ?_ | refine zR.cs rfl rfl rfl rfl rfl (zCalP.of (c_isWithin _ _ _) ?_)) | rw [zcc1] | rw [zcc2] | rw [zcc3] | rw [zcc4] | rw [e])
    refine zR.ret rfl rfl ⟨_, rfl, ⟨_, hR.1⟩, rfl, ?_⟩
    show zR ztb _ kX12_ahead 1 0 [some (.ref 287), some (.int a), some (.int b), none, none, none] [] _ _ _ _
    repeat (first | ((with_reducible refine zR.stored ?_); dsimp only [zsto, zclr, zset, zget, zc2, cond_false, cond_true]) | ((with_reducible refine zR.atLit ?_); first | refine zR.step rfl ?_ | refine zR.cs rfl rfl rfl rfl rfl (zCalP.of (c_in _ _ _) ?_)) | rw [zcc1] | rw [zcc2] | rw [zcc3] | rw [zcc4] | rw [e])
    exact zR.ret rfl rfl ⟨rfl, by omega, by omega, σ, hI'⟩
