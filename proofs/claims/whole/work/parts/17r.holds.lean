
/-! holds. -/
theorem c_lineHolds {M : zM} {σ : mS} {d n w nl h b e l : Nat} (hR : Rf M σ) (h3 : σ 0 3 = nI nl) (hnl : nl ≤ 240) (hh : h < 10) (hbe : b ≤ e) (he : e ≤ 100) (hl : l < 20) (f2 : σ 0 (2102 + 4 * l) = nI b) (f3 : σ 0 (2103 + 4 * l) = nI e) (hwf : b = e ∨ wfS (σ 0) (e - b) b 0) (hc : ∀ k, k < e → (σ 0 (2200 + 4 * k) = 6 ∨ σ 0 (2200 + 4 * k) = 7 → ∃ i, i < 8 ∧ σ 0 (2201 + 4 * k) = nI i)) : zCalP (d + 3) 173 [.ref 287, .int (nI l), .int (nI h)] n w M (fun v n' w' M' => v = some (.int (if encN (evS (σ 0) nl h (e - b) b []) % 2 = 1 then 1 else 0)) ∧ n = n' ∧ w = w' ∧ Sm M M' ∧ ∃ ρ, Rf M' ρ ∧ ∀ j, j ≠ 10 → ρ j = σ j) := by
  show zR ztb _ kX12_lineHolds 2 0 [some (.ref 287), some (.int (nI l)), some (.int (nI h)), none, none, none, none, none, none, none] [] _ _ _ _
  repeat (first | ((with_reducible refine zR.stored ?_); dsimp only [zsto, zclr, zset, zget, zc2, cond_false, cond_true]) | ((with_reducible refine zR.atLit ?_); first | refine zR.step rfl ?_ | refine zR.getf rfl (hR.1) rfl ?_ | (refine zR.ilR0 hR rfl (i := 2102 + 4 * l) (by simp only [zn_lit, zn_add, zn_mul]; exact congrArg nI (by omega)) (by omega) ?_; rw [f2]) | (refine zR.ilR0 hR rfl (i := 2103 + 4 * l) (by simp only [zn_lit, zn_add, zn_mul]; exact congrArg nI (by omega)) (by omega) ?_; rw [f3])) | rw [zcc1] | rw [zcc2] | rw [zcc3] | rw [zcc4])
  refine zR.isR10 hR Sm.rf rfl (i := 0) rfl (by omega) (fun M1 hR1 hS1 => ?_)
  repeat (first | with_reducible refine zR.hold (pc := 44) ?_ | ((with_reducible refine zR.stored ?_); dsimp only [zsto, zclr, zset, zget, zc2, cond_false, cond_true]) | ((with_reducible refine zR.atLit ?_); first | refine zR.step rfl ?_) | rw [zcc1] | rw [zcc2] | rw [zcc3] | rw [zcc4])
  refine ⟨trivial, lh_loop (e := e) (σ := σ) h3 hnl hh he hc (e - b) b [] M1 _ _ _ _ (by omega) (by decide) ?_ hR1 hS1 (fun j hj => zuf_ne _ _ hj) trivial (fun _ _ => ?_) (fun M' ρ' a1 a2 a3 => ⟨rfl, rfl, rfl, a2, ρ', a1, a3⟩)⟩
  · rcases hwf with z | z
    · exact Or.inl ⟨by omega, rfl⟩
    · exact Or.inr z
  · rw [zuf_self, zuf_self]
    decide
theorem TR.r10 {t σ ρ : mS} (h : TR t σ) (hr : ∀ j, j ≠ 10 → ρ j = σ j) : TR t ρ := by
  unfold TR
  rw [hr 12 (by omega), hr 3 (by omega), hr 7 (by omega), hr 4 (by omega), hr 5 (by omega), hr 6 (by omega)]
  exact h
theorem o_holds {L : Nat} {xs : Nat → Int32} : op_holds (Inv L xs) := by
  intro a b M σ n w hI
  have hI' := hI
  obtain ⟨t, tr, c0, c1, c2, k0, k1, k2, b0, b1, b2, l0, l1, l2, hR, ⟨hT, hG0, hG1, hG2⟩, hg, hk, ht, hx, hn⟩ := hI
  have h25 := hT.1
  have hg' := hg
  obtain ⟨nc, nh, nl, lm, wk, hN, ⟨hC, hCn⟩, hB, hL, hSt, hH, hW, hX⟩ := hg'
  obtain ⟨N1, N2, N3, N4, N5, N6, N7, N8, N9, N10, N11, N12, N13, N14, N15, N16, N17⟩ := hN
  obtain ⟨sc, r, en, x1, x2, x3, x4, x5, x6, x7, x8, x9⟩ := hX
  show zR ztb _ kX11_holds 1 0 [some (.ref 25), some (.int a), some (.int b), none] [] _ _ _ _
  rcases inI_sub b nh (by omega) with ⟨i, hi, rfl, e⟩ | ⟨-, e⟩
  · have ec : inI (nI i) 0 (c0 0 1 - 1) = 1 := by rw [N12, N3]; exact e
    have er : inI (nI i) 0 (σ 0 4 - 1) = 1 := by rw [N3]; exact e
    rcases inI_sub a lm (by omega) with ⟨l, hl, rfl, e2⟩ | ⟨-, e2⟩
    · have er2 : inI (nI l) 0 (σ 0 5 - 1) = 1 := by rw [N7]; exact e2
      obtain ⟨z1, z2, z3, z4, z5, z6, z7, z8⟩ := x8 l hl
      have hst : ∀ k, k < sc → stepR (r 3 k) (r 4 k) (r 5 k) (r 6 k) (σ 0 (2200 + 4 * k)) (σ 0 (2201 + 4 * k)) (σ 0 (2202 + 4 * k)) (σ 0 (2203 + 4 * k)) ∧ (σ 0 (2200 + 4 * k) = 6 ∨ σ 0 (2200 + 4 * k) = 7 → ∃ i, i < 8 ∧ σ 0 (2201 + 4 * k) = nI i) := fun k hk => ⟨(x9 k hk).1, fun q => by
        obtain ⟨j, y1, y2⟩ := (x9 k hk).2 q
        exact ⟨j, by omega, y2⟩⟩
      have hbeg : (l = 0 ∧ en l = 0) ∨ (0 < l ∧ r 2 (l - 1) = nI (en l)) := by
        rcases Nat.eq_zero_or_pos l with q | q
        · exact Or.inl ⟨q, by rw [q]; exact x6⟩
        · have := (x8 (l - 1) (by omega)).2.2.2.1
          rw [show l - 1 + 1 = l by omega] at this
          exact Or.inr ⟨q, this⟩
      obtain ⟨H1, H2, -⟩ := hH i hi
      have cm := fun {dd nn ww : Nat} => c_isMet (d := dd) (n := nn) (w := ww) (nl := nl) (h := i) (ln := l) hG0 x1 x5 N8 (by omega) z1 (x7 (l + 1) (by omega)) hl z4 hbeg z8 hst (fun q hq => (hSt q hq).1) N13 (fun q hq => (H2 q hq).1) (H1 0 (by omega))
      have hv : ∀ p : Prop, [Decidable p] → ((if p then (1 : Int32) else 0) = 0 ∨ (if p then (1 : Int32) else 0) = 1) := fun p _ => by
        by_cases q : p
        · rw [if_pos q]; exact Or.inr rfl
        · rw [if_neg q]; exact Or.inl rfl
      have hz := hv (encN (evS (σ 0) nl i (en (l + 1) - en l) (en l) []) % 2 = 1)
      repeat (first | ((with_reducible refine zR.stored ?_); dsimp only [zsto, zclr, zset, zget, zc2, cond_false, cond_true]) | ((with_reducible refine zR.atLit ?_); first | refine zR.step rfl ?_ | refine zR.getf rfl (h25) rfl ?_ | refine zR.getf rfl (hG0.o) rfl ?_ | refine zR.getf rfl (x1.1) rfl ?_ | refine zR.cv rfl rfl rfl hG0.o rfl rfl (zCalP.of (c_houseAt_y hG0 ec (by omega)) ?_) | refine zR.cs rfl rfl rfl rfl rfl (zCalP.of (c_isWithin _ _ _) ?_) | refine zR.cv rfl rfl rfl x1.1 rfl rfl (zCalP.of cm ?_)) | rw [zcc1] | rw [zcc2] | rw [zcc3] | rw [zcc4] | rw [e2])
      rcases hz with hz | hz
      · rw [hz]
        repeat (first | ((with_reducible refine zR.stored ?_); dsimp only [zsto, zclr, zset, zget, zc2, cond_false, cond_true]) | ((with_reducible refine zR.atLit ?_); first | refine zR.step rfl ?_) | rw [zcc1] | rw [zcc2] | rw [zcc3] | rw [zcc4])
        refine zR.ret rfl rfl ⟨_, rfl, ⟨_, hR.1⟩, rfl, ?_⟩
        show zR ztb _ kX12_holds 1 0 [some (.ref 287), some (.int (nI l)), some (.int (nI i))] [] _ _ _ _
        repeat (first | ((with_reducible refine zR.stored ?_); dsimp only [zsto, zclr, zset, zget, zc2, cond_false, cond_true]) | ((with_reducible refine zR.atLit ?_); first | refine zR.step rfl ?_ | refine zR.getf rfl (hR.1) rfl ?_ | refine zR.ilR0 hR rfl (by (try simp only [zn_lit, zn_add, zn_mul]); rfl) (by omega) ?_ | refine zR.cs rfl rfl rfl rfl rfl (zCalP.of (c_in _ _ _) ?_) | refine zR.cv rfl rfl rfl hR.1 rfl rfl (zCalP.of (c_isHouse hR _) ?_)) | rw [zcc1] | rw [zcc2] | rw [zcc3] | rw [zcc4] | rw [er2] | rw [er])
        refine zR.cv rfl rfl rfl hR.1 rfl rfl (zR.mono (c_lineHolds hR N5 N6 (by omega) z1 (Nat.le_trans (x7 (l + 1) (by omega)) x5) (by omega) z2 z3 z8 (fun k hk => (hst k (Nat.lt_of_lt_of_le hk (x7 (l + 1) (by omega)))).2)) (fun v n9 w9 M9 hv9 => ?_))
        obtain ⟨rfl, rfl, rfl, hS9, ρ, hR9, hr9⟩ := hv9
        rw [hz]
        repeat (first | ((with_reducible refine zR.stored ?_); dsimp only [zsto, zclr, zset, zget, zc2, cond_false, cond_true]) | ((with_reducible refine zR.atLit ?_); first | refine zR.step rfl ?_) | rw [zcc1] | rw [zcc2] | rw [zcc3] | rw [zcc4])
        refine zR.ret rfl rfl ⟨rfl, by omega, by omega, ρ, inv_of hR9 hS9 ⟨hT, hG0, hG1, hG2⟩ (by rw [hr9 0 (by omega)]; exact hg) (fun q => by rw [hr9 1 (by omega)]; exact hk (by rw [← hr9 12 (by omega)]; exact q)) (ht.r10 hr9) hx hn⟩
      · rw [hz]
        repeat (first | ((with_reducible refine zR.stored ?_); dsimp only [zsto, zclr, zset, zget, zc2, cond_false, cond_true]) | ((with_reducible refine zR.atLit ?_); first | refine zR.step rfl ?_) | rw [zcc1] | rw [zcc2] | rw [zcc3] | rw [zcc4])
        refine zR.ret rfl rfl ⟨_, rfl, ⟨_, hR.1⟩, rfl, ?_⟩
        show zR ztb _ kX12_holds 1 0 [some (.ref 287), some (.int (nI l)), some (.int (nI i))] [] _ _ _ _
        repeat (first | ((with_reducible refine zR.stored ?_); dsimp only [zsto, zclr, zset, zget, zc2, cond_false, cond_true]) | ((with_reducible refine zR.atLit ?_); first | refine zR.step rfl ?_ | refine zR.getf rfl (hR.1) rfl ?_ | refine zR.ilR0 hR rfl (by (try simp only [zn_lit, zn_add, zn_mul]); rfl) (by omega) ?_ | refine zR.cs rfl rfl rfl rfl rfl (zCalP.of (c_in _ _ _) ?_) | refine zR.cv rfl rfl rfl hR.1 rfl rfl (zCalP.of (c_isHouse hR _) ?_)) | rw [zcc1] | rw [zcc2] | rw [zcc3] | rw [zcc4] | rw [er2] | rw [er])
        refine zR.cv rfl rfl rfl hR.1 rfl rfl (zR.mono (c_lineHolds hR N5 N6 (by omega) z1 (Nat.le_trans (x7 (l + 1) (by omega)) x5) (by omega) z2 z3 z8 (fun k hk => (hst k (Nat.lt_of_lt_of_le hk (x7 (l + 1) (by omega)))).2)) (fun v n9 w9 M9 hv9 => ?_))
        obtain ⟨rfl, rfl, rfl, hS9, ρ, hR9, hr9⟩ := hv9
        rw [hz]
        repeat (first | ((with_reducible refine zR.stored ?_); dsimp only [zsto, zclr, zset, zget, zc2, cond_false, cond_true]) | ((with_reducible refine zR.atLit ?_); first | refine zR.step rfl ?_) | rw [zcc1] | rw [zcc2] | rw [zcc3] | rw [zcc4])
        refine zR.ret rfl rfl ⟨rfl, by omega, by omega, ρ, inv_of hR9 hS9 ⟨hT, hG0, hG1, hG2⟩ (by rw [hr9 0 (by omega)]; exact hg) (fun q => by rw [hr9 1 (by omega)]; exact hk (by rw [← hr9 12 (by omega)]; exact q)) (ht.r10 hr9) hx hn⟩
    · have er2 : inI a 0 (σ 0 5 - 1) = 0 := by rw [N7]; exact e2
      repeat (first | ((with_reducible refine zR.stored ?_); dsimp only [zsto, zclr, zset, zget, zc2, cond_false, cond_true]) | ((with_reducible refine zR.atLit ?_); first | refine zR.step rfl ?_ | refine zR.getf rfl (h25) rfl ?_ | refine zR.getf rfl (hG0.o) rfl ?_ | refine zR.getf rfl (x1.1) rfl ?_ | refine zR.cv rfl rfl rfl hG0.o rfl rfl (zCalP.of (c_houseAt_y hG0 ec (by omega)) ?_) | refine zR.cs rfl rfl rfl rfl rfl (zCalP.of (c_isWithin _ _ _) ?_)) | rw [zcc1] | rw [zcc2] | rw [zcc3] | rw [zcc4] | rw [e2])
      refine zR.ret rfl rfl ⟨_, rfl, ⟨_, hR.1⟩, rfl, ?_⟩
      show zR ztb _ kX12_holds 1 0 [some (.ref 287), some (.int a), some (.int (nI i))] [] _ _ _ _
      repeat (first | ((with_reducible refine zR.stored ?_); dsimp only [zsto, zclr, zset, zget, zc2, cond_false, cond_true]) | ((with_reducible refine zR.atLit ?_); first | refine zR.step rfl ?_ | refine zR.getf rfl (hR.1) rfl ?_ | refine zR.ilR0 hR rfl (by (try simp only [zn_lit, zn_add, zn_mul]); rfl) (by omega) ?_ | refine zR.cs rfl rfl rfl rfl rfl (zCalP.of (c_in _ _ _) ?_)) | rw [zcc1] | rw [zcc2] | rw [zcc3] | rw [zcc4] | rw [er2])
      refine zR.ret rfl rfl ⟨rfl, by omega, by omega, σ, hI'⟩
  · have ec : inI b 0 (c0 0 1 - 1) = 0 := by rw [N12, N3]; exact e
    have er : inI b 0 (σ 0 4 - 1) = 0 := by rw [N3]; exact e
    repeat (first | ((with_reducible refine zR.stored ?_); dsimp only [zsto, zclr, zset, zget, zc2, cond_false, cond_true]) | ((with_reducible refine zR.atLit ?_); first | refine zR.step rfl ?_ | refine zR.getf rfl (h25) rfl ?_ | refine zR.cv rfl rfl rfl hG0.o rfl rfl (zCalP.of (c_houseAt_n hG0 ec) ?_)) | rw [zcc1] | rw [zcc2] | rw [zcc3] | rw [zcc4])
    refine zR.ret rfl rfl ⟨_, rfl, ⟨_, hR.1⟩, rfl, ?_⟩
    show zR ztb _ kX12_holds 1 0 [some (.ref 287), some (.int a), some (.int b)] [] _ _ _ _
    rcases inI_01 a 0 (σ 0 5 - 1) with z | z
    · repeat (first | ((with_reducible refine zR.stored ?_); dsimp only [zsto, zclr, zset, zget, zc2, cond_false, cond_true]) | ((with_reducible refine zR.atLit ?_); first | refine zR.step rfl ?_ | refine zR.getf rfl (hR.1) rfl ?_ | refine zR.ilR0 hR rfl (by (try simp only [zn_lit, zn_add, zn_mul]); rfl) (by omega) ?_ | refine zR.cs rfl rfl rfl rfl rfl (zCalP.of (c_in _ _ _) ?_)) | rw [zcc1] | rw [zcc2] | rw [zcc3] | rw [zcc4] | rw [z])
      refine zR.ret rfl rfl ⟨rfl, by omega, by omega, σ, hI'⟩
    · repeat (first | ((with_reducible refine zR.stored ?_); dsimp only [zsto, zclr, zset, zget, zc2, cond_false, cond_true]) | ((with_reducible refine zR.atLit ?_); first | refine zR.step rfl ?_ | refine zR.getf rfl (hR.1) rfl ?_ | refine zR.ilR0 hR rfl (by (try simp only [zn_lit, zn_add, zn_mul]); rfl) (by omega) ?_ | refine zR.cs rfl rfl rfl rfl rfl (zCalP.of (c_in _ _ _) ?_) | refine zR.cv rfl rfl rfl hR.1 rfl rfl (zCalP.of (c_isHouse hR _) ?_)) | rw [zcc1] | rw [zcc2] | rw [zcc3] | rw [zcc4] | rw [z] | rw [er])
      refine zR.ret rfl rfl ⟨rfl, by omega, by omega, σ, hI'⟩
