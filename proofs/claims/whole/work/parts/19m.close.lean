
/-! A WEEK: the closing, as loops. -/
def endN (s : Nat → Int32) : Nat → (Nat → Int32)
  | 0 => s
  | b + 1 => endS (endN s b) b
def lossN (s : Nat → Int32) : Nat → Int32
  | 0 => 0
  | b + 1 => if endN s b (150 + 10 * b + 0) = -1 then lossN s b else lossN s b + enXs (endN s b) b
theorem GE.cb {b q : Nat} {M : zM} {n : Nat} {c : mS} {kp bt : Nat → Option Nat} {la : Nat} {s : Nat → Int32} (h : GE b M n c kp bt la s) (h1 : b ≤ q) (h2 : q < 8) : s (150 + 10 * q) = -1 ∨ ∃ i, i < 8 ∧ s (150 + 10 * q) = nI i := by
  obtain ⟨nc, nh, nl, lm, wk, g1, g2, g3, g4, -⟩ := h
  rcases (g4 q h1 h2).1 with z | ⟨i, a, z1, z2, -⟩
  · exact Or.inl z.1
  · exact Or.inr ⟨i, by have := g1.2.1; omega, z2⟩
theorem cb_loop {M0 : zM} {g : Nat} {c0 : mS} {kp : Nat → Option Nat} {la : Nat} {s : Nat → Int32} {d n w nn : Nat} {Q : Option Value → Nat → Nat → zM → Prop} (hg : g + 76 ≤ 300) (hQ : ∀ M c bt, Gc M g c kp bt la → (∀ k, k < g ∨ g + 76 ≤ k → M k = M0 k) → GE 8 M0 nn c kp bt la (endN s 8) → c 13 3 = c0 13 3 + lossN s 8 → (∀ k, k < 3 → c 13 k = c0 13 k) → Q none n w M) : ∀ (t b : Nat) (M : zM) (c : mS) (bt : Nat → Option Nat) (x2 x3 : Option Value), b + t = 8 → Gc M g c kp bt la → (∀ k, k < g ∨ g + 76 ≤ k → M k = M0 k) → GE b M0 nn c kp bt la (endN s b) → c 13 3 = c0 13 3 + lossN s b → (∀ k, k < 3 → c 13 k = c0 13 k) → zR ztb (d + 2) kX2_closeBeds 0 2 [some (.ref g), some (.int (nI b)), x2, x3] [] n w M Q
  | 0, b, M, c, bt, x2, x3, h, hG, hF, hE, h3, hk => by
    have e2 : b = 8 := by omega
    subst e2
    have e : ¬ nI 8 < 8 := by decide
    repeat (first | ((with_reducible refine zR.stored ?_); dsimp only [zsto, zclr, zset, zget, zc2, cond_false, cond_true]) | ((with_reducible refine zR.atLit ?_); first | refine zR.step rfl ?_) | rw [zcc1] | rw [zcc2] | rw [zcc3] | rw [zcc4] | rw [zn1 (e)] | rw [zn2 (e)] | rw [zn3 (e)] | rw [zn4 (e)])
    exact zR.ret rfl rfl (hQ M c bt hG hF hE h3 hk)
  | t + 1, b, M, c, bt, x2, x3, h, hG, hF, hE, h3, hk => by
    have e : nI b < 8 := zI_ylt (b := 8) (by omega) (by omega)
    have hb : b < 8 := by omega
    have hE' := hE
    obtain ⟨nc, nh, nl, lm, wk, g1, g2, g3, g4, -⟩ := hE'
    have h8 := g1.2.1
    have pk := g4 b (Nat.le_refl b) hb
    refine zR.step rfl ?_
    rcases pk.cell hG hF hg hb with ⟨z0, z4, -, hbm⟩ | ⟨i, a, hi, hi0, hbt, ha, hbm, hcm⟩
    · have ih := cb_loop (d := d) hg hQ t (b + 1) M c bt (some .null) x3 (by omega) hG hF (by show GE (b + 1) M0 nn c kp bt la (endS (endN s b) b); unfold endS; rw [if_pos z0]; exact hE.bare hb z0) (by rw [h3, show lossN s (b + 1) = lossN s b from if_pos z0]) hk
      rw [← zI_s] at ih
      repeat (first | with_reducible refine zR.hold (pc := 2) ?_ | ((with_reducible refine zR.stored ?_); dsimp only [zsto, zclr, zset, zget, zc2, cond_false, cond_true]) | ((with_reducible refine zR.atLit ?_); first | refine zR.step rfl ?_ | refine zR.getf rfl (hG.o) rfl ?_ | (refine zR.aald rfl hG.br (Or.inr (Or.inl rfl)) (i := b) rfl hb (by decide) ?_; rw [brow_y hb]) | refine zR.getf rfl hbm rfl ?_) | rw [zcc1] | rw [zcc2] | rw [zcc3] | rw [zcc4] | rw [zb1 (e)] | rw [zb2 (e)] | rw [zb3 (e)] | rw [zb4 (e)])
      exact ⟨trivial, ih⟩
    · have hcr : ∀ v : zC, zup M (g + 18 + b) v a = _ := fun v => (zup_ne _ _ (by omega)).trans hcm
      have h01 : endN s b (50 + 10 * i + 0) = 0 ∨ endN s b (50 + 10 * i + 0) = 1 → endN s b (150 + 10 * b + 8) = 1 ∨ endN s b (150 + 10 * b + 4) = 0 := by
        rcases pk.1 with ⟨z, -⟩ | ⟨j, a', e1, e2, e3, e4, e5, e6⟩
        · exact absurd (hi0.symm.trans z) (zI_m1 (by omega))
        · have ej : j = i := zn_inj (by omega) (by omega) (e2.symm.trans hi0)
          subst ej
          exact e6
      have h9 := pk.2.2.2.2.2
      have ezz : enZ (endN s b (50 + 10 * i + 0)) (endN s b (50 + 10 * i + 3)) (endN s b (150 + 10 * b + 3)) (endN s b (150 + 10 * b + 4)) (endN s b (150 + 10 * b + 8)) (some a) = endZ (endN s b) b i (bt b) := by rw [hbt]; rfl
      have ell : enL (endN s b (50 + 10 * i + 0)) (endN s b (50 + 10 * i + 3)) (nI i) (endN s b (150 + 10 * b + 1)) (endN s b (150 + 10 * b + 2)) (endN s b (150 + 10 * b + 3)) (endN s b (150 + 10 * b + 4)) (endN s b (150 + 10 * b + 5)) (endN s b (150 + 10 * b + 6)) (endN s b (150 + 10 * b + 7)) (endN s b (150 + 10 * b + 8)) (endN s b (150 + 10 * b + 9)) = ELs (endN s b) b := by
        unfold ELs
        rw [hi0, nI_clamp (by omega)]
      have exx : enX (endN s b (50 + 10 * i + 0)) (endN s b (150 + 10 * b + 4)) (endN s b (150 + 10 * b + 8)) = enXs (endN s b) b := by
        unfold enXs
        rw [hi0, nI_clamp (by omega)]
      have cc := fun {d n w : Nat} => c_closeWeek (d := d) (n := n) (w := w) (r0 := nI i) hbm hcm (by omega) rfl h01 h9
      rw [bofL_en, ezz, ell, exx] at cc
      have hG1 := hG.upB hb (endZ (endN s b) b i (bt b)) (lfn (ELs (endN s b) b) (c (20 + b) 8))
      have hc1 := hcr (.inr (0, bof (endZ (endN s b) b i (bt b)) (lfn (ELs (endN s b) b) (c (20 + b) 8))))
      repeat (first | ((with_reducible refine zR.stored ?_); dsimp only [zsto, zclr, zset, zget, zc2, cond_false, cond_true]) | ((with_reducible refine zR.atLit ?_); first | refine zR.step rfl ?_ | refine zR.getf rfl (hG.o) rfl ?_ | (refine zR.aald rfl hG.br (Or.inr (Or.inl rfl)) (i := b) rfl hb (by decide) ?_; rw [brow_y hb]) | refine zR.getf rfl hbm rfl ?_ | refine zR.cv rfl rfl rfl hbm rfl rfl (zCalP.of cc ?_) | refine zR.getf rfl (hG1.o) rfl ?_ | refine zR.getf rfl hc1 rfl ?_ | refine zR.iald rfl hG1.s2 (Or.inl rfl) (i := i) rfl (by omega) (by decide) ?_) | rw [zcc1] | rw [zcc2] | rw [zcc3] | rw [zcc4] | rw [zb1 (e)] | rw [zb2 (e)] | rw [zb3 (e)] | rw [zb4 (e)])
      refine zR.iast rfl hG1.s2 (i := i) rfl (by omega) (by decide) ?_
      rw [show zuf c (20 + b) (lfn (ELs (endN s b) b) (c (20 + b) 8)) 10 = c 10 from zuf_ne _ _ (by omega)]
      have hG2 := hG1.upS (j := 2) (by omega) (zuf (c 10) i (c 10 i + enXs (endN s b) b))
      repeat (first | ((with_reducible refine zR.stored ?_); dsimp only [zsto, zclr, zset, zget, zc2, cond_false, cond_true]) | ((with_reducible refine zR.atLit ?_); first | refine zR.step rfl ?_ | refine zR.getf rfl (hG2.o) rfl ?_ | refine zR.iald rfl hG2.su (Or.inl rfl) (i := 3) rfl (by omega) (by decide) ?_) | rw [zcc1] | rw [zcc2] | rw [zcc3] | rw [zcc4])
      refine zR.iast rfl hG2.su (i := 3) rfl (by omega) (by decide) ?_
      have e13 : zuf (zuf c (20 + b) (lfn (ELs (endN s b) b) (c (20 + b) 8))) (8 + 2) (zuf (c 10) i (c 10 i + enXs (endN s b) b)) 13 = c 13 := by rw [zuf_ne _ _ (by omega), zuf_ne _ _ (by omega)]
      rw [e13]
      have hG3 := hG2.upSu (zuf (c 13) 3 (c 13 3 + enXs (endN s b) b))
      have ih := cb_loop (d := d) hg hQ t (b + 1) _ (endC c (endN s b) b i) _ (some (.ref a)) (some (.int (enXs (endN s b) b))) (by omega) hG3 (fun k hk => by rw [zup_ne _ _ (by omega), zup_ne _ _ (by omega), zup_ne _ _ (by omega)]; exact hF k hk) (hE.close hb hi0 (by omega)) (by
        show zuf (c 13) 3 (c 13 3 + enXs (endN s b) b) 3 = _
        rw [zuf_self, h3]
        rw [lossN, if_neg (by rw [hi0]; exact zI_m1 (by omega)), Int32.add_assoc]) (fun k h => by
        show zuf (c 13) 3 (c 13 3 + enXs (endN s b) b) k = _
        rw [zuf_ne _ _ (by omega)]
        exact hk k h)
      rw [← zI_s] at ih
      repeat (first | with_reducible refine zR.hold (pc := 2) ?_ | ((with_reducible refine zR.stored ?_); dsimp only [zsto, zclr, zset, zget, zc2, cond_false, cond_true]) | ((with_reducible refine zR.atLit ?_); first | refine zR.step rfl ?_) | rw [zcc1] | rw [zcc2] | rw [zcc3] | rw [zcc4])
      exact ⟨trivial, ih⟩
theorem c_closeBeds {M M0 : zM} {g : Nat} {c : mS} {kp bt : Nat → Option Nat} {la : Nat} {s : Nat → Int32} {d n w nn : Nat} (hg : g + 76 ≤ 300) (hG : Gc M g c kp bt la) (hF : ∀ k, k < g ∨ g + 76 ≤ k → M k = M0 k) (hK : GK M0 nn c kp bt la s) : zCalP (d + 2) 26 [.ref g] n w M (fun v n' w' M' => v = none ∧ n = n' ∧ w = w' ∧ ∃ c' bt', Gc M' g c' kp bt' la ∧ (∀ k, k < g ∨ g + 76 ≤ k → M' k = M0 k) ∧ GR M0 nn c' kp bt' la (endN s 8) ∧ c' 13 3 = c 13 3 + lossN s 8 ∧ ∀ k, k < 3 → c' 13 k = c 13 k) := by
  show zR ztb _ kX2_closeBeds 0 0 [some (.ref g), none, none, none] [] _ _ _ _
  repeat (first | with_reducible refine zR.hold (pc := 2) ?_ | ((with_reducible refine zR.stored ?_); dsimp only [zsto, zclr, zset, zget, zc2, cond_false, cond_true]) | ((with_reducible refine zR.atLit ?_); first | refine zR.step rfl ?_) | rw [zcc1] | rw [zcc2] | rw [zcc3] | rw [zcc4])
  exact ⟨trivial, cb_loop (s := s) hg (fun M' c' bt' a1 a2 a3 a4 a5 => ⟨rfl, rfl, rfl, c', bt', a1, a2, a3.gr, a4, a5⟩) 8 0 M c bt none none (by omega) hG hF hK.ge (by rw [lossN, Int32.add_zero]) (fun _ _ => rfl)⟩
theorem endS_at {s : Nat → Int32} {b k : Nat} (hk : ¬ (150 + 10 * b ≤ k ∧ k < 160 + 10 * b)) (h7 : ¬ (57 ≤ k ∧ k < 137 ∧ k % 10 = 7)) (hc : s (150 + 10 * b) = -1 ∨ ∃ i, i < 8 ∧ s (150 + 10 * b) = nI i) : endS s b k = s k := by
  rcases hc with h | ⟨i, hi, h⟩
  · unfold endS
    rw [if_pos (show s (150 + 10 * b + 0) = -1 from h)]
  · exact endS_ne h hi k hk (by omega)
theorem endN_at {s : Nat → Int32} (hc : ∀ b, b < 8 → s (150 + 10 * b) = -1 ∨ ∃ i, i < 8 ∧ s (150 + 10 * b) = nI i) : ∀ b, b ≤ 8 → ∀ k, ¬ (150 ≤ k ∧ k < 150 + 10 * b) → ¬ (57 ≤ k ∧ k < 137 ∧ k % 10 = 7) → endN s b k = s k
  | 0, _, _, _, _ => rfl
  | b + 1, h, k, h1, h2 => by
    have e := endN_at hc b (by omega) (150 + 10 * b) (by omega) (by omega)
    rw [endN, endS_at (by omega) h2 (by rw [e]; exact hc b (by omega))]
    exact endN_at hc b (by omega) k (by omega) h2
theorem w0_ends {M0 : zM} {σ : mS} {s : Nat → Int32} {d n w : Nat} {Q : Option Value → Nat → Nat → zM → Prop} (hc : ∀ b, b < 8 → s (150 + 10 * b) = -1 ∨ ∃ i, i < 8 ∧ s (150 + 10 * b) = nI i) (hQ : ∀ M, Rf M (zuf σ 0 (endN s 8)) → Sm M0 M → zR ztb (d + 3) kX12_week0 1 42 [some (.ref 287), some (.int (nI 8)), none, none, none, none] [] n w M Q) : ∀ (t b : Nat) (M : zM), b + t = 8 → Rf M (zuf σ 0 (endN s b)) → Sm M0 M → zR ztb (d + 3) kX12_week0 1 25 [some (.ref 287), some (.int (nI b)), none, none, none, none] [] n w M Q
  | 0, b, M, h, hR, hS => by
    have e2 : b = 8 := by omega
    subst e2
    have e : ¬ nI 8 < 8 := by decide
    repeat (first | with_reducible refine zR.hold (pc := 42) ?_ | ((with_reducible refine zR.stored ?_); dsimp only [zsto, zclr, zset, zget, zc2, cond_false, cond_true]) | ((with_reducible refine zR.atLit ?_); first | refine zR.step rfl ?_) | rw [zcc1] | rw [zcc2] | rw [zcc3] | rw [zcc4] | rw [zn1 (e)] | rw [zn2 (e)] | rw [zn3 (e)] | rw [zn4 (e)])
    exact ⟨trivial, hQ M hR hS⟩
  | t + 1, b, M, h, hR, hS => by
    have e : nI b < 8 := zI_ylt (b := 8) (by omega) (by omega)
    have eb := endN_at hc b (by omega) (150 + 10 * b) (by omega) (by omega)
    refine zR.step rfl ?_
    repeat (first | ((with_reducible refine zR.stored ?_); dsimp only [zsto, zclr, zset, zget, zc2, cond_false, cond_true]) | ((with_reducible refine zR.atLit ?_); first | refine zR.step rfl ?_) | rw [zcc1] | rw [zcc2] | rw [zcc3] | rw [zcc4] | rw [zb1 (e)] | rw [zb2 (e)] | rw [zb3 (e)] | rw [zb4 (e)])
    refine zR.cv rfl rfl rfl hR.1 rfl rfl (zR.mono (c_ends hR hS (by omega) (by rw [eb]; exact hc b (by omega))) (fun v n1 w1 M1 hv => ?_))
    obtain ⟨rfl, rfl, rfl, hS1, hR1⟩ := hv
    have ih := w0_ends (d := d) hc hQ t (b + 1) M1 (by omega) hR1 hS1
    rw [← zI_s] at ih
    repeat (first | with_reducible refine zR.hold (pc := 25) ?_ | ((with_reducible refine zR.stored ?_); dsimp only [zsto, zclr, zset, zget, zc2, cond_false, cond_true]) | ((with_reducible refine zR.atLit ?_); first | refine zR.step rfl ?_) | rw [zcc1] | rw [zcc2] | rw [zcc3] | rw [zcc4])
    exact ⟨trivial, ih⟩
/-- all that is lost -/
def lostSum (s : Nat → Int32) : Nat → Int32
  | 0 => 0
  | m + 1 => lostSum s m + s (50 + 10 * m + 7)
theorem lostSum_cg {s s' : Nat → Int32} : ∀ m, (∀ i, i < m → s' (50 + 10 * i + 7) = s (50 + 10 * i + 7)) → lostSum s' m = lostSum s m
  | 0, _ => rfl
  | m + 1, h => by
    unfold lostSum
    rw [lostSum_cg m (fun i hi => h i (by omega)), h m (by omega)]
theorem lostSum_add {s s' : Nat → Int32} {i : Nat} {x : Int32} : ∀ m, i < m → (∀ j, j < m → j ≠ i → s' (50 + 10 * j + 7) = s (50 + 10 * j + 7)) → s' (50 + 10 * i + 7) = s (50 + 10 * i + 7) + x → lostSum s' m = lostSum s m + x
  | 0, h, _, _ => absurd h (by omega)
  | m + 1, h, h1, h2 => by
    unfold lostSum
    by_cases e : i = m
    · subst e
      rw [lostSum_cg i (fun j hj => h1 j (by omega) (by omega)), h2, Int32.add_assoc]
    · rw [lostSum_add m (by omega) (fun j hj => h1 j (by omega)) h2, h1 m (by omega) (fun z => e z.symm), Int32.add_assoc, Int32.add_assoc, Int32.add_comm x]
theorem lossN_sum {s : Nat → Int32} {nc : Nat} (h8 : nc ≤ 8) (hc : ∀ b, b < 8 → s (150 + 10 * b) = -1 ∨ ∃ i, i < nc ∧ s (150 + 10 * b) = nI i) : ∀ b, b ≤ 8 → lostSum (endN s b) nc = lostSum s nc + lossN s b
  | 0, _ => by rw [lossN, Int32.add_zero]; rfl
  | b + 1, h => by
    have hc' : ∀ b, b < 8 → s (150 + 10 * b) = -1 ∨ ∃ i, i < 8 ∧ s (150 + 10 * b) = nI i := fun b hb => (hc b hb).imp id (fun ⟨i, h1, h2⟩ => ⟨i, by omega, h2⟩)
    have eb := endN_at hc' b (by omega) (150 + 10 * b) (by omega) (by omega)
    have ih := lossN_sum h8 hc b (by omega)
    rw [endN, lossN]
    rcases hc b (by omega) with z | ⟨i, hi, z⟩
    · rw [← eb] at z
      rw [if_pos (show endN s b (150 + 10 * b + 0) = -1 from z), ← ih]
      unfold endS
      rw [if_pos (show endN s b (150 + 10 * b + 0) = -1 from z)]
    · rw [← eb] at z
      have z' : endN s b (150 + 10 * b + 0) = nI i := z
      rw [if_neg (by rw [z']; exact zI_m1 (by omega)), ← Int32.add_assoc, ← ih]
      refine lostSum_add nc hi (fun j hj hji => endS_ne z' (by omega) _ (by omega) (by omega)) ?_
      rw [endS_y z' (by omega), setB_ne (by omega)]
      exact zuf_self _ _ _
