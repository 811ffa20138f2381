
/-! feed: bits. -/
theorem fd_bv (x : BitVec 64) (n : Nat) (hn : n ≤ 56) : BitVec.signExtend 32 (BitVec.signExtend 8 (BitVec.signExtend 32 (BitVec.signExtend 8 (BitVec.signExtend 32 (x >>> n))))) &&& 255#32 = BitVec.signExtend 32 (x.sshiftRight n &&& 255#64) := by
  apply BitVec.eq_of_getLsbD_eq
  intro i hi
  have t1 : (255#32).getLsbD i = decide (i < 8) := by
    rw [BitVec.getLsbD_ofNat, show (255 : Nat) = 2 ^ 8 - 1 by decide, Nat.testBit_two_pow_sub_one]
    simp [hi]
  have t2 : (255#64).getLsbD i = decide (i < 8) := by
    rw [BitVec.getLsbD_ofNat, show (255 : Nat) = 2 ^ 8 - 1 by decide, Nat.testBit_two_pow_sub_one]
    simp [show i < 64 by omega]
  have h64 : i < 64 := by omega
  by_cases h : i < 8
  · have hni : n + i < 64 := by omega
    have hni2 : ¬ 64 ≤ i := by omega
    simp only [BitVec.getLsbD_and, BitVec.getLsbD_signExtend, t1, t2, BitVec.getLsbD_ushiftRight, BitVec.getLsbD_sshiftRight, h, hi, h64, hni, hni2, decide_true, if_true, Bool.true_and, Bool.and_true, decide_false, Bool.not_false]
  · simp only [BitVec.getLsbD_and, BitVec.getLsbD_signExtend, t1, t2, h, h64, decide_false, if_true, Bool.and_false, if_pos]
def fdC (b : Int64) (z : Int32) : Int32 := (b.toUInt64 >>> (z.toInt64.toUInt64 &&& Int64.toUInt64 63)).toInt64.toInt32.toInt8.toInt32.toInt8.toInt32
def fdR (b : Int64) (z : Int32) : Int32 := ((b >>> (z.toInt64 &&& 63)) &&& 255).toInt32
theorem fd_0 (b : Int64) : fdC b (8 * nI 0) &&& 255 = fdR b (8 * nI 0) := by
  unfold fdC fdR
  apply Int32.toBitVec_inj.mp
  rw [show (Int32.toInt64 (8 * nI 0)).toUInt64 &&& Int64.toUInt64 63 = 0 by decide, show Int32.toInt64 (8 * nI 0) &&& 63 = 0 by decide]
  simp only [Int32.toBitVec_and, Int8.toBitVec_toInt32, Int32.toBitVec_toInt8, Int64.toBitVec_toInt32, UInt64.toBitVec_toInt64, Int64.toBitVec_and, UInt64.toBitVec_shiftRight, Int64.toBitVec_shiftRight, Int64.toBitVec_toUInt64]
  exact fd_bv b.toBitVec 0 (by omega)
theorem fd_1 (b : Int64) : fdC b (8 * nI 1) &&& 255 = fdR b (8 * nI 1) := by
  unfold fdC fdR
  apply Int32.toBitVec_inj.mp
  rw [show (Int32.toInt64 (8 * nI 1)).toUInt64 &&& Int64.toUInt64 63 = 8 by decide, show Int32.toInt64 (8 * nI 1) &&& 63 = 8 by decide]
  simp only [Int32.toBitVec_and, Int8.toBitVec_toInt32, Int32.toBitVec_toInt8, Int64.toBitVec_toInt32, UInt64.toBitVec_toInt64, Int64.toBitVec_and, UInt64.toBitVec_shiftRight, Int64.toBitVec_shiftRight, Int64.toBitVec_toUInt64]
  exact fd_bv b.toBitVec 8 (by omega)
theorem fd_2 (b : Int64) : fdC b (8 * nI 2) &&& 255 = fdR b (8 * nI 2) := by
  unfold fdC fdR
  apply Int32.toBitVec_inj.mp
  rw [show (Int32.toInt64 (8 * nI 2)).toUInt64 &&& Int64.toUInt64 63 = 16 by decide, show Int32.toInt64 (8 * nI 2) &&& 63 = 16 by decide]
  simp only [Int32.toBitVec_and, Int8.toBitVec_toInt32, Int32.toBitVec_toInt8, Int64.toBitVec_toInt32, UInt64.toBitVec_toInt64, Int64.toBitVec_and, UInt64.toBitVec_shiftRight, Int64.toBitVec_shiftRight, Int64.toBitVec_toUInt64]
  exact fd_bv b.toBitVec 16 (by omega)
theorem fd_3 (b : Int64) : fdC b (8 * nI 3) &&& 255 = fdR b (8 * nI 3) := by
  unfold fdC fdR
  apply Int32.toBitVec_inj.mp
  rw [show (Int32.toInt64 (8 * nI 3)).toUInt64 &&& Int64.toUInt64 63 = 24 by decide, show Int32.toInt64 (8 * nI 3) &&& 63 = 24 by decide]
  simp only [Int32.toBitVec_and, Int8.toBitVec_toInt32, Int32.toBitVec_toInt8, Int64.toBitVec_toInt32, UInt64.toBitVec_toInt64, Int64.toBitVec_and, UInt64.toBitVec_shiftRight, Int64.toBitVec_shiftRight, Int64.toBitVec_toUInt64]
  exact fd_bv b.toBitVec 24 (by omega)
theorem fd_4 (b : Int64) : fdC b (8 * nI 4) &&& 255 = fdR b (8 * nI 4) := by
  unfold fdC fdR
  apply Int32.toBitVec_inj.mp
  rw [show (Int32.toInt64 (8 * nI 4)).toUInt64 &&& Int64.toUInt64 63 = 32 by decide, show Int32.toInt64 (8 * nI 4) &&& 63 = 32 by decide]
  simp only [Int32.toBitVec_and, Int8.toBitVec_toInt32, Int32.toBitVec_toInt8, Int64.toBitVec_toInt32, UInt64.toBitVec_toInt64, Int64.toBitVec_and, UInt64.toBitVec_shiftRight, Int64.toBitVec_shiftRight, Int64.toBitVec_toUInt64]
  exact fd_bv b.toBitVec 32 (by omega)
theorem fd_5 (b : Int64) : fdC b (8 * nI 5) &&& 255 = fdR b (8 * nI 5) := by
  unfold fdC fdR
  apply Int32.toBitVec_inj.mp
  rw [show (Int32.toInt64 (8 * nI 5)).toUInt64 &&& Int64.toUInt64 63 = 40 by decide, show Int32.toInt64 (8 * nI 5) &&& 63 = 40 by decide]
  simp only [Int32.toBitVec_and, Int8.toBitVec_toInt32, Int32.toBitVec_toInt8, Int64.toBitVec_toInt32, UInt64.toBitVec_toInt64, Int64.toBitVec_and, UInt64.toBitVec_shiftRight, Int64.toBitVec_shiftRight, Int64.toBitVec_toUInt64]
  exact fd_bv b.toBitVec 40 (by omega)
theorem fd_6 (b : Int64) : fdC b (8 * nI 6) &&& 255 = fdR b (8 * nI 6) := by
  unfold fdC fdR
  apply Int32.toBitVec_inj.mp
  rw [show (Int32.toInt64 (8 * nI 6)).toUInt64 &&& Int64.toUInt64 63 = 48 by decide, show Int32.toInt64 (8 * nI 6) &&& 63 = 48 by decide]
  simp only [Int32.toBitVec_and, Int8.toBitVec_toInt32, Int32.toBitVec_toInt8, Int64.toBitVec_toInt32, UInt64.toBitVec_toInt64, Int64.toBitVec_and, UInt64.toBitVec_shiftRight, Int64.toBitVec_shiftRight, Int64.toBitVec_toUInt64]
  exact fd_bv b.toBitVec 48 (by omega)
theorem fd_7 (b : Int64) : fdC b (8 * nI 7) &&& 255 = fdR b (8 * nI 7) := by
  unfold fdC fdR
  apply Int32.toBitVec_inj.mp
  rw [show (Int32.toInt64 (8 * nI 7)).toUInt64 &&& Int64.toUInt64 63 = 56 by decide, show Int32.toInt64 (8 * nI 7) &&& 63 = 56 by decide]
  simp only [Int32.toBitVec_and, Int8.toBitVec_toInt32, Int32.toBitVec_toInt8, Int64.toBitVec_toInt32, UInt64.toBitVec_toInt64, Int64.toBitVec_and, UInt64.toBitVec_shiftRight, Int64.toBitVec_shiftRight, Int64.toBitVec_toUInt64]
  exact fd_bv b.toBitVec 56 (by omega)
theorem fd_all (b : Int64) : ∀ k, k < 8 → fdC b (8 * nI k) &&& 255 = fdR b (8 * nI k)
  | 0, _ => fd_0 b
  | 1, _ => fd_1 b
  | 2, _ => fd_2 b
  | 3, _ => fd_3 b
  | 4, _ => fd_4 b
  | 5, _ => fd_5 b
  | 6, _ => fd_6 b
  | 7, _ => fd_7 b
  | k + 8, h => absurd h (by omega)
theorem ap_loop {M0 : zM} {d n w tp m : Nat} {b : Int64} {f0 : Nat → Int32} {Q : Option Value → Nat → Nat → zM → Prop} (htm : tp + m ≤ 200) (hm : m ≤ 8)
    (hQ : ∀ M f, M 26 = .inr (9, [.ref 27, .int (nI (tp + m))]) → M 27 = .inl (1, 200, .inl f) → (∀ k, k ≠ 26 → k ≠ 27 → M k = M0 k) → (∀ q, q < m → f (tp + q) = fdC b (8 * nI q)) → (∀ q, q < tp → f q = f0 q) → Q none n w M) : ∀ (t i : Nat) (M : zM) (f : Nat → Int32), i + t = m → M 26 = .inr (9, [.ref 27, .int (nI (tp + i))]) → M 27 = .inl (1, 200, .inl f) → (∀ k, k ≠ 26 → k ≠ 27 → M k = M0 k) → (∀ q, q < i → f (tp + q) = fdC b (8 * nI q)) → (∀ q, q < tp → f q = f0 q) → zR ztb d kX9_append 0 3 [some (.ref 26), some (.int (nI m)), some (.long b), none, some (.int (nI i))] [] n w M Q
  | 0, i, M, f, h, h26, h27, hF, h1, h2 => by
    have e2 : i = m := by omega
    subst e2
    have e : ¬ nI i < nI i := zI_nlt (Nat.le_refl _) (by omega)
    repeat (first | ((with_reducible refine zR.stored ?_); dsimp only [zsto, zclr, zset, zget, zc2, cond_false, cond_true]) | ((with_reducible refine zR.atLit ?_); first | refine zR.step rfl ?_) | rw [zcc1] | rw [zcc2] | rw [zcc3] | rw [zcc4] | rw [zn1 (e)] | rw [zn2 (e)] | rw [zn3 (e)] | rw [zn4 (e)])
    exact zR.ret rfl rfl (hQ M f h26 h27 hF h1 h2)
  | t + 1, i, M, f, h, h26, h27, hF, h1, h2 => by
    have e : nI i < nI m := zI_ylt (by omega) (by omega)
    have e2 : nI (tp + i) < 200 := zI_ylt (b := 200) (by omega) (by omega)
    refine zR.step rfl ?_
    repeat (first | ((with_reducible refine zR.stored ?_); dsimp only [zsto, zclr, zset, zget, zc2, cond_false, cond_true]) | ((with_reducible refine zR.atLit ?_); first | refine zR.step rfl ?_ | refine zR.getf rfl (h26) rfl ?_) | rw [zcc1] | rw [zcc2] | rw [zcc3] | rw [zcc4] | rw [zb1 (e)] | rw [zb2 (e)] | rw [zb3 (e)] | rw [zb4 (e)] | rw [zb1 (e2)] | rw [zb2 (e2)] | rw [zb3 (e2)] | rw [zb4 (e2)])
    refine zR.bast rfl h27 (i := tp + i) rfl (by omega) (by decide) ?_
    have h26' : zup M 27 (.inl (1, 200, .inl (zuf f (tp + i) (fdC b (8 * nI i))))) 26 = .inr (9, [.ref 27, .int (nI (tp + i))]) := by rw [zup_ne _ _ (by omega)]; exact h26
    repeat (first | ((with_reducible refine zR.stored ?_); dsimp only [zsto, zclr, zset, zget, zc2, cond_false, cond_true]) | ((with_reducible refine zR.atLit ?_); first | refine zR.step rfl ?_ | refine zR.getf rfl (h26') rfl ?_) | rw [zcc1] | rw [zcc2] | rw [zcc3] | rw [zcc4])
    refine zR.putf rfl h26' rfl rfl ?_
    have ih := ap_loop (d := d) htm hm hQ t (i + 1) (zup (zup M 27 (.inl (1, 200, .inl (zuf f (tp + i) (fdC b (8 * nI i)))))) 26 (.inr (9, [.ref 27, .int (nI (tp + i) + 1)]))) (zuf f (tp + i) (fdC b (8 * nI i))) (by omega) (by rw [zup_self, zI_s]; rfl) (by rw [zup_ne _ _ (by omega), zup_self]) (fun k h1 h2 => by rw [zup_ne _ _ h1, zup_ne _ _ h2]; exact hF k h1 h2) (fun q hq => by
      by_cases eq : q = i
      · subst eq
        rw [zuf_self]
      · rw [zuf_ne _ _ (by omega)]
        exact h1 q (by omega)) (fun q hq => by rw [zuf_ne _ _ (by omega)]; exact h2 q hq)
    rw [← zI_s] at ih
    repeat (first | with_reducible refine zR.hold (pc := 3) ?_ | ((with_reducible refine zR.stored ?_); dsimp only [zsto, zclr, zset, zget, zc2, cond_false, cond_true]) | ((with_reducible refine zR.atLit ?_); first | refine zR.step rfl ?_) | rw [zcc1] | rw [zcc2] | rw [zcc3] | rw [zcc4])
    exact ⟨trivial, ih⟩
theorem fr_loop {M0 : zM} {σ : mS} {d n w tp m : Nat} {b : Int64} {Q : Option Value → Nat → Nat → zM → Prop} (htm : tp + m ≤ 200) (hm : m ≤ 8)
    (hQ : ∀ M ρ, Rf M ρ → Sm M0 M → (∀ j, j ≠ 3 → j ≠ 12 → ρ j = σ j) → (∀ q, q ≠ 6 → ρ 12 q = σ 12 q) → ρ 12 6 = nI (tp + m) → (∀ q, q < m → ρ 3 (tp + q) = fdR b (8 * nI q)) → (∀ q, q < tp → ρ 3 q = σ 3 q) → zR ztb d kX12_feed 1 80 [some (.ref 287), some (.int (nI m)), some (.long b), none, some (.int (nI m))] [] n w M Q) : ∀ (t i : Nat) (M : zM) (ρ : mS), i + t = m → Rf M ρ → Sm M0 M → (∀ j, j ≠ 3 → j ≠ 12 → ρ j = σ j) → (∀ q, q ≠ 6 → ρ 12 q = σ 12 q) → ρ 12 6 = nI (tp + i) → (∀ q, q < i → ρ 3 (tp + q) = fdR b (8 * nI q)) → (∀ q, q < tp → ρ 3 q = σ 3 q) → zR ztb d kX12_feed 1 37 [some (.ref 287), some (.int (nI m)), some (.long b), none, some (.int (nI i))] [] n w M Q
  | 0, i, M, ρ, h, hR, hS, r1, r2, r3, r4, r5 => by
    have e2 : i = m := by omega
    subst e2
    have e : ¬ nI i < nI i := zI_nlt (Nat.le_refl _) (by omega)
    repeat (first | with_reducible refine zR.hold (pc := 80) ?_ | ((with_reducible refine zR.stored ?_); dsimp only [zsto, zclr, zset, zget, zc2, cond_false, cond_true]) | ((with_reducible refine zR.atLit ?_); first | refine zR.step rfl ?_) | rw [zcc1] | rw [zcc2] | rw [zcc3] | rw [zcc4] | rw [zn1 (e)] | rw [zn2 (e)] | rw [zn3 (e)] | rw [zn4 (e)])
    exact ⟨trivial, hQ M ρ hR hS r1 r2 r3 r4 r5⟩
  | t + 1, i, M, ρ, h, hR, hS, r1, r2, r3, r4, r5 => by
    have e : nI i < nI m := zI_ylt (by omega) (by omega)
    refine zR.step rfl ?_
    repeat (first | ((with_reducible refine zR.stored ?_); dsimp only [zsto, zclr, zset, zget, zc2, cond_false, cond_true]) | ((with_reducible refine zR.atLit ?_); first | refine zR.step rfl ?_ | refine zR.getf rfl (hR.1) rfl ?_) | rw [zcc1] | rw [zcc2] | rw [zcc3] | rw [zcc4] | rw [zb1 (e)] | rw [zb2 (e)] | rw [zb3 (e)] | rw [zb4 (e)])
    refine zR.isR3 hR hS rfl (i := tp + i) r3 (by omega) (fun M1 hR1 hS1 => ?_)
    repeat (first | ((with_reducible refine zR.stored ?_); dsimp only [zsto, zclr, zset, zget, zc2, cond_false, cond_true]) | ((with_reducible refine zR.atLit ?_); first | refine zR.step rfl ?_ | refine zR.getf rfl (hR1.1) rfl ?_) | rw [zcc1] | rw [zcc2] | rw [zcc3] | rw [zcc4])
    refine zR.putR hR1 hS1 rfl rfl rfl rfl (fun M2 hR2 hS2 => ?_)
    have ih := fr_loop (d := d) htm hm hQ t (i + 1) M2 _ (by omega) hR2 hS2 (fun j h1 h2 => by rw [zuf_ne _ _ h2, zuf_ne _ _ h1]; exact r1 j h1 h2) (fun q hq => by rw [zuf_self, zuf_ne _ _ hq, zuf_ne _ _ (by omega)]; exact r2 q hq) (by
        show ρ 12 6 + 1 = _
        rw [r3, zI_s]; rfl) (fun q hq => by
      show zuf (ρ 3) (tp + i) _ (tp + q) = _
      by_cases eq : q = i
      · subst eq
        rw [zuf_self]
        rfl
      · rw [zuf_ne _ _ (by omega)]
        exact r4 q (by omega)) (fun q hq => by
      show zuf (ρ 3) (tp + i) _ q = _
      rw [zuf_ne _ _ (by omega)]; exact r5 q hq)
    rw [← zI_s] at ih
    repeat (first | with_reducible refine zR.hold (pc := 37) ?_ | ((with_reducible refine zR.stored ?_); dsimp only [zsto, zclr, zset, zget, zc2, cond_false, cond_true]) | ((with_reducible refine zR.atLit ?_); first | refine zR.step rfl ?_) | rw [zcc1] | rw [zcc2] | rw [zcc3] | rw [zcc4])
    exact ⟨trivial, ih⟩
