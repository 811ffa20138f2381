
/-! ahead. -/
def ahF : Nat → (Nat → Int32) → Int32 → Int32 → Int32 → Int32 → (Nat → Int32) × Int32 × Int32 × Int32 × Int32
  | 0, s, H, W, P, Lo => (s, H, W, P, Lo)
  | t + 1, s, H, W, P, Lo => if s 0 < 30 then ahF t (wkS s) (H + (wBx s).2.1) (W + (wBx s).2.2) (P + (wSp s).2) (Lo + lossN (wP s) 8) else (s, H, W, P, Lo)
def AW : Nat → (Nat → Int32) → Prop
  | 0, _ => True
  | t + 1, s => s 0 < 30 → WF s ∧ AW t (wkS s)
theorem GR.wk {M : zM} {n : Nat} {c : mS} {kp bt : Nat → Option Nat} {la : Nat} {s : Nat → Int32} (h : GR M n c kp bt la s) (hlt : s 0 < 30) : ∃ wk, s 0 = nI wk ∧ wk < 30 := by
  obtain ⟨nc, nh, nl, lm, wk, hN, -⟩ := h
  have N9 : s 0 = nI wk := hN.2.2.2.2.2.2.2.2.1
  have N10 : wk ≤ 30 := hN.2.2.2.2.2.2.2.2.2.1
  rw [N9] at hlt
  exact ⟨wk, N9, (zn_lt (b := 30) (by omega) (by omega)).mp hlt⟩
theorem GR.c02 {M : zM} {n : Nat} {c : mS} {kp bt : Nat → Option Nat} {la : Nat} {s : Nat → Int32} (h : GR M n c kp bt la s) : c 0 2 = s 0 := by
  obtain ⟨nc, nh, nl, lm, wk, hN, -⟩ := h
  exact hN.2.2.2.2.2.2.2.2.2.2.2.2.1
section
variable {M0 : zM} {kp : Nat → Option Nat} {la : Nat} {d n w nn m : Nat} {t' : mS} {s0 : Nat → Int32} {b : Int32}
theorem ahc_loop {R : (Nat → Int32) × Int32 × Int32 × Int32 × Int32} {Q : Option Value → Nat → Nat → zM → Prop} (h25 : M0 25 = .inr (11, tob t')) (hm : m ≤ 10) (hQ : ∀ M c bt x3, Gc M 200 c kp bt la → (∀ k, k < 200 ∨ 276 ≤ k → M k = M0 k) → c 13 0 = R.2.1 → c 13 1 = R.2.2.1 → c 13 2 = R.2.2.2.1 → c 13 3 = R.2.2.2.2 → AW m s0 → zR ztb (d + 7) kX11_ahead 1 71 [some (.ref 25), some (.int (nI m)), some (.int b), some (.int x3)] [] n w M Q) : ∀ (t i : Nat) (M : zM) (c : mS) (bt : Nat → Option Nat) (s : Nat → Int32) (H W P Lo : Int32), i + t = m → Gc M 200 c kp bt la → (∀ k, k < 200 ∨ 276 ≤ k → M k = M0 k) → GR M0 nn c kp bt la s → ahF t s H W P Lo = R → c 13 0 = H → c 13 1 = W → c 13 2 = P → c 13 3 = Lo → (AW t s → AW m s0) → zR ztb (d + 7) kX11_ahead 1 41 [some (.ref 25), some (.int (nI m)), some (.int b), some (.int (nI i))] [] n w M Q
  | t, i, M, c, bt, s, H, W, P, Lo, hi, hG, hF, hGR, hR, k0, k1, k2, k3, hA => by
    have h25' : M 25 = .inr (11, tob t') := (hF 25 (by omega)).trans h25
    have ho := hG.o
    rw [hGR.c02] at ho
    refine zR.step rfl ?_
    match t, hi, hR, hA with
    | 0, hi, hR, hA =>
      have e2 : i = m := by omega
      subst e2
      subst hR
      have e : ¬ nI i < nI i := zI_nlt (Nat.le_refl _) (by omega)
      repeat (first | with_reducible refine zR.hold (pc := 71) ?_ | ((with_reducible refine zR.stored ?_); dsimp only [zsto, zclr, zset, zget, zc2, cond_false, cond_true]) | ((with_reducible refine zR.atLit ?_); first | refine zR.step rfl ?_) | rw [zcc1] | rw [zcc2] | rw [zcc3] | rw [zcc4] | rw [zn1 (e)] | rw [zn2 (e)] | rw [zn3 (e)] | rw [zn4 (e)])
      exact ⟨trivial, hQ M c bt _ hG hF k0 k1 k2 k3 (hA trivial)⟩
    | t + 1, hi, hR, hA =>
      have e : nI i < nI m := zI_ylt (by omega) (by omega)
      rw [ahF] at hR
      by_cases q : s 0 < 30
      · rw [if_pos q] at hR
        obtain ⟨wk, hw1, hw2⟩ := hGR.wk q
        repeat (first | ((with_reducible refine zR.stored ?_); dsimp only [zsto, zclr, zset, zget, zc2, cond_false, cond_true]) | ((with_reducible refine zR.atLit ?_); first | refine zR.step rfl ?_ | refine zR.getf rfl (h25') rfl ?_ | refine zR.getf rfl (ho) rfl ?_) | rw [zcc1] | rw [zcc2] | rw [zcc3] | rw [zcc4] | rw [zb1 (e)] | rw [zb2 (e)] | rw [zb3 (e)] | rw [zb4 (e)] | rw [zb1 (q)] | rw [zb2 (q)] | rw [zb3 (q)] | rw [zb4 (q)])
        refine zR.cv rfl rfl rfl hG.o rfl rfl (zR.mono (c_doWeek (M0 := M0) (nn := nn) (by omega) hG hF hGR hw1 hw2) (fun v n1 w1 M2 hv => ?_))
        obtain ⟨rfl, rfl, rfl, c', bt', hG', hF', hGR', s0', s1', s2', s3', hWF⟩ := hv
        have ih := ahc_loop h25 hm hQ t (i + 1) M2 c' bt' (wkS s) _ _ _ _ (by omega) hG' hF' hGR' hR (by rw [s0', k0]) (by rw [s1', k1]) (by rw [s2', k2]) (by rw [s3', k3]) (fun z => hA (fun _ => ⟨hWF, z⟩))
        rw [← zI_s] at ih
        repeat (first | with_reducible refine zR.hold (pc := 41) ?_ | ((with_reducible refine zR.stored ?_); dsimp only [zsto, zclr, zset, zget, zc2, cond_false, cond_true]) | ((with_reducible refine zR.atLit ?_); first | refine zR.step rfl ?_) | rw [zcc1] | rw [zcc2] | rw [zcc3] | rw [zcc4])
        exact ⟨trivial, ih⟩
      · rw [if_neg q] at hR
        subst hR
        repeat (first | with_reducible refine zR.hold (pc := 71) ?_ | ((with_reducible refine zR.stored ?_); dsimp only [zsto, zclr, zset, zget, zc2, cond_false, cond_true]) | ((with_reducible refine zR.atLit ?_); first | refine zR.step rfl ?_ | refine zR.getf rfl (h25') rfl ?_ | refine zR.getf rfl (ho) rfl ?_) | rw [zcc1] | rw [zcc2] | rw [zcc3] | rw [zcc4] | rw [zb1 (e)] | rw [zb2 (e)] | rw [zb3 (e)] | rw [zb4 (e)] | rw [zn1 (q)] | rw [zn2 (q)] | rw [zn3 (q)] | rw [zn4 (q)])
        exact ⟨trivial, hQ M c bt _ hG hF k0 k1 k2 k3 (hA (fun z => absurd z q))⟩
end
section
variable {M0 : zM} {σ : mS} {d n w : Nat}
theorem c_lostAll {M : zM} {nc : Nat} (hR : Rf M σ) (h2 : σ 0 2 = nI nc) (h8 : nc ≤ 8) : zCall (d + 1) 187 [.ref 287] n w M (some (.int (lostSum (σ 0) nc))) n w M := by
  intro Q hQ
  have lp : ∀ (t i : Nat), i + t = nc → zR ztb (d + 1) kX12_lostAll 1 4 [some (.ref 287), some (.int (lostSum (σ 0) i)), some (.int (nI i))] [] n w M Q := by
    intro t
    induction t with
    | zero =>
      intro i hi
      have e2 : i = nc := by omega
      subst e2
      have e : ¬ nI i < nI i := zI_nlt (Nat.le_refl _) (by omega)
      repeat (first | ((with_reducible refine zR.stored ?_); dsimp only [zsto, zclr, zset, zget, zc2, cond_false, cond_true]) | ((with_reducible refine zR.atLit ?_); first | refine zR.step rfl ?_ | refine zR.getf rfl (hR.1) rfl ?_ | (refine zR.ilR0 hR rfl (i := 2) rfl (by omega) ?_; rw [h2])) | rw [zcc1] | rw [zcc2] | rw [zcc3] | rw [zcc4] | rw [zn1 (e)] | rw [zn2 (e)] | rw [zn3 (e)] | rw [zn4 (e)])
      exact zR.ret rfl rfl hQ
    | succ t ih =>
      intro i hi
      have e : nI i < nI nc := zI_ylt (by omega) (by omega)
      have ih' := ih (i + 1) (by omega)
      rw [← zI_s, lostSum] at ih'
      refine zR.step rfl ?_
      repeat (first | with_reducible refine zR.hold (pc := 4) ?_ | ((with_reducible refine zR.stored ?_); dsimp only [zsto, zclr, zset, zget, zc2, cond_false, cond_true]) | ((with_reducible refine zR.atLit ?_); first | refine zR.step rfl ?_ | refine zR.getf rfl (hR.1) rfl ?_ | (refine zR.ilR0 hR rfl (i := 2) rfl (by omega) ?_; rw [h2]) | refine zR.cv rfl rfl rfl hR.1 rfl rfl (zCalP.of (c_cropIs hR i 7 (by omega)) ?_)) | rw [zcc1] | rw [zcc2] | rw [zcc3] | rw [zcc4] | rw [zb1 (e)] | rw [zb2 (e)] | rw [zb3 (e)] | rw [zb4 (e)])
      exact ⟨trivial, ih'⟩
  show zR ztb _ kX12_lostAll 1 0 [some (.ref 287), none, none] [] _ _ _ _
  repeat (first | with_reducible refine zR.hold (pc := 4) ?_ | ((with_reducible refine zR.stored ?_); dsimp only [zsto, zclr, zset, zget, zc2, cond_false, cond_true]) | ((with_reducible refine zR.atLit ?_); first | refine zR.step rfl ?_) | rw [zcc1] | rw [zcc2] | rw [zcc3] | rw [zcc4])
  exact ⟨trivial, lp nc 0 (by omega)⟩
theorem ak_loop {x1 x4 x5 : Option Value} {x2' : Int32} {Q : Option Value → Nat → Nat → zM → Prop} (hQ : ∀ M y, Rf M (zuf σ 2 y) → Sm M0 M → (∀ k, k < 2700 → y k = σ 0 k) → zR ztb d kX12_ahead 1 48 [some (.ref 287), x1, some (.int x2'), some (.int (nI 2700)), x4, x5] [] n w M Q) : ∀ (t k : Nat) (M : zM) (y : Nat → Int32), k + t = 2700 → Rf M (zuf σ 2 y) → Sm M0 M → (∀ q, q < k → y q = σ 0 q) → zR ztb d kX12_ahead 1 23 [some (.ref 287), x1, some (.int x2'), some (.int (nI k)), x4, x5] [] n w M Q
  | 0, k, M, y, h, hR, hS, h1 => by
    have e2 : k = 2700 := by omega
    subst e2
    have e : ¬ nI 2700 < 2700 := by decide
    repeat (first | with_reducible refine zR.hold (pc := 48) ?_ | ((with_reducible refine zR.stored ?_); dsimp only [zsto, zclr, zset, zget, zc2, cond_false, cond_true]) | ((with_reducible refine zR.atLit ?_); first | refine zR.step rfl ?_) | rw [zcc1] | rw [zcc2] | rw [zcc3] | rw [zcc4] | rw [zn1 (e)] | rw [zn2 (e)] | rw [zn3 (e)] | rw [zn4 (e)])
    exact ⟨trivial, hQ M y hR hS h1⟩
  | t + 1, k, M, y, h, hR, hS, h1 => by
    have e : nI k < 2700 := zI_ylt (b := 2700) (by omega) (by omega)
    refine zR.step rfl ?_
    repeat (first | ((with_reducible refine zR.stored ?_); dsimp only [zsto, zclr, zset, zget, zc2, cond_false, cond_true]) | ((with_reducible refine zR.atLit ?_); first | refine zR.step rfl ?_ | refine zR.getf rfl (hR.1) rfl ?_ | refine zR.ilR0 hR rfl (i := k) rfl (by omega) ?_) | rw [zcc1] | rw [zcc2] | rw [zcc3] | rw [zcc4] | rw [zb1 (e)] | rw [zb2 (e)] | rw [zb3 (e)] | rw [zb4 (e)])
    refine zR.isR2 hR hS rfl (i := k) rfl (by omega) (fun M1 hR1 hS1 => ?_)
    have hz : zuf (zuf σ 2 y) 2 (zuf (zuf σ 2 y 2) k (zuf σ 2 y 0 k)) = zuf σ 2 (zuf y k (σ 0 k)) := by rw [zuf_self, zuf_uf]; rfl
    rw [hz] at hR1
    have ih := ak_loop hQ t (k + 1) M1 (zuf y k (σ 0 k)) (by omega) hR1 hS1 (fun q hq => by
      by_cases eq : q = k
      · subst eq
        rw [zuf_self]
      · rw [zuf_ne _ _ eq]
        exact h1 q (by omega))
    rw [← zI_s] at ih
    repeat (first | with_reducible refine zR.hold (pc := 23) ?_ | ((with_reducible refine zR.stored ?_); dsimp only [zsto, zclr, zset, zget, zc2, cond_false, cond_true]) | ((with_reducible refine zR.atLit ?_); first | refine zR.step rfl ?_) | rw [zcc1] | rw [zcc2] | rw [zcc3] | rw [zcc4])
    exact ⟨trivial, ih⟩
theorem ar_loop {x1 x2 x3 : Option Value} {x4 : Int32} {Q : Option Value → Nat → Nat → zM → Prop} (hQ : ∀ M y, Rf M (zuf σ 0 y) → Sm M0 M → (∀ k, k < 2700 → y k = σ 2 k) → zR ztb d kX12_ahead 1 139 [some (.ref 287), x1, x2, x3, some (.int x4), some (.int (nI 2700))] [] n w M Q) : ∀ (t k : Nat) (M : zM) (y : Nat → Int32), k + t = 2700 → Rf M (zuf σ 0 y) → Sm M0 M → (∀ q, q < k → y q = σ 2 q) → zR ztb d kX12_ahead 1 111 [some (.ref 287), x1, x2, x3, some (.int x4), some (.int (nI k))] [] n w M Q
  | 0, k, M, y, h, hR, hS, h1 => by
    have e2 : k = 2700 := by omega
    subst e2
    have e : ¬ nI 2700 < 2700 := by decide
    repeat (first | with_reducible refine zR.hold (pc := 139) ?_ | ((with_reducible refine zR.stored ?_); dsimp only [zsto, zclr, zset, zget, zc2, cond_false, cond_true]) | ((with_reducible refine zR.atLit ?_); first | refine zR.step rfl ?_) | rw [zcc1] | rw [zcc2] | rw [zcc3] | rw [zcc4] | rw [zn1 (e)] | rw [zn2 (e)] | rw [zn3 (e)] | rw [zn4 (e)])
    exact ⟨trivial, hQ M y hR hS h1⟩
  | t + 1, k, M, y, h, hR, hS, h1 => by
    have e : nI k < 2700 := zI_ylt (b := 2700) (by omega) (by omega)
    refine zR.step rfl ?_
    repeat (first | ((with_reducible refine zR.stored ?_); dsimp only [zsto, zclr, zset, zget, zc2, cond_false, cond_true]) | ((with_reducible refine zR.atLit ?_); first | refine zR.step rfl ?_ | refine zR.getf rfl (hR.1) rfl ?_ | refine zR.ilR2 hR rfl (i := k) rfl (by omega) ?_) | rw [zcc1] | rw [zcc2] | rw [zcc3] | rw [zcc4] | rw [zb1 (e)] | rw [zb2 (e)] | rw [zb3 (e)] | rw [zb4 (e)])
    refine zR.isY hR hS rfl (i := k) rfl (by omega) (fun M1 hR1 hS1 => ?_)
    have ih := ar_loop hQ t (k + 1) M1 (zuf y k (σ 2 k)) (by omega) hR1 hS1 (fun q hq => by
      by_cases eq : q = k
      · subst eq
        rw [zuf_self]
      · rw [zuf_ne _ _ eq]
        exact h1 q (by omega))
    rw [← zI_s] at ih
    repeat (first | with_reducible refine zR.hold (pc := 111) ?_ | ((with_reducible refine zR.stored ?_); dsimp only [zsto, zclr, zset, zget, zc2, cond_false, cond_true]) | ((with_reducible refine zR.atLit ?_); first | refine zR.step rfl ?_) | rw [zcc1] | rw [zcc2] | rw [zcc3] | rw [zcc4])
    exact ⟨trivial, ih⟩
theorem aw_loop {R : (Nat → Int32) × Int32 × Int32 × Int32 × Int32} {m : Nat} {x2 x4 L0 : Int32} {nc : Nat} {Q : Option Value → Nat → Nat → zM → Prop} (hm : m ≤ 10) (h8 : nc ≤ 8) (hQ : ∀ M x5, RS M σ R.1 R.2.2.1 R.2.2.2.1 → Sm M0 M → R.1 2 = nI nc → lostSum R.1 nc = L0 + R.2.2.2.2 → zR ztb (d + 8) kX12_ahead 1 99 [some (.ref 287), some (.int (nI m)), some (.int x2), some (.int R.2.1), some (.int x4), some (.int x5)] [] n w M Q) : ∀ (t i : Nat) (M : zM) (s : Nat → Int32) (H W P Lo : Int32), i + t = m → AW t s → ahF t s H W P Lo = R → RS M σ s W P → Sm M0 M → s 2 = nI nc → lostSum s nc = L0 + Lo → zR ztb (d + 8) kX12_ahead 1 69 [some (.ref 287), some (.int (nI m)), some (.int x2), some (.int H), some (.int x4), some (.int (nI i))] [] n w M Q
  | t, i, M, s, H, W, P, Lo, hi, hA, hR', hRS, hS, h2, hl => by
    refine zR.step rfl ?_
    match t, hi, hA, hR' with
    | 0, hi, hA, hR' =>
      have e2 : i = m := by omega
      subst e2
      subst hR'
      have e : ¬ nI i < nI i := zI_nlt (Nat.le_refl _) (by omega)
      repeat (first | with_reducible refine zR.hold (pc := 99) ?_ | ((with_reducible refine zR.stored ?_); dsimp only [zsto, zclr, zset, zget, zc2, cond_false, cond_true]) | ((with_reducible refine zR.atLit ?_); first | refine zR.step rfl ?_) | rw [zcc1] | rw [zcc2] | rw [zcc3] | rw [zcc4] | rw [zn1 (e)] | rw [zn2 (e)] | rw [zn3 (e)] | rw [zn4 (e)])
      exact ⟨trivial, hQ M _ hRS hS h2 hl⟩
    | t + 1, hi, hA, hR' =>
      have e : nI i < nI m := zI_ylt (by omega) (by omega)
      rw [ahF] at hR'
      have hRS' := hRS
      obtain ⟨ρ, hR, r0, rr, r12, r27, r28⟩ := hRS'
      have p0 : ρ 0 0 = s 0 := by rw [r0]
      by_cases q : s 0 < 30
      · rw [if_pos q] at hR'
        obtain ⟨hWF, hA'⟩ := hA q
        repeat (first | ((with_reducible refine zR.stored ?_); dsimp only [zsto, zclr, zset, zget, zc2, cond_false, cond_true]) | ((with_reducible refine zR.atLit ?_); first | refine zR.step rfl ?_ | refine zR.getf rfl (hR.1) rfl ?_ | (refine zR.ilR0 hR rfl (i := 0) rfl (by omega) ?_; rw [p0])) | rw [zcc1] | rw [zcc2] | rw [zcc3] | rw [zcc4] | rw [zb1 (e)] | rw [zb2 (e)] | rw [zb3 (e)] | rw [zb4 (e)] | rw [zb1 (q)] | rw [zb2 (q)] | rw [zb3 (q)] | rw [zb4 (q)])
        refine zR.cv rfl rfl rfl hR.1 rfl rfl (zR.mono (c_week0 (M0 := M0) (d := d) hWF hRS hS) (fun v n1 w1 M2 hv => ?_))
        obtain ⟨rfl, rfl, rfl, hS2, hRS2⟩ := hv
        have hcb : ∀ b, b < 8 → wP s (150 + 10 * b) = -1 ∨ ∃ i, i < nc ∧ wP s (150 + 10 * b) = nI i := by
          obtain ⟨-, -, -, ⟨Mk, nk, ck, kk, bk, lk, hk⟩, -⟩ := hWF
          exact hk.cbn ((wP_lo (by omega) (by omega) (by omega)).trans h2) h8
        have hcb8 : ∀ b, b < 8 → wP s (150 + 10 * b) = -1 ∨ ∃ i, i < 8 ∧ wP s (150 + 10 * b) = nI i := fun b hb => (hcb b hb).imp id (fun ⟨i, h1, h2⟩ => ⟨i, by omega, h2⟩)
        have h2' : wkS s 2 = nI nc := by
          unfold wkS wSp
          rw [zuf_ne _ _ (by omega), spF_lo (by omega) (by omega)]
          unfold wBx
          rw [bsF_lo (by omega) (by omega), wX_0 hcb8 (by omega) (by omega)]
          exact h2
        have ih := aw_loop hm h8 hQ t (i + 1) M2 (wkS s) _ _ _ _ (by omega) hA' hR' hRS2 hS2 h2' (by rw [wk_lost h8 hcb, hl, Int32.add_assoc])
        rw [← zI_s] at ih
        repeat (first | with_reducible refine zR.hold (pc := 69) ?_ | ((with_reducible refine zR.stored ?_); dsimp only [zsto, zclr, zset, zget, zc2, cond_false, cond_true]) | ((with_reducible refine zR.atLit ?_); first | refine zR.step rfl ?_) | rw [zcc1] | rw [zcc2] | rw [zcc3] | rw [zcc4])
        exact ⟨trivial, ih⟩
      · rw [if_neg q] at hR'
        subst hR'
        repeat (first | with_reducible refine zR.hold (pc := 99) ?_ | ((with_reducible refine zR.stored ?_); dsimp only [zsto, zclr, zset, zget, zc2, cond_false, cond_true]) | ((with_reducible refine zR.atLit ?_); first | refine zR.step rfl ?_ | refine zR.getf rfl (hR.1) rfl ?_ | (refine zR.ilR0 hR rfl (i := 0) rfl (by omega) ?_; rw [p0])) | rw [zcc1] | rw [zcc2] | rw [zcc3] | rw [zcc4] | rw [zb1 (e)] | rw [zb2 (e)] | rw [zb3 (e)] | rw [zb4 (e)] | rw [zn1 (q)] | rw [zn2 (q)] | rw [zn3 (q)] | rw [zn4 (q)])
        exact ⟨trivial, hQ M _ hRS hS h2 hl⟩
end
