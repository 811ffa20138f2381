
/-! A WEEK: the reference fills a box. -/
def RS (M : zM) (σ : mS) (s : Nat → Int32) (W S : Int32) : Prop := ∃ ρ, Rf M ρ ∧ ρ 0 = s ∧ (∀ j, j ≠ 0 → j ≠ 10 → j ≠ 11 → j ≠ 12 → ρ j = σ j) ∧ (∀ k, k ≠ 26 → k ≠ 27 → k ≠ 28 → ρ 12 k = σ 12 k) ∧ ρ 12 27 = W ∧ ρ 12 28 = S
/-- the row's own facts that the questions need -/
def RQ (s : Nat → Int32) (nc nl lm : Nat) : Prop := (∃ Mk lak, LNS Mk lak s nc lm) ∧ s 2 = nI nc ∧ nc ≤ 8 ∧ s 3 = nI nl ∧ nl ≤ 240 ∧ s 5 = nI lm ∧ lm ≤ 20
section
variable {M0 : zM} {σ : mS} {d n w nc nl lm h sz : Nat}
theorem lw_loop {M : zM} {ρ : mS} {y : Nat → Int32} {q l : Nat} {x3 x4 : Option Value} {x5 : Int32} {Q : Option Value → Nat → Nat → zM → Prop} (hR : Rf M (zuf ρ 0 y)) (h26 : ρ 12 26 = nI q) (hl : l < 240) (hr : ∀ i, i ≤ l → 0 ≤ (y (250 + 6 * i + 5)).toInt) (l2 : y (250 + 6 * l) = nI q ∧ 0 < y (250 + 6 * l + 5)) (l4 : ∀ i, i < l → ¬ (y (250 + 6 * i) = nI q ∧ 0 < y (250 + 6 * i + 5))) (hQ : zR ztb d kX12_box0 1 184 [some (.ref 287), some (.int (nI h)), some (.int (1700 + 40 * nI h)), x3, x4, some (.int x5), some (.int (nI l))] [] n w M Q) : ∀ (t i : Nat), i + t = l → zR ztb d kX12_box0 1 138 [some (.ref 287), some (.int (nI h)), some (.int (1700 + 40 * nI h)), x3, x4, some (.int x5), some (.int (nI i))] [] n w M Q
  | t, i, hi => by
    have h26' : ∀ y, zuf ρ 0 y 12 26 = nI q := fun y => h26
    refine zR.step rfl ?_
    have hs : y (250 + 6 * i + 5) = 0 ∨ 0 < y (250 + 6 * i + 5) := by
      have := hr i (by omega)
      rw [Int32.lt_iff_toInt_lt, show (0 : Int32).toInt = 0 by decide]
      by_cases z : (y (250 + 6 * i + 5)).toInt = 0
      · left
        apply Int32.toInt_inj.mp
        rw [z]
        decide
      · right
        omega
    match t, hi with
    | 0, hi =>
      have e2 : i = l := by omega
      subst e2
      have nz : ¬ y (250 + 6 * i + 5) = 0 := fun z => by have := l2.2; rw [z] at this; exact absurd this (by decide)
      have le := l2.1
      repeat (first | with_reducible refine zR.hold (pc := 184) ?_ | ((with_reducible refine zR.stored ?_); dsimp only [zsto, zclr, zset, zget, zc2, cond_false, cond_true]) | ((with_reducible refine zR.atLit ?_); first | refine zR.step rfl ?_ | (refine zR.getf rfl hR.1 rfl ?_; rw [h26']) | refine zR.getf rfl (hR.1) rfl ?_ | refine zR.ilY hR rfl (by (try simp only [zn_lit, zn_add, zn_mul]); rfl) (by omega) ?_) | rw [zcc1] | rw [zcc2] | rw [zcc3] | rw [zcc4] | rw [ze1 (le)] | rw [ze2 (le)] | rw [zd1 (nz)] | rw [zd2 (nz)])
      exact ⟨trivial, hQ⟩
    | t + 1, hi =>
      have ih := lw_loop hR h26 hl hr l2 l4 hQ t (i + 1) (by omega)
      rw [← zI_s] at ih
      by_cases b1 : y (250 + 6 * i) = nI q
      · have b2 : y (250 + 6 * i + 5) = 0 := hs.resolve_right (fun z => l4 i (by omega) ⟨b1, z⟩)
        repeat (first | with_reducible refine zR.hold (pc := 138) ?_ | ((with_reducible refine zR.stored ?_); dsimp only [zsto, zclr, zset, zget, zc2, cond_false, cond_true]) | ((with_reducible refine zR.atLit ?_); first | refine zR.step rfl ?_ | (refine zR.getf rfl hR.1 rfl ?_; rw [h26']) | refine zR.getf rfl (hR.1) rfl ?_ | refine zR.ilY hR rfl (by (try simp only [zn_lit, zn_add, zn_mul]); rfl) (by omega) ?_) | rw [zcc1] | rw [zcc2] | rw [zcc3] | rw [zcc4] | rw [ze1 (b1)] | rw [ze2 (b1)] | rw [ze1 (b2)] | rw [ze2 (b2)])
        exact ⟨trivial, ih⟩
      · repeat (first | with_reducible refine zR.hold (pc := 138) ?_ | ((with_reducible refine zR.stored ?_); dsimp only [zsto, zclr, zset, zget, zc2, cond_false, cond_true]) | ((with_reducible refine zR.atLit ?_); first | refine zR.step rfl ?_ | (refine zR.getf rfl hR.1 rfl ?_; rw [h26']) | refine zR.getf rfl (hR.1) rfl ?_ | refine zR.ilY hR rfl (by (try simp only [zn_lit, zn_add, zn_mul]); rfl) (by omega) ?_) | rw [zcc1] | rw [zcc2] | rw [zcc3] | rw [zcc4] | rw [zd1 (b1)] | rw [zd2 (b1)])
        exact ⟨trivial, ih⟩
theorem clrR_loop {Q : Option Value → Nat → Nat → zM → Prop} {s : Nat → Int32} {x3 : Int32} (hh : h < 10) (hQ : ∀ M, Rf M (zuf σ 0 (clr s h 6)) → Sm M0 M → zR ztb d kX12_box0 1 64 [some (.ref 287), some (.int (nI h)), some (.int (1700 + 40 * nI h)), some (.int x3), some (.int (nI 6)), none, none] [] n w M Q) : ∀ (t p : Nat) (M : zM), p + t = 6 → Rf M (zuf σ 0 (clr s h p)) → Sm M0 M → zR ztb d kX12_box0 1 36 [some (.ref 287), some (.int (nI h)), some (.int (1700 + 40 * nI h)), some (.int x3), some (.int (nI p)), none, none] [] n w M Q
  | 0, p, M, hp, hR, hS => by
    have e2 : p = 6 := by omega
    subst e2
    have e : ¬ nI 6 < 6 := by decide
    repeat (first | with_reducible refine zR.hold (pc := 64) ?_ | ((with_reducible refine zR.stored ?_); dsimp only [zsto, zclr, zset, zget, zc2, cond_false, cond_true]) | ((with_reducible refine zR.atLit ?_); first | refine zR.step rfl ?_) | rw [zcc1] | rw [zcc2] | rw [zcc3] | rw [zcc4] | rw [zn1 (e)] | rw [zn2 (e)] | rw [zn3 (e)] | rw [zn4 (e)])
    exact ⟨trivial, hQ M hR hS⟩
  | t + 1, p, M, hp, hR, hS => by
    have e : nI p < 6 := zI_ylt (b := 6) (by omega) (by omega)
    refine zR.step rfl ?_
    repeat (first | ((with_reducible refine zR.stored ?_); dsimp only [zsto, zclr, zset, zget, zc2, cond_false, cond_true]) | ((with_reducible refine zR.atLit ?_); first | refine zR.step rfl ?_ | refine zR.getf rfl (hR.1) rfl ?_) | rw [zcc1] | rw [zcc2] | rw [zcc3] | rw [zcc4] | rw [zb1 (e)] | rw [zb2 (e)] | rw [zb3 (e)] | rw [zb4 (e)])
    refine zR.isY hR hS rfl (i := 1700 + 40 * h + 16 + 3 * p) (by simp only [zn_lit, zn_add, zn_mul]) (by omega) (fun M1 hR hS => ?_)
    have ih := clrR_loop hh hQ t (p + 1) M1 (by omega) hR hS
    rw [← zI_s] at ih
    repeat (first | with_reducible refine zR.hold (pc := 36) ?_ | ((with_reducible refine zR.stored ?_); dsimp only [zsto, zclr, zset, zget, zc2, cond_false, cond_true]) | ((with_reducible refine zR.atLit ?_); first | refine zR.step rfl ?_) | rw [zcc1] | rw [zcc2] | rw [zcc3] | rw [zcc4])
    exact ⟨trivial, ih⟩
theorem chF_r {s : Nat → Int32} {q : Nat} {r : Int32} (hlm : lm ≤ 20) (e : chF s nl h sz lm nc = some (q, r)) : ¬ r = -2 := by
  unfold chF at e
  cases ef : fgF s nl h sz lm 0 with
  | some l =>
    rw [ef] at e
    dsimp only at e
    injection e with e
    injection e with e1 e2
    obtain ⟨f1, -⟩ := fgF_lt _ _ _ ef
    rw [← e2]
    intro z
    have := congrArg Int32.toInt z
    rw [nI_toInt (by omega), show (-2 : Int32).toInt = -2 by decide] at this
    omega
  | none =>
    rw [ef] at e
    dsimp only at e
    cases em : msF s nl h sz lm nc with
    | some c' =>
      rw [em] at e
      dsimp only at e
      injection e with e
      injection e with e1 e2
      rw [← e2]
      decide
    | none =>
      rw [em] at e
      cases e
end
