
/-! A WEEK: chooses. -/
/-- the crop and the reason, if a place is filled -/
def chF (s : Nat → Int32) (nl h sz lm nc : Nat) : Option (Nat × Int32) := match fgF s nl h sz lm 0 with
  | some l => some ((s (2101 + 4 * l)).toNatClampNeg, nI l)
  | none => match msF s nl h sz lm nc with
    | some c => some (c, -1)
    | none => none
def chW : Option (Nat × Int32) → Int32
  | none => -2
  | some q => q.2
def chC : Option (Nat × Int32) → Int32
  | none => -1
  | some q => nI q.1
def mvF (s : Nat → Int32) (nl : Nat) : Option Nat → Int32
  | none => 0
  | some o => stockF s (nI o) nl
section
variable {M0 Mk : zM} {σ : mS} {d n w nc nl lm h sz lak : Nat}
theorem ch1 {o : Option Nat} {Q : Option Value → Nat → Nat → zM → Prop} (hL : LNS Mk lak (σ 0) nc lm) (h2 : σ 0 2 = nI nc) (h8 : nc ≤ 8) (h3 : σ 0 3 = nI nl) (h5 : σ 0 5 = nI lm) (hnl : nl ≤ 240) (hh : h < 10) (hlm : lm ≤ 20) (hz : σ 0 (1700 + 40 * h) = nI sz) (hz6 : sz ≤ 6) (hQ : ∀ l, o = some l → ∀ M ρ, Rf M ρ → Sm M0 M → (∀ j, j ≠ 10 → j ≠ 12 → ρ j = σ j) → (∀ k, k ≠ 26 → ρ 12 k = σ 12 k) → ρ 12 26 = σ 0 (2101 + 4 * l) → Q (some (.int (nI l))) n w M) (hN : o = none → ∀ M ρ x2 x3, Rf M ρ → Sm M0 M → (∀ j, j ≠ 10 → ρ j = σ j) → zR ztb (d + 5) kX12_chooses 1 74 [some (.ref 287), some (.int (nI h)), some (.int x2), x3] [] n w M Q) : ∀ (t l : Nat) (M : zM) (ρ : mS) (x3 : Option Value), l + t = lm → fgF (σ 0) nl h sz t l = o → Rf M ρ → Sm M0 M → (∀ j, j ≠ 10 → ρ j = σ j) → zR ztb (d + 5) kX12_chooses 1 2 [some (.ref 287), some (.int (nI h)), some (.int (nI l)), x3] [] n w M Q
  | t, l, M, ρ, x3, hl, he, hR, hS, hr => by
    have r0 := hr 0 (by omega)
    have p5 : ρ 0 5 = nI lm := by rw [r0]; exact h5
    refine zR.step rfl ?_
    match t, hl, he with
    | 0, hl, he =>
      have e2 : l = lm := by omega
      subst e2
      subst he
      have e : ¬ nI l < nI l := zI_nlt (Nat.le_refl _) (by omega)
      repeat (first | with_reducible refine zR.hold (pc := 74) ?_ | ((with_reducible refine zR.stored ?_); dsimp only [zsto, zclr, zset, zget, zc2, cond_false, cond_true]) | ((with_reducible refine zR.atLit ?_); first | refine zR.step rfl ?_ | refine zR.getf rfl (hR.1) rfl ?_ | (refine zR.ilR0 hR rfl (i := 5) rfl (by omega) ?_; rw [p5])) | rw [zcc1] | rw [zcc2] | rw [zcc3] | rw [zcc4] | rw [zn1 (e)] | rw [zn2 (e)] | rw [zn3 (e)] | rw [zn4 (e)])
      exact ⟨trivial, hN rfl M ρ _ _ hR hS hr⟩
    | t + 1, hl, he =>
      have e : nI l < nI lm := zI_ylt (by omega) (by omega)
      have hL' := hL
      obtain ⟨sc, r, en, -, -, -, -, x8, -⟩ := hL'
      obtain ⟨-, -, -, -, z5, -, ⟨i, hi, z7⟩, -⟩ := x8 l (by omega)
      have p1 : ρ 0 (2101 + 4 * l) = nI i := by rw [r0]; exact z7
      have ih := fun M ρ y he2 => ch1 (o := o) hL h2 h8 h3 h5 hnl hh hlm hz hz6 hQ hN t (l + 1) M ρ y (by omega) he2
      rw [← zI_s] at ih
      rw [fgF] at he
      have cg := fun {d n w : Nat} => c_isGoodR (d := d) (n := n) (w := w) (c := i) (sz := sz) (nl := nl) (nc := nc) hR hh hi (by rw [r0]; exact h2) h8 (by rw [r0]; exact h3) hnl (by rw [r0]; exact hz) hz6
      rw [r0] at cg
      by_cases y2 : σ 0 (2100 + 4 * l) = 1
      · have p0 : ρ 0 (2100 + 4 * l) = 1 := by rw [r0]; exact y2
        by_cases q1 : goodP (σ 0) nl h sz i
        · rw [if_pos q1] at cg
          repeat (first | ((with_reducible refine zR.stored ?_); dsimp only [zsto, zclr, zset, zget, zc2, cond_false, cond_true]) | ((with_reducible refine zR.atLit ?_); first | refine zR.step rfl ?_ | refine zR.getf rfl (hR.1) rfl ?_ | (refine zR.ilR0 hR rfl (i := 5) rfl (by omega) ?_; rw [p5]) | (refine zR.ilR0 hR rfl (i := 2101 + 4 * l) (by first | with_reducible rfl | (simp only [zn_lit, zn_add, zn_mul] <;> exact congrArg nI (by omega)) | rfl) (by omega) ?_; rw [p1]) | (refine zR.ilR0 hR rfl (i := 2100 + 4 * l) (by first | with_reducible rfl | (simp only [zn_lit, zn_add, zn_mul] <;> exact congrArg nI (by omega)) | rfl) (by omega) ?_; rw [p0]) | refine zR.cv rfl rfl rfl hR.1 rfl rfl (zCalP.of cg ?_)) | rw [zcc1] | rw [zcc2] | rw [zcc3] | rw [zcc4] | rw [zb1 (e)] | rw [zb2 (e)] | rw [zb3 (e)] | rw [zb4 (e)] | rw [zb1 (by decide)] | rw [zb2 (by decide)] | rw [zb3 (by decide)] | rw [zb4 (by decide)] | rw [zn1 (by decide)] | rw [zn2 (by decide)] | rw [zn3 (by decide)] | rw [zn4 (by decide)] | rw [ze1 (by decide)] | rw [ze2 (by decide)] | rw [zd1 (by decide)] | rw [zd2 (by decide)] | rw [zswy (by decide)] | rw [zswn (by decide)] | rw [zsw0])
          refine zR.cv rfl rfl rfl hR.1 rfl rfl (zR.mono (c_lhR (l := l) (Mk := Mk) (lak := lak) (nc := nc) (lm := lm) hR (by rw [r0]; exact hL) h8 (by rw [r0]; exact h3) hnl hh (by omega) hlm) (fun v n1 w1 M1 hv => ?_))
          obtain ⟨rfl, rfl, rfl, hS1, ρ1, hR1, hr1⟩ := hv
          rw [r0]
          have hr2 : ∀ j, j ≠ 10 → ρ1 j = σ j := fun j hj => (hr1 j hj).trans (hr j hj)
          have hS2 := hS.trans hS1
          cases q2 : lhB (σ 0) nl h l with
          | true =>
            rw [if_pos (show givP (σ 0) nl h sz l from ⟨⟨y2, by rw [z7, nI_clamp (by omega)]; exact q1⟩, q2⟩)] at he
            repeat (first | ((with_reducible refine zR.stored ?_); dsimp only [zsto, zclr, zset, zget, zc2, cond_false, cond_true]) | ((with_reducible refine zR.atLit ?_); first | refine zR.step rfl ?_) | rw [zcc1] | rw [zcc2] | rw [zcc3] | rw [zcc4] | rw [if_pos rfl] | rw [zb1 (by decide)] | rw [zb2 (by decide)] | rw [zb3 (by decide)] | rw [zb4 (by decide)] | rw [zn1 (by decide)] | rw [zn2 (by decide)] | rw [zn3 (by decide)] | rw [zn4 (by decide)] | rw [ze1 (by decide)] | rw [ze2 (by decide)] | rw [zd1 (by decide)] | rw [zd2 (by decide)] | rw [zswy (by decide)] | rw [zswn (by decide)] | rw [zsw0])
            refine zR.putR hR1 hS2 rfl rfl rfl rfl (fun M2 hR2 hS2 => ?_)
            repeat (first | ((with_reducible refine zR.stored ?_); dsimp only [zsto, zclr, zset, zget, zc2, cond_false, cond_true]) | ((with_reducible refine zR.atLit ?_); first | refine zR.step rfl ?_) | rw [zcc1] | rw [zcc2] | rw [zcc3] | rw [zcc4])
            exact zR.ret rfl rfl (hQ l he.symm M2 _ hR2 hS2 (fun j h1 h2 => by rw [zuf_ne _ _ h2]; exact hr2 j h1) (fun k hk => by rw [zuf_self, zuf_ne _ _ hk, hr2 12 (by omega)]) (by rw [zuf_self, zuf_self, z7]))
          | false =>
            rw [if_neg (show ¬ givP (σ 0) nl h sz l from fun z => absurd (q2.symm.trans z.2) (by decide))] at he
            repeat (first | with_reducible refine zR.hold (pc := 2) ?_ | ((with_reducible refine zR.stored ?_); dsimp only [zsto, zclr, zset, zget, zc2, cond_false, cond_true]) | ((with_reducible refine zR.atLit ?_); first | refine zR.step rfl ?_) | rw [zcc1] | rw [zcc2] | rw [zcc3] | rw [zcc4] | rw [if_neg (by decide)] | rw [zb1 (by decide)] | rw [zb2 (by decide)] | rw [zb3 (by decide)] | rw [zb4 (by decide)] | rw [zn1 (by decide)] | rw [zn2 (by decide)] | rw [zn3 (by decide)] | rw [zn4 (by decide)] | rw [ze1 (by decide)] | rw [ze2 (by decide)] | rw [zd1 (by decide)] | rw [zd2 (by decide)] | rw [zswy (by decide)] | rw [zswn (by decide)] | rw [zsw0])
            exact ⟨trivial, ih M1 ρ1 _ he hR1 hS2 hr2⟩
        · rw [if_neg q1] at cg
          rw [if_neg (show ¬ givP (σ 0) nl h sz l from fun z => q1 (by have := z.1.2; rw [z7, nI_clamp (by omega)] at this; exact this))] at he
          repeat (first | with_reducible refine zR.hold (pc := 2) ?_ | ((with_reducible refine zR.stored ?_); dsimp only [zsto, zclr, zset, zget, zc2, cond_false, cond_true]) | ((with_reducible refine zR.atLit ?_); first | refine zR.step rfl ?_ | refine zR.getf rfl (hR.1) rfl ?_ | (refine zR.ilR0 hR rfl (i := 5) rfl (by omega) ?_; rw [p5]) | (refine zR.ilR0 hR rfl (i := 2101 + 4 * l) (by first | with_reducible rfl | (simp only [zn_lit, zn_add, zn_mul] <;> exact congrArg nI (by omega)) | rfl) (by omega) ?_; rw [p1]) | (refine zR.ilR0 hR rfl (i := 2100 + 4 * l) (by first | with_reducible rfl | (simp only [zn_lit, zn_add, zn_mul] <;> exact congrArg nI (by omega)) | rfl) (by omega) ?_; rw [p0]) | refine zR.cv rfl rfl rfl hR.1 rfl rfl (zCalP.of cg ?_)) | rw [zcc1] | rw [zcc2] | rw [zcc3] | rw [zcc4] | rw [zb1 (e)] | rw [zb2 (e)] | rw [zb3 (e)] | rw [zb4 (e)] | rw [zb1 (by decide)] | rw [zb2 (by decide)] | rw [zb3 (by decide)] | rw [zb4 (by decide)] | rw [zn1 (by decide)] | rw [zn2 (by decide)] | rw [zn3 (by decide)] | rw [zn4 (by decide)] | rw [ze1 (by decide)] | rw [ze2 (by decide)] | rw [zd1 (by decide)] | rw [zd2 (by decide)] | rw [zswy (by decide)] | rw [zswn (by decide)] | rw [zsw0])
          exact ⟨trivial, ih M ρ _ he hR hS hr⟩
      · rw [if_neg (show ¬ givP (σ 0) nl h sz l from fun z => y2 z.1.1)] at he
        have p0 : ρ 0 (2100 + 4 * l) = σ 0 (2100 + 4 * l) := by rw [r0]
        repeat (first | with_reducible refine zR.hold (pc := 2) ?_ | ((with_reducible refine zR.stored ?_); dsimp only [zsto, zclr, zset, zget, zc2, cond_false, cond_true]) | ((with_reducible refine zR.atLit ?_); first | refine zR.step rfl ?_ | refine zR.getf rfl (hR.1) rfl ?_ | (refine zR.ilR0 hR rfl (i := 5) rfl (by omega) ?_; rw [p5]) | (refine zR.ilR0 hR rfl (i := 2101 + 4 * l) (by first | with_reducible rfl | (simp only [zn_lit, zn_add, zn_mul] <;> exact congrArg nI (by omega)) | rfl) (by omega) ?_; rw [p1]) | (refine zR.ilR0 hR rfl (i := 2100 + 4 * l) (by first | with_reducible rfl | (simp only [zn_lit, zn_add, zn_mul] <;> exact congrArg nI (by omega)) | rfl) (by omega) ?_; rw [p0])) | rw [zcc1] | rw [zcc2] | rw [zcc3] | rw [zcc4] | rw [zb1 (e)] | rw [zb2 (e)] | rw [zb3 (e)] | rw [zb4 (e)] | rw [zd1 (y2)] | rw [zd2 (y2)])
        exact ⟨trivial, ih M ρ _ he hR hS hr⟩
theorem ch2 {Q : Option Value → Nat → Nat → zM → Prop} (hL : LNS Mk lak (σ 0) nc lm) (h2 : σ 0 2 = nI nc) (h8 : nc ≤ 8) (h3 : σ 0 3 = nI nl) (h5 : σ 0 5 = nI lm) (hnl : nl ≤ 240) (hh : h < 10) (hlm : lm ≤ 20) (hz : σ 0 (1700 + 40 * h) = nI sz) (hz6 : sz ≤ 6) (hQ : ∀ M ρ, Rf M ρ → Sm M0 M → (∀ j, j ≠ 10 → j ≠ 12 → ρ j = σ j) → (∀ k, k ≠ 26 → ρ 12 k = σ 12 k) → ρ 12 26 = optI (msF (σ 0) nl h sz lm nc) → Q (some (.int (if msF (σ 0) nl h sz lm nc = none then -2 else -1))) n w M) : ∀ (t c : Nat) (M : zM) (ρ : mS), c + t = nc → Rf M ρ → Sm M0 M → (∀ j, j ≠ 10 → j ≠ 12 → ρ j = σ j) → (∀ k, k ≠ 26 → ρ 12 k = σ 12 k) → ρ 12 26 = optI (msF (σ 0) nl h sz lm c) → zR ztb (d + 5) kX12_chooses 1 83 [some (.ref 287), some (.int (nI h)), some (.int (mvF (σ 0) nl (msF (σ 0) nl h sz lm c))), some (.int (nI c))] [] n w M Q
  | t, c, M, ρ, hl, hR, hS, hr, hr12, h26 => by
    have r0 := hr 0 (by omega) (by omega)
    have p2 : ρ 0 2 = nI nc := by rw [r0]; exact h2
    refine zR.step rfl ?_
    match t, hl with
    | 0, hl =>
      have e2 : c = nc := by omega
      subst e2
      have e : ¬ nI c < nI c := zI_nlt (Nat.le_refl _) (by omega)
      have hq := hQ M ρ hR hS hr hr12 h26
      cases en : msF (σ 0) nl h sz lm c with
      | none =>
        rw [en, if_pos rfl] at hq
        rw [en] at h26
        repeat (first | ((with_reducible refine zR.stored ?_); dsimp only [zsto, zclr, zset, zget, zc2, cond_false, cond_true]) | ((with_reducible refine zR.atLit ?_); first | refine zR.step rfl ?_ | (refine zR.getf rfl hR.1 rfl ?_; rw [h26, show optI none = -1 from rfl]) | refine zR.getf rfl (hR.1) rfl ?_ | (refine zR.ilR0 hR rfl (i := 2) rfl (by omega) ?_; rw [p2])) | rw [zcc1] | rw [zcc2] | rw [zcc3] | rw [zcc4] | rw [zn1 (e)] | rw [zn2 (e)] | rw [zn3 (e)] | rw [zn4 (e)] | rw [zb1 (by decide)] | rw [zb2 (by decide)] | rw [zb3 (by decide)] | rw [zb4 (by decide)] | rw [zn1 (by decide)] | rw [zn2 (by decide)] | rw [zn3 (by decide)] | rw [zn4 (by decide)] | rw [ze1 (by decide)] | rw [ze2 (by decide)] | rw [zd1 (by decide)] | rw [zd2 (by decide)] | rw [zswy (by decide)] | rw [zswn (by decide)] | rw [zsw0])
        exact zR.ret rfl rfl hq
      | some o =>
        obtain ⟨ho, -⟩ := msF_lt _ _ en
        have em : ¬ nI o = -1 := zI_m1 (by omega)
        rw [en, if_neg (by simp)] at hq
        rw [en] at h26
        repeat (first | ((with_reducible refine zR.stored ?_); dsimp only [zsto, zclr, zset, zget, zc2, cond_false, cond_true]) | ((with_reducible refine zR.atLit ?_); first | refine zR.step rfl ?_ | (refine zR.getf rfl hR.1 rfl ?_; rw [h26, show optI (some o) = nI o from rfl]) | refine zR.getf rfl (hR.1) rfl ?_ | (refine zR.ilR0 hR rfl (i := 2) rfl (by omega) ?_; rw [p2])) | rw [zcc1] | rw [zcc2] | rw [zcc3] | rw [zcc4] | rw [zn1 (e)] | rw [zn2 (e)] | rw [zn3 (e)] | rw [zn4 (e)] | rw [zd1 (em)] | rw [zd2 (em)])
        exact zR.ret rfl rfl hq
    | t + 1, hl =>
      have e : nI c < nI nc := zI_ylt (by omega) (by omega)
      have ih := fun M ρ => ch2 hL h2 h8 h3 h5 hnl hh hlm hz hz6 hQ t (c + 1) M ρ (by omega)
      rw [← zI_s, show msF (σ 0) nl h sz lm (c + 1) = if freP (σ 0) nl h sz lm c ∧ mor (σ 0) nl c (msF (σ 0) nl h sz lm c) = true then some c else msF (σ 0) nl h sz lm c from rfl] at ih
      have cg := fun {d n w : Nat} => c_isGoodR (d := d) (n := n) (w := w) (c := c) (sz := sz) (nl := nl) (nc := nc) hR hh (by omega) (by rw [r0]; exact h2) h8 (by rw [r0]; exact h3) hnl (by rw [r0]; exact hz) hz6
      rw [r0] at cg
      by_cases q1 : goodP (σ 0) nl h sz c
      · rw [if_pos q1] at cg
        repeat (first | ((with_reducible refine zR.stored ?_); dsimp only [zsto, zclr, zset, zget, zc2, cond_false, cond_true]) | ((with_reducible refine zR.atLit ?_); first | refine zR.step rfl ?_ | refine zR.getf rfl (hR.1) rfl ?_ | (refine zR.ilR0 hR rfl (i := 2) rfl (by omega) ?_; rw [p2]) | refine zR.cv rfl rfl rfl hR.1 rfl rfl (zCalP.of cg ?_)) | rw [zcc1] | rw [zcc2] | rw [zcc3] | rw [zcc4] | rw [zb1 (e)] | rw [zb2 (e)] | rw [zb3 (e)] | rw [zb4 (e)] | rw [zb1 (by decide)] | rw [zb2 (by decide)] | rw [zb3 (by decide)] | rw [zb4 (by decide)] | rw [zn1 (by decide)] | rw [zn2 (by decide)] | rw [zn3 (by decide)] | rw [zn4 (by decide)] | rw [ze1 (by decide)] | rw [ze2 (by decide)] | rw [zd1 (by decide)] | rw [zd2 (by decide)] | rw [zswy (by decide)] | rw [zswn (by decide)] | rw [zsw0])
        refine zR.cv rfl rfl rfl hR.1 rfl rfl (zR.mono (c_isBarred (c := c) (Mk := Mk) (lak := lak) (nc := nc) (lm := lm) (nl := nl) hR (by rw [r0]; exact hL) h8 (by rw [r0]; exact h3) (by rw [r0]; exact h5) hnl hh hlm (by omega)) (fun v n1 w1 M1 hv => ?_))
        obtain ⟨rfl, rfl, rfl, hS1, ρ1, hR1, hr1⟩ := hv
        rw [r0]
        have hS2 := hS.trans hS1
        have hr2 : ∀ j, j ≠ 10 → j ≠ 12 → ρ1 j = σ j := fun j h1 h2 => (hr1 j h1).trans (hr j h1 h2)
        have hr3 : ∀ k, k ≠ 26 → ρ1 12 k = σ 12 k := fun k hk => by rw [hr1 12 (by omega)]; exact hr12 k hk
        have h262 : ρ1 12 26 = optI (msF (σ 0) nl h sz lm c) := by rw [hr1 12 (by omega)]; exact h26
        have r01 := hr2 0 (by omega) (by omega)
        cases q2 : brB (σ 0) nl h c lm with
        | true =>
          rw [if_neg (fun z => absurd (q2.symm.trans z.1.1) (by decide))] at ih
          repeat (first | with_reducible refine zR.hold (pc := 83) ?_ | ((with_reducible refine zR.stored ?_); dsimp only [zsto, zclr, zset, zget, zc2, cond_false, cond_true]) | ((with_reducible refine zR.atLit ?_); first | refine zR.step rfl ?_) | rw [zcc1] | rw [zcc2] | rw [zcc3] | rw [zcc4] | rw [b32_t] | rw [zb1 (by decide)] | rw [zb2 (by decide)] | rw [zb3 (by decide)] | rw [zb4 (by decide)] | rw [zn1 (by decide)] | rw [zn2 (by decide)] | rw [zn3 (by decide)] | rw [zn4 (by decide)] | rw [ze1 (by decide)] | rw [ze2 (by decide)] | rw [zd1 (by decide)] | rw [zd2 (by decide)] | rw [zswy (by decide)] | rw [zswn (by decide)] | rw [zsw0])
          exact ⟨trivial, ih M1 ρ1 hR1 hS2 hr2 hr3 h262⟩
        | false =>
          have cs := fun {d n w : Nat} => c_stock (d := d) (n := n) (w := w) (nl := nl) hR1 (by rw [r01]; exact h3) hnl (nI c)
          rw [r01] at cs
          by_cases q3 : mvF (σ 0) nl (msF (σ 0) nl h sz lm c) < stockF (σ 0) (nI c) nl
          · rw [if_pos ⟨⟨q2, q1⟩, by
              cases en : msF (σ 0) nl h sz lm c with
              | none => rfl
              | some o => rw [en] at q3; exact decide_eq_true q3⟩] at ih
            repeat (first | ((with_reducible refine zR.stored ?_); dsimp only [zsto, zclr, zset, zget, zc2, cond_false, cond_true]) | ((with_reducible refine zR.atLit ?_); first | refine zR.step rfl ?_ | refine zR.cv rfl rfl rfl hR1.1 rfl rfl (zCalP.of cs ?_)) | rw [zcc1] | rw [zcc2] | rw [zcc3] | rw [zcc4] | rw [b32_f] | rw [zb1 (by decide)] | rw [zb2 (by decide)] | rw [zb3 (by decide)] | rw [zb4 (by decide)] | rw [zn1 (by decide)] | rw [zn2 (by decide)] | rw [zn3 (by decide)] | rw [zn4 (by decide)] | rw [ze1 (by decide)] | rw [ze2 (by decide)] | rw [zd1 (by decide)] | rw [zd2 (by decide)] | rw [zswy (by decide)] | rw [zswn (by decide)] | rw [zsw0] | rw [zb1 (q3)] | rw [zb2 (q3)] | rw [zb3 (q3)] | rw [zb4 (q3)])
            refine zR.putR hR1 hS2 rfl rfl rfl rfl (fun M2 hR2 hS2 => ?_)
            have cs2 := fun {d n w : Nat} => c_stock (d := d) (n := n) (w := w) (nl := nl) hR2 (by rw [zuf_ne _ _ (by omega), r01]; exact h3) hnl (nI c)
            rw [zuf_ne _ _ (show 0 ≠ 12 by omega), r01] at cs2
            repeat (first | with_reducible refine zR.hold (pc := 83) ?_ | ((with_reducible refine zR.stored ?_); dsimp only [zsto, zclr, zset, zget, zc2, cond_false, cond_true]) | ((with_reducible refine zR.atLit ?_); first | refine zR.step rfl ?_ | refine zR.cv rfl rfl rfl hR2.1 rfl rfl (zCalP.of cs2 ?_)) | rw [zcc1] | rw [zcc2] | rw [zcc3] | rw [zcc4])
            exact ⟨trivial, ih M2 _ hR2 hS2 (fun j h1 h2 => by rw [zuf_ne _ _ h2]; exact hr2 j h1 h2) (fun k hk => by rw [zuf_self, zuf_ne _ _ hk]; exact hr3 k hk) (by rw [zuf_self, zuf_self]; rfl)⟩
          · rw [if_neg (fun z => q3 (by
              have := z.2
              cases en : msF (σ 0) nl h sz lm c with
              | none => exact q1.1.1
              | some o => rw [en] at this; exact of_decide_eq_true this))] at ih
            repeat (first | with_reducible refine zR.hold (pc := 83) ?_ | ((with_reducible refine zR.stored ?_); dsimp only [zsto, zclr, zset, zget, zc2, cond_false, cond_true]) | ((with_reducible refine zR.atLit ?_); first | refine zR.step rfl ?_ | refine zR.cv rfl rfl rfl hR1.1 rfl rfl (zCalP.of cs ?_)) | rw [zcc1] | rw [zcc2] | rw [zcc3] | rw [zcc4] | rw [b32_f] | rw [zb1 (by decide)] | rw [zb2 (by decide)] | rw [zb3 (by decide)] | rw [zb4 (by decide)] | rw [zn1 (by decide)] | rw [zn2 (by decide)] | rw [zn3 (by decide)] | rw [zn4 (by decide)] | rw [ze1 (by decide)] | rw [ze2 (by decide)] | rw [zd1 (by decide)] | rw [zd2 (by decide)] | rw [zswy (by decide)] | rw [zswn (by decide)] | rw [zsw0] | rw [zn1 (q3)] | rw [zn2 (q3)] | rw [zn3 (q3)] | rw [zn4 (q3)])
            exact ⟨trivial, ih M1 ρ1 hR1 hS2 hr2 hr3 h262⟩
      · rw [if_neg q1] at cg
        rw [if_neg (fun z => q1 z.1.2)] at ih
        repeat (first | with_reducible refine zR.hold (pc := 83) ?_ | ((with_reducible refine zR.stored ?_); dsimp only [zsto, zclr, zset, zget, zc2, cond_false, cond_true]) | ((with_reducible refine zR.atLit ?_); first | refine zR.step rfl ?_ | refine zR.getf rfl (hR.1) rfl ?_ | (refine zR.ilR0 hR rfl (i := 2) rfl (by omega) ?_; rw [p2]) | refine zR.cv rfl rfl rfl hR.1 rfl rfl (zCalP.of cg ?_)) | rw [zcc1] | rw [zcc2] | rw [zcc3] | rw [zcc4] | rw [zb1 (e)] | rw [zb2 (e)] | rw [zb3 (e)] | rw [zb4 (e)] | rw [zb1 (by decide)] | rw [zb2 (by decide)] | rw [zb3 (by decide)] | rw [zb4 (by decide)] | rw [zn1 (by decide)] | rw [zn2 (by decide)] | rw [zn3 (by decide)] | rw [zn4 (by decide)] | rw [ze1 (by decide)] | rw [ze2 (by decide)] | rw [zd1 (by decide)] | rw [zd2 (by decide)] | rw [zswy (by decide)] | rw [zswn (by decide)] | rw [zsw0])
        exact ⟨trivial, ih M ρ hR hS hr hr12 h26⟩
theorem c_chooses {M : zM} (hR : Rf M σ) (hL : LNS Mk lak (σ 0) nc lm) (h2 : σ 0 2 = nI nc) (h8 : nc ≤ 8) (h3 : σ 0 3 = nI nl) (h5 : σ 0 5 = nI lm) (hnl : nl ≤ 240) (hh : h < 10) (hlm : lm ≤ 20) (hz : σ 0 (1700 + 40 * h) = nI sz) (hz6 : sz ≤ 6) : zCalP (d + 5) 182 [.ref 287, .int (nI h)] n w M (fun v n' w' M' => v = some (.int (chW (chF (σ 0) nl h sz lm nc))) ∧ n = n' ∧ w = w' ∧ Sm M M' ∧ ∃ ρ, Rf M' ρ ∧ (∀ j, j ≠ 10 → j ≠ 12 → ρ j = σ j) ∧ (∀ k, k ≠ 26 → ρ 12 k = σ 12 k) ∧ ρ 12 26 = chC (chF (σ 0) nl h sz lm nc)) := by
  show zR ztb _ kX12_chooses 1 0 [some (.ref 287), some (.int (nI h)), none, none] [] _ _ _ _
  repeat (first | with_reducible refine zR.hold (pc := 2) ?_ | ((with_reducible refine zR.stored ?_); dsimp only [zsto, zclr, zset, zget, zc2, cond_false, cond_true]) | ((with_reducible refine zR.atLit ?_); first | refine zR.step rfl ?_) | rw [zcc1] | rw [zcc2] | rw [zcc3] | rw [zcc4])
  refine ⟨trivial, ch1 (M0 := M) (o := fgF (σ 0) nl h sz lm 0) hL h2 h8 h3 h5 hnl hh hlm hz hz6 (fun l ho M' ρ a1 a2 a3 a4 a5 => ?_) (fun ho M' ρ x2 x3 a1 a2 a3 => ?_) lm 0 M σ none (by omega) rfl hR Sm.rf (fun _ _ => rfl)⟩
  · have ec : chF (σ 0) nl h sz lm nc = some ((σ 0 (2101 + 4 * l)).toNatClampNeg, nI l) := by
      unfold chF
      rw [ho]
    rw [ec]
    obtain ⟨hl, -⟩ := fgF_lt _ _ _ ho
    obtain ⟨sc, r, en, -, -, -, -, x8, -⟩ := hL
    obtain ⟨-, -, -, -, -, -, ⟨i, hi, z7⟩, -⟩ := x8 l (by omega)
    refine ⟨rfl, rfl, rfl, a2, ρ, a1, a3, a4, ?_⟩
    rw [a5]
    show _ = nI (σ 0 (2101 + 4 * l)).toNatClampNeg
    rw [z7, nI_clamp (by omega)]
  · repeat (first | ((with_reducible refine zR.stored ?_); dsimp only [zsto, zclr, zset, zget, zc2, cond_false, cond_true]) | ((with_reducible refine zR.atLit ?_); first | refine zR.step rfl ?_) | rw [zcc1] | rw [zcc2] | rw [zcc3] | rw [zcc4])
    refine zR.putR a1 a2 rfl rfl rfl rfl (fun M2 hR2 hS2 => ?_)
    have ec : chF (σ 0) nl h sz lm nc = (match msF (σ 0) nl h sz lm nc with
      | some c => some (c, -1)
      | none => none) := by
      unfold chF
      rw [ho]
    repeat (first | with_reducible refine zR.hold (pc := 83) ?_ | ((with_reducible refine zR.stored ?_); dsimp only [zsto, zclr, zset, zget, zc2, cond_false, cond_true]) | ((with_reducible refine zR.atLit ?_); first | refine zR.step rfl ?_) | rw [zcc1] | rw [zcc2] | rw [zcc3] | rw [zcc4])
    refine ⟨trivial, ch2 (M0 := M) hL h2 h8 h3 h5 hnl hh hlm hz hz6 (fun M3 ρ3 c1 c2 c3 c4 c5 => ?_) nc 0 M2 _ (by omega) hR2 hS2 (fun j h1 h2 => by rw [zuf_ne _ _ h2]; exact a3 j h1) (fun k hk => by rw [zuf_self, zuf_ne _ _ hk, a3 12 (by omega)]) (by rw [zuf_self, zuf_self]; rfl)⟩
    rw [ec]
    cases en : msF (σ 0) nl h sz lm nc with
    | none =>
      rw [en] at c5
      exact ⟨by rw [if_pos rfl]; rfl, rfl, rfl, c2, ρ3, c1, c3, c4, c5⟩
    | some o =>
      rw [en] at c5
      exact ⟨by rw [if_neg (by simp)]; rfl, rfl, rfl, c2, ρ3, c1, c3, c4, c5⟩
end
