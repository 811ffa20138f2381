
/-! lineHolds. -/
def pileR : List Bool → (Nat → Int32) → Prop
  | [], _ => True
  | b :: t, f => f t.length = b32 b ∧ pileR t f
theorem pileR_up {x : Int32} : ∀ {st : List Bool} {f : Nat → Int32} {i : Nat}, pileR st f → st.length ≤ i → pileR st (zuf f i x)
  | [], _, _, _, _ => trivial
  | b :: t, f, i, h, hi => ⟨by rw [List.length_cons] at hi; rw [zuf_ne _ _ (by omega)]; exact h.1, pileR_up h.2 (by rw [List.length_cons] at hi; omega)⟩
theorem b32_01 (b : Bool) : b32 b &&& 1 = b32 b := by cases b <;> decide
theorem lh_end {M : zM} {ρ : mS} {d n w : Nat} {st : List Bool} {L1 L2 L3 L4 L5 L6 L7 L8 L9 : Option Value} {Q : Option Value → Nat → Nat → zM → Prop} (hR : Rf M ρ) (hp : pileR st (ρ 10)) (h1 : st.length ≤ 1) (h0 : st = [] → ρ 10 0 = 1) (hQ : Q (some (.int (if encN st % 2 = 1 then 1 else 0))) n w M) : zR ztb d kX12_lineHolds 2 293 [some (.ref 287), L1, L2, L3, L4, L5, L6, L7, L8, L9] [] n w M Q := by
  have h10 : M 298 = .inl (2, 120, .inl (ρ 10)) := hR.2 10 (by omega)
  match st, hp, h1, h0, hQ with
  | [], hp, h1, h0, hQ =>
    have e0 := h0 rfl
    repeat (first | ((with_reducible refine zR.stored ?_); dsimp only [zsto, zclr, zset, zget, zc2, cond_false, cond_true]) | ((with_reducible refine zR.atLit ?_); first | refine zR.step rfl ?_ | refine zR.getf rfl (hR.1) rfl ?_ | (refine zR.bald rfl h10 (Or.inr (Or.inl rfl)) (i := 0) rfl (by omega) (by decide) ?_; rw [e0])) | rw [zcc1] | rw [zcc2] | rw [zcc3] | rw [zcc4])
    exact zR.ret rfl rfl hQ
  | [b], hp, h1, h0, hQ =>
    have e0 : ρ 10 0 = b32 b := hp.1
    cases b with
    | false =>
      replace e0 : ρ 10 0 = 0 := e0
      repeat (first | ((with_reducible refine zR.stored ?_); dsimp only [zsto, zclr, zset, zget, zc2, cond_false, cond_true]) | ((with_reducible refine zR.atLit ?_); first | refine zR.step rfl ?_ | refine zR.getf rfl (hR.1) rfl ?_ | (refine zR.bald rfl h10 (Or.inr (Or.inl rfl)) (i := 0) rfl (by omega) (by decide) ?_; rw [e0])) | rw [zcc1] | rw [zcc2] | rw [zcc3] | rw [zcc4])
      exact zR.ret rfl rfl hQ
    | true =>
      replace e0 : ρ 10 0 = 1 := e0
      repeat (first | ((with_reducible refine zR.stored ?_); dsimp only [zsto, zclr, zset, zget, zc2, cond_false, cond_true]) | ((with_reducible refine zR.atLit ?_); first | refine zR.step rfl ?_ | refine zR.getf rfl (hR.1) rfl ?_ | (refine zR.bald rfl h10 (Or.inr (Or.inl rfl)) (i := 0) rfl (by omega) (by decide) ?_; rw [e0])) | rw [zcc1] | rw [zcc2] | rw [zcc3] | rw [zcc4])
      exact zR.ret rfl rfl hQ
  | a :: b :: t, hp, h1, h0, hQ =>
    rw [List.length_cons, List.length_cons] at h1
    omega
theorem lh_loop {M0 : zM} {σ : mS} {d n w nl h e l : Nat} {a3 : Int32} {Q : Option Value → Nat → Nat → zM → Prop} (h3 : σ 0 3 = nI nl) (hnl : nl ≤ 240) (hh : h < 10) (he : e ≤ 100) (hc : ∀ k, k < e → (σ 0 (2200 + 4 * k) = 6 ∨ σ 0 (2200 + 4 * k) = 7 → ∃ i, i < 8 ∧ σ 0 (2201 + 4 * k) = nI i)) : ∀ (m k : Nat) (st : List Bool) (M : zM) (ρ : mS) (v7 v8 v9 : Option Value), k + m = e → st.length ≤ 40 → ((m = 0 ∧ st = []) ∨ wfS (σ 0) m k st.length) → Rf M ρ → Sm M0 M → (∀ j, j ≠ 10 → ρ j = σ j) → pileR st (ρ 10) → (st = [] → m = 0 → ρ 10 0 = 1) → (∀ M' ρ', Rf M' ρ' → Sm M0 M' → (∀ j, j ≠ 10 → ρ' j = σ j) → Q (some (.int (if encN (evS (σ 0) nl h m k st) % 2 = 1 then 1 else 0))) n w M') → zR ztb (d + 3) kX12_lineHolds 2 44 [some (.ref 287), some (.int (nI l)), some (.int (nI h)), some (.int a3), some (.int (nI e)), some (.int (nI st.length)), some (.int (nI k)), v7, v8, v9] [] n w M Q
  | 0, k, st, M, ρ, v7, v8, v9, hke, hl, hwf, hR, hS, r1, hp, h0, hQ => by
    have e2 : k = e := by omega
    subst e2
    have ee : ¬ nI k < nI k := zI_nlt (Nat.le_refl _) (by omega)
    repeat (first | with_reducible refine zR.hold (pc := 293) ?_ | ((with_reducible refine zR.stored ?_); dsimp only [zsto, zclr, zset, zget, zc2, cond_false, cond_true]) | ((with_reducible refine zR.atLit ?_); first | refine zR.step rfl ?_) | rw [zcc1] | rw [zcc2] | rw [zcc3] | rw [zcc4] | rw [zn1 (ee)] | rw [zn2 (ee)] | rw [zn3 (ee)] | rw [zn4 (ee)])
    refine ⟨trivial, lh_end hR hp ?_ (fun z => h0 z rfl) (hQ M ρ hR hS r1)⟩
    rcases hwf with ⟨-, z⟩ | z
    · rw [z]; decide
    · exact Nat.le_of_eq z
  | m + 1, k, st, M, ρ, v7, v8, v9, hke, hl, hwf, hR, hS, r1, hp, h0, hQ => by
    have ee : nI k < nI e := zI_ylt (by omega) (by omega)
    have hwf2 := hwf.resolve_left (fun z => by omega)
    unfold wfS at hwf2
    unfold evS at hQ
    have r0 : ρ 0 = σ 0 := r1 0 (by omega)
    refine zR.step rfl ?_
    repeat (first | ((with_reducible refine zR.stored ?_); dsimp only [zsto, zclr, zset, zget, zc2, cond_false, cond_true]) | ((with_reducible refine zR.atLit ?_); first | refine zR.step rfl ?_ | refine zR.getf rfl (hR.1) rfl ?_ | refine zR.ilR0 hR rfl (by (try simp only [zn_lit, zn_add, zn_mul]); rfl) (by omega) ?_) | rw [zcc1] | rw [zcc2] | rw [zcc3] | rw [zcc4] | rw [zb1 (ee)] | rw [zb2 (ee)] | rw [zb3 (ee)] | rw [zb4 (ee)] | rw [r0])
    have no : ∀ x y : Int32, σ 0 (2200 + 4 * k) = x → ¬ x = y → ¬ σ 0 (2200 + 4 * k) = y := fun x y a b c => b (a.symm.trans c)
    have nxt : ∀ (st' : List Bool) (M' : zM) (ρ' : mS) (v7 v8 v9 : Option Value), stepB (σ 0) nl h k st = st' → st'.length ≤ 40 → wfS (σ 0) m (k + 1) st'.length → Rf M' ρ' → Sm M0 M' → (∀ j, j ≠ 10 → ρ' j = σ j) → pileR st' (ρ' 10) → st' ≠ [] → zR ztb (d + 3) kX12_lineHolds 2 44 [some (.ref 287), some (.int (nI l)), some (.int (nI h)), some (.int a3), some (.int (nI e)), some (.int (nI st'.length)), some (.int (nI k + 1)), v7, v8, v9] [] n w M' Q := by
      intro st' M' ρ' v7 v8 v9 g1 g2 g3 g4 g5 g6 g7 g8
      rw [g1] at hQ
      rw [zI_s]
      exact lh_loop h3 hnl hh he hc m (k + 1) st' M' ρ' v7 v8 v9 (by omega) g2 (Or.inr g3) g4 g5 g6 g7 (fun z => absurd z g8) hQ
    rcases hwf2 with ⟨wh, wl, w2⟩ | ⟨wh, wl, w2⟩ | ⟨wh, wl, w2⟩
    · rw [ze2 wh]
      match st, hl, hp, wl, w2, nxt with
      | [], hl, hp, wl, w2, nxt => exact absurd wl (by decide)
      | b :: t, hl, hp, wl, w2, nxt =>
        rw [List.length_cons] at hl w2
        have ep : nI (b :: t).length - 1 = nI t.length := zI_pred (m := t.length + 1) (by omega) (by omega)
        have f0 := hp.1
        have e1 : stepB (σ 0) nl h k (b :: t) = (!b) :: t := by unfold stepB; rw [if_pos wh]
        cases b with
        | false =>
          replace f0 : ρ 10 t.length = 0 := f0
          repeat (first | ((with_reducible refine zR.stored ?_); dsimp only [zsto, zclr, zset, zget, zc2, cond_false, cond_true]) | ((with_reducible refine zR.atLit ?_); first | refine zR.step rfl ?_ | refine zR.getf rfl (hR.1) rfl ?_ | (refine zR.ilR10 hR rfl (i := t.length) (by with_reducible exact ep) (by omega) ?_; rw [f0])) | rw [zcc1] | rw [zcc2] | rw [zcc3] | rw [zcc4])
          refine zR.isR10 hR hS rfl (i := t.length) ep (by omega) (fun M1 hR1 hS1 => ?_)
          repeat (first | with_reducible refine zR.hold (pc := 44) ?_ | ((with_reducible refine zR.stored ?_); dsimp only [zsto, zclr, zset, zget, zc2, cond_false, cond_true]) | ((with_reducible refine zR.atLit ?_); first | refine zR.step rfl ?_) | rw [zcc1] | rw [zcc2] | rw [zcc3] | rw [zcc4])
          exact ⟨trivial, nxt (true :: t) M1 _ _ _ _ e1 (by rw [List.length_cons]; omega) (by rw [List.length_cons]; exact w2) hR1 hS1 (fun j hj => by rw [zuf_ne _ _ hj]; exact r1 j hj) ⟨by rw [zuf_self, zuf_self]; decide, by rw [zuf_self]; exact pileR_up hp.2 (Nat.le_refl _)⟩ (by simp)⟩
        | true =>
          replace f0 : ρ 10 t.length = 1 := f0
          repeat (first | ((with_reducible refine zR.stored ?_); dsimp only [zsto, zclr, zset, zget, zc2, cond_false, cond_true]) | ((with_reducible refine zR.atLit ?_); first | refine zR.step rfl ?_ | refine zR.getf rfl (hR.1) rfl ?_ | (refine zR.ilR10 hR rfl (i := t.length) (by with_reducible exact ep) (by omega) ?_; rw [f0])) | rw [zcc1] | rw [zcc2] | rw [zcc3] | rw [zcc4])
          refine zR.isR10 hR hS rfl (i := t.length) ep (by omega) (fun M1 hR1 hS1 => ?_)
          repeat (first | with_reducible refine zR.hold (pc := 44) ?_ | ((with_reducible refine zR.stored ?_); dsimp only [zsto, zclr, zset, zget, zc2, cond_false, cond_true]) | ((with_reducible refine zR.atLit ?_); first | refine zR.step rfl ?_) | rw [zcc1] | rw [zcc2] | rw [zcc3] | rw [zcc4])
          exact ⟨trivial, nxt (false :: t) M1 _ _ _ _ e1 (by rw [List.length_cons]; omega) (by rw [List.length_cons]; exact w2) hR1 hS1 (fun j hj => by rw [zuf_ne _ _ hj]; exact r1 j hj) ⟨by rw [zuf_self, zuf_self]; decide, by rw [zuf_self]; exact pileR_up hp.2 (Nat.le_refl _)⟩ (by simp)⟩
    · match st, hl, hp, wl, w2, nxt with
      | [], hl, hp, wl, w2, nxt => exact absurd wl (by decide)
      | [_], hl, hp, wl, w2, nxt => exact absurd wl (by simp)
      | b :: a :: t, hl, hp, wl, w2, nxt =>
        rw [List.length_cons, List.length_cons] at hl w2
        have ei : nI (b :: a :: t).length + -1 = nI (t.length + 1) := (Int32.sub_eq_add_neg (nI (b :: a :: t).length) 1).symm.trans (zI_pred (m := t.length + 1 + 1) (by omega) (by omega))
        have ep : nI (b :: a :: t).length + -1 - 1 = nI t.length := by rw [ei]; exact zI_pred (m := t.length + 1) (by omega) (by omega)
        have fb : ρ 10 (t.length + 1) = b32 b := hp.1
        have fa : ρ 10 t.length = b32 a := hp.2.1
        have hpt := hp.2.2
        have w3 : wfS (σ 0) m (k + 1) (t.length + 1) := by rw [show t.length + 1 = t.length + 1 + 1 - 1 by omega]; exact w2
        rcases wh with wh | wh
        · have e1 : stepB (σ 0) nl h k (b :: a :: t) = (a && b) :: t := by unfold stepB; rw [if_neg (no 11 10 wh (by decide)), if_pos wh]
          rw [zd2 (no 11 10 wh (by decide))]
          cases a <;> cases b
          · replace fa : ρ 10 t.length = 0 := fa
            replace fb : ρ 10 (t.length + 1) = 0 := fb
            repeat (first | ((with_reducible refine zR.stored ?_); dsimp only [zsto, zclr, zset, zget, zc2, cond_false, cond_true]) | ((with_reducible refine zR.atLit ?_); first | refine zR.step rfl ?_ | refine zR.getf rfl (hR.1) rfl ?_ | (refine zR.ilR10 hR rfl (i := t.length) (by with_reducible exact ep) (by omega) ?_; rw [fa]) | (refine zR.ilR10 hR rfl (i := t.length + 1) (by with_reducible exact ei) (by omega) ?_; rw [fb])) | rw [zcc1] | rw [zcc2] | rw [zcc3] | rw [zcc4] | rw [ze1 (wh)] | rw [ze2 (wh)])
            refine zR.isR10 hR hS rfl (i := t.length) ep (by omega) (fun M1 hR1 hS1 => ?_)
            repeat (first | with_reducible refine zR.hold (pc := 44) ?_ | ((with_reducible refine zR.stored ?_); dsimp only [zsto, zclr, zset, zget, zc2, cond_false, cond_true]) | ((with_reducible refine zR.atLit ?_); first | refine zR.step rfl ?_) | rw [zcc1] | rw [zcc2] | rw [zcc3] | rw [zcc4])
            rw [ei]
            exact ⟨trivial, nxt (false :: t) M1 _ _ _ _ e1 (by rw [List.length_cons]; omega) (by rw [List.length_cons]; exact w3) hR1 hS1 (fun j hj => by rw [zuf_ne _ _ hj]; exact r1 j hj) ⟨by rw [zuf_self, zuf_self]; decide, by rw [zuf_self]; exact pileR_up hpt (Nat.le_refl _)⟩ (by simp)⟩
          · replace fa : ρ 10 t.length = 0 := fa
            replace fb : ρ 10 (t.length + 1) = 1 := fb
            repeat (first | ((with_reducible refine zR.stored ?_); dsimp only [zsto, zclr, zset, zget, zc2, cond_false, cond_true]) | ((with_reducible refine zR.atLit ?_); first | refine zR.step rfl ?_ | refine zR.getf rfl (hR.1) rfl ?_ | (refine zR.ilR10 hR rfl (i := t.length) (by with_reducible exact ep) (by omega) ?_; rw [fa]) | (refine zR.ilR10 hR rfl (i := t.length + 1) (by with_reducible exact ei) (by omega) ?_; rw [fb])) | rw [zcc1] | rw [zcc2] | rw [zcc3] | rw [zcc4] | rw [ze1 (wh)] | rw [ze2 (wh)])
            refine zR.isR10 hR hS rfl (i := t.length) ep (by omega) (fun M1 hR1 hS1 => ?_)
            repeat (first | with_reducible refine zR.hold (pc := 44) ?_ | ((with_reducible refine zR.stored ?_); dsimp only [zsto, zclr, zset, zget, zc2, cond_false, cond_true]) | ((with_reducible refine zR.atLit ?_); first | refine zR.step rfl ?_) | rw [zcc1] | rw [zcc2] | rw [zcc3] | rw [zcc4])
            rw [ei]
            exact ⟨trivial, nxt (false :: t) M1 _ _ _ _ e1 (by rw [List.length_cons]; omega) (by rw [List.length_cons]; exact w3) hR1 hS1 (fun j hj => by rw [zuf_ne _ _ hj]; exact r1 j hj) ⟨by rw [zuf_self, zuf_self]; decide, by rw [zuf_self]; exact pileR_up hpt (Nat.le_refl _)⟩ (by simp)⟩
          · replace fa : ρ 10 t.length = 1 := fa
            replace fb : ρ 10 (t.length + 1) = 0 := fb
            repeat (first | ((with_reducible refine zR.stored ?_); dsimp only [zsto, zclr, zset, zget, zc2, cond_false, cond_true]) | ((with_reducible refine zR.atLit ?_); first | refine zR.step rfl ?_ | refine zR.getf rfl (hR.1) rfl ?_ | (refine zR.ilR10 hR rfl (i := t.length) (by with_reducible exact ep) (by omega) ?_; rw [fa]) | (refine zR.ilR10 hR rfl (i := t.length + 1) (by with_reducible exact ei) (by omega) ?_; rw [fb])) | rw [zcc1] | rw [zcc2] | rw [zcc3] | rw [zcc4] | rw [ze1 (wh)] | rw [ze2 (wh)])
            refine zR.isR10 hR hS rfl (i := t.length) ep (by omega) (fun M1 hR1 hS1 => ?_)
            repeat (first | with_reducible refine zR.hold (pc := 44) ?_ | ((with_reducible refine zR.stored ?_); dsimp only [zsto, zclr, zset, zget, zc2, cond_false, cond_true]) | ((with_reducible refine zR.atLit ?_); first | refine zR.step rfl ?_) | rw [zcc1] | rw [zcc2] | rw [zcc3] | rw [zcc4])
            rw [ei]
            exact ⟨trivial, nxt (false :: t) M1 _ _ _ _ e1 (by rw [List.length_cons]; omega) (by rw [List.length_cons]; exact w3) hR1 hS1 (fun j hj => by rw [zuf_ne _ _ hj]; exact r1 j hj) ⟨by rw [zuf_self, zuf_self]; decide, by rw [zuf_self]; exact pileR_up hpt (Nat.le_refl _)⟩ (by simp)⟩
          · replace fa : ρ 10 t.length = 1 := fa
            replace fb : ρ 10 (t.length + 1) = 1 := fb
            repeat (first | ((with_reducible refine zR.stored ?_); dsimp only [zsto, zclr, zset, zget, zc2, cond_false, cond_true]) | ((with_reducible refine zR.atLit ?_); first | refine zR.step rfl ?_ | refine zR.getf rfl (hR.1) rfl ?_ | (refine zR.ilR10 hR rfl (i := t.length) (by with_reducible exact ep) (by omega) ?_; rw [fa]) | (refine zR.ilR10 hR rfl (i := t.length + 1) (by with_reducible exact ei) (by omega) ?_; rw [fb])) | rw [zcc1] | rw [zcc2] | rw [zcc3] | rw [zcc4] | rw [ze1 (wh)] | rw [ze2 (wh)])
            refine zR.isR10 hR hS rfl (i := t.length) ep (by omega) (fun M1 hR1 hS1 => ?_)
            repeat (first | with_reducible refine zR.hold (pc := 44) ?_ | ((with_reducible refine zR.stored ?_); dsimp only [zsto, zclr, zset, zget, zc2, cond_false, cond_true]) | ((with_reducible refine zR.atLit ?_); first | refine zR.step rfl ?_) | rw [zcc1] | rw [zcc2] | rw [zcc3] | rw [zcc4])
            rw [ei]
            exact ⟨trivial, nxt (true :: t) M1 _ _ _ _ e1 (by rw [List.length_cons]; omega) (by rw [List.length_cons]; exact w3) hR1 hS1 (fun j hj => by rw [zuf_ne _ _ hj]; exact r1 j hj) ⟨by rw [zuf_self, zuf_self]; decide, by rw [zuf_self]; exact pileR_up hpt (Nat.le_refl _)⟩ (by simp)⟩
        · have e1 : stepB (σ 0) nl h k (b :: a :: t) = (a || b) :: t := by unfold stepB; rw [if_neg (no 12 10 wh (by decide)), if_neg (no 12 11 wh (by decide)), if_pos wh]
          rw [zd2 (no 12 10 wh (by decide))]
          cases a <;> cases b
          · replace fa : ρ 10 t.length = 0 := fa
            replace fb : ρ 10 (t.length + 1) = 0 := fb
            repeat (first | ((with_reducible refine zR.stored ?_); dsimp only [zsto, zclr, zset, zget, zc2, cond_false, cond_true]) | ((with_reducible refine zR.atLit ?_); first | refine zR.step rfl ?_ | refine zR.getf rfl (hR.1) rfl ?_ | (refine zR.ilR10 hR rfl (i := t.length) (by with_reducible exact ep) (by omega) ?_; rw [fa]) | (refine zR.ilR10 hR rfl (i := t.length + 1) (by with_reducible exact ei) (by omega) ?_; rw [fb])) | rw [zcc1] | rw [zcc2] | rw [zcc3] | rw [zcc4] | rw [ze1 (wh)] | rw [ze2 (wh)] | rw [zd1 ((no 12 11 wh (by decide)))] | rw [zd2 ((no 12 11 wh (by decide)))])
            refine zR.isR10 hR hS rfl (i := t.length) ep (by omega) (fun M1 hR1 hS1 => ?_)
            repeat (first | with_reducible refine zR.hold (pc := 44) ?_ | ((with_reducible refine zR.stored ?_); dsimp only [zsto, zclr, zset, zget, zc2, cond_false, cond_true]) | ((with_reducible refine zR.atLit ?_); first | refine zR.step rfl ?_) | rw [zcc1] | rw [zcc2] | rw [zcc3] | rw [zcc4])
            rw [ei]
            exact ⟨trivial, nxt (false :: t) M1 _ _ _ _ e1 (by rw [List.length_cons]; omega) (by rw [List.length_cons]; exact w3) hR1 hS1 (fun j hj => by rw [zuf_ne _ _ hj]; exact r1 j hj) ⟨by rw [zuf_self, zuf_self]; decide, by rw [zuf_self]; exact pileR_up hpt (Nat.le_refl _)⟩ (by simp)⟩
          · replace fa : ρ 10 t.length = 0 := fa
            replace fb : ρ 10 (t.length + 1) = 1 := fb
            repeat (first | ((with_reducible refine zR.stored ?_); dsimp only [zsto, zclr, zset, zget, zc2, cond_false, cond_true]) | ((with_reducible refine zR.atLit ?_); first | refine zR.step rfl ?_ | refine zR.getf rfl (hR.1) rfl ?_ | (refine zR.ilR10 hR rfl (i := t.length) (by with_reducible exact ep) (by omega) ?_; rw [fa]) | (refine zR.ilR10 hR rfl (i := t.length + 1) (by with_reducible exact ei) (by omega) ?_; rw [fb])) | rw [zcc1] | rw [zcc2] | rw [zcc3] | rw [zcc4] | rw [ze1 (wh)] | rw [ze2 (wh)] | rw [zd1 ((no 12 11 wh (by decide)))] | rw [zd2 ((no 12 11 wh (by decide)))])
            refine zR.isR10 hR hS rfl (i := t.length) ep (by omega) (fun M1 hR1 hS1 => ?_)
            repeat (first | with_reducible refine zR.hold (pc := 44) ?_ | ((with_reducible refine zR.stored ?_); dsimp only [zsto, zclr, zset, zget, zc2, cond_false, cond_true]) | ((with_reducible refine zR.atLit ?_); first | refine zR.step rfl ?_) | rw [zcc1] | rw [zcc2] | rw [zcc3] | rw [zcc4])
            rw [ei]
            exact ⟨trivial, nxt (true :: t) M1 _ _ _ _ e1 (by rw [List.length_cons]; omega) (by rw [List.length_cons]; exact w3) hR1 hS1 (fun j hj => by rw [zuf_ne _ _ hj]; exact r1 j hj) ⟨by rw [zuf_self, zuf_self]; decide, by rw [zuf_self]; exact pileR_up hpt (Nat.le_refl _)⟩ (by simp)⟩
          · replace fa : ρ 10 t.length = 1 := fa
            replace fb : ρ 10 (t.length + 1) = 0 := fb
            repeat (first | ((with_reducible refine zR.stored ?_); dsimp only [zsto, zclr, zset, zget, zc2, cond_false, cond_true]) | ((with_reducible refine zR.atLit ?_); first | refine zR.step rfl ?_ | refine zR.getf rfl (hR.1) rfl ?_ | (refine zR.ilR10 hR rfl (i := t.length) (by with_reducible exact ep) (by omega) ?_; rw [fa]) | (refine zR.ilR10 hR rfl (i := t.length + 1) (by with_reducible exact ei) (by omega) ?_; rw [fb])) | rw [zcc1] | rw [zcc2] | rw [zcc3] | rw [zcc4] | rw [ze1 (wh)] | rw [ze2 (wh)] | rw [zd1 ((no 12 11 wh (by decide)))] | rw [zd2 ((no 12 11 wh (by decide)))])
            refine zR.isR10 hR hS rfl (i := t.length) ep (by omega) (fun M1 hR1 hS1 => ?_)
            repeat (first | with_reducible refine zR.hold (pc := 44) ?_ | ((with_reducible refine zR.stored ?_); dsimp only [zsto, zclr, zset, zget, zc2, cond_false, cond_true]) | ((with_reducible refine zR.atLit ?_); first | refine zR.step rfl ?_) | rw [zcc1] | rw [zcc2] | rw [zcc3] | rw [zcc4])
            rw [ei]
            exact ⟨trivial, nxt (true :: t) M1 _ _ _ _ e1 (by rw [List.length_cons]; omega) (by rw [List.length_cons]; exact w3) hR1 hS1 (fun j hj => by rw [zuf_ne _ _ hj]; exact r1 j hj) ⟨by rw [zuf_self, zuf_self]; decide, by rw [zuf_self]; exact pileR_up hpt (Nat.le_refl _)⟩ (by simp)⟩
          · replace fa : ρ 10 t.length = 1 := fa
            replace fb : ρ 10 (t.length + 1) = 1 := fb
            repeat (first | ((with_reducible refine zR.stored ?_); dsimp only [zsto, zclr, zset, zget, zc2, cond_false, cond_true]) | ((with_reducible refine zR.atLit ?_); first | refine zR.step rfl ?_ | refine zR.getf rfl (hR.1) rfl ?_ | (refine zR.ilR10 hR rfl (i := t.length) (by with_reducible exact ep) (by omega) ?_; rw [fa]) | (refine zR.ilR10 hR rfl (i := t.length + 1) (by with_reducible exact ei) (by omega) ?_; rw [fb])) | rw [zcc1] | rw [zcc2] | rw [zcc3] | rw [zcc4] | rw [ze1 (wh)] | rw [ze2 (wh)] | rw [zd1 ((no 12 11 wh (by decide)))] | rw [zd2 ((no 12 11 wh (by decide)))])
            refine zR.isR10 hR hS rfl (i := t.length) ep (by omega) (fun M1 hR1 hS1 => ?_)
            repeat (first | with_reducible refine zR.hold (pc := 44) ?_ | ((with_reducible refine zR.stored ?_); dsimp only [zsto, zclr, zset, zget, zc2, cond_false, cond_true]) | ((with_reducible refine zR.atLit ?_); first | refine zR.step rfl ?_) | rw [zcc1] | rw [zcc2] | rw [zcc3] | rw [zcc4])
            rw [ei]
            exact ⟨trivial, nxt (true :: t) M1 _ _ _ _ e1 (by rw [List.length_cons]; omega) (by rw [List.length_cons]; exact w3) hR1 hS1 (fun j hj => by rw [zuf_ne _ _ hj]; exact r1 j hj) ⟨by rw [zuf_self, zuf_self]; decide, by rw [zuf_self]; exact pileR_up hpt (Nat.le_refl _)⟩ (by simp)⟩
    · have ny : ∀ y : Int32, y = 10 ∨ y = 11 ∨ y = 12 → ¬ σ 0 (2200 + 4 * k) = y := fun y hy c => by
        rcases wh with z | z | z | z <;> rcases hy with q | q | q <;> exact absurd (z.symm.trans (c.trans q)) (by decide)
      have n10 := ny 10 (Or.inl rfl)
      have n11 := ny 11 (Or.inr (Or.inl rfl))
      have n12 := ny 12 (Or.inr (Or.inr rfl))
      have e1 : stepB (σ 0) nl h k st = tstF (σ 0) nl h k :: st := by unfold stepB; rw [if_neg n10, if_neg n11, if_neg n12]
      have hw := fun {dd nn ww : Nat} => c_worth (σ := ρ) (d := dd) (n := nn) (w := ww) (k := k) hR (by rw [r0]; exact h3) hnl hh (by rw [r0]; exact wh) (by rw [r0]; exact hc k (by omega))
      rw [r0] at hw
      rw [zd2 n10]
      repeat (first | ((with_reducible refine zR.stored ?_); dsimp only [zsto, zclr, zset, zget, zc2, cond_false, cond_true]) | ((with_reducible refine zR.atLit ?_); first | refine zR.step rfl ?_ | refine zR.getf rfl (hR.1) rfl ?_ | (refine zR.ilR0 hR rfl (i := 2201 + 4 * k) (by simp only [zn_lit, zn_add, zn_mul]; exact congrArg nI (by omega)) (by omega) ?_; rw [r0]) | refine zR.cv rfl rfl rfl hR.1 rfl rfl (zCalP.of hw ?_) | (refine zR.ilR0 hR rfl (i := 2202 + 4 * k) (by simp only [zn_lit, zn_add, zn_mul]; exact congrArg nI (by omega)) (by omega) ?_; rw [r0])) | rw [zcc1] | rw [zcc2] | rw [zcc3] | rw [zcc4] | rw [zd1 (n11)] | rw [zd2 (n11)] | rw [zd1 (n12)] | rw [zd2 (n12)])
      have el : nI st.length + 1 = nI (st.length + 1) := zI_s
      by_cases sg : σ 0 (2202 + 4 * k) = 60
      · rw [ze2 sg]
        have tv : tstF (σ 0) nl h k = decide (valF (σ 0) nl h k < σ 0 (2203 + 4 * k)) := by unfold tstF; rw [if_pos sg]
        repeat (first | ((with_reducible refine zR.stored ?_); dsimp only [zsto, zclr, zset, zget, zc2, cond_false, cond_true]) | ((with_reducible refine zR.atLit ?_); first | refine zR.step rfl ?_ | refine zR.getf rfl (hR.1) rfl ?_ | (refine zR.ilR0 hR rfl (i := 2203 + 4 * k) (by simp only [zn_lit, zn_add, zn_mul]; exact congrArg nI (by omega)) (by omega) ?_; rw [r0])) | rw [zcc1] | rw [zcc2] | rw [zcc3] | rw [zcc4])
        by_cases q : valF (σ 0) nl h k < σ 0 (2203 + 4 * k)
        · rw [zb2 q]
          repeat (first | ((with_reducible refine zR.stored ?_); dsimp only [zsto, zclr, zset, zget, zc2, cond_false, cond_true]) | ((with_reducible refine zR.atLit ?_); first | refine zR.step rfl ?_) | rw [zcc1] | rw [zcc2] | rw [zcc3] | rw [zcc4])
          refine zR.isR10 hR hS rfl (i := st.length) rfl (by omega) (fun M1 hR1 hS1 => ?_)
          repeat (first | with_reducible refine zR.hold (pc := 44) ?_ | ((with_reducible refine zR.stored ?_); dsimp only [zsto, zclr, zset, zget, zc2, cond_false, cond_true]) | ((with_reducible refine zR.atLit ?_); first | refine zR.step rfl ?_) | rw [zcc1] | rw [zcc2] | rw [zcc3] | rw [zcc4])
          rw [el]
          exact ⟨trivial, nxt (true :: st) M1 _ _ _ _ (e1.trans (by rw [tv, decide_eq_true q])) (by rw [List.length_cons]; omega) (by rw [List.length_cons]; exact w2) hR1 hS1 (fun j hj => by rw [zuf_ne _ _ hj]; exact r1 j hj) ⟨by rw [zuf_self, zuf_self]; decide, by rw [zuf_self]; exact pileR_up hp (Nat.le_refl _)⟩ (by simp)⟩
        · rw [zn2 q]
          repeat (first | ((with_reducible refine zR.stored ?_); dsimp only [zsto, zclr, zset, zget, zc2, cond_false, cond_true]) | ((with_reducible refine zR.atLit ?_); first | refine zR.step rfl ?_) | rw [zcc1] | rw [zcc2] | rw [zcc3] | rw [zcc4])
          refine zR.isR10 hR hS rfl (i := st.length) rfl (by omega) (fun M1 hR1 hS1 => ?_)
          repeat (first | with_reducible refine zR.hold (pc := 44) ?_ | ((with_reducible refine zR.stored ?_); dsimp only [zsto, zclr, zset, zget, zc2, cond_false, cond_true]) | ((with_reducible refine zR.atLit ?_); first | refine zR.step rfl ?_) | rw [zcc1] | rw [zcc2] | rw [zcc3] | rw [zcc4])
          rw [el]
          exact ⟨trivial, nxt (false :: st) M1 _ _ _ _ (e1.trans (by rw [tv, decide_eq_false q])) (by rw [List.length_cons]; omega) (by rw [List.length_cons]; exact w2) hR1 hS1 (fun j hj => by rw [zuf_ne _ _ hj]; exact r1 j hj) ⟨by rw [zuf_self, zuf_self]; decide, by rw [zuf_self]; exact pileR_up hp (Nat.le_refl _)⟩ (by simp)⟩
      · rw [zd2 sg]
        have tv : tstF (σ 0) nl h k = decide (valF (σ 0) nl h k = σ 0 (2203 + 4 * k)) := by unfold tstF; rw [if_neg sg]
        repeat (first | ((with_reducible refine zR.stored ?_); dsimp only [zsto, zclr, zset, zget, zc2, cond_false, cond_true]) | ((with_reducible refine zR.atLit ?_); first | refine zR.step rfl ?_ | refine zR.getf rfl (hR.1) rfl ?_ | (refine zR.ilR0 hR rfl (i := 2203 + 4 * k) (by simp only [zn_lit, zn_add, zn_mul]; exact congrArg nI (by omega)) (by omega) ?_; rw [r0])) | rw [zcc1] | rw [zcc2] | rw [zcc3] | rw [zcc4])
        by_cases q : valF (σ 0) nl h k = σ 0 (2203 + 4 * k)
        · rw [ze2 q]
          repeat (first | ((with_reducible refine zR.stored ?_); dsimp only [zsto, zclr, zset, zget, zc2, cond_false, cond_true]) | ((with_reducible refine zR.atLit ?_); first | refine zR.step rfl ?_) | rw [zcc1] | rw [zcc2] | rw [zcc3] | rw [zcc4])
          refine zR.isR10 hR hS rfl (i := st.length) rfl (by omega) (fun M1 hR1 hS1 => ?_)
          repeat (first | with_reducible refine zR.hold (pc := 44) ?_ | ((with_reducible refine zR.stored ?_); dsimp only [zsto, zclr, zset, zget, zc2, cond_false, cond_true]) | ((with_reducible refine zR.atLit ?_); first | refine zR.step rfl ?_) | rw [zcc1] | rw [zcc2] | rw [zcc3] | rw [zcc4])
          rw [el]
          exact ⟨trivial, nxt (true :: st) M1 _ _ _ _ (e1.trans (by rw [tv, decide_eq_true q])) (by rw [List.length_cons]; omega) (by rw [List.length_cons]; exact w2) hR1 hS1 (fun j hj => by rw [zuf_ne _ _ hj]; exact r1 j hj) ⟨by rw [zuf_self, zuf_self]; decide, by rw [zuf_self]; exact pileR_up hp (Nat.le_refl _)⟩ (by simp)⟩
        · rw [zd2 q]
          repeat (first | ((with_reducible refine zR.stored ?_); dsimp only [zsto, zclr, zset, zget, zc2, cond_false, cond_true]) | ((with_reducible refine zR.atLit ?_); first | refine zR.step rfl ?_) | rw [zcc1] | rw [zcc2] | rw [zcc3] | rw [zcc4])
          refine zR.isR10 hR hS rfl (i := st.length) rfl (by omega) (fun M1 hR1 hS1 => ?_)
          repeat (first | with_reducible refine zR.hold (pc := 44) ?_ | ((with_reducible refine zR.stored ?_); dsimp only [zsto, zclr, zset, zget, zc2, cond_false, cond_true]) | ((with_reducible refine zR.atLit ?_); first | refine zR.step rfl ?_) | rw [zcc1] | rw [zcc2] | rw [zcc3] | rw [zcc4])
          rw [el]
          exact ⟨trivial, nxt (false :: st) M1 _ _ _ _ (e1.trans (by rw [tv, decide_eq_false q])) (by rw [List.length_cons]; omega) (by rw [List.length_cons]; exact w2) hR1 hS1 (fun j hj => by rw [zuf_ne _ _ hj]; exact r1 j hj) ⟨by rw [zuf_self, zuf_self]; decide, by rw [zuf_self]; exact pileR_up hp (Nat.le_refl _)⟩ (by simp)⟩
