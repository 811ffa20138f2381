
/-! isMet. -/
theorem met_loop {M : zM} {g : Nat} {c : mS} {kp bt : Nat → Option Nat} {la la2 lm sc : Nat} {r : mS} {s : Nat → Int32} {d n w nl h e ln : Nat} {Q : Option Value → Nat → Nat → zM → Prop} (hG : Gc M g c kp bt la) (hL : Lc M la2 lm sc r) (hsc : sc ≤ 100) (hlm : lm ≤ 20) (hh : h < 10) (he : e ≤ sc) (hln : ln < lm) (hend : r 2 ln = nI e) (hst : ∀ k, k < sc → stepR (r 3 k) (r 4 k) (r 5 k) (r 6 k) (s (2200 + 4 * k)) (s (2201 + 4 * k)) (s (2202 + 4 * k)) (s (2203 + 4 * k)) ∧ (s (2200 + 4 * k) = 6 ∨ s (2200 + 4 * k) = 7 → ∃ i, i < 8 ∧ s (2201 + 4 * k) = nI i)) (hS : ∀ i, i < 8 → c 8 i = stockF s (nI i) nl) (hwk : c 0 2 = s 0) (hH : ∀ q, q < 8 → c (40 + h) q = s (1708 + 40 * h + q)) (hz : c (30 + h) 0 = s (1700 + 40 * h)) : ∀ (m k : Nat) (st : List Bool) (v7 v8 : Option Value), k + m = e → st.length ≤ 40 → (m = 0 ∨ wfS s m k st.length) → Q (some (.int (if encN (evS s nl h m k st) % 2 = 1 then 1 else 0))) n w M → zR ztb (d + 2) kX5_isMet 2 37 [some (.ref la2), some (.int (nI ln)), some (.ref g), some (.ref (g + 26 + 5 * h)), some (.long (Int64.ofNat (encN st))), none, some (.int (nI k)), v7, v8] [] n w M Q
  | 0, k, st, v7, v8, hke, hl, hwf, hQ => by
    have l2 : M (la2 + 3) = .inl (0, lm, .inl (r 2)) := hL.2 2 (by omega)
    have e2 : k = e := by omega
    subst e2
    have ee : ¬ nI k < nI k := zI_nlt (Nat.le_refl _) (by omega)
    have ea := lb_and1 (encN st)
    unfold evS at hQ
    repeat (first | ((with_reducible refine zR.stored ?_); dsimp only [zsto, zclr, zset, zget, zc2, cond_false, cond_true]) | ((with_reducible refine zR.atLit ?_); first | refine zR.step rfl ?_ | refine zR.getf rfl (hL.1) rfl ?_ | (refine zR.iald rfl l2 (Or.inl rfl) (i := ln) rfl (by omega) (by omega) ?_; rw [hend])) | rw [zcc1] | rw [zcc2] | rw [zcc3] | rw [zcc4] | rw [zn1 (ee)] | rw [zn2 (ee)] | rw [zn3 (ee)] | rw [zn4 (ee)])
    rw [ea]
    rcases Nat.mod_two_eq_zero_or_one (encN st) with z | z
    · rw [z] at hQ ⊢
      rw [show lg_cmp (Int64.ofNat 0) 0 = 0 by decide]
      repeat (first | ((with_reducible refine zR.stored ?_); dsimp only [zsto, zclr, zset, zget, zc2, cond_false, cond_true]) | ((with_reducible refine zR.atLit ?_); first | refine zR.step rfl ?_) | rw [zcc1] | rw [zcc2] | rw [zcc3] | rw [zcc4])
      exact zR.ret rfl rfl hQ
    · rw [z] at hQ ⊢
      rw [show lg_cmp (Int64.ofNat 1) 0 = 1 by decide]
      repeat (first | ((with_reducible refine zR.stored ?_); dsimp only [zsto, zclr, zset, zget, zc2, cond_false, cond_true]) | ((with_reducible refine zR.atLit ?_); first | refine zR.step rfl ?_) | rw [zcc1] | rw [zcc2] | rw [zcc3] | rw [zcc4])
      exact zR.ret rfl rfl hQ
  | m + 1, k, st, v7, v8, hke, hl, hwf, hQ => by
    have l2 : M (la2 + 3) = .inl (0, lm, .inl (r 2)) := hL.2 2 (by omega)
    have l3 : M (la2 + 4) = .inl (0, sc, .inl (r 3)) := hL.2 3 (by omega)
    have l6 : M (la2 + 7) = .inl (0, sc, .inl (r 6)) := hL.2 6 (by omega)
    have ee : nI k < nI e := zI_ylt (by omega) (by omega)
    obtain ⟨q1, q2⟩ := hst k (by omega)
    replace hwf := hwf.resolve_left (by omega)
    unfold evS at hQ
    have ih := fun st' v7 v8 a b cc => met_loop (d := d) (Q := Q) (n := n) (w := w) hG hL hsc hlm hh he hln hend hst hS hwk hH hz m (k + 1) st' v7 v8 (by omega) a b cc
    rw [← zI_s] at ih
    unfold wfS at hwf
    refine zR.step rfl ?_
    repeat (first | ((with_reducible refine zR.stored2 ?_); dsimp only [zsto2, zsto, zclr, zset, zget, zc2, cond_false, cond_true]) | ((with_reducible refine zR.stored ?_); dsimp only [zsto, zclr, zset, zget, zc2, cond_false, cond_true]) | ((with_reducible refine zR.atLit ?_); first | refine zR.step rfl ?_ | refine zR.getf rfl (hL.1) rfl ?_ | (refine zR.iald rfl l2 (Or.inl rfl) (i := ln) rfl (by omega) (by omega) ?_; rw [hend]) | refine zR.iald rfl l3 (Or.inl rfl) (i := k) rfl (by omega) (by omega) ?_) | rw [zcc1] | rw [zcc2] | rw [zcc3] | rw [zcc4] | rw [zb1 (ee)] | rw [zb2 (ee)] | rw [zb3 (ee)] | rw [zb4 (ee)])
    have hop : ∀ x y : Int32, s (2200 + 4 * k) = x → ¬ x = y → ¬ s (2200 + 4 * k) = y := fun x y a b c => b (a.symm.trans c)
    rcases q1 with ⟨o, wh⟩ | ⟨o, wh⟩ | ⟨o, wh⟩ | ⟨os, wh, su, cr, li⟩
    · have w2 : 1 ≤ st.length ∧ wfS s m (k + 1) st.length := by
        rcases hwf with z | z | z
        · exact z.2
        · rcases z.1 with y | y <;> exact absurd (wh.symm.trans y) (by decide)
        · rcases z.1 with y | y | y | y <;> exact absurd (wh.symm.trans y) (by decide)
      unfold stepB at hQ
      rw [if_pos wh] at hQ
      match st, w2, hl, hQ with
      | b :: t, w2, hl, hQ =>
        rw [List.length_cons] at hl w2
        have en := enc_not b t (by omega)
        rw [o]
        repeat (first | with_reducible refine zR.hold (pc := 37) ?_ | ((with_reducible refine zR.stored2 ?_); dsimp only [zsto2, zsto, zclr, zset, zget, zc2, cond_false, cond_true]) | ((with_reducible refine zR.stored ?_); dsimp only [zsto, zclr, zset, zget, zc2, cond_false, cond_true]) | ((with_reducible refine zR.atLit ?_); first | refine zR.step rfl ?_) | rw [zcc1] | rw [zcc2] | rw [zcc3] | rw [zcc4] | rw [zb1 (by decide)] | rw [zb2 (by decide)] | rw [zb3 (by decide)] | rw [zb4 (by decide)] | rw [zn1 (by decide)] | rw [zn2 (by decide)] | rw [zn3 (by decide)] | rw [zn4 (by decide)] | rw [ze1 (by decide)] | rw [ze2 (by decide)] | rw [zd1 (by decide)] | rw [zd2 (by decide)] | rw [zswy (by decide)] | rw [zswn (by decide)] | rw [zsw0])
        rw [en]
        exact ⟨trivial, ih ((!b) :: t) _ _ (by rw [List.length_cons]; omega) (Or.inr (by rw [List.length_cons]; exact w2.2)) hQ⟩
      | [], w2, hl, hQ => exact absurd w2.1 (by decide)
    · have w2 : 2 ≤ st.length ∧ wfS s m (k + 1) (st.length - 1) := by
        rcases hwf with z | z | z
        · exact absurd (wh.symm.trans z.1) (by decide)
        · exact z.2
        · rcases z.1 with y | y | y | y <;> exact absurd (wh.symm.trans y) (by decide)
      unfold stepB at hQ
      rw [if_neg (hop 11 10 wh (by decide)), if_pos wh] at hQ
      match st, w2, hl, hQ with
      | b :: a :: t, w2, hl, hQ =>
        rw [List.length_cons, List.length_cons] at hl w2
        have en := enc_and b a t (by omega)
        rw [o]
        repeat (first | with_reducible refine zR.hold (pc := 37) ?_ | ((with_reducible refine zR.stored2 ?_); dsimp only [zsto2, zsto, zclr, zset, zget, zc2, cond_false, cond_true]) | ((with_reducible refine zR.stored ?_); dsimp only [zsto, zclr, zset, zget, zc2, cond_false, cond_true]) | ((with_reducible refine zR.atLit ?_); first | refine zR.step rfl ?_) | rw [zcc1] | rw [zcc2] | rw [zcc3] | rw [zcc4] | rw [zb1 (by decide)] | rw [zb2 (by decide)] | rw [zb3 (by decide)] | rw [zb4 (by decide)] | rw [zn1 (by decide)] | rw [zn2 (by decide)] | rw [zn3 (by decide)] | rw [zn4 (by decide)] | rw [ze1 (by decide)] | rw [ze2 (by decide)] | rw [zd1 (by decide)] | rw [zd2 (by decide)] | rw [zswy (by decide)] | rw [zswn (by decide)] | rw [zsw0])
        rw [en]
        exact ⟨trivial, ih ((a && b) :: t) _ _ (by rw [List.length_cons]; omega) (Or.inr (by rw [List.length_cons]; exact w2.2)) hQ⟩
      | [_], w2, hl, hQ => exact absurd w2.1 (by simp)
      | [], w2, hl, hQ => exact absurd w2.1 (by decide)
    · have w2 : 2 ≤ st.length ∧ wfS s m (k + 1) (st.length - 1) := by
        rcases hwf with z | z | z
        · exact absurd (wh.symm.trans z.1) (by decide)
        · exact z.2
        · rcases z.1 with y | y | y | y <;> exact absurd (wh.symm.trans y) (by decide)
      unfold stepB at hQ
      rw [if_neg (hop 12 10 wh (by decide)), if_neg (hop 12 11 wh (by decide)), if_pos wh] at hQ
      match st, w2, hl, hQ with
      | b :: a :: t, w2, hl, hQ =>
        rw [List.length_cons, List.length_cons] at hl w2
        have en := enc_or b a t (by omega)
        rw [o]
        repeat (first | with_reducible refine zR.hold (pc := 37) ?_ | ((with_reducible refine zR.stored2 ?_); dsimp only [zsto2, zsto, zclr, zset, zget, zc2, cond_false, cond_true]) | ((with_reducible refine zR.stored ?_); dsimp only [zsto, zclr, zset, zget, zc2, cond_false, cond_true]) | ((with_reducible refine zR.atLit ?_); first | refine zR.step rfl ?_) | rw [zcc1] | rw [zcc2] | rw [zcc3] | rw [zcc4] | rw [zb1 (by decide)] | rw [zb2 (by decide)] | rw [zb3 (by decide)] | rw [zb4 (by decide)] | rw [zn1 (by decide)] | rw [zn2 (by decide)] | rw [zn3 (by decide)] | rw [zn4 (by decide)] | rw [ze1 (by decide)] | rw [ze2 (by decide)] | rw [zd1 (by decide)] | rw [zd2 (by decide)] | rw [zswy (by decide)] | rw [zswn (by decide)] | rw [zsw0])
        rw [en]
        exact ⟨trivial, ih ((a || b) :: t) _ _ (by rw [List.length_cons]; omega) (Or.inr (by rw [List.length_cons]; exact w2.2)) hQ⟩
      | [_], w2, hl, hQ => exact absurd w2.1 (by simp)
      | [], w2, hl, hQ => exact absurd w2.1 (by decide)
    · have no : ∀ y : Int32, y = 10 ∨ y = 11 ∨ y = 12 → ¬ s (2200 + 4 * k) = y := fun y hy c => by
        rcases wh with z | z | z | z <;> rcases hy with q | q | q <;> exact absurd (z.symm.trans (c.trans q)) (by decide)
      have w2 : st.length < 40 ∧ wfS s m (k + 1) (st.length + 1) := by
        rcases hwf with z | z | z
        · exact absurd z.1 (no 10 (Or.inl rfl))
        · rcases z.1 with y | y
          · exact absurd y (no 11 (Or.inr (Or.inl rfl)))
          · exact absurd y (no 12 (Or.inr (Or.inr rfl)))
        · exact z.2
      unfold stepB at hQ
      rw [if_neg (no 10 (Or.inl rfl)), if_neg (no 11 (Or.inr (Or.inl rfl))), if_neg (no 12 (Or.inr (Or.inr rfl)))] at hQ
      have cv := fun {dd nn ww : Nat} => c_valueFor (d := dd) (n := nn) (w := ww) (nl := nl) hG hL (show k < sc by omega) hsc hh wh su cr q2 hS hwk hH hz
      have en1 : Int64.ofNat (encN st) <<< ((1 : Int32).toInt64 &&& 63) ||| (1 : Int32).toInt64 = Int64.ofNat (encN (true :: st)) := enc_push true st (by omega)
      have en0 : Int64.ofNat (encN st) <<< ((1 : Int32).toInt64 &&& 63) ||| (0 : Int32).toInt64 = Int64.ofNat (encN (false :: st)) := enc_push false st (by omega)
      rcases os with ⟨o, si⟩ | ⟨o, si⟩
      · have tv : tstF s nl h k = decide (valF s nl h k < s (2203 + 4 * k)) := by unfold tstF; rw [if_pos si]
        rw [o]
        repeat (first | ((with_reducible refine zR.stored2 ?_); dsimp only [zsto2, zsto, zclr, zset, zget, zc2, cond_false, cond_true]) | ((with_reducible refine zR.stored ?_); dsimp only [zsto, zclr, zset, zget, zc2, cond_false, cond_true]) | ((with_reducible refine zR.atLit ?_); first | refine zR.step rfl ?_ | refine zR.getf rfl (hL.1) rfl ?_ | refine zR.cv rfl rfl rfl hL.1 rfl rfl (zCalP.of cv ?_) | (refine zR.iald rfl l6 (Or.inl rfl) (i := k) rfl (by omega) (by omega) ?_; rw [li])) | rw [zcc1] | rw [zcc2] | rw [zcc3] | rw [zcc4] | rw [zb1 (by decide)] | rw [zb2 (by decide)] | rw [zb3 (by decide)] | rw [zb4 (by decide)] | rw [zn1 (by decide)] | rw [zn2 (by decide)] | rw [zn3 (by decide)] | rw [zn4 (by decide)] | rw [ze1 (by decide)] | rw [ze2 (by decide)] | rw [zd1 (by decide)] | rw [zd2 (by decide)] | rw [zswy (by decide)] | rw [zswn (by decide)] | rw [zsw0])
        by_cases q : valF s nl h k < s (2203 + 4 * k)
        · rw [zb2 q]
          repeat (first | with_reducible refine zR.hold (pc := 37) ?_ | ((with_reducible refine zR.stored2 ?_); dsimp only [zsto2, zsto, zclr, zset, zget, zc2, cond_false, cond_true]) | ((with_reducible refine zR.stored ?_); dsimp only [zsto, zclr, zset, zget, zc2, cond_false, cond_true]) | ((with_reducible refine zR.atLit ?_); first | refine zR.step rfl ?_) | rw [zcc1] | rw [zcc2] | rw [zcc3] | rw [zcc4])
          rw [tv, decide_eq_true q] at hQ
          rw [en1]
          exact ⟨trivial, ih (true :: st) _ _ (by rw [List.length_cons]; omega) (Or.inr (by rw [List.length_cons]; exact w2.2)) hQ⟩
        · rw [zn2 q]
          repeat (first | with_reducible refine zR.hold (pc := 37) ?_ | ((with_reducible refine zR.stored2 ?_); dsimp only [zsto2, zsto, zclr, zset, zget, zc2, cond_false, cond_true]) | ((with_reducible refine zR.stored ?_); dsimp only [zsto, zclr, zset, zget, zc2, cond_false, cond_true]) | ((with_reducible refine zR.atLit ?_); first | refine zR.step rfl ?_) | rw [zcc1] | rw [zcc2] | rw [zcc3] | rw [zcc4])
          rw [tv, decide_eq_false q] at hQ
          rw [en0]
          exact ⟨trivial, ih (false :: st) _ _ (by rw [List.length_cons]; omega) (Or.inr (by rw [List.length_cons]; exact w2.2)) hQ⟩
      · have tv : tstF s nl h k = decide (valF s nl h k = s (2203 + 4 * k)) := by unfold tstF; rw [if_neg (by rw [si]; decide)]
        rw [o]
        repeat (first | ((with_reducible refine zR.stored2 ?_); dsimp only [zsto2, zsto, zclr, zset, zget, zc2, cond_false, cond_true]) | ((with_reducible refine zR.stored ?_); dsimp only [zsto, zclr, zset, zget, zc2, cond_false, cond_true]) | ((with_reducible refine zR.atLit ?_); first | refine zR.step rfl ?_ | refine zR.getf rfl (hL.1) rfl ?_ | refine zR.cv rfl rfl rfl hL.1 rfl rfl (zCalP.of cv ?_) | (refine zR.iald rfl l6 (Or.inl rfl) (i := k) rfl (by omega) (by omega) ?_; rw [li])) | rw [zcc1] | rw [zcc2] | rw [zcc3] | rw [zcc4] | rw [zb1 (by decide)] | rw [zb2 (by decide)] | rw [zb3 (by decide)] | rw [zb4 (by decide)] | rw [zn1 (by decide)] | rw [zn2 (by decide)] | rw [zn3 (by decide)] | rw [zn4 (by decide)] | rw [ze1 (by decide)] | rw [ze2 (by decide)] | rw [zd1 (by decide)] | rw [zd2 (by decide)] | rw [zswy (by decide)] | rw [zswn (by decide)] | rw [zsw0])
        by_cases q : valF s nl h k = s (2203 + 4 * k)
        · rw [ze2 q]
          repeat (first | with_reducible refine zR.hold (pc := 37) ?_ | ((with_reducible refine zR.stored2 ?_); dsimp only [zsto2, zsto, zclr, zset, zget, zc2, cond_false, cond_true]) | ((with_reducible refine zR.stored ?_); dsimp only [zsto, zclr, zset, zget, zc2, cond_false, cond_true]) | ((with_reducible refine zR.atLit ?_); first | refine zR.step rfl ?_) | rw [zcc1] | rw [zcc2] | rw [zcc3] | rw [zcc4])
          rw [tv, decide_eq_true q] at hQ
          rw [en1]
          exact ⟨trivial, ih (true :: st) _ _ (by rw [List.length_cons]; omega) (Or.inr (by rw [List.length_cons]; exact w2.2)) hQ⟩
        · rw [zd2 q]
          repeat (first | with_reducible refine zR.hold (pc := 37) ?_ | ((with_reducible refine zR.stored2 ?_); dsimp only [zsto2, zsto, zclr, zset, zget, zc2, cond_false, cond_true]) | ((with_reducible refine zR.stored ?_); dsimp only [zsto, zclr, zset, zget, zc2, cond_false, cond_true]) | ((with_reducible refine zR.atLit ?_); first | refine zR.step rfl ?_) | rw [zcc1] | rw [zcc2] | rw [zcc3] | rw [zcc4])
          rw [tv, decide_eq_false q] at hQ
          rw [en0]
          exact ⟨trivial, ih (false :: st) _ _ (by rw [List.length_cons]; omega) (Or.inr (by rw [List.length_cons]; exact w2.2)) hQ⟩
