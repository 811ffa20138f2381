
/-! A WEEK: the class's choice. -/
section
variable {M : zM} {g : Nat} {c : mS} {kp bt : Nat → Option Nat} {la : Nat} {s : Nat → Int32} {d n w nc nl lm wk h sz : Nat}
theorem fg_loop {Q : Option Value → Nat → Nat → zM → Prop} {o : Option Nat} (hB : QB M g c kp bt la s nc nl lm wk h sz) (hQ : Q (some (.int (optI o))) n w M) : ∀ (t l : Nat) (x3 : Option Value), l + t = lm → fgF s nl h sz t l = o → zR ztb (d + 3) kX2_firstGiving 1 2 [some (.ref g), some (.ref (g + 26 + 5 * h)), some (.int (nI l)), x3] [] n w M Q
  | t, l, x3, hl, he => by
    have hB' := hB
    obtain ⟨hG, -, h8, -, -, -, -, -, -, -, -, -, -, hh, hlm, sc, r, en, x1, x5, x6, x7, x8, x9⟩ := hB'
    have r0 : M (la + 1) = .inl (0, lm, .inl (r 0)) := x1.2 0 (by omega)
    have r1 : M (la + 2) = .inl (0, lm, .inl (r 1)) := x1.2 1 (by omega)
    refine zR.step rfl ?_
    match t, hl, he with
    | 0, hl, he =>
      have e2 : l = lm := by omega
      subst e2
      subst he
      have e : ¬ nI l < nI l := zI_nlt (Nat.le_refl _) (by omega)
      repeat (first | ((with_reducible refine zR.stored ?_); dsimp only [zsto, zclr, zset, zget, zc2, cond_false, cond_true]) | ((with_reducible refine zR.atLit ?_); first | refine zR.step rfl ?_ | refine zR.getf rfl (hG.o) rfl ?_ | refine zR.getf rfl (x1.1) rfl ?_) | rw [zcc1] | rw [zcc2] | rw [zcc3] | rw [zcc4] | rw [zn1 (e)] | rw [zn2 (e)] | rw [zn3 (e)] | rw [zn4 (e)])
      exact zR.ret rfl rfl hQ
    | t + 1, hl, he =>
      have e : nI l < nI lm := zI_ylt (by omega) (by omega)
      obtain ⟨z1, z2, z3, z4, z5, z6, ⟨i, hi, z7⟩, z8⟩ := x8 l (by omega)
      have ih := fun y he2 => fg_loop (o := o) hB hQ t (l + 1) y (by omega) he2
      rw [← zI_s] at ih
      rw [fgF] at he
      have cg := fun {d n w : Nat} => c_isGoodC (d := d) (n := n) (w := w) (q := i) hB (by omega)
      have cm := fun {d n w : Nat} => c_isMetB (d := d) (n := n) (w := w) (l := l) hB (by omega)
      have rl0 : ∀ v, r 0 l = v → True := fun _ _ => trivial
      rcases z5 with ⟨y1, y2⟩ | ⟨y1, y2⟩
      · by_cases q1 : goodP s nl h sz i
        · rw [if_pos q1] at cg
          cases q2 : lhB s nl h l with
          | true =>
            rw [q2, if_pos rfl] at cm
            rw [if_pos (show givP s nl h sz l from ⟨⟨y2, by rw [z7, nI_clamp (by omega)]; exact q1⟩, q2⟩)] at he
            subst he
            repeat (first | ((with_reducible refine zR.stored ?_); dsimp only [zsto, zclr, zset, zget, zc2, cond_false, cond_true]) | ((with_reducible refine zR.atLit ?_); first | refine zR.step rfl ?_ | refine zR.getf rfl (hG.o) rfl ?_ | refine zR.getf rfl (x1.1) rfl ?_ | (refine zR.iald rfl r0 (Or.inl rfl) (i := l) rfl (by omega) (by omega) ?_; rw [y1]) | (refine zR.iald rfl r1 (Or.inl rfl) (i := l) rfl (by omega) (by omega) ?_; rw [z6, z7]) | refine zR.cv rfl rfl rfl hG.o rfl rfl (zCalP.of cg ?_) | refine zR.cv rfl rfl rfl x1.1 rfl rfl (zCalP.of cm ?_)) | rw [zcc1] | rw [zcc2] | rw [zcc3] | rw [zcc4] | rw [zb1 (e)] | rw [zb2 (e)] | rw [zb3 (e)] | rw [zb4 (e)] | rw [zb1 (by decide)] | rw [zb2 (by decide)] | rw [zb3 (by decide)] | rw [zb4 (by decide)] | rw [zn1 (by decide)] | rw [zn2 (by decide)] | rw [zn3 (by decide)] | rw [zn4 (by decide)] | rw [ze1 (by decide)] | rw [ze2 (by decide)] | rw [zd1 (by decide)] | rw [zd2 (by decide)] | rw [zswy (by decide)] | rw [zswn (by decide)] | rw [zsw0])
            exact zR.ret rfl rfl hQ
          | false =>
            rw [q2, if_neg (by decide)] at cm
            rw [if_neg (show ¬ givP s nl h sz l from fun z => absurd (q2.symm.trans z.2) (by decide))] at he
            repeat (first | with_reducible refine zR.hold (pc := 2) ?_ | ((with_reducible refine zR.stored ?_); dsimp only [zsto, zclr, zset, zget, zc2, cond_false, cond_true]) | ((with_reducible refine zR.atLit ?_); first | refine zR.step rfl ?_ | refine zR.getf rfl (hG.o) rfl ?_ | refine zR.getf rfl (x1.1) rfl ?_ | (refine zR.iald rfl r0 (Or.inl rfl) (i := l) rfl (by omega) (by omega) ?_; rw [y1]) | (refine zR.iald rfl r1 (Or.inl rfl) (i := l) rfl (by omega) (by omega) ?_; rw [z6, z7]) | refine zR.cv rfl rfl rfl hG.o rfl rfl (zCalP.of cg ?_) | refine zR.cv rfl rfl rfl x1.1 rfl rfl (zCalP.of cm ?_)) | rw [zcc1] | rw [zcc2] | rw [zcc3] | rw [zcc4] | rw [zb1 (e)] | rw [zb2 (e)] | rw [zb3 (e)] | rw [zb4 (e)] | rw [zb1 (by decide)] | rw [zb2 (by decide)] | rw [zb3 (by decide)] | rw [zb4 (by decide)] | rw [zn1 (by decide)] | rw [zn2 (by decide)] | rw [zn3 (by decide)] | rw [zn4 (by decide)] | rw [ze1 (by decide)] | rw [ze2 (by decide)] | rw [zd1 (by decide)] | rw [zd2 (by decide)] | rw [zswy (by decide)] | rw [zswn (by decide)] | rw [zsw0])
            exact ⟨trivial, ih _ he⟩
        · rw [if_neg q1] at cg
          rw [if_neg (show ¬ givP s nl h sz l from fun z => q1 (by have := z.1.2; rw [z7, nI_clamp (by omega)] at this; exact this))] at he
          repeat (first | with_reducible refine zR.hold (pc := 2) ?_ | ((with_reducible refine zR.stored ?_); dsimp only [zsto, zclr, zset, zget, zc2, cond_false, cond_true]) | ((with_reducible refine zR.atLit ?_); first | refine zR.step rfl ?_ | refine zR.getf rfl (hG.o) rfl ?_ | refine zR.getf rfl (x1.1) rfl ?_ | (refine zR.iald rfl r0 (Or.inl rfl) (i := l) rfl (by omega) (by omega) ?_; rw [y1]) | (refine zR.iald rfl r1 (Or.inl rfl) (i := l) rfl (by omega) (by omega) ?_; rw [z6, z7]) | refine zR.cv rfl rfl rfl hG.o rfl rfl (zCalP.of cg ?_)) | rw [zcc1] | rw [zcc2] | rw [zcc3] | rw [zcc4] | rw [zb1 (e)] | rw [zb2 (e)] | rw [zb3 (e)] | rw [zb4 (e)] | rw [zb1 (by decide)] | rw [zb2 (by decide)] | rw [zb3 (by decide)] | rw [zb4 (by decide)] | rw [zn1 (by decide)] | rw [zn2 (by decide)] | rw [zn3 (by decide)] | rw [zn4 (by decide)] | rw [ze1 (by decide)] | rw [ze2 (by decide)] | rw [zd1 (by decide)] | rw [zd2 (by decide)] | rw [zswy (by decide)] | rw [zswn (by decide)] | rw [zsw0])
          exact ⟨trivial, ih _ he⟩
      · rw [if_neg (show ¬ givP s nl h sz l from fun z => absurd (y2.symm.trans z.1.1) (by decide))] at he
        repeat (first | with_reducible refine zR.hold (pc := 2) ?_ | ((with_reducible refine zR.stored ?_); dsimp only [zsto, zclr, zset, zget, zc2, cond_false, cond_true]) | ((with_reducible refine zR.atLit ?_); first | refine zR.step rfl ?_ | refine zR.getf rfl (hG.o) rfl ?_ | refine zR.getf rfl (x1.1) rfl ?_ | (refine zR.iald rfl r0 (Or.inl rfl) (i := l) rfl (by omega) (by omega) ?_; rw [y1])) | rw [zcc1] | rw [zcc2] | rw [zcc3] | rw [zcc4] | rw [zb1 (e)] | rw [zb2 (e)] | rw [zb3 (e)] | rw [zb4 (e)] | rw [zb1 (by decide)] | rw [zb2 (by decide)] | rw [zb3 (by decide)] | rw [zb4 (by decide)] | rw [zn1 (by decide)] | rw [zn2 (by decide)] | rw [zn3 (by decide)] | rw [zn4 (by decide)] | rw [ze1 (by decide)] | rw [ze2 (by decide)] | rw [zd1 (by decide)] | rw [zd2 (by decide)] | rw [zswy (by decide)] | rw [zswn (by decide)] | rw [zsw0])
        exact ⟨trivial, ih _ he⟩
theorem c_firstGiving (hB : QB M g c kp bt la s nc nl lm wk h sz) : zCall (d + 3) 29 [.ref g, .ref (g + 26 + 5 * h)] n w M (some (.int (optI (fgF s nl h sz lm 0)))) n w M := by
  intro Q hQ
  show zR ztb _ kX2_firstGiving 1 0 [some (.ref g), some (.ref (g + 26 + 5 * h)), none, none] [] _ _ _ _
  repeat (first | with_reducible refine zR.hold (pc := 2) ?_ | ((with_reducible refine zR.stored ?_); dsimp only [zsto, zclr, zset, zget, zc2, cond_false, cond_true]) | ((with_reducible refine zR.atLit ?_); first | refine zR.step rfl ?_) | rw [zcc1] | rw [zcc2] | rw [zcc3] | rw [zcc4])
  exact ⟨trivial, fg_loop hB hQ lm 0 none (by omega) rfl⟩
theorem bf_loop {Q : Option Value → Nat → Nat → zM → Prop} (hB : QB M g c kp bt la s nc nl lm wk h sz) (hQ : ∀ x, x < 256 → (∀ q, q < 8 → x.testBit q = brB s nl h q lm) → Q (some (.int (nI x))) n w M) : ∀ (t l x : Nat), l + t = lm → x < 256 → (∀ q, q < 8 → x.testBit q = brB s nl h q l) → zR ztb (d + 3) kX2_barredFor 1 4 [some (.ref g), some (.ref (g + 26 + 5 * h)), some (.int (nI x)), some (.int (nI l))] [] n w M Q
  | t, l, x, hl, hx, hb => by
    have hB' := hB
    obtain ⟨hG, -, h8, -, -, -, -, -, -, -, -, -, -, hh, hlm, sc, r, en, x1, x5, x6, x7, x8, x9⟩ := hB'
    have r0 : M (la + 1) = .inl (0, lm, .inl (r 0)) := x1.2 0 (by omega)
    have r1 : M (la + 2) = .inl (0, lm, .inl (r 1)) := x1.2 1 (by omega)
    refine zR.step rfl ?_
    match t, hl with
    | 0, hl =>
      have e2 : l = lm := by omega
      subst e2
      have e : ¬ nI l < nI l := zI_nlt (Nat.le_refl _) (by omega)
      repeat (first | ((with_reducible refine zR.stored ?_); dsimp only [zsto, zclr, zset, zget, zc2, cond_false, cond_true]) | ((with_reducible refine zR.atLit ?_); first | refine zR.step rfl ?_ | refine zR.getf rfl (hG.o) rfl ?_ | refine zR.getf rfl (x1.1) rfl ?_) | rw [zcc1] | rw [zcc2] | rw [zcc3] | rw [zcc4] | rw [zn1 (e)] | rw [zn2 (e)] | rw [zn3 (e)] | rw [zn4 (e)])
      exact zR.ret rfl rfl (hQ x hx hb)
    | t + 1, hl =>
      have e : nI l < nI lm := zI_ylt (by omega) (by omega)
      obtain ⟨z1, z2, z3, z4, z5, z6, ⟨i, hi, z7⟩, z8⟩ := x8 l (by omega)
      have ih := fun y => bf_loop hB hQ t (l + 1) y (by omega)
      rw [← zI_s] at ih
      have cm := fun {d n w : Nat} => c_isMetB (d := d) (n := n) (w := w) (l := l) hB (by omega)
      have same : ∀ q, q < 8 → (s (2100 + 4 * l) = 0 → s (2101 + 4 * l) = nI q → lhB s nl h l = true → False) → brB s nl h q (l + 1) = brB s nl h q l := fun q hq hn => by
        rw [brB]
        by_cases a1 : s (2100 + 4 * l) = 0
        · by_cases a2 : s (2101 + 4 * l) = nI q
          · cases a3 : lhB s nl h l with
            | true => exact absurd a3 (fun z => hn a1 a2 z)
            | false => simp
          · simp [a2]
        · simp [a1]
      rcases z5 with ⟨y1, y2⟩ | ⟨y1, y2⟩
      · repeat (first | with_reducible refine zR.hold (pc := 4) ?_ | ((with_reducible refine zR.stored ?_); dsimp only [zsto, zclr, zset, zget, zc2, cond_false, cond_true]) | ((with_reducible refine zR.atLit ?_); first | refine zR.step rfl ?_ | refine zR.getf rfl (hG.o) rfl ?_ | refine zR.getf rfl (x1.1) rfl ?_ | (refine zR.iald rfl r0 (Or.inl rfl) (i := l) rfl (by omega) (by omega) ?_; rw [y1])) | rw [zcc1] | rw [zcc2] | rw [zcc3] | rw [zcc4] | rw [zb1 (e)] | rw [zb2 (e)] | rw [zb3 (e)] | rw [zb4 (e)] | rw [zb1 (by decide)] | rw [zb2 (by decide)] | rw [zb3 (by decide)] | rw [zb4 (by decide)] | rw [zn1 (by decide)] | rw [zn2 (by decide)] | rw [zn3 (by decide)] | rw [zn4 (by decide)] | rw [ze1 (by decide)] | rw [ze2 (by decide)] | rw [zd1 (by decide)] | rw [zd2 (by decide)] | rw [zswy (by decide)] | rw [zswn (by decide)] | rw [zsw0])
        exact ⟨trivial, ih x hx (fun q hq => by rw [same q hq (fun z => by rw [y2] at z; exact absurd z (by decide))]; exact hb q hq)⟩
      · cases q2 : lhB s nl h l with
        | true =>
          rw [q2, if_pos rfl] at cm
          obtain ⟨-, b2⟩ := bitsT ⟨x, hx⟩ ⟨i, by omega⟩
          dsimp only at b2
          repeat (first | with_reducible refine zR.hold (pc := 4) ?_ | ((with_reducible refine zR.stored ?_); dsimp only [zsto, zclr, zset, zget, zc2, cond_false, cond_true]) | ((with_reducible refine zR.atLit ?_); first | refine zR.step rfl ?_ | refine zR.getf rfl (hG.o) rfl ?_ | refine zR.getf rfl (x1.1) rfl ?_ | (refine zR.iald rfl r0 (Or.inl rfl) (i := l) rfl (by omega) (by omega) ?_; rw [y1]) | (refine zR.iald rfl r1 (Or.inl rfl) (i := l) rfl (by omega) (by omega) ?_; rw [z6, z7]) | refine zR.cv rfl rfl rfl x1.1 rfl rfl (zCalP.of cm ?_)) | rw [zcc1] | rw [zcc2] | rw [zcc3] | rw [zcc4] | rw [zb1 (e)] | rw [zb2 (e)] | rw [zb3 (e)] | rw [zb4 (e)] | rw [zb1 (by decide)] | rw [zb2 (by decide)] | rw [zb3 (by decide)] | rw [zb4 (by decide)] | rw [zn1 (by decide)] | rw [zn2 (by decide)] | rw [zn3 (by decide)] | rw [zn4 (by decide)] | rw [ze1 (by decide)] | rw [ze2 (by decide)] | rw [zd1 (by decide)] | rw [zd2 (by decide)] | rw [zswy (by decide)] | rw [zswn (by decide)] | rw [zsw0] | rw [b2])
          refine ⟨trivial, ih (x ||| 2 ^ i) (Nat.or_lt_two_pow (n := 8) hx (Nat.pow_lt_pow_right (by omega) (by omega))) (fun q hq => ?_)⟩
          rw [Nat.testBit_or, hb q hq, brB, y2, q2, z7, Nat.testBit_two_pow]
          by_cases eq : i = q
          · subst eq
            simp
          · have ne : ¬ nI i = nI q := fun z => eq (zn_inj (by omega) (by omega) z)
            simp [eq, ne]
        | false =>
          rw [q2, if_neg (by decide)] at cm
          repeat (first | with_reducible refine zR.hold (pc := 4) ?_ | ((with_reducible refine zR.stored ?_); dsimp only [zsto, zclr, zset, zget, zc2, cond_false, cond_true]) | ((with_reducible refine zR.atLit ?_); first | refine zR.step rfl ?_ | refine zR.getf rfl (hG.o) rfl ?_ | refine zR.getf rfl (x1.1) rfl ?_ | (refine zR.iald rfl r0 (Or.inl rfl) (i := l) rfl (by omega) (by omega) ?_; rw [y1]) | refine zR.cv rfl rfl rfl x1.1 rfl rfl (zCalP.of cm ?_)) | rw [zcc1] | rw [zcc2] | rw [zcc3] | rw [zcc4] | rw [zb1 (e)] | rw [zb2 (e)] | rw [zb3 (e)] | rw [zb4 (e)] | rw [zb1 (by decide)] | rw [zb2 (by decide)] | rw [zb3 (by decide)] | rw [zb4 (by decide)] | rw [zn1 (by decide)] | rw [zn2 (by decide)] | rw [zn3 (by decide)] | rw [zn4 (by decide)] | rw [ze1 (by decide)] | rw [ze2 (by decide)] | rw [zd1 (by decide)] | rw [zd2 (by decide)] | rw [zswy (by decide)] | rw [zswn (by decide)] | rw [zsw0])
          exact ⟨trivial, ih x hx (fun q hq => by rw [same q hq (fun _ _ z => by rw [q2] at z; exact absurd z (by decide))]; exact hb q hq)⟩
theorem c_barredFor (hB : QB M g c kp bt la s nc nl lm wk h sz) : zCalP (d + 3) 30 [.ref g, .ref (g + 26 + 5 * h)] n w M (fun v n' w' M' => ∃ x, v = some (.int (nI x)) ∧ n = n' ∧ w = w' ∧ M = M' ∧ x < 256 ∧ ∀ q, q < 8 → x.testBit q = brB s nl h q lm) := by
  show zR ztb _ kX2_barredFor 1 0 [some (.ref g), some (.ref (g + 26 + 5 * h)), none, none] [] _ _ _ _
  repeat (first | with_reducible refine zR.hold (pc := 4) ?_ | ((with_reducible refine zR.stored ?_); dsimp only [zsto, zclr, zset, zget, zc2, cond_false, cond_true]) | ((with_reducible refine zR.atLit ?_); first | refine zR.step rfl ?_) | rw [zcc1] | rw [zcc2] | rw [zcc3] | rw [zcc4])
  exact ⟨trivial, bf_loop hB (fun x h1 h2 => ⟨x, rfl, rfl, rfl, rfl, h1, h2⟩) lm 0 0 (by omega) (by omega) (fun q hq => by rw [brB, Nat.zero_testBit])⟩
theorem mi_loop {Q : Option Value → Nat → Nat → zM → Prop} {x : Nat} (hB : QB M g c kp bt la s nc nl lm wk h sz) (hx : x < 256) (hb : ∀ q, q < 8 → x.testBit q = brB s nl h q lm) (hQ : Q (some (.int (optI (msF s nl h sz lm nc)))) n w M) : ∀ (t i : Nat) (x5 : Option Value), i + t = nc → zR ztb (d + 2) kX2_mostInStock 1 5 [some (.ref g), some (.ref (g + 26 + 5 * h)), some (.int (nI x)), some (.int (optI (msF s nl h sz lm i))), some (.int (nI i)), x5] [] n w M Q
  | t, i, x5, hi => by
    have hB' := hB
    obtain ⟨hG, h0, h8, hS, -⟩ := hB'
    refine zR.step rfl ?_
    match t, hi with
    | 0, hi =>
      have e2 : i = nc := by omega
      subst e2
      have e : ¬ nI i < nI i := zI_nlt (Nat.le_refl _) (by omega)
      repeat (first | ((with_reducible refine zR.stored ?_); dsimp only [zsto, zclr, zset, zget, zc2, cond_false, cond_true]) | ((with_reducible refine zR.atLit ?_); first | refine zR.step rfl ?_ | (refine zR.getf rfl hG.o rfl ?_; rw [h0])) | rw [zcc1] | rw [zcc2] | rw [zcc3] | rw [zcc4] | rw [zn1 (e)] | rw [zn2 (e)] | rw [zn3 (e)] | rw [zn4 (e)])
      exact zR.ret rfl rfl hQ
    | t + 1, hi =>
      have e : nI i < nI nc := zI_ylt (by omega) (by omega)
      have hi8 : i < 8 := by omega
      have ih := fun y => mi_loop hB hx hb hQ t (i + 1) y (by omega)
      rw [← zI_s, show msF s nl h sz lm (i + 1) = if freP s nl h sz lm i ∧ mor s nl i (msF s nl h sz lm i) = true then some i else msF s nl h sz lm i from rfl] at ih
      have cg := fun {d n w : Nat} => c_isGoodC (d := d) (n := n) (w := w) (q := i) hB hi8
      obtain ⟨b1, -⟩ := bitsT ⟨x, hx⟩ ⟨i, hi8⟩
      dsimp only at b1
      rw [hb i hi8] at b1
      cases q1 : brB s nl h i lm with
      | true =>
        rw [q1, if_pos rfl] at b1
        rw [if_neg (fun z => by have := z.1.1; rw [q1] at this; exact absurd this (by decide))] at ih
        repeat (first | with_reducible refine zR.hold (pc := 5) ?_ | ((with_reducible refine zR.stored ?_); dsimp only [zsto, zclr, zset, zget, zc2, cond_false, cond_true]) | ((with_reducible refine zR.atLit ?_); first | refine zR.step rfl ?_ | (refine zR.getf rfl hG.o rfl ?_; rw [h0])) | rw [zcc1] | rw [zcc2] | rw [zcc3] | rw [zcc4] | rw [zb1 (e)] | rw [zb2 (e)] | rw [zb3 (e)] | rw [zb4 (e)] | rw [b1] | rw [zb1 (by decide)] | rw [zb2 (by decide)] | rw [zb3 (by decide)] | rw [zb4 (by decide)] | rw [zn1 (by decide)] | rw [zn2 (by decide)] | rw [zn3 (by decide)] | rw [zn4 (by decide)] | rw [ze1 (by decide)] | rw [ze2 (by decide)] | rw [zd1 (by decide)] | rw [zd2 (by decide)] | rw [zswy (by decide)] | rw [zswn (by decide)] | rw [zsw0])
        exact ⟨trivial, ih _⟩
      | false =>
        rw [q1, if_neg (by decide)] at b1
        by_cases q2 : goodP s nl h sz i
        · rw [if_pos q2] at cg
          cases en : msF s nl h sz lm i with
          | none =>
            rw [en, if_pos ⟨⟨q1, q2⟩, rfl⟩] at ih
            repeat (first | with_reducible refine zR.hold (pc := 5) ?_ | ((with_reducible refine zR.stored ?_); dsimp only [zsto, zclr, zset, zget, zc2, cond_false, cond_true]) | ((with_reducible refine zR.atLit ?_); first | refine zR.step rfl ?_ | (refine zR.getf rfl hG.o rfl ?_; rw [h0]) | refine zR.cv rfl rfl rfl hG.o rfl rfl (zCalP.of cg ?_)) | rw [zcc1] | rw [zcc2] | rw [zcc3] | rw [zcc4] | rw [zb1 (e)] | rw [zb2 (e)] | rw [zb3 (e)] | rw [zb4 (e)] | rw [b1] | rw [show optI none = -1 from rfl] | rw [zb1 (by decide)] | rw [zb2 (by decide)] | rw [zb3 (by decide)] | rw [zb4 (by decide)] | rw [zn1 (by decide)] | rw [zn2 (by decide)] | rw [zn3 (by decide)] | rw [zn4 (by decide)] | rw [ze1 (by decide)] | rw [ze2 (by decide)] | rw [zd1 (by decide)] | rw [zd2 (by decide)] | rw [zswy (by decide)] | rw [zswn (by decide)] | rw [zsw0])
            exact ⟨trivial, ih _⟩
          | some o =>
            obtain ⟨ho, -⟩ := msF_lt i o en
            have em : ¬ nI o = -1 := zI_m1 (by omega)
            rw [en] at ih
            by_cases q3 : stockF s (nI o) nl < stockF s (nI i) nl
            · rw [if_pos ⟨⟨q1, q2⟩, decide_eq_true q3⟩] at ih
              repeat (first | with_reducible refine zR.hold (pc := 5) ?_ | ((with_reducible refine zR.stored ?_); dsimp only [zsto, zclr, zset, zget, zc2, cond_false, cond_true]) | ((with_reducible refine zR.atLit ?_); first | refine zR.step rfl ?_ | (refine zR.getf rfl hG.o rfl ?_; rw [h0]) | refine zR.getf rfl (hG.o) rfl ?_ | refine zR.cv rfl rfl rfl hG.o rfl rfl (zCalP.of cg ?_) | (refine zR.iald rfl hG.s0 (Or.inl rfl) (i := i) rfl hi8 (by omega) ?_; rw [hS i hi8]) | (refine zR.iald rfl hG.s0 (Or.inl rfl) (i := o) rfl (by omega) (by omega) ?_; rw [hS o (by omega)])) | rw [zcc1] | rw [zcc2] | rw [zcc3] | rw [zcc4] | rw [zb1 (e)] | rw [zb2 (e)] | rw [zb3 (e)] | rw [zb4 (e)] | rw [b1] | rw [show optI (some o) = nI o from rfl] | rw [zd1 (em)] | rw [zd2 (em)] | rw [zb1 (q3)] | rw [zb2 (q3)] | rw [zb3 (q3)] | rw [zb4 (q3)] | rw [zb1 (by decide)] | rw [zb2 (by decide)] | rw [zb3 (by decide)] | rw [zb4 (by decide)] | rw [zn1 (by decide)] | rw [zn2 (by decide)] | rw [zn3 (by decide)] | rw [zn4 (by decide)] | rw [ze1 (by decide)] | rw [ze2 (by decide)] | rw [zd1 (by decide)] | rw [zd2 (by decide)] | rw [zswy (by decide)] | rw [zswn (by decide)] | rw [zsw0])
              exact ⟨trivial, ih _⟩
            · rw [if_neg (fun z => q3 (of_decide_eq_true z.2))] at ih
              repeat (first | with_reducible refine zR.hold (pc := 5) ?_ | ((with_reducible refine zR.stored ?_); dsimp only [zsto, zclr, zset, zget, zc2, cond_false, cond_true]) | ((with_reducible refine zR.atLit ?_); first | refine zR.step rfl ?_ | (refine zR.getf rfl hG.o rfl ?_; rw [h0]) | refine zR.getf rfl (hG.o) rfl ?_ | refine zR.cv rfl rfl rfl hG.o rfl rfl (zCalP.of cg ?_) | (refine zR.iald rfl hG.s0 (Or.inl rfl) (i := i) rfl hi8 (by omega) ?_; rw [hS i hi8]) | (refine zR.iald rfl hG.s0 (Or.inl rfl) (i := o) rfl (by omega) (by omega) ?_; rw [hS o (by omega)])) | rw [zcc1] | rw [zcc2] | rw [zcc3] | rw [zcc4] | rw [zb1 (e)] | rw [zb2 (e)] | rw [zb3 (e)] | rw [zb4 (e)] | rw [b1] | rw [show optI (some o) = nI o from rfl] | rw [zd1 (em)] | rw [zd2 (em)] | rw [zn1 (q3)] | rw [zn2 (q3)] | rw [zn3 (q3)] | rw [zn4 (q3)] | rw [zb1 (by decide)] | rw [zb2 (by decide)] | rw [zb3 (by decide)] | rw [zb4 (by decide)] | rw [zn1 (by decide)] | rw [zn2 (by decide)] | rw [zn3 (by decide)] | rw [zn4 (by decide)] | rw [ze1 (by decide)] | rw [ze2 (by decide)] | rw [zd1 (by decide)] | rw [zd2 (by decide)] | rw [zswy (by decide)] | rw [zswn (by decide)] | rw [zsw0])
              exact ⟨trivial, ih _⟩
        · rw [if_neg q2] at cg
          rw [if_neg (fun z => q2 z.1.2)] at ih
          repeat (first | with_reducible refine zR.hold (pc := 5) ?_ | ((with_reducible refine zR.stored ?_); dsimp only [zsto, zclr, zset, zget, zc2, cond_false, cond_true]) | ((with_reducible refine zR.atLit ?_); first | refine zR.step rfl ?_ | (refine zR.getf rfl hG.o rfl ?_; rw [h0]) | refine zR.cv rfl rfl rfl hG.o rfl rfl (zCalP.of cg ?_)) | rw [zcc1] | rw [zcc2] | rw [zcc3] | rw [zcc4] | rw [zb1 (e)] | rw [zb2 (e)] | rw [zb3 (e)] | rw [zb4 (e)] | rw [b1] | rw [zb1 (by decide)] | rw [zb2 (by decide)] | rw [zb3 (by decide)] | rw [zb4 (by decide)] | rw [zn1 (by decide)] | rw [zn2 (by decide)] | rw [zn3 (by decide)] | rw [zn4 (by decide)] | rw [ze1 (by decide)] | rw [ze2 (by decide)] | rw [zd1 (by decide)] | rw [zd2 (by decide)] | rw [zswy (by decide)] | rw [zswn (by decide)] | rw [zsw0])
          exact ⟨trivial, ih _⟩
theorem c_mostInStock {x : Nat} (hB : QB M g c kp bt la s nc nl lm wk h sz) (hx : x < 256) (hb : ∀ q, q < 8 → x.testBit q = brB s nl h q lm) : zCall (d + 2) 31 [.ref g, .ref (g + 26 + 5 * h), .int (nI x)] n w M (some (.int (optI (msF s nl h sz lm nc)))) n w M := by
  intro Q hQ
  show zR ztb _ kX2_mostInStock 1 0 [some (.ref g), some (.ref (g + 26 + 5 * h)), some (.int (nI x)), none, none, none] [] _ _ _ _
  repeat (first | with_reducible refine zR.hold (pc := 5) ?_ | ((with_reducible refine zR.stored ?_); dsimp only [zsto, zclr, zset, zget, zc2, cond_false, cond_true]) | ((with_reducible refine zR.atLit ?_); first | refine zR.step rfl ?_) | rw [zcc1] | rw [zcc2] | rw [zcc3] | rw [zcc4])
  exact ⟨trivial, mi_loop hB hx hb hQ nc 0 none (by omega)⟩
end
