
/-! warm. -/
theorem cvt_iff2 {x : Int32} (h : x = 100000 ∨ (-1000 ≤ x.toInt ∧ x.toInt ≤ 1000)) : cvt x = -1001 ↔ x = 100000 := by
  by_cases q : x = 100000
  · exact ⟨fun _ => q, fun _ => cvt_eq q⟩
  · refine ⟨fun h2 => ?_, fun h2 => absurd h2 q⟩
    rw [cvt_ne q] at h2
    have h3 := h.resolve_left q
    rw [h2, show (-1001 : Int32).toInt = -1001 by decide] at h3
    omega
def okW (x : Int32) : Prop := x = 100000 ∨ inI x 0 800 = 1
theorem hw_loop {M : zM} {d n w i m : Nat} {f g : Nat → Int32} {so : Int32} {Q : Option Value → Nat → Nat → zM → Prop} (hA : M (279 + 2 * i) = .inr (8, [.int so, .int (nI m), .ref (280 + 2 * i)])) (hB : M (280 + 2 * i) = .inl (0, 40, .inl f)) (hm : m ≤ 40) (hf : ∀ j, j < 40 → f j = cvt (g j) ∧ (g j = 100000 ∨ (-1000 ≤ (g j).toInt ∧ (g j).toInt ≤ 1000))) (hQ1 : (∀ j, j < m → okW (g j)) → Q (some (.int 1)) n w M) (hQ0 : (∃ j, j < m ∧ ¬ okW (g j)) → Q (some (.int 0)) n w M) : ∀ (t k : Nat), k + t = m → (∀ j, j < k → okW (g j)) → zR ztb (d + 1) kX8_holdsWarmths 2 2 [some (.ref (279 + 2 * i)), some (.int (nI k))] [] n w M Q
  | 0, k, h, hp => by
    have e2 : k = m := by omega
    subst e2
    have e : ¬ nI k < nI k := zI_nlt (by omega) (by omega)
    repeat (first | rw [zcc1] | rw [zcc2] | rw [zcc3] | rw [zcc4] | rw [zn1 (e)] | rw [zn2 (e)] | rw [zn3 (e)] | rw [zn4 (e)] | refine zR.step rfl ?_ | refine zR.getf rfl (hA) rfl ?_)
    exact zR.ret rfl rfl (hQ1 hp)
  | t + 1, k, h, hp => by
    have e : nI k < nI m := zI_ylt (by omega) (by omega)
    have ih : okW (g k) → _ := fun z => hw_loop (d := d) (w := w) hA hB hm hf hQ1 hQ0 t (k + 1) (by omega) (fun j hj => by
      by_cases q : j = k
      · subst q; exact z
      · exact hp j (by omega))
    rw [← zI_s] at ih
    obtain ⟨f1, f2⟩ := hf k (by omega)
    refine zR.step rfl ?_
    repeat (first | rw [zcc1] | rw [zcc2] | rw [zcc3] | rw [zcc4] | rw [zb1 (e)] | rw [zb2 (e)] | rw [zb3 (e)] | rw [zb4 (e)] | rw [f1] | refine zR.step rfl ?_ | refine zR.getf rfl (hA) rfl ?_ | refine zR.iald rfl (hB) (Or.inl rfl) (i := k) (by first | with_reducible rfl | (simp only [zn_lit, zn_add, zn_mul]; done) | exact zI_pred (by omega) (by omega) | rfl) (by omega) (by decide) ?_)
    by_cases q : g k = 100000
    · rw [ze1 ((cvt_iff2 f2).mpr q)]
      repeat (first | with_reducible refine zR.hold (pc := 2) ?_ | rw [zcc1] | rw [zcc2] | rw [zcc3] | rw [zcc4] | refine zR.step rfl ?_)
      exact ⟨trivial, ih (Or.inl q)⟩
    · rw [zd1 (fun z => q ((cvt_iff2 f2).mp z))]
      rw [cvt_ne q] at f1
      rcases inI_01 (g k) 0 800 with z | z
      · repeat (first | with_reducible refine zR.hold (pc := 2) ?_ | rw [zcc1] | rw [zcc2] | rw [zcc3] | rw [zcc4] | rw [f1] | rw [z] | refine zR.step rfl ?_ | refine zR.getf rfl (hA) rfl ?_ | refine zR.iald rfl (hB) (Or.inl rfl) (i := k) (by first | with_reducible rfl | (simp only [zn_lit, zn_add, zn_mul]; done) | exact zI_pred (by omega) (by omega) | rfl) (by omega) (by decide) ?_ | refine zR.cs rfl rfl rfl rfl rfl (zCalP.of (c_isWithin _ _ _) ?_))
        exact zR.ret rfl rfl (hQ0 ⟨k, by omega, fun y => y.elim q (fun y => absurd (z.symm.trans y) (by decide))⟩)
      · repeat (first | with_reducible refine zR.hold (pc := 2) ?_ | rw [zcc1] | rw [zcc2] | rw [zcc3] | rw [zcc4] | rw [f1] | rw [z] | refine zR.step rfl ?_ | refine zR.getf rfl (hA) rfl ?_ | refine zR.iald rfl (hB) (Or.inl rfl) (i := k) (by first | with_reducible rfl | (simp only [zn_lit, zn_add, zn_mul]; done) | exact zI_pred (by omega) (by omega) | rfl) (by omega) (by decide) ?_ | refine zR.cs rfl rfl rfl rfl rfl (zCalP.of (c_isWithin _ _ _) ?_))
        exact ⟨trivial, ih (Or.inr z)⟩
theorem c_holdsW {M : zM} {d n w i m : Nat} {f g : Nat → Int32} {so : Int32} (hA : M (279 + 2 * i) = .inr (8, [.int so, .int (nI m), .ref (280 + 2 * i)])) (hB : M (280 + 2 * i) = .inl (0, 40, .inl f)) (hm : m ≤ 40) (hf : ∀ j, j < 40 → f j = cvt (g j) ∧ (g j = 100000 ∨ (-1000 ≤ (g j).toInt ∧ (g j).toInt ≤ 1000))) : zCalP (d + 1) 65 [.ref (279 + 2 * i)] n w M (fun v n' w' M' => n = n' ∧ w = w' ∧ M = M' ∧ ((v = some (.int 1) ∧ ∀ j, j < m → okW (g j)) ∨ (v = some (.int 0) ∧ ∃ j, j < m ∧ ¬ okW (g j)))) := by
  show zR ztb _ kX8_holdsWarmths 2 0 [some (.ref (279 + 2 * i)), none] [] _ _ _ _
  iterate 2 refine zR.step rfl ?_
  exact hw_loop hA hB hm hf (fun h => ⟨rfl, rfl, rfl, Or.inl ⟨rfl, h⟩⟩) (fun h => ⟨rfl, rfl, rfl, Or.inr ⟨rfl, h⟩⟩) m 0 (by omega) (fun j hj => by omega)
/-- the reference's first loop -/
theorem wc_loop {M : zM} {σ : mS} {d n w i m : Nat} {a2 a5 : Int32} {v5 : Option Value} {Q : Option Value → Nat → Nat → zM → Prop} (hR : Rf M σ) (hi : i < 4) (hm : m ≤ 40)
    (hQ1 : (∀ j, j < m → okW (σ 6 (40 * i + j))) → ∀ v5, zR ztb (d + 1) kX12_warm 1 134 [some (.ref 287), some (.int (nI i)), some (.int a2), some (.int (nI m)), some (.int (nI m)), v5] [] n w M Q)
    (hQ0 : (∃ j, j < m ∧ ¬ okW (σ 6 (40 * i + j))) → ∀ v4 v5, zR ztb (d + 1) kX12_warm 1 122 [some (.ref 287), some (.int (nI i)), some (.int a2), some (.int (nI m)), v4, v5] [] n w M Q) : ∀ (t k : Nat) (v5 : Option Value), k + t = m → (∀ j, j < k → okW (σ 6 (40 * i + j))) → zR ztb (d + 1) kX12_warm 1 83 [some (.ref 287), some (.int (nI i)), some (.int a2), some (.int (nI m)), some (.int (nI k)), v5] [] n w M Q
  | 0, k, v5, h, hp => by
    have e2 : k = m := by omega
    subst e2
    have e : ¬ nI k < nI k := zI_nlt (by omega) (by omega)
    repeat (first | with_reducible refine zR.hold (pc := 134) ?_ | rw [zcc1] | rw [zcc2] | rw [zcc3] | rw [zcc4] | rw [zn1 (e)] | rw [zn2 (e)] | rw [zn3 (e)] | rw [zn4 (e)] | refine zR.step rfl ?_)
    exact ⟨trivial, hQ1 hp _⟩
  | t + 1, k, v5, h, hp => by
    have e : nI k < nI m := zI_ylt (by omega) (by omega)
    have ih : okW (σ 6 (40 * i + k)) → _ := fun z => wc_loop (d := d) (w := w) (a5 := a5) (v5 := none) hR hi hm hQ1 hQ0 t (k + 1) (some (.int (σ 6 (40 * i + k)))) (by omega) (fun j hj => by
      by_cases q : j = k
      · subst q; exact z
      · exact hp j (by omega))
    rw [← zI_s] at ih
    refine zR.step rfl ?_
    repeat (first | rw [zcc1] | rw [zcc2] | rw [zcc3] | rw [zcc4] | rw [zb1 (e)] | rw [zb2 (e)] | rw [zb3 (e)] | rw [zb4 (e)] | refine zR.step rfl ?_ | refine zR.getf rfl (hR.1) rfl ?_ | refine zR.ilR6 hR rfl (by (try simp only [zn_lit, zn_add, zn_mul]); rfl) (by omega) ?_)
    by_cases q : σ 6 (40 * i + k) = 100000
    · rw [ze1 q]
      repeat (first | with_reducible refine zR.hold (pc := 83) ?_ | rw [zcc1] | rw [zcc2] | rw [zcc3] | rw [zcc4] | refine zR.step rfl ?_)
      exact ⟨trivial, ih (Or.inl q)⟩
    · rw [zd1 q]
      rcases inI_01 (σ 6 (40 * i + k)) 0 800 with z | z
      · repeat (first | with_reducible refine zR.hold (pc := 122) ?_ | with_reducible refine zR.hold (pc := 83) ?_ | rw [zcc1] | rw [zcc2] | rw [zcc3] | rw [zcc4] | rw [z] | refine zR.step rfl ?_ | refine zR.cs rfl rfl rfl rfl rfl (zCalP.of (c_in _ _ _) ?_))
        exact ⟨trivial, hQ0 ⟨k, by omega, fun y => y.elim q (fun y => absurd (z.symm.trans y) (by decide))⟩ _ _⟩
      · repeat (first | with_reducible refine zR.hold (pc := 122) ?_ | with_reducible refine zR.hold (pc := 83) ?_ | rw [zcc1] | rw [zcc2] | rw [zcc3] | rw [zcc4] | rw [z] | refine zR.step rfl ?_ | refine zR.cs rfl rfl rfl rfl rfl (zCalP.of (c_in _ _ _) ?_))
        exact ⟨trivial, ih (Or.inr z)⟩
/-- the reference's second loop -/
theorem ww_loop {M0 : zM} {σ : mS} {d n w i m v : Nat} {v5 : Option Value} {Q : Option Value → Nat → Nat → zM → Prop} (hi : i < 4) (hm : m ≤ 40) (hv : v + m ≤ 30)
    (hQ : ∀ M y, Rf M (zuf σ 0 y) → Sm M0 M → (∀ j, j < m → y (10 + v + j) = σ 6 (40 * i + j)) → (∀ q, ¬ (10 + v ≤ q ∧ q < 10 + v + m) → y q = σ 0 q) → zR ztb (d + 1) kX12_warm 1 173 [some (.ref 287), some (.int (nI i)), some (.int (nI v)), some (.int (nI m)), some (.int (nI m)), v5] [] n w M Q) : ∀ (t k : Nat) (M : zM) (y : Nat → Int32), k + t = m → Rf M (zuf σ 0 y) → Sm M0 M → (∀ j, j < k → y (10 + v + j) = σ 6 (40 * i + j)) → (∀ q, ¬ (10 + v ≤ q ∧ q < 10 + v + m) → y q = σ 0 q) → zR ztb (d + 1) kX12_warm 1 137 [some (.ref 287), some (.int (nI i)), some (.int (nI v)), some (.int (nI m)), some (.int (nI k)), v5] [] n w M Q
  | 0, k, M, y, h, hR, hS, h1, h2 => by
    have e2 : k = m := by omega
    subst e2
    have e : ¬ nI k < nI k := zI_nlt (by omega) (by omega)
    repeat (first | with_reducible refine zR.hold (pc := 173) ?_ | rw [zcc1] | rw [zcc2] | rw [zcc3] | rw [zcc4] | rw [zn1 (e)] | rw [zn2 (e)] | rw [zn3 (e)] | rw [zn4 (e)] | refine zR.step rfl ?_)
    exact ⟨trivial, hQ M y hR hS h1 h2⟩
  | t + 1, k, M, y, h, hR, hS, h1, h2 => by
    have e : nI k < nI m := zI_ylt (by omega) (by omega)
    refine zR.step rfl ?_
    repeat (first | rw [zcc1] | rw [zcc2] | rw [zcc3] | rw [zcc4] | rw [zb1 (e)] | rw [zb2 (e)] | rw [zb3 (e)] | rw [zb4 (e)] | refine zR.step rfl ?_ | refine zR.getf rfl (hR.1) rfl ?_ | refine zR.ilR6 hR rfl (by (try simp only [zn_lit, zn_add, zn_mul]); rfl) (by omega) ?_)
    refine zR.isR0 hR hS rfl (i := 10 + v + k) (by simp only [zn_lit, zn_add, zn_mul]) (by omega) (fun M1 hR1 hS1 => ?_)
    have hz : zuf (zuf σ 0 y) 0 (zuf (zuf σ 0 y 0) (10 + v + k) (zuf σ 0 y 6 (40 * i + k))) = zuf σ 0 (zuf y (10 + v + k) (σ 6 (40 * i + k))) := by rw [zuf_self, zuf_uf]; rfl
    rw [hz] at hR1
    have ih := ww_loop (d := d) hi hm hv hQ t (k + 1) M1 (zuf y (10 + v + k) (σ 6 (40 * i + k))) (by omega) hR1 hS1 (fun q hq => by
      by_cases eq : q = k
      · subst eq
        rw [zuf_self]
      · rw [zuf_ne _ _ (by omega)]
        exact h1 q (by omega)) (fun q hq => by rw [zuf_ne _ _ (by omega)]; exact h2 q hq)
    rw [← zI_s] at ih
    repeat (first | with_reducible refine zR.hold (pc := 137) ?_ | rw [zcc1] | rw [zcc2] | rw [zcc3] | rw [zcc4] | refine zR.step rfl ?_)
    exact ⟨trivial, ih⟩
theorem GR.wm {M : zM} {n : Nat} {c : mS} {kp bt : Nat → Option Nat} {la : Nat} {s : Nat → Int32} {x y : Nat → Int32} (h : GR M n c kp bt la s) (hy : ∀ k, ¬ (10 ≤ k ∧ k < 40) → y k = s k) (hp : PW c s → PW (zuf c 7 x) y) : GR M n (zuf c 7 x) kp bt la y := by
  obtain ⟨nc, nh, nl, lm, wk, h1, h2, h3, h4, h5, h6, h7, h8⟩ := h
  have g1 : nc ≤ 8 := h1.2.1
  have g2 : nh ≤ 10 := h1.2.2.2.1
  have g3 : nl ≤ 240 := h1.2.2.2.2.2.1
  have g4 : lm ≤ 20 := h1.2.2.2.2.2.2.2.1
  refine ⟨nc, nh, nl, lm, wk, ?_, h2.cg g1 (fun i hi => hy i (by omega)), h3.cg g1 (fun i hi => hy i (by omega)) (fun b hb => zuf_ne _ _ (by omega)), h4.cg g3 (fun i hi => hy i (by omega)) (fun j hj => zuf_ne _ _ (by omega)), h5.cg g3 (fun i hi => hy i (by omega)) (fun j hj => zuf_ne _ _ (by omega)), h6.cg g2 (fun i hi => hy i (by omega)) (fun j hj => zuf_ne _ _ (by omega)), hp h7, h8.cg g4 (fun i hi => hy i (by omega))⟩
  unfold PN at h1 ⊢
  rw [hy 2 (by omega), hy 4 (by omega), hy 3 (by omega), hy 5 (by omega), hy 0 (by omega), hy 1 (by omega), zuf_ne _ _ (by omega)]
  obtain ⟨N1, N2, N3, N4, N5, N6, N7, N8, N9, N10, N11, N12, N13, N14, N15, N16, N17⟩ := h1
  exact ⟨N1, N2, N3, N4, N5, N6, N7, N8, N9, N10, N11, N12, N13, N14, N15, fun h a b k a2 b2 => by rw [hy _ (by omega)]; exact N16 h a b k a2 b2, N17.cg (fun j h1 h2 => zuf_ne _ _ (by omega))⟩
theorem okW_in {x : Int32} (h : okW x) : x = 100000 ∨ inN x 0 800 := by
  rcases h with h | h
  · exact Or.inl h
  · rcases inI_nat x 0 800 (by omega) (by omega) with ⟨k, -, hk, e, -⟩ | ⟨-, e⟩
    · exact Or.inr ⟨k, e, by omega, hk⟩
    · replace e : inI x 0 800 = 0 := e
      rw [e] at h
      exact absurd h (by decide)
theorem o_warm {L : Nat} {xs : Nat → Int32} : op_warm (Inv L xs) := by
  intro a b M σ n w hI
  have hI' := hI
  obtain ⟨t, tr, c0, c1, c2, k0, k1, k2, b0, b1, b2, l0, l1, l2, hR, ⟨hT, hG0, hG1, hG2⟩, hg, hk, ht, hx, hn⟩ := hI
  have h25 := hT.1
  have hg' := hg
  obtain ⟨nc, nh, nl, lm, wk, hN, ⟨hC, hCn⟩, hB, hL, hSt, hH, hW, hX⟩ := hg'
  obtain ⟨N1, N2, N3, N4, N5, N6, N7, N8, N9, N10, N11, N12, N13, N14, N15, N16, N17⟩ := hN
  show zR ztb _ kX11_warm 1 0 [some (.ref 25), some (.int a), some (.int b), none] [] _ _ _ _
  rcases inI_nat a 0 3 (by omega) (by omega) with ⟨i, -, hi, rfl, e⟩ | ⟨-, e⟩
  · replace e : inI (nI i) 0 3 = 1 := e
    replace hi : i < 4 := by omega
    obtain ⟨T1, T2, T3, ⟨m, T4, -, T5⟩, T6⟩ := ht.2.2.2.2.2.2.2.2.2.2.2 i hi
    obtain ⟨hA, hB2⟩ := hT.2.2.2.2.2.2.2.2.2 i hi
    rw [T1, T2, T4] at hA
    have eS : inI (nI i) 0 3 = 1 := inI_y (lo := 0) (hi := 3) (by omega) (by omega) (by omega)
    rcases inI_nat b 0 29 (by omega) (by omega) with ⟨v, -, hv, rfl, e2⟩ | ⟨-, e2⟩
    · replace e2 : inI (nI v) 0 29 = 1 := e2
      by_cases es : σ 4 i = -1
      · repeat (first | rw [zcc1] | rw [zcc2] | rw [zcc3] | rw [zcc4] | rw [e2] | rw [ze1 (es)] | rw [ze2 (es)] | refine zR.step rfl ?_ | refine zR.cv rfl rfl rfl h25 rfl rfl (zCalP.of (c_sheetAt_y hT (by omega)) ?_) | refine zR.cs rfl rfl rfl rfl rfl (zCalP.of (c_isWithin _ _ _) ?_) | refine zR.getf rfl (hA) rfl ?_)
        refine zR.cv rfl rfl rfl h25 rfl rfl (zCalP.of (c_refuse h25 _) ?_)
        repeat (first | rw [zcc1] | rw [zcc2] | rw [zcc3] | rw [zcc4] | refine zR.step rfl ?_)
        refine zR.ret rfl rfl ⟨_, rfl, ⟨_, (hR.out (by omega)).1⟩, rfl, ?_⟩
        replace hR : Rf (zup M 25 (.inr (11, tob (tst t 10)))) σ := hR.out (by omega)
        have hS : Sm (zup M 25 (.inr (11, tob (tst t 10)))) (zup M 25 (.inr (11, tob (tst t 10)))) := Sm.rf
        show zR ztb _ kX12_warm 1 0 [some (.ref 287), some (.int (nI i)), some (.int (nI v)), none, none, none] [] _ _ _ _
        repeat (first | rw [zcc1] | rw [zcc2] | rw [zcc3] | rw [zcc4] | rw [eS] | rw [e2] | rw [ze1 (es)] | rw [ze2 (es)] | refine zR.step rfl ?_ | refine zR.getf rfl (hR.1) rfl ?_ | refine zR.cv rfl rfl rfl hR.1 rfl rfl (zCalP.of (c_isSheet _) ?_) | refine zR.cs rfl rfl rfl rfl rfl (zCalP.of (c_in _ _ _) ?_) | refine zR.ilR4 hR rfl (by (try simp only [zn_lit, zn_add, zn_mul]); rfl) (by omega) ?_)
        refine zR.cv rfl rfl rfl hR.1 rfl rfl (zR.mono (c_refused hR _) (fun v n' w' M' hv => ?_))
        obtain ⟨rfl, rfl, rfl, hR2, hS2⟩ := hv
        repeat (first | rw [zcc1] | rw [zcc2] | rw [zcc3] | rw [zcc4] | refine zR.step rfl ?_)
        refine zR.ret rfl rfl ⟨rfl, by omega, by omega, _, inv_fin ⟨hT, hG0, hG1, hG2⟩ hg hk ht hx hn hR2 (hS.trans hS2)⟩
      · by_cases e0 : σ 4 i = 2
        · have ea : nI v + nI m = nI (v + m) := zn_add v m
          by_cases hvm : v + m ≤ 30
          · have eb : ¬ (30 : Int32) < nI (v + m) := zI_nlt (a := 30) (by omega) (by omega)
            repeat (first | rw [zcc1] | rw [zcc2] | rw [zcc3] | rw [zcc4] | rw [e2] | rw [zd1 (es)] | rw [zd2 (es)] | rw [ze1 (e0)] | rw [ze2 (e0)] | rw [ea] | rw [zn1 (eb)] | rw [zn2 (eb)] | rw [zn3 (eb)] | rw [zn4 (eb)] | refine zR.step rfl ?_ | refine zR.cv rfl rfl rfl h25 rfl rfl (zCalP.of (c_sheetAt_y hT (by omega)) ?_) | refine zR.cs rfl rfl rfl rfl rfl (zCalP.of (c_isWithin _ _ _) ?_) | refine zR.getf rfl (hA) rfl ?_)
            refine zR.cv rfl rfl rfl hA rfl rfl (zR.mono (c_holdsW hA hB2 T5 (fun j hj => ⟨(T6 j hj).1, (T6 j hj).2.imp And.left id⟩)) (fun v' n' w' M' hv' => ?_))
            obtain ⟨rfl, rfl, rfl, ⟨rfl, hok⟩ | ⟨rfl, hno⟩⟩ := hv'
            · repeat (first | rw [zcc1] | rw [zcc2] | rw [zcc3] | rw [zcc4] | refine zR.step rfl ?_ | refine zR.getf rfl (hA) rfl ?_ | refine zR.getf rfl (h25) rfl ?_ | refine zR.getf rfl (hG0.o) rfl ?_)
              refine zR.acpy rfl hB2 hG0.wr (i := 0) (j := v) (m := m) rfl rfl rfl (by omega) (by omega) (by omega) (by omega) rfl ?_
              have hG0' := hG0.upW (va_cpy (t (30 + i)) (c0 7) 0 v m)
              have hT' := hT.out (a := 48 + 11) (c := .inl (0, 30, .inl (va_cpy (t (30 + i)) (c0 7) 0 v m))) (by omega)
              have hA' := hT'.2.2.2.2.2.2.2.2.2 i hi
              rw [T1, T2, T4] at hA'
              repeat (first | rw [zcc1] | rw [zcc2] | rw [zcc3] | rw [zcc4] | refine zR.step rfl ?_ | refine zR.getf rfl (hA'.1) rfl ?_)
              refine zR.cv rfl rfl rfl hT'.1 rfl rfl (zCalP.of (c_doneC hT'.1 _) ?_)
              repeat (first | rw [zcc1] | rw [zcc2] | rw [zcc3] | rw [zcc4] | refine zR.step rfl ?_)
              replace hR := (hR.out (a := 48 + 11) (c := .inl (0, 30, .inl (va_cpy (t (30 + i)) (c0 7) 0 v m))) (by omega)).out (a := 25) (c := .inr (11, tob (tst t 0))) (by omega)
              refine zR.ret rfl rfl ⟨_, rfl, ⟨_, hR.1⟩, rfl, ?_⟩
              show zR ztb _ kX12_warm 1 0 [some (.ref 287), some (.int (nI i)), some (.int (nI v)), none, none, none] [] _ _ _ _
              repeat (first | with_reducible refine zR.hold (pc := 83) ?_ | rw [zcc1] | rw [zcc2] | rw [zcc3] | rw [zcc4] | rw [eS] | rw [e2] | rw [T4] | rw [zd1 (es)] | rw [zd2 (es)] | rw [ze1 (e0)] | rw [ze2 (e0)] | rw [ea] | rw [zn1 (eb)] | rw [zn2 (eb)] | rw [zn3 (eb)] | rw [zn4 (eb)] | refine zR.step rfl ?_ | refine zR.getf rfl (hR.1) rfl ?_ | refine zR.cv rfl rfl rfl hR.1 rfl rfl (zCalP.of (c_isSheet _) ?_) | refine zR.cs rfl rfl rfl rfl rfl (zCalP.of (c_in _ _ _) ?_) | refine zR.ilR4 hR rfl (by (try simp only [zn_lit, zn_add, zn_mul]); rfl) (by omega) ?_ | refine zR.ilR5 hR rfl (by (try simp only [zn_lit, zn_add, zn_mul]); rfl) (by omega) ?_)
              refine ⟨trivial, wc_loop (a5 := 0) (v5 := none) hR hi T5 (fun _ v5 => ?_) (fun ⟨j, h1, h2⟩ => absurd (hok j h1) h2) m 0 _ (by omega) (fun j hj => by omega)⟩
              iterate 2 refine zR.step rfl ?_
              refine ww_loop hi T5 hvm (fun M1 y hR hS y1 y2 => ?_) m 0 _ (σ 0) (by omega) (by rw [zuf_id rfl]; exact hR) Sm.rf (fun j hj => by omega) (fun q hq => rfl)
              repeat (first | rw [zcc1] | rw [zcc2] | rw [zcc3] | rw [zcc4] | refine zR.step rfl ?_)
              refine zR.cv rfl rfl rfl hR.1 rfl rfl (zR.mono (c_done hR _) (fun v n' w' M' hv => ?_))
              obtain ⟨rfl, rfl, rfl, hR2, hS2⟩ := hv
              repeat (first | rw [zcc1] | rw [zcc2] | rw [zcc3] | rw [zcc4] | refine zR.step rfl ?_)
              refine zR.ret rfl rfl ⟨rfl, by omega, by omega, _, inv_now (s := y) hT hG1 hG2 hk ht hx hn (fun k h1 h2 => zup_ne _ _ (by omega)) (Nat.le_refl _) hG0' ((hg.out (by omega)).wm (fun k hk => y2 k (by omega)) (fun hW j hj => ?_)) hR2 (hS.trans hS2)⟩
              rw [zuf_self]
              unfold va_cpy
              by_cases q : v ≤ j ∧ j < v + m
              · rw [if_pos q]
                have := y1 (j - v) (by omega)
                rw [show 10 + v + (j - v) = 10 + j by omega] at this
                rw [this, show 0 + (j - v) = j - v by omega]
                exact ⟨(T6 _ (by omega)).1, okW_in (hok _ (by omega))⟩
              · rw [if_neg q, y2 _ (by omega)]
                exact hW j hj
            · repeat (first | rw [zcc1] | rw [zcc2] | rw [zcc3] | rw [zcc4] | refine zR.step rfl ?_)
              refine zR.cv rfl rfl rfl h25 rfl rfl (zCalP.of (c_refuse h25 _) ?_)
              repeat (first | rw [zcc1] | rw [zcc2] | rw [zcc3] | rw [zcc4] | refine zR.step rfl ?_)
              refine zR.ret rfl rfl ⟨_, rfl, ⟨_, (hR.out (by omega)).1⟩, rfl, ?_⟩
              replace hR : Rf (zup M 25 (.inr (11, tob (tst t 3)))) σ := hR.out (by omega)
              have hS : Sm (zup M 25 (.inr (11, tob (tst t 3)))) (zup M 25 (.inr (11, tob (tst t 3)))) := Sm.rf
              show zR ztb _ kX12_warm 1 0 [some (.ref 287), some (.int (nI i)), some (.int (nI v)), none, none, none] [] _ _ _ _
              repeat (first | with_reducible refine zR.hold (pc := 83) ?_ | rw [zcc1] | rw [zcc2] | rw [zcc3] | rw [zcc4] | rw [eS] | rw [e2] | rw [T4] | rw [zd1 (es)] | rw [zd2 (es)] | rw [ze1 (e0)] | rw [ze2 (e0)] | rw [ea] | rw [zn1 (eb)] | rw [zn2 (eb)] | rw [zn3 (eb)] | rw [zn4 (eb)] | refine zR.step rfl ?_ | refine zR.getf rfl (hR.1) rfl ?_ | refine zR.cv rfl rfl rfl hR.1 rfl rfl (zCalP.of (c_isSheet _) ?_) | refine zR.cs rfl rfl rfl rfl rfl (zCalP.of (c_in _ _ _) ?_) | refine zR.ilR4 hR rfl (by (try simp only [zn_lit, zn_add, zn_mul]); rfl) (by omega) ?_ | refine zR.ilR5 hR rfl (by (try simp only [zn_lit, zn_add, zn_mul]); rfl) (by omega) ?_)
              refine ⟨trivial, wc_loop (a5 := 0) (v5 := none) hR hi T5 (fun hok v5 => ?_) (fun _ v4 v5 => ?_) m 0 _ (by omega) (fun j hj => by omega)⟩
              · obtain ⟨j, h1, h2⟩ := hno
                exact absurd (hok j h1) h2
              · repeat (first | rw [zcc1] | rw [zcc2] | rw [zcc3] | rw [zcc4] | refine zR.step rfl ?_)
                refine zR.cv rfl rfl rfl hR.1 rfl rfl (zR.mono (c_refused hR _) (fun v n' w' M' hv => ?_))
                obtain ⟨rfl, rfl, rfl, hR2, hS2⟩ := hv
                repeat (first | rw [zcc1] | rw [zcc2] | rw [zcc3] | rw [zcc4] | refine zR.step rfl ?_)
                refine zR.ret rfl rfl ⟨rfl, by omega, by omega, _, inv_fin ⟨hT, hG0, hG1, hG2⟩ hg hk ht hx hn hR2 (hS.trans hS2)⟩
          · have eb : (30 : Int32) < nI (v + m) := zI_ylt (a := 30) (by omega) (by omega)
            repeat (first | rw [zcc1] | rw [zcc2] | rw [zcc3] | rw [zcc4] | rw [e2] | rw [zd1 (es)] | rw [zd2 (es)] | rw [ze1 (e0)] | rw [ze2 (e0)] | rw [ea] | rw [zb1 (eb)] | rw [zb2 (eb)] | rw [zb3 (eb)] | rw [zb4 (eb)] | refine zR.step rfl ?_ | refine zR.cv rfl rfl rfl h25 rfl rfl (zCalP.of (c_sheetAt_y hT (by omega)) ?_) | refine zR.cs rfl rfl rfl rfl rfl (zCalP.of (c_isWithin _ _ _) ?_) | refine zR.getf rfl (hA) rfl ?_)
            refine zR.cv rfl rfl rfl h25 rfl rfl (zCalP.of (c_refuse h25 _) ?_)
            repeat (first | rw [zcc1] | rw [zcc2] | rw [zcc3] | rw [zcc4] | refine zR.step rfl ?_)
            refine zR.ret rfl rfl ⟨_, rfl, ⟨_, (hR.out (by omega)).1⟩, rfl, ?_⟩
            replace hR : Rf (zup M 25 (.inr (11, tob (tst t 12)))) σ := hR.out (by omega)
            have hS : Sm (zup M 25 (.inr (11, tob (tst t 12)))) (zup M 25 (.inr (11, tob (tst t 12)))) := Sm.rf
            show zR ztb _ kX12_warm 1 0 [some (.ref 287), some (.int (nI i)), some (.int (nI v)), none, none, none] [] _ _ _ _
            repeat (first | rw [zcc1] | rw [zcc2] | rw [zcc3] | rw [zcc4] | rw [eS] | rw [e2] | rw [T4] | rw [zd1 (es)] | rw [zd2 (es)] | rw [ze1 (e0)] | rw [ze2 (e0)] | rw [ea] | rw [zb1 (eb)] | rw [zb2 (eb)] | rw [zb3 (eb)] | rw [zb4 (eb)] | refine zR.step rfl ?_ | refine zR.getf rfl (hR.1) rfl ?_ | refine zR.cv rfl rfl rfl hR.1 rfl rfl (zCalP.of (c_isSheet _) ?_) | refine zR.cs rfl rfl rfl rfl rfl (zCalP.of (c_in _ _ _) ?_) | refine zR.ilR4 hR rfl (by (try simp only [zn_lit, zn_add, zn_mul]); rfl) (by omega) ?_ | refine zR.ilR5 hR rfl (by (try simp only [zn_lit, zn_add, zn_mul]); rfl) (by omega) ?_)
            refine zR.cv rfl rfl rfl hR.1 rfl rfl (zR.mono (c_refused hR _) (fun v n' w' M' hv => ?_))
            obtain ⟨rfl, rfl, rfl, hR2, hS2⟩ := hv
            repeat (first | rw [zcc1] | rw [zcc2] | rw [zcc3] | rw [zcc4] | refine zR.step rfl ?_)
            refine zR.ret rfl rfl ⟨rfl, by omega, by omega, _, inv_fin ⟨hT, hG0, hG1, hG2⟩ hg hk ht hx hn hR2 (hS.trans hS2)⟩
        · repeat (first | rw [zcc1] | rw [zcc2] | rw [zcc3] | rw [zcc4] | rw [e2] | rw [zd1 (es)] | rw [zd2 (es)] | rw [zd1 (e0)] | rw [zd2 (e0)] | refine zR.step rfl ?_ | refine zR.cv rfl rfl rfl h25 rfl rfl (zCalP.of (c_sheetAt_y hT (by omega)) ?_) | refine zR.cs rfl rfl rfl rfl rfl (zCalP.of (c_isWithin _ _ _) ?_) | refine zR.getf rfl (hA) rfl ?_)
          refine zR.cv rfl rfl rfl h25 rfl rfl (zCalP.of (c_refuse h25 _) ?_)
          repeat (first | rw [zcc1] | rw [zcc2] | rw [zcc3] | rw [zcc4] | refine zR.step rfl ?_)
          refine zR.ret rfl rfl ⟨_, rfl, ⟨_, (hR.out (by omega)).1⟩, rfl, ?_⟩
          replace hR : Rf (zup M 25 (.inr (11, tob (tst t 11)))) σ := hR.out (by omega)
          have hS : Sm (zup M 25 (.inr (11, tob (tst t 11)))) (zup M 25 (.inr (11, tob (tst t 11)))) := Sm.rf
          show zR ztb _ kX12_warm 1 0 [some (.ref 287), some (.int (nI i)), some (.int (nI v)), none, none, none] [] _ _ _ _
          repeat (first | rw [zcc1] | rw [zcc2] | rw [zcc3] | rw [zcc4] | rw [eS] | rw [e2] | rw [zd1 (es)] | rw [zd2 (es)] | rw [zd1 (e0)] | rw [zd2 (e0)] | refine zR.step rfl ?_ | refine zR.getf rfl (hR.1) rfl ?_ | refine zR.cv rfl rfl rfl hR.1 rfl rfl (zCalP.of (c_isSheet _) ?_) | refine zR.cs rfl rfl rfl rfl rfl (zCalP.of (c_in _ _ _) ?_) | refine zR.ilR4 hR rfl (by (try simp only [zn_lit, zn_add, zn_mul]); rfl) (by omega) ?_)
          refine zR.cv rfl rfl rfl hR.1 rfl rfl (zR.mono (c_refused hR _) (fun v n' w' M' hv => ?_))
          obtain ⟨rfl, rfl, rfl, hR2, hS2⟩ := hv
          repeat (first | rw [zcc1] | rw [zcc2] | rw [zcc3] | rw [zcc4] | refine zR.step rfl ?_)
          refine zR.ret rfl rfl ⟨rfl, by omega, by omega, _, inv_fin ⟨hT, hG0, hG1, hG2⟩ hg hk ht hx hn hR2 (hS.trans hS2)⟩
    · replace e2 : inI b 0 29 = 0 := e2
      repeat (first | rw [zcc1] | rw [zcc2] | rw [zcc3] | rw [zcc4] | rw [e2] | refine zR.step rfl ?_ | refine zR.cv rfl rfl rfl h25 rfl rfl (zCalP.of (c_sheetAt_y hT (by omega)) ?_) | refine zR.cs rfl rfl rfl rfl rfl (zCalP.of (c_isWithin _ _ _) ?_))
      refine zR.cv rfl rfl rfl h25 rfl rfl (zCalP.of (c_refuse h25 _) ?_)
      repeat (first | rw [zcc1] | rw [zcc2] | rw [zcc3] | rw [zcc4] | refine zR.step rfl ?_)
      refine zR.ret rfl rfl ⟨_, rfl, ⟨_, (hR.out (by omega)).1⟩, rfl, ?_⟩
      replace hR : Rf (zup M 25 (.inr (11, tob (tst t 1)))) σ := hR.out (by omega)
      have hS : Sm (zup M 25 (.inr (11, tob (tst t 1)))) (zup M 25 (.inr (11, tob (tst t 1)))) := Sm.rf
      show zR ztb _ kX12_warm 1 0 [some (.ref 287), some (.int (nI i)), some (.int b), none, none, none] [] _ _ _ _
      repeat (first | rw [zcc1] | rw [zcc2] | rw [zcc3] | rw [zcc4] | rw [eS] | rw [e2] | refine zR.step rfl ?_ | refine zR.getf rfl (hR.1) rfl ?_ | refine zR.cv rfl rfl rfl hR.1 rfl rfl (zCalP.of (c_isSheet _) ?_) | refine zR.cs rfl rfl rfl rfl rfl (zCalP.of (c_in _ _ _) ?_))
      refine zR.cv rfl rfl rfl hR.1 rfl rfl (zR.mono (c_refused hR _) (fun v n' w' M' hv => ?_))
      obtain ⟨rfl, rfl, rfl, hR2, hS2⟩ := hv
      repeat (first | rw [zcc1] | rw [zcc2] | rw [zcc3] | rw [zcc4] | refine zR.step rfl ?_)
      refine zR.ret rfl rfl ⟨rfl, by omega, by omega, _, inv_fin ⟨hT, hG0, hG1, hG2⟩ hg hk ht hx hn hR2 (hS.trans hS2)⟩
  · replace e : inI a 0 3 = 0 := e
    repeat (first | rw [zcc1] | rw [zcc2] | rw [zcc3] | rw [zcc4] | refine zR.step rfl ?_ | refine zR.cv rfl rfl rfl h25 rfl rfl (zCalP.of (c_sheetAt_n hT e) ?_))
    refine zR.cv rfl rfl rfl h25 rfl rfl (zCalP.of (c_refuse h25 _) ?_)
    repeat (first | rw [zcc1] | rw [zcc2] | rw [zcc3] | rw [zcc4] | refine zR.step rfl ?_)
    refine zR.ret rfl rfl ⟨_, rfl, ⟨_, (hR.out (by omega)).1⟩, rfl, ?_⟩
    replace hR : Rf (zup M 25 (.inr (11, tob (tst t 1)))) σ := hR.out (by omega)
    have hS : Sm (zup M 25 (.inr (11, tob (tst t 1)))) (zup M 25 (.inr (11, tob (tst t 1)))) := Sm.rf
    show zR ztb _ kX12_warm 1 0 [some (.ref 287), some (.int a), some (.int b), none, none, none] [] _ _ _ _
    repeat (first | rw [zcc1] | rw [zcc2] | rw [zcc3] | rw [zcc4] | rw [e] | refine zR.step rfl ?_ | refine zR.getf rfl (hR.1) rfl ?_ | refine zR.cv rfl rfl rfl hR.1 rfl rfl (zCalP.of (c_isSheet _) ?_))
    refine zR.cv rfl rfl rfl hR.1 rfl rfl (zR.mono (c_refused hR _) (fun v n' w' M' hv => ?_))
    obtain ⟨rfl, rfl, rfl, hR2, hS2⟩ := hv
    repeat (first | rw [zcc1] | rw [zcc2] | rw [zcc3] | rw [zcc4] | refine zR.step rfl ?_)
    refine zR.ret rfl rfl ⟨rfl, by omega, by omega, _, inv_fin ⟨hT, hG0, hG1, hG2⟩ hg hk ht hx hn hR2 (hS.trans hS2)⟩
