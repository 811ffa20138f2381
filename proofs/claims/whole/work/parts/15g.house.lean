
/-! box, why, lead, houseTold. -/
theorem c_boxOwner_y {M : zM} {t : mS} {c : mS} {kp bt : Nat → Option Nat} {la : Nat} {d n w i : Nat} {b : Int32} (h25 : M 25 = .inr (11, tob t)) (hG : Gc M 48 c kp bt la) (ec : inI (nI i) 0 (c 0 1 - 1) = 1) (hi : i < 10) (h6 : c (30 + i) 6 = 1) (eb : inI b 0 (c (30 + i) 0 - 1) = 1) : zCall (d + 2) 120 [.ref 25, .int (nI i), .int b] n w M (some (.ref (48 + 26 + 5 * i))) n w M := by
  intro Q hQ
  show zR ztb _ kX11_boxOwner 3 0 [some (.ref 25), some (.int (nI i)), some (.int b), none] [] _ _ _ _
  repeat (first | rw [zcc1] | rw [zcc2] | rw [zcc3] | rw [zcc4] | rw [h6] | rw [eb] | refine zR.step rfl ?_ | refine zR.getf rfl (h25) rfl ?_ | refine zR.cs rfl rfl rfl rfl rfl (zCalP.of (c_isWithin _ _ _) ?_) | refine zR.getf rfl (hG.h0 (i := i) (by omega)) rfl ?_ | refine zR.cv rfl rfl rfl hG.o rfl rfl (zCalP.of (c_houseAt_y hG ec (by omega)) ?_))
  exact zR.ret rfl rfl hQ
theorem c_boxOwner_n {M : zM} {t : mS} {c : mS} {kp bt : Nat → Option Nat} {la : Nat} {d n w : Nat} {a b : Int32} (h25 : M 25 = .inr (11, tob t)) (hG : Gc M 48 c kp bt la) (h : inI a 0 (c 0 1 - 1) = 0 ∨ ∃ i, a = nI i ∧ inI (nI i) 0 (c 0 1 - 1) = 1 ∧ i < 10 ∧ (c (30 + i) 6 = 0 ∨ (c (30 + i) 6 = 1 ∧ inI b 0 (c (30 + i) 0 - 1) = 0))) : zCall (d + 2) 120 [.ref 25, .int a, .int b] n w M (some .null) n w M := by
  intro Q hQ
  show zR ztb _ kX11_boxOwner 3 0 [some (.ref 25), some (.int a), some (.int b), none] [] _ _ _ _
  rcases h with e | ⟨i, rfl, ec, hi, h6 | ⟨h6, eb⟩⟩
  · repeat (first | rw [zcc1] | rw [zcc2] | rw [zcc3] | rw [zcc4] | refine zR.step rfl ?_ | refine zR.getf rfl (h25) rfl ?_ | refine zR.cv rfl rfl rfl hG.o rfl rfl (zCalP.of (c_houseAt_n hG e) ?_))
    exact zR.ret rfl rfl hQ
  · repeat (first | rw [zcc1] | rw [zcc2] | rw [zcc3] | rw [zcc4] | rw [h6] | refine zR.step rfl ?_ | refine zR.getf rfl (h25) rfl ?_ | refine zR.getf rfl (hG.h0 (i := i) (by omega)) rfl ?_ | refine zR.cv rfl rfl rfl hG.o rfl rfl (zCalP.of (c_houseAt_y hG ec (by omega)) ?_))
    exact zR.ret rfl rfl hQ
  · repeat (first | rw [zcc1] | rw [zcc2] | rw [zcc3] | rw [zcc4] | rw [h6] | rw [eb] | refine zR.step rfl ?_ | refine zR.getf rfl (h25) rfl ?_ | refine zR.cs rfl rfl rfl rfl rfl (zCalP.of (c_isWithin _ _ _) ?_) | refine zR.getf rfl (hG.h0 (i := i) (by omega)) rfl ?_ | refine zR.cv rfl rfl rfl hG.o rfl rfl (zCalP.of (c_houseAt_y hG ec (by omega)) ?_))
    exact zR.ret rfl rfl hQ
theorem c_placeIs_y {M : zM} {σ : mS} {d n w i p q : Nat} {x : Int32} (hR : Rf M σ) (er : inI (nI i) 0 (σ 0 4 - 1) = 1) (hi : i < 10) (h6 : σ 0 (1700 + 40 * i + 6) = 1) (eb : inI (nI p) 0 (σ 0 (1700 + 40 * i + 0) - 1) = 1) (hp : p < 6) (hq : q < 3) : zCall (d + 2) 195 [.ref 287, .int (nI i), .int (nI p), .int (nI q), .int x] n w M (some (.int (σ 0 (1716 + 40 * i + 3 * p + q)))) n w M := by
  intro Q hQ
  have ez : 16 + 3 * nI p + nI q = nI (16 + 3 * p + q) := by simp only [zn_lit, zn_mul, zn_add]
  rw [show 1716 + 40 * i + 3 * p + q = 1700 + 40 * i + (16 + 3 * p + q) by omega] at hQ
  show zR ztb _ kX12_placeIs 1 0 [some (.ref 287), some (.int (nI i)), some (.int (nI p)), some (.int (nI q)), some (.int x), none] [] _ _ _ _
  repeat (first | rw [zcc1] | rw [zcc2] | rw [zcc3] | rw [zcc4] | rw [er] | rw [h6] | rw [eb] | rw [ez] | rw [zb1 (by decide)] | rw [zb2 (by decide)] | rw [zb3 (by decide)] | rw [zb4 (by decide)] | rw [zn1 (by decide)] | rw [zn2 (by decide)] | rw [zn3 (by decide)] | rw [zn4 (by decide)] | rw [ze1 (by decide)] | rw [ze2 (by decide)] | rw [zd1 (by decide)] | rw [zd2 (by decide)] | rw [zswy (by decide)] | rw [zswn (by decide)] | rw [zsw0] | refine zR.step rfl ?_ | refine zR.cv rfl rfl rfl hR.1 rfl rfl (zCalP.of (c_isHouse hR _) ?_) | refine zR.cs rfl rfl rfl rfl rfl (zCalP.of (c_in _ _ _) ?_) | refine zR.cv rfl rfl rfl hR.1 rfl rfl (zCalP.of (c_houseIs hR i 6 (by omega)) ?_) | refine zR.cv rfl rfl rfl hR.1 rfl rfl (zCalP.of (c_houseIs hR i 0 (by omega)) ?_) | refine zR.cv rfl rfl rfl hR.1 rfl rfl (zCalP.of (c_houseIs hR i (16 + 3 * p + q) (by omega)) ?_))
  exact zR.ret rfl rfl hQ
theorem c_placeIs_n {M : zM} {σ : mS} {d n w : Nat} {a b q x : Int32} (hR : Rf M σ) (h : inI a 0 (σ 0 4 - 1) = 0 ∨ ∃ i, a = nI i ∧ inI (nI i) 0 (σ 0 4 - 1) = 1 ∧ i < 10 ∧ (σ 0 (1700 + 40 * i + 6) = 0 ∨ (σ 0 (1700 + 40 * i + 6) = 1 ∧ inI b 0 (σ 0 (1700 + 40 * i + 0) - 1) = 0))) : zCall (d + 2) 195 [.ref 287, .int a, .int b, .int q, .int x] n w M (some (.int x)) n w M := by
  intro Q hQ
  show zR ztb _ kX12_placeIs 1 0 [some (.ref 287), some (.int a), some (.int b), some (.int q), some (.int x), none] [] _ _ _ _
  rcases h with e | ⟨i, rfl, er, hi, h6 | ⟨h6, eb⟩⟩
  · repeat (first | rw [zcc1] | rw [zcc2] | rw [zcc3] | rw [zcc4] | rw [e] | refine zR.step rfl ?_ | refine zR.cv rfl rfl rfl hR.1 rfl rfl (zCalP.of (c_isHouse hR _) ?_))
    exact zR.ret rfl rfl hQ
  · repeat (first | rw [zcc1] | rw [zcc2] | rw [zcc3] | rw [zcc4] | rw [er] | rw [h6] | rw [zb1 (by decide)] | rw [zb2 (by decide)] | rw [zb3 (by decide)] | rw [zb4 (by decide)] | rw [zn1 (by decide)] | rw [zn2 (by decide)] | rw [zn3 (by decide)] | rw [zn4 (by decide)] | rw [ze1 (by decide)] | rw [ze2 (by decide)] | rw [zd1 (by decide)] | rw [zd2 (by decide)] | rw [zswy (by decide)] | rw [zswn (by decide)] | rw [zsw0] | refine zR.step rfl ?_ | refine zR.cv rfl rfl rfl hR.1 rfl rfl (zCalP.of (c_isHouse hR _) ?_) | refine zR.cv rfl rfl rfl hR.1 rfl rfl (zCalP.of (c_houseIs hR i 6 (by omega)) ?_))
    exact zR.ret rfl rfl hQ
  · repeat (first | rw [zcc1] | rw [zcc2] | rw [zcc3] | rw [zcc4] | rw [er] | rw [h6] | rw [eb] | rw [zb1 (by decide)] | rw [zb2 (by decide)] | rw [zb3 (by decide)] | rw [zb4 (by decide)] | rw [zn1 (by decide)] | rw [zn2 (by decide)] | rw [zn3 (by decide)] | rw [zn4 (by decide)] | rw [ze1 (by decide)] | rw [ze2 (by decide)] | rw [zd1 (by decide)] | rw [zd2 (by decide)] | rw [zswy (by decide)] | rw [zswn (by decide)] | rw [zsw0] | refine zR.step rfl ?_ | refine zR.cv rfl rfl rfl hR.1 rfl rfl (zCalP.of (c_isHouse hR _) ?_) | refine zR.cs rfl rfl rfl rfl rfl (zCalP.of (c_in _ _ _) ?_) | refine zR.cv rfl rfl rfl hR.1 rfl rfl (zCalP.of (c_houseIs hR i 6 (by omega)) ?_) | refine zR.cv rfl rfl rfl hR.1 rfl rfl (zCalP.of (c_houseIs hR i 0 (by omega)) ?_))
    exact zR.ret rfl rfl hQ
theorem o_box {L : Nat} {xs : Nat → Int32} : op_box (Inv L xs) := by
  intro a b M σ n w hI
  have hI' := hI
  obtain ⟨t, tr, c0, c1, c2, k0, k1, k2, b0, b1, b2, l0, l1, l2, hR, ⟨hT, hG0, hG1, hG2⟩, hg, hk, ht, hx, hn⟩ := hI
  have h25 := hT.1
  have hg' := hg
  obtain ⟨nc, nh, nl, lm, wk, hN, ⟨hC, hCn⟩, hB, hL, hSt, hH, hW, hX⟩ := hg'
  obtain ⟨N1, N2, N3, N4, N5, N6, N7, N8, N9, N10, N11, N12, N13, N14, N15, N16, N17⟩ := hN
  show zR ztb _ kX11_box 1 0 [some (.ref 25), some (.int a), some (.int b), none] [] _ _ _ _
  by_cases hy : ∃ i p, i < nh ∧ p < 6 ∧ a = nI i ∧ b = nI p ∧ inI (nI i) 0 (nI nh - 1) = 1 ∧ σ 0 (1700 + 40 * i + 6) = 1 ∧ inI (nI p) 0 (σ 0 (1700 + 40 * i + 0) - 1) = 1 ∧ nI p < σ 0 (1700 + 40 * i)
  · obtain ⟨i, p, hi, hp, rfl, rfl, e1, e2, e3, e4⟩ := hy
    obtain ⟨H1, H2, H3, H4, H5, H6, H7, H8⟩ := hH i hi
    have ec : inI (nI i) 0 (c0 0 1 - 1) = 1 := by rw [N12, N3]; exact e1
    have er : inI (nI i) 0 (σ 0 4 - 1) = 1 := by rw [N3]; exact e1
    have c6 : c0 (30 + i) 6 = 1 := by rw [H1 6 (by omega)]; exact e2
    have cb : inI (nI p) 0 (c0 (30 + i) 0 - 1) = 1 := by rw [H1 0 (by omega)]; exact e3
    have hv := H8 (by rw [show 1706 + 40 * i = 1700 + 40 * i + 6 by omega]; exact e2) p hp e4
    repeat (first | rw [zcc1] | rw [zcc2] | rw [zcc3] | rw [zcc4] | refine zR.step rfl ?_ | refine zR.cv rfl rfl rfl h25 rfl rfl (zCalP.of (c_boxOwner_y h25 hG0 ec (by omega) c6 cb) ?_) | refine zR.getf rfl (hG0.h0 (i := i) (by omega)) rfl ?_ | refine zR.iald rfl (hG0.h2 (i := i) (by omega)) (Or.inl rfl) (i := p) (by first | with_reducible rfl | (simp only [zn_lit, zn_add, zn_mul]; done) | exact zI_pred (by omega) (by omega) | rfl) (by omega) (by decide) ?_)
    refine zR.ret rfl rfl ⟨_, rfl, ⟨_, hR.1⟩, rfl, ?_⟩
    show zR ztb _ kX12_box 1 0 [some (.ref 287), some (.int (nI i)), some (.int (nI p))] [] _ _ _ _
    repeat (first | rw [zcc1] | rw [zcc2] | rw [zcc3] | rw [zcc4] | refine zR.step rfl ?_ | refine zR.cv rfl rfl rfl hR.1 rfl rfl (zCalP.of (c_placeIs_y (q := 0) hR er (by omega) e2 e3 hp (by omega)) ?_))
    refine zR.ret rfl rfl ⟨zeqv ((congrArg (σ 0) (by omega)).trans (hv.1).symm), by omega, by omega, σ, hI'⟩
  · have hn2 : inI a 0 (nI nh - 1) = 0 ∨ ∃ i, a = nI i ∧ inI (nI i) 0 (nI nh - 1) = 1 ∧ i < nh ∧ (σ 0 (1700 + 40 * i + 6) = 0 ∨ (σ 0 (1700 + 40 * i + 6) = 1 ∧ inI b 0 (σ 0 (1700 + 40 * i + 0) - 1) = 0)) := by
      rcases inI_sub a nh (by omega) with ⟨i, hi, rfl, e⟩ | ⟨-, e⟩
      · refine Or.inr ⟨i, rfl, e, hi, ?_⟩
        obtain ⟨H1, H2, ⟨z, H3, H3a, H3b⟩, H4, H5, H6, H7, H8⟩ := hH i hi
        rw [show 1706 + 40 * i = 1700 + 40 * i + 6 by omega] at H7
        rcases H7 with H7 | H7
        · exact Or.inl H7
        · refine Or.inr ⟨H7, ?_⟩
          rw [show 1700 + 40 * i + 0 = 1700 + 40 * i by omega, H3]
          rcases inI_sub b z (by omega) with ⟨p, hp, rfl, e2⟩ | ⟨-, e2⟩
          · exact absurd ⟨i, p, hi, by omega, rfl, rfl, e, H7, by rw [show 1700 + 40 * i + 0 = 1700 + 40 * i by omega, H3]; exact e2, by rw [H3]; exact zI_ylt hp (by omega)⟩ hy
          · exact e2
      · exact Or.inl e
    have hc : inI a 0 (c0 0 1 - 1) = 0 ∨ ∃ i, a = nI i ∧ inI (nI i) 0 (c0 0 1 - 1) = 1 ∧ i < 10 ∧ (c0 (30 + i) 6 = 0 ∨ (c0 (30 + i) 6 = 1 ∧ inI b 0 (c0 (30 + i) 0 - 1) = 0)) := by
      rw [N12, N3]
      rcases hn2 with h | ⟨i, h1, h2, h3, h4⟩
      · exact Or.inl h
      · have H1 := (hH i h3).1
        refine Or.inr ⟨i, h1, h2, by omega, ?_⟩
        rw [H1 6 (by omega), H1 0 (by omega)]
        exact h4
    have hr : inI a 0 (σ 0 4 - 1) = 0 ∨ ∃ i, a = nI i ∧ inI (nI i) 0 (σ 0 4 - 1) = 1 ∧ i < 10 ∧ (σ 0 (1700 + 40 * i + 6) = 0 ∨ (σ 0 (1700 + 40 * i + 6) = 1 ∧ inI b 0 (σ 0 (1700 + 40 * i + 0) - 1) = 0)) := by
      rw [N3]
      rcases hn2 with h | ⟨i, h1, h2, h3, h4⟩
      · exact Or.inl h
      · exact Or.inr ⟨i, h1, h2, by omega, h4⟩
    repeat (first | rw [zcc1] | rw [zcc2] | rw [zcc3] | rw [zcc4] | refine zR.step rfl ?_ | refine zR.cv rfl rfl rfl h25 rfl rfl (zCalP.of (c_boxOwner_n h25 hG0 hc) ?_))
    refine zR.ret rfl rfl ⟨_, rfl, ⟨_, hR.1⟩, rfl, ?_⟩
    show zR ztb _ kX12_box 1 0 [some (.ref 287), some (.int a), some (.int b)] [] _ _ _ _
    repeat (first | rw [zcc1] | rw [zcc2] | rw [zcc3] | rw [zcc4] | refine zR.step rfl ?_ | refine zR.cv rfl rfl rfl hR.1 rfl rfl (zCalP.of (c_placeIs_n hR hr) ?_))
    refine zR.ret rfl rfl ⟨rfl, by omega, by omega, σ, hI'⟩
theorem o_why {L : Nat} {xs : Nat → Int32} : op_why (Inv L xs) := by
  intro a b M σ n w hI
  have hI' := hI
  obtain ⟨t, tr, c0, c1, c2, k0, k1, k2, b0, b1, b2, l0, l1, l2, hR, ⟨hT, hG0, hG1, hG2⟩, hg, hk, ht, hx, hn⟩ := hI
  have h25 := hT.1
  have hg' := hg
  obtain ⟨nc, nh, nl, lm, wk, hN, ⟨hC, hCn⟩, hB, hL, hSt, hH, hW, hX⟩ := hg'
  obtain ⟨N1, N2, N3, N4, N5, N6, N7, N8, N9, N10, N11, N12, N13, N14, N15, N16, N17⟩ := hN
  show zR ztb _ kX11_why 1 0 [some (.ref 25), some (.int a), some (.int b), none] [] _ _ _ _
  by_cases hy : ∃ i p, i < nh ∧ p < 6 ∧ a = nI i ∧ b = nI p ∧ inI (nI i) 0 (nI nh - 1) = 1 ∧ σ 0 (1700 + 40 * i + 6) = 1 ∧ inI (nI p) 0 (σ 0 (1700 + 40 * i + 0) - 1) = 1 ∧ nI p < σ 0 (1700 + 40 * i)
  · obtain ⟨i, p, hi, hp, rfl, rfl, e1, e2, e3, e4⟩ := hy
    obtain ⟨H1, H2, H3, H4, H5, H6, H7, H8⟩ := hH i hi
    have ec : inI (nI i) 0 (c0 0 1 - 1) = 1 := by rw [N12, N3]; exact e1
    have er : inI (nI i) 0 (σ 0 4 - 1) = 1 := by rw [N3]; exact e1
    have c6 : c0 (30 + i) 6 = 1 := by rw [H1 6 (by omega)]; exact e2
    have cb : inI (nI p) 0 (c0 (30 + i) 0 - 1) = 1 := by rw [H1 0 (by omega)]; exact e3
    have hv := H8 (by rw [show 1706 + 40 * i = 1700 + 40 * i + 6 by omega]; exact e2) p hp e4
    repeat (first | rw [zcc1] | rw [zcc2] | rw [zcc3] | rw [zcc4] | refine zR.step rfl ?_ | refine zR.cv rfl rfl rfl h25 rfl rfl (zCalP.of (c_boxOwner_y h25 hG0 ec (by omega) c6 cb) ?_) | refine zR.getf rfl (hG0.h0 (i := i) (by omega)) rfl ?_ | refine zR.iald rfl (hG0.h3 (i := i) (by omega)) (Or.inl rfl) (i := p) (by first | with_reducible rfl | (simp only [zn_lit, zn_add, zn_mul]; done) | exact zI_pred (by omega) (by omega) | rfl) (by omega) (by decide) ?_)
    refine zR.ret rfl rfl ⟨_, rfl, ⟨_, hR.1⟩, rfl, ?_⟩
    show zR ztb _ kX12_why 1 0 [some (.ref 287), some (.int (nI i)), some (.int (nI p))] [] _ _ _ _
    repeat (first | rw [zcc1] | rw [zcc2] | rw [zcc3] | rw [zcc4] | refine zR.step rfl ?_ | refine zR.cv rfl rfl rfl hR.1 rfl rfl (zCalP.of (c_placeIs_y (q := 1) hR er (by omega) e2 e3 hp (by omega)) ?_))
    refine zR.ret rfl rfl ⟨zeqv ((congrArg (σ 0) (by omega)).trans (hv.2.1).symm), by omega, by omega, σ, hI'⟩
  · have hn2 : inI a 0 (nI nh - 1) = 0 ∨ ∃ i, a = nI i ∧ inI (nI i) 0 (nI nh - 1) = 1 ∧ i < nh ∧ (σ 0 (1700 + 40 * i + 6) = 0 ∨ (σ 0 (1700 + 40 * i + 6) = 1 ∧ inI b 0 (σ 0 (1700 + 40 * i + 0) - 1) = 0)) := by
      rcases inI_sub a nh (by omega) with ⟨i, hi, rfl, e⟩ | ⟨-, e⟩
      · refine Or.inr ⟨i, rfl, e, hi, ?_⟩
        obtain ⟨H1, H2, ⟨z, H3, H3a, H3b⟩, H4, H5, H6, H7, H8⟩ := hH i hi
        rw [show 1706 + 40 * i = 1700 + 40 * i + 6 by omega] at H7
        rcases H7 with H7 | H7
        · exact Or.inl H7
        · refine Or.inr ⟨H7, ?_⟩
          rw [show 1700 + 40 * i + 0 = 1700 + 40 * i by omega, H3]
          rcases inI_sub b z (by omega) with ⟨p, hp, rfl, e2⟩ | ⟨-, e2⟩
          · exact absurd ⟨i, p, hi, by omega, rfl, rfl, e, H7, by rw [show 1700 + 40 * i + 0 = 1700 + 40 * i by omega, H3]; exact e2, by rw [H3]; exact zI_ylt hp (by omega)⟩ hy
          · exact e2
      · exact Or.inl e
    have hc : inI a 0 (c0 0 1 - 1) = 0 ∨ ∃ i, a = nI i ∧ inI (nI i) 0 (c0 0 1 - 1) = 1 ∧ i < 10 ∧ (c0 (30 + i) 6 = 0 ∨ (c0 (30 + i) 6 = 1 ∧ inI b 0 (c0 (30 + i) 0 - 1) = 0)) := by
      rw [N12, N3]
      rcases hn2 with h | ⟨i, h1, h2, h3, h4⟩
      · exact Or.inl h
      · have H1 := (hH i h3).1
        refine Or.inr ⟨i, h1, h2, by omega, ?_⟩
        rw [H1 6 (by omega), H1 0 (by omega)]
        exact h4
    have hr : inI a 0 (σ 0 4 - 1) = 0 ∨ ∃ i, a = nI i ∧ inI (nI i) 0 (σ 0 4 - 1) = 1 ∧ i < 10 ∧ (σ 0 (1700 + 40 * i + 6) = 0 ∨ (σ 0 (1700 + 40 * i + 6) = 1 ∧ inI b 0 (σ 0 (1700 + 40 * i + 0) - 1) = 0)) := by
      rw [N3]
      rcases hn2 with h | ⟨i, h1, h2, h3, h4⟩
      · exact Or.inl h
      · exact Or.inr ⟨i, h1, h2, by omega, h4⟩
    repeat (first | rw [zcc1] | rw [zcc2] | rw [zcc3] | rw [zcc4] | refine zR.step rfl ?_ | refine zR.cv rfl rfl rfl h25 rfl rfl (zCalP.of (c_boxOwner_n h25 hG0 hc) ?_))
    refine zR.ret rfl rfl ⟨_, rfl, ⟨_, hR.1⟩, rfl, ?_⟩
    show zR ztb _ kX12_why 1 0 [some (.ref 287), some (.int a), some (.int b)] [] _ _ _ _
    repeat (first | rw [zcc1] | rw [zcc2] | rw [zcc3] | rw [zcc4] | refine zR.step rfl ?_ | refine zR.cv rfl rfl rfl hR.1 rfl rfl (zCalP.of (c_placeIs_n hR hr) ?_))
    refine zR.ret rfl rfl ⟨rfl, by omega, by omega, σ, hI'⟩
theorem o_lead {L : Nat} {xs : Nat → Int32} : op_lead (Inv L xs) := by
  intro a b M σ n w hI
  have hI' := hI
  obtain ⟨t, tr, c0, c1, c2, k0, k1, k2, b0, b1, b2, l0, l1, l2, hR, ⟨hT, hG0, hG1, hG2⟩, hg, hk, ht, hx, hn⟩ := hI
  have h25 := hT.1
  have hg' := hg
  obtain ⟨nc, nh, nl, lm, wk, hN, ⟨hC, hCn⟩, hB, hL, hSt, hH, hW, hX⟩ := hg'
  obtain ⟨N1, N2, N3, N4, N5, N6, N7, N8, N9, N10, N11, N12, N13, N14, N15, N16, N17⟩ := hN
  show zR ztb _ kX11_lead 1 0 [some (.ref 25), some (.int a), some (.int b), none] [] _ _ _ _
  by_cases hy : ∃ i p, i < nh ∧ p < 6 ∧ a = nI i ∧ b = nI p ∧ inI (nI i) 0 (nI nh - 1) = 1 ∧ σ 0 (1700 + 40 * i + 6) = 1 ∧ inI (nI p) 0 (σ 0 (1700 + 40 * i + 0) - 1) = 1 ∧ nI p < σ 0 (1700 + 40 * i)
  · obtain ⟨i, p, hi, hp, rfl, rfl, e1, e2, e3, e4⟩ := hy
    obtain ⟨H1, H2, H3, H4, H5, H6, H7, H8⟩ := hH i hi
    have ec : inI (nI i) 0 (c0 0 1 - 1) = 1 := by rw [N12, N3]; exact e1
    have er : inI (nI i) 0 (σ 0 4 - 1) = 1 := by rw [N3]; exact e1
    have c6 : c0 (30 + i) 6 = 1 := by rw [H1 6 (by omega)]; exact e2
    have cb : inI (nI p) 0 (c0 (30 + i) 0 - 1) = 1 := by rw [H1 0 (by omega)]; exact e3
    have hv := H8 (by rw [show 1706 + 40 * i = 1700 + 40 * i + 6 by omega]; exact e2) p hp e4
    repeat (first | rw [zcc1] | rw [zcc2] | rw [zcc3] | rw [zcc4] | refine zR.step rfl ?_ | refine zR.cv rfl rfl rfl h25 rfl rfl (zCalP.of (c_boxOwner_y h25 hG0 ec (by omega) c6 cb) ?_) | refine zR.getf rfl (hG0.h0 (i := i) (by omega)) rfl ?_ | refine zR.iald rfl (hG0.h4 (i := i) (by omega)) (Or.inl rfl) (i := p) (by first | with_reducible rfl | (simp only [zn_lit, zn_add, zn_mul]; done) | exact zI_pred (by omega) (by omega) | rfl) (by omega) (by decide) ?_)
    refine zR.ret rfl rfl ⟨_, rfl, ⟨_, hR.1⟩, rfl, ?_⟩
    show zR ztb _ kX12_lead 1 0 [some (.ref 287), some (.int (nI i)), some (.int (nI p))] [] _ _ _ _
    repeat (first | rw [zcc1] | rw [zcc2] | rw [zcc3] | rw [zcc4] | refine zR.step rfl ?_ | refine zR.cv rfl rfl rfl hR.1 rfl rfl (zCalP.of (c_placeIs_y (q := 2) hR er (by omega) e2 e3 hp (by omega)) ?_))
    refine zR.ret rfl rfl ⟨zeqv ((congrArg (σ 0) (by omega)).trans (hv.2.2).symm), by omega, by omega, σ, hI'⟩
  · have hn2 : inI a 0 (nI nh - 1) = 0 ∨ ∃ i, a = nI i ∧ inI (nI i) 0 (nI nh - 1) = 1 ∧ i < nh ∧ (σ 0 (1700 + 40 * i + 6) = 0 ∨ (σ 0 (1700 + 40 * i + 6) = 1 ∧ inI b 0 (σ 0 (1700 + 40 * i + 0) - 1) = 0)) := by
      rcases inI_sub a nh (by omega) with ⟨i, hi, rfl, e⟩ | ⟨-, e⟩
      · refine Or.inr ⟨i, rfl, e, hi, ?_⟩
        obtain ⟨H1, H2, ⟨z, H3, H3a, H3b⟩, H4, H5, H6, H7, H8⟩ := hH i hi
        rw [show 1706 + 40 * i = 1700 + 40 * i + 6 by omega] at H7
        rcases H7 with H7 | H7
        · exact Or.inl H7
        · refine Or.inr ⟨H7, ?_⟩
          rw [show 1700 + 40 * i + 0 = 1700 + 40 * i by omega, H3]
          rcases inI_sub b z (by omega) with ⟨p, hp, rfl, e2⟩ | ⟨-, e2⟩
          · exact absurd ⟨i, p, hi, by omega, rfl, rfl, e, H7, by rw [show 1700 + 40 * i + 0 = 1700 + 40 * i by omega, H3]; exact e2, by rw [H3]; exact zI_ylt hp (by omega)⟩ hy
          · exact e2
      · exact Or.inl e
    have hc : inI a 0 (c0 0 1 - 1) = 0 ∨ ∃ i, a = nI i ∧ inI (nI i) 0 (c0 0 1 - 1) = 1 ∧ i < 10 ∧ (c0 (30 + i) 6 = 0 ∨ (c0 (30 + i) 6 = 1 ∧ inI b 0 (c0 (30 + i) 0 - 1) = 0)) := by
      rw [N12, N3]
      rcases hn2 with h | ⟨i, h1, h2, h3, h4⟩
      · exact Or.inl h
      · have H1 := (hH i h3).1
        refine Or.inr ⟨i, h1, h2, by omega, ?_⟩
        rw [H1 6 (by omega), H1 0 (by omega)]
        exact h4
    have hr : inI a 0 (σ 0 4 - 1) = 0 ∨ ∃ i, a = nI i ∧ inI (nI i) 0 (σ 0 4 - 1) = 1 ∧ i < 10 ∧ (σ 0 (1700 + 40 * i + 6) = 0 ∨ (σ 0 (1700 + 40 * i + 6) = 1 ∧ inI b 0 (σ 0 (1700 + 40 * i + 0) - 1) = 0)) := by
      rw [N3]
      rcases hn2 with h | ⟨i, h1, h2, h3, h4⟩
      · exact Or.inl h
      · exact Or.inr ⟨i, h1, h2, by omega, h4⟩
    repeat (first | rw [zcc1] | rw [zcc2] | rw [zcc3] | rw [zcc4] | refine zR.step rfl ?_ | refine zR.cv rfl rfl rfl h25 rfl rfl (zCalP.of (c_boxOwner_n h25 hG0 hc) ?_))
    refine zR.ret rfl rfl ⟨_, rfl, ⟨_, hR.1⟩, rfl, ?_⟩
    show zR ztb _ kX12_lead 1 0 [some (.ref 287), some (.int a), some (.int b)] [] _ _ _ _
    repeat (first | rw [zcc1] | rw [zcc2] | rw [zcc3] | rw [zcc4] | refine zR.step rfl ?_ | refine zR.cv rfl rfl rfl hR.1 rfl rfl (zCalP.of (c_placeIs_n hR hr) ?_))
    refine zR.ret rfl rfl ⟨rfl, by omega, by omega, σ, hI'⟩
