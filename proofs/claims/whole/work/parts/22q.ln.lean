
/-! lines: the class's lines, joined. -/
section
variable {M : zM} {t σ : mS} {tr : Option Nat} {c0 : mS} {k0 b0 : Nat → Option Nat} {l0 : Nat} {β : Nat → Int32} {L c : Nat} {d n w : Nat}
theorem c_linesC (hT : Tc M t tr) (hG : Gc M 48 c0 k0 b0 l0) (hW : SW M) (hP : TP M β L) (hB : RT σ β L) (hc : σ 0 2 = nI c) (h8 : c ≤ 8) (hc0 : c0 0 0 = nI c) (hn : 300 ≤ n) : zCalP (d + 26) 92 [.ref 25] n w M (fun v n' w' M' => ∃ m, EV σ β L m c ∧ (((xL β L).1.1 = true ∧ kdF β L (xL β L).1.2.1 = 0 ∧ (fkP (kdF β L) (vaF β L) (stF β L) (nI c) (m + 1)) = (0, -1) ∧ (xL β L).2.length ≤ 20 ∧ (xL β L).1.2.2.length ≤ 100 ∧ LCY M t c0 k0 b0 n w (xL β L) v n' w' M') ∨ ((xL β L).1.1 = true ∧ kdF β L (xL β L).1.2.1 = 0 ∧ (fkP (kdF β L) (vaF β L) (stF β L) (nI c) (m + 1)).1 = 2 ∧ LCN M t c0 k0 b0 n w l0 2 (fkP (kdF β L) (vaF β L) (stF β L) (nI c) (m + 1)).2 v n' w' M') ∨ (¬ ((xL β L).1.1 = true ∧ kdF β L (xL β L).1.2.1 = 0) ∧ LCN M t c0 k0 b0 n w l0 1 (nI (stF β L (xL β L).1.2.1)) v n' w' M'))) := by
  have h25 := hT.1
  have h28 := hT.2.2.2.1
  have hr := hT.2.2.2.2.1
  show zR ztb _ kX11_lines 1 0 [some (.ref 25)] [] _ _ _ _
  repeat (first | ((with_reducible refine zR.stored ?_); dsimp only [zsto, zclr, zset, zget, zc2, cond_false, cond_true]) | ((with_reducible refine zR.atLit ?_); first | refine zR.step rfl ?_ | refine zR.getf rfl (h25) rfl ?_) | rw [zcc1] | rw [zcc2] | rw [zcc3] | rw [zcc4])
  refine zR.cv rfl rfl rfl h28 rfl rfl (zR.mono (c_cutUp hP hW h28 (hr 0 (by decide)) (hr 1 (by decide)) (hr 2 (by decide))) (fun v n1 w1 M1 hv => ?_))
  obtain ⟨rfl, rfl, rfl, ⟨m, hK⟩, hF1⟩ := hv
  have hE := EV.of hB hK hc h8
  have g25 : M1 25 = .inr (11, tob t) := (hF1 25 (by omega) (by omega) (by omega) (by omega)).trans h25
  have g26 : M1 26 = .inr (9, [.ref 27, .int (t 0 3)]) := (hF1 26 (by omega) (by omega) (by omega) (by omega)).trans hT.2.1
  repeat (first | ((with_reducible refine zR.stored ?_); dsimp only [zsto, zclr, zset, zget, zc2, cond_false, cond_true]) | ((with_reducible refine zR.atLit ?_); first | refine zR.step rfl ?_ | refine zR.getf rfl (g25) rfl ?_) | rw [zcc1] | rw [zcc2] | rw [zcc3] | rw [zcc4])
  refine zR.putf rfl g26 rfl rfl ?_
  obtain ⟨M2, hM2⟩ : ∃ M2, M2 = zup M1 26 (.inr (9, [.ref 27, .int 0])) := ⟨_, rfl⟩
  change zR ztb _ _ _ _ _ _ _ _ (zup M1 26 (.inr (9, [.ref 27, .int 0]))) _
  rw [← hM2]
  have m26 : M2 26 = .inr (9, [.ref 27, .int 0]) := by rw [hM2]; exact zup_self _ _ _
  have hF2 : ∀ k, k ≠ 26 → M2 k = M1 k := fun k hk => by rw [hM2]; exact zup_ne _ _ hk
  clear hM2
  have fr2 : ∀ k, k ≠ 26 → (k < 28 ∨ 32 ≤ k) → M2 k = M k := fun k a b => by rw [hF2 k a, hF1 k (by omega) (by omega) (by omega) (by omega)]
  have q25 : M2 25 = .inr (11, tob t) := (fr2 25 (by omega) (by omega)).trans h25
  have q48 : M2 48 = .inr (2, gob 48 l0 (nI c) (c0 0 1) (c0 0 2) (c0 0 3)) := by rw [fr2 48 (by omega) (by omega), ← hc0]; exact hG.o
  have q32 : M2 32 = .inr (4, [zrf tr, .int (t 0 5), .int (t 0 6), .int (t 0 7), .int (t 0 8), .int (t 0 9), .int (t 0 10), .int (t 0 11), .ref 33, .ref 34, .ref 35, .ref 36, .ref 37, .ref 38, .ref 39]) := (fr2 32 (by omega) (by omega)).trans hT.2.2.2.2.2.1.1
  have hrr := hT.2.2.2.2.2.1.2
  have q33 : M2 33 = .inl (0, 20, .inl (t 5)) := (fr2 33 (by omega) (by omega)).trans (hrr 0 (by decide))
  have q34 : M2 34 = .inl (0, 20, .inl (t 6)) := (fr2 34 (by omega) (by omega)).trans (hrr 1 (by decide))
  have q35 : M2 35 = .inl (0, 20, .inl (t 7)) := (fr2 35 (by omega) (by omega)).trans (hrr 2 (by decide))
  have q36 : M2 36 = .inl (0, 200, .inl (t 8)) := (fr2 36 (by omega) (by omega)).trans (hrr 3 (by decide))
  have q37 : M2 37 = .inl (0, 200, .inl (t 9)) := (fr2 37 (by omega) (by omega)).trans (hrr 4 (by decide))
  have q38 : M2 38 = .inl (0, 200, .inl (t 10)) := (fr2 38 (by omega) (by omega)).trans (hrr 5 (by decide))
  have q39 : M2 39 = .inl (0, 200, .inl (t 11)) := (fr2 39 (by omega) (by omega)).trans (hrr 6 (by decide))
  obtain ⟨f2, f3, f4, hK3, kq, -⟩ := hK
  have hKA : TKA M2 (kdF β L) (vaF β L) (stF β L) m := ⟨f2, f3, f4, ⟨(hF2 28 (by omega)).trans hK3.1, (hF2 29 (by omega)).trans hK3.2.1, (hF2 30 (by omega)).trans hK3.2.2.1, (hF2 31 (by omega)).trans hK3.2.2.2⟩, kq⟩
  have hLL : LL M2 [] := ⟨t 5, t 6, t 7, q33, q34, q35, fun k hk => absurd hk (Nat.not_lt_zero _)⟩
  repeat (first | ((with_reducible refine zR.stored ?_); dsimp only [zsto, zclr, zset, zget, zc2, cond_false, cond_true]) | ((with_reducible refine zR.atLit ?_); first | refine zR.step rfl ?_ | refine zR.getf rfl (q25) rfl ?_ | refine zR.getf rfl (q48) rfl ?_) | rw [zcc1] | rw [zcc2] | rw [zcc3] | rw [zcc4])
  refine zR.cv rfl rfl rfl q32 rfl rfl (zR.mono (c_readAll hE.1 q32 q36 q37 q38 q39 hLL hKA) (fun v n2 w2 M3 hv => ?_))
  obtain ⟨rfl, rfl, rfl, hRA⟩ := hv
  have g := gd_all (V := vaF β L) hE.1 20 ((true, 0, []), []) ⟨Nat.le_refl _, Nat.zero_le _, Nat.le_refl _, Nat.le_refl _⟩
  have hl := len_all (K := kdF β L) (V := vaF β L) 20 ((true, 0, []), [])
  change GD (stF β L) m 0 [] (xL β L).1 at g
  change (xL β L).2.length ≤ 0 + 20 at hl
  change RA _ _ _ m (nI c) M2 M3 (xL β L) at hRA
  generalize xL β L = x at *
  obtain ⟨g1, g2, g3, g4⟩ := g
  have h200 := hE.1.2.2.2.2.2 _ g2
  have hC : x.1.2.2.length ≤ 100 := by
    have : 2 * x.1.2.2.length + stF β L 0 ≤ 2 * 0 + stF β L x.1.2.1 := g4
    omega
  obtain ⟨hF3, hRA⟩ := hRA
  have fr3 : ∀ k, (k < 25 ∨ 40 ≤ k) → M3 k = M k := fun k hk => by rw [hF3 k (by omega), fr2 k (by omega) (by omega)]
  rcases hRA with ⟨ok, kz, hP3, hL3⟩ | ⟨hno, lc, hP3, hL3⟩
  · obtain ⟨t', hT', hTF, e10, e11, el, es⟩ := ln_tc hT hF1 m26 hF2 hK3 hF3 hP3 hL3
    rcases fk_or (V := vaF β L) (cc := nI c) hE.1 (m + 1) (Nat.le_refl _) with z | ⟨z, -⟩
    · rw [z] at hTF
      exact zR.mono (lc_yes hn hG hT' hTF fr3 e10 e11 (by omega) hC el es) (fun v n3 w3 M4 hv => ⟨m, hE, Or.inl ⟨ok, kz, z, by omega, hC, hv⟩⟩)
    · rw [z] at hTF
      exact zR.mono (lc_no hn hG hT' hTF fr3 (by decide)) (fun v n3 w3 M4 hv => ⟨m, hE, Or.inr (Or.inl ⟨ok, kz, z, hv⟩)⟩)
  · obtain ⟨t', hT', hTF, -, -, -, -⟩ := ln_tc hT hF1 m26 hF2 hK3 hF3 hP3 hL3
    exact zR.mono (lc_no hn hG hT' hTF fr3 (by decide)) (fun v n3 w3 M4 hv => ⟨m, hE, Or.inr (Or.inr ⟨hno, hv⟩)⟩)
end
