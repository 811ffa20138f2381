
/-! lines: all tokens in the class. -/
def psF (β : Nat → Int32) (L : Nat) : Nat → Nat
  | 0 => 0
  | j + 1 => (tkF β L (skF β L (psF β L j))).2.2
def stF (β : Nat → Int32) (L j : Nat) : Nat := skF β L (psF β L j)
def kdF (β : Nat → Int32) (L j : Nat) : Int32 := (tkF β L (stF β L j)).1
def vaF (β : Nat → Int32) (L j : Nat) : Int32 := (tkF β L (stF β L j)).2.1
/-- what stands in the rows of tokens -/
def TKQ (M M' : zM) (j : Nat) (f2 f3 f4 : Nat → Int32) (K P V : Int32) : Prop := ∃ g2 g3 g4, TK3 M' (j + 1) g2 g3 g4 ∧ g2 j = K ∧ g3 j = P ∧ g4 j = V ∧ (∀ q, q ≠ j → g2 q = f2 q ∧ g3 q = f3 q ∧ g4 q = f4 q) ∧ ∀ k, k ≠ 28 → k ≠ 29 → k ≠ 30 → k ≠ 31 → M' k = M k
section
variable {M : zM} {β : Nat → Int32} {L : Nat} {d n w p j : Nat} {f2 f3 f4 : Nat → Int32}
theorem SW.mv {M M' : zM} (h : SW M) (hs : ∀ k, k < 25 → M' k = M k) : SW M' := by
  unfold SW at h ⊢
  rw [hs 3 (by omega), hs 4 (by omega), hs 5 (by omega), hs 6 (by omega), hs 7 (by omega), hs 8 (by omega), hs 9 (by omega), hs 10 (by omega), hs 11 (by omega), hs 12 (by omega), hs 13 (by omega), hs 14 (by omega), hs 15 (by omega), hs 16 (by omega), hs 17 (by omega), hs 18 (by omega), hs 19 (by omega), hs 20 (by omega), hs 21 (by omega), hs 22 (by omega)]
  exact h
theorem c_addToken (hT : TP M β L) (hW : SW M) (h3 : TK3 M j f2 f3 f4) (hj : j ≤ 200) (hp : p ≤ L) : zCalP (d + 7) 76 [.ref 28, .ref 26, .int (nI p)] n w M (fun v n' w' M' => v = some (.int (nI (tkF β L p).2.2)) ∧ n = n' ∧ w = w' ∧ TKQ M M' j f2 f3 f4 (tkF β L p).1 (nI p) (tkF β L p).2.1) := by
  have hL : L ≤ 200 := hT.2.2.2.2
  obtain ⟨h28, h29, h30, h31⟩ := h3
  have e : nI j < nI 201 := zI_ylt (by omega) (by omega)
  show zR ztb _ kX10_addToken 1 0 [some (.ref 28), some (.ref 26), some (.int (nI p)), none] [] _ _ _ _
  repeat (first | ((with_reducible refine zR.stored ?_); dsimp only [zsto, zclr, zset, zget, zc2, cond_false, cond_true]) | ((with_reducible refine zR.atLit ?_); first | refine zR.step rfl ?_ | refine zR.getf rfl (h28) rfl ?_ | refine zR.alen rfl h29 ?_) | rw [zcc1] | rw [zcc2] | rw [zcc3] | rw [zcc4] | rw [zb1 (e)] | rw [zb2 (e)] | rw [zb3 (e)] | rw [zb4 (e)])
  refine zR.iast rfl h30 (i := j) rfl (by omega) (by decide) ?_
  have a28 : zup M 30 (.inl (0, 201, .inl (zuf f3 j (nI p)))) 28 = _ := (zup_ne _ _ (by omega)).trans h28
  have a31 : zup M 30 (.inl (0, 201, .inl (zuf f3 j (nI p)))) 31 = _ := (zup_ne _ _ (by omega)).trans h31
  repeat (first | ((with_reducible refine zR.stored ?_); dsimp only [zsto, zclr, zset, zget, zc2, cond_false, cond_true]) | ((with_reducible refine zR.atLit ?_); first | refine zR.step rfl ?_ | refine zR.getf rfl (a28) rfl ?_) | rw [zcc1] | rw [zcc2] | rw [zcc3] | rw [zcc4])
  refine zR.iast rfl a31 (i := j) rfl (by omega) (by decide) ?_
  generalize hM1 : zup (zup M 30 (.inl (0, 201, .inl (zuf f3 j (nI p))))) 31 (.inl (0, 201, .inl (zuf f4 j 0))) = M1
  have fr : ∀ k, k ≠ 30 → k ≠ 31 → M1 k = M k := fun k a b => by rw [← hM1, zup_ne _ _ b, zup_ne _ _ a]
  have T3 : TK3 M1 j f2 (zuf f3 j (nI p)) (zuf f4 j 0) := ⟨by rw [fr _ (by omega) (by omega)]; exact h28, by rw [fr _ (by omega) (by omega)]; exact h29, by rw [← hM1, zup_ne _ _ (by omega), zup_self], by rw [← hM1, zup_self]⟩
  have hT1 : TP M1 β L := hT.mv (fr _ (by omega) (by omega)) (fr _ (by omega) (by omega))
  have hW1 : SW M1 := hW.mv (fun k hk => fr k (by omega) (by omega))
  have cl := fun {d n w : Nat} => c_hasLetter (d := d) (n := n) (w := w) (k := p) hT1 rfl (by omega)
  have cd := fun {d n w : Nat} => c_hasDigit (d := d) (n := n) (w := w) (k := p) hT1 rfl (by omega)
  -- the end: the size goes up
  have fin : ∀ (M2 : zM) (K V : Int32) (E : Nat), TKP M1 M2 j f2 (zuf f3 j (nI p)) (zuf f4 j 0) K V → zR ztb (d + 7) kX10_addToken 1 91 [some (.ref 28), some (.ref 26), some (.int (nI p)), some (.int (nI E))] [] n w M2 (fun v n' w' M' => v = some (.int (nI E)) ∧ n = n' ∧ w = w' ∧ TKQ M M' j f2 f3 f4 K (nI p) V) := by
    intro M2 K V E ⟨g2, g4, ⟨b28, b29, b30, b31⟩, b1, b2, b3, b4⟩
    repeat (first | ((with_reducible refine zR.stored ?_); dsimp only [zsto, zclr, zset, zget, zc2, cond_false, cond_true]) | ((with_reducible refine zR.atLit ?_); first | refine zR.step rfl ?_ | refine zR.getf rfl (b28) rfl ?_) | rw [zcc1] | rw [zcc2] | rw [zcc3] | rw [zcc4])
    refine zR.putf rfl b28 rfl rfl ?_
    repeat (first | ((with_reducible refine zR.stored ?_); dsimp only [zsto, zclr, zset, zget, zc2, cond_false, cond_true]) | ((with_reducible refine zR.atLit ?_); first | refine zR.step rfl ?_) | rw [zcc1] | rw [zcc2] | rw [zcc3] | rw [zcc4])
    refine zR.ret rfl rfl ⟨rfl, rfl, rfl, g2, _, g4, ⟨by rw [zup_self, ← zI_s]; rfl, by rw [zup_ne _ _ (by omega)]; exact b29, by rw [zup_ne _ _ (by omega)]; exact b30, by rw [zup_ne _ _ (by omega)]; exact b31⟩, b1, zuf_self _ _ _, b2, fun q hq => ⟨(b3 q hq).1, zuf_ne _ _ hq, (b3 q hq).2.trans (zuf_ne _ _ hq)⟩, fun k a b c d => by rw [zup_ne _ _ a, b4 k a b c d, fr k c d]⟩
  unfold tkF
  by_cases q1 : isLt (β p) = true
  · rw [if_pos q1]
    rw [isLt_y q1] at cl
    repeat (first | ((with_reducible refine zR.stored ?_); dsimp only [zsto, zclr, zset, zget, zc2, cond_false, cond_true]) | ((with_reducible refine zR.atLit ?_); first | refine zR.step rfl ?_ | refine zR.cv rfl rfl rfl hT1.1 rfl rfl (zCalP.of cl ?_)) | rw [zcc1] | rw [zcc2] | rw [zcc3] | rw [zcc4])
    refine zR.cv rfl rfl rfl T3.1 rfl rfl (zR.mono (c_readLetters hT1 hW1 T3 hj hp (zuf_self _ _ _)) (fun v n1 w1 M2 hv => ?_))
    obtain ⟨rfl, rfl, rfl, hK⟩ := hv
    repeat (first | with_reducible refine zR.hold (pc := 91) ?_ | ((with_reducible refine zR.stored ?_); dsimp only [zsto, zclr, zset, zget, zc2, cond_false, cond_true]) | ((with_reducible refine zR.atLit ?_); first | refine zR.step rfl ?_) | rw [zcc1] | rw [zcc2] | rw [zcc3] | rw [zcc4])
    by_cases q2 : crP β L p
    · rw [if_pos q2, if_pos q2] at hK
      rw [if_pos q2, if_pos q2]
      exact ⟨trivial, fin M2 _ _ _ hK⟩
    · rw [if_neg q2, if_neg q2] at hK
      rw [if_neg q2, if_neg q2]
      exact ⟨trivial, fin M2 _ _ _ hK⟩
  · rw [if_neg q1]
    rw [isLt_n q1] at cl
    by_cases q2 : isDg (β p) = true
    · rw [if_pos q2]
      rw [isDg_y q2] at cd
      repeat (first | ((with_reducible refine zR.stored ?_); dsimp only [zsto, zclr, zset, zget, zc2, cond_false, cond_true]) | ((with_reducible refine zR.atLit ?_); first | refine zR.step rfl ?_ | refine zR.cv rfl rfl rfl hT1.1 rfl rfl (zCalP.of cl ?_) | refine zR.cv rfl rfl rfl hT1.1 rfl rfl (zCalP.of cd ?_)) | rw [zcc1] | rw [zcc2] | rw [zcc3] | rw [zcc4])
      refine zR.cv rfl rfl rfl T3.1 rfl rfl (zR.mono (c_readDigits hT1 T3 hj hp) (fun v n1 w1 M2 hv => ?_))
      obtain ⟨rfl, rfl, rfl, hK⟩ := hv
      repeat (first | with_reducible refine zR.hold (pc := 91) ?_ | ((with_reducible refine zR.stored ?_); dsimp only [zsto, zclr, zset, zget, zc2, cond_false, cond_true]) | ((with_reducible refine zR.atLit ?_); first | refine zR.step rfl ?_) | rw [zcc1] | rw [zcc2] | rw [zcc3] | rw [zcc4])
      exact ⟨trivial, fin M2 _ _ _ hK⟩
    · rw [if_neg q2]
      rw [isDg_n q2] at cd
      obtain ⟨c28, c29, c30, c31⟩ := T3
      repeat (first | ((with_reducible refine zR.stored ?_); dsimp only [zsto, zclr, zset, zget, zc2, cond_false, cond_true]) | ((with_reducible refine zR.atLit ?_); first | refine zR.step rfl ?_ | refine zR.cv rfl rfl rfl hT1.1 rfl rfl (zCalP.of cl ?_) | refine zR.cv rfl rfl rfl hT1.1 rfl rfl (zCalP.of cd ?_) | refine zR.getf rfl (c28) rfl ?_ | refine zR.cv rfl rfl rfl hT1.1 rfl rfl (zCalP.of (c_at (k := p) hT1 rfl (by omega)) ?_) | refine zR.cs rfl rfl rfl rfl rfl (zCalP.of (c_signOf _) ?_)) | rw [zcc1] | rw [zcc2] | rw [zcc3] | rw [zcc4])
      refine zR.iast rfl c29 (i := j) rfl (by omega) (by decide) ?_
      have := fin (zup M1 29 (.inl (0, 201, .inl (zuf f2 j (sgK (β p)))))) (sgK (β p)) 0 (p + 1) ⟨_, zuf f4 j 0, ⟨by rw [zup_ne _ _ (by omega)]; exact c28, zup_self _ _ _, by rw [zup_ne _ _ (by omega)]; exact c30, by rw [zup_ne _ _ (by omega)]; exact c31⟩, zuf_self _ _ _, zuf_self _ _ _, fun q hq => ⟨zuf_ne _ _ hq, rfl⟩, fun k a b c d => zup_ne _ _ b⟩
      rw [← zI_s] at this
      rw [← zI_s]
      exact this
/-- a token that is neither end nor wrong takes a byte or more and stays within the tape -/
theorem tk_adv (hB : BT β L) (hp : p ≤ L) (h0 : ¬ (tkF β L p).1 = 0) (h1 : ¬ (tkF β L p).1 = 1) : p + 1 ≤ (tkF β L p).2.2 ∧ (tkF β L p).2.2 ≤ L ∧ p < L := by
  have hpl : p < L := by
    by_cases z : p < L
    · exact z
    · exfalso
      apply h0
      have e : β p = -1 := hB.2.1 p (by omega)
      unfold tkF
      rw [if_neg (show ¬ isLt (β p) = true by rw [e]; decide), if_neg (show ¬ isDg (β p) = true by rw [e]; decide)]
      show sgK (β p) = 0
      rw [e]
      rfl
  have run1 : ∀ P : Int32 → Bool, P (β p) = true → p + 1 ≤ runF P β (L - p) p := fun P h => by
    rw [show L - p = (L - p - 1) + 1 by omega, runF, if_pos h]
    exact (run_le _ _).1
  unfold tkF at *
  by_cases q1 : isLt (β p) = true
  · rw [if_pos q1] at *
    have a1 : p + 1 ≤ leF β L p := run1 isLt q1
    have a2 : leF β L p ≤ p + (L - p) := (run_le _ _).2
    by_cases q2 : crP β L p
    · rw [if_pos q2]
      have : leF β L p < L := by
        by_cases z : leF β L p < L
        · exact z
        · exfalso
          have := q2.2.2
          rw [hB.2.1 _ (by omega)] at this
          exact absurd this (by decide)
      exact ⟨by show p + 1 ≤ leF β L p + 1; omega, by show leF β L p + 1 ≤ L; omega, hpl⟩
    · rw [if_neg q2]
      exact ⟨a1, by show leF β L p ≤ L; omega, hpl⟩
  · rw [if_neg q1] at *
    by_cases q2 : isDg (β p) = true
    · rw [if_pos q2]
      have a1 : p + 1 ≤ dgF β L p := run1 isDg q2
      have a2 : dgF β L p ≤ p + (L - p) := (run_le _ _).2
      exact ⟨a1, by show dgF β L p ≤ L; omega, hpl⟩
    · rw [if_neg q2]
      exact ⟨Nat.le_refl _, hpl, hpl⟩
theorem sk_le (hp : p ≤ L) : p ≤ skF β L p ∧ skF β L p ≤ L := by
  have := run_le (P := isBl) (β := β) (L - p) p
  unfold skF
  omega
/-- live tokens before j: how far the tape is read -/
theorem ps_le (hB : BT β L) : ∀ j, (∀ q, q < j → ¬ kdF β L q = 0 ∧ ¬ kdF β L q = 1) → j ≤ psF β L j ∧ psF β L j ≤ L
  | 0, _ => ⟨Nat.le_refl _, Nat.zero_le _⟩
  | j + 1, h => by
    obtain ⟨a1, a2⟩ := ps_le hB j (fun q hq => h q (by omega))
    obtain ⟨b1, b2⟩ := sk_le (β := β) a2
    obtain ⟨c1, c2, c3⟩ := tk_adv hB b2 (h j (by omega)).1 (h j (by omega)).2
    rw [psF]
    omega
def TKS (M : zM) (β : Nat → Int32) (L m : Nat) : Prop := ∃ f2 f3 f4, TK3 M (m + 1) f2 f3 f4 ∧ (∀ q, q ≤ m → f2 q = kdF β L q ∧ f3 q = nI (stF β L q) ∧ f4 q = vaF β L q) ∧ (kdF β L m = 0 ∨ kdF β L m = 1) ∧ (∀ q, q < m → ¬ kdF β L q = 0 ∧ ¬ kdF β L q = 1) ∧ m ≤ 200
theorem c_cutUp {x : Int32} (hT : TP M β L) (hW : SW M) (h28 : M 28 = .inr (10, [.int x, .ref 29, .ref 30, .ref 31])) (h29 : M 29 = .inl (0, 201, .inl f2)) (h30 : M 30 = .inl (0, 201, .inl f3)) (h31 : M 31 = .inl (0, 201, .inl f4)) : zCalP (d + 8) 72 [.ref 28, .ref 26] n w M (fun v n' w' M' => v = none ∧ n = n' ∧ w = w' ∧ (∃ m, TKS M' β L m) ∧ ∀ k, k ≠ 28 → k ≠ 29 → k ≠ 30 → k ≠ 31 → M' k = M k) := by
  have hB : BT β L := hT.2.2
  have hL : L ≤ 200 := hB.2.2
  have lp : ∀ (t i : Nat) (M1 : zM) (g2 g3 g4 : Nat → Int32), i + t = 201 → TK3 M1 i g2 g3 g4 → (∀ q, q < i → g2 q = kdF β L q ∧ g3 q = nI (stF β L q) ∧ g4 q = vaF β L q) → (∀ q, q < i → ¬ kdF β L q = 0 ∧ ¬ kdF β L q = 1) → (∀ k, k ≠ 28 → k ≠ 29 → k ≠ 30 → k ≠ 31 → M1 k = M k) → zR ztb (d + 8) kX10_cutUp 0 9 [some (.ref 28), some (.ref 26), some (.int (nI (psF β L i))), some (.int (nI i))] [] n w M1 (fun v n' w' M' => v = none ∧ n = n' ∧ w = w' ∧ (∃ m, TKS M' β L m) ∧ ∀ k, k ≠ 28 → k ≠ 29 → k ≠ 30 → k ≠ 31 → M' k = M k) := by
    intro t
    induction t with
    | zero =>
      intro i M1 g2 g3 g4 hi h3 ha hl hF
      have := ps_le hB i hl
      omega
    | succ t ih =>
      intro i M1 g2 g3 g4 hi h3 ha hl hF
      obtain ⟨p1, p2⟩ := ps_le hB i hl
      have e : ¬ (200 : Int32) < nI i := zI_nlt (a := 200) (b := i) (by omega) (by omega)
      have hT1 : TP M1 β L := hT.mv (hF _ (by omega) (by omega) (by omega) (by omega)) (hF _ (by omega) (by omega) (by omega) (by omega))
      have hW1 : SW M1 := hW.mv (fun k hk => hF k (by omega) (by omega) (by omega) (by omega))
      have hs := sk_le (β := β) p2
      repeat (first | ((with_reducible refine zR.stored ?_); dsimp only [zsto, zclr, zset, zget, zc2, cond_false, cond_true]) | ((with_reducible refine zR.atLit ?_); first | refine zR.step rfl ?_ | refine zR.cs rfl rfl rfl rfl rfl (zCalP.of (c_skip hT1 p2) ?_)) | rw [zcc1] | rw [zcc2] | rw [zcc3] | rw [zcc4] | rw [zn1 (e)] | rw [zn2 (e)] | rw [zn3 (e)] | rw [zn4 (e)])
      refine zR.cv rfl rfl rfl h3.1 rfl rfl (zR.mono (c_addToken hT1 hW1 h3 (by omega) hs.2) (fun v n1 w1 M2 hv => ?_))
      obtain ⟨rfl, rfl, rfl, k2, k3, k4, hK3, b1, b2, b3, b4, b5⟩ := hv
      have ek : k2 i = kdF β L i := b1
      have ha2 : ∀ q, q ≤ i → k2 q = kdF β L q ∧ k3 q = nI (stF β L q) ∧ k4 q = vaF β L q := fun q hq => by
        by_cases eq : q = i
        · subst eq
          exact ⟨b1, b2, b3⟩
        · rw [(b4 q eq).1, (b4 q eq).2.1, (b4 q eq).2.2]
          exact ha q (by omega)
      have hF2 : ∀ k, k ≠ 28 → k ≠ 29 → k ≠ 30 → k ≠ 31 → M2 k = M k := fun k a b c d => (b5 k a b c d).trans (hF k a b c d)
      by_cases q0 : kdF β L i = 0
      · repeat (first | ((with_reducible refine zR.stored ?_); dsimp only [zsto, zclr, zset, zget, zc2, cond_false, cond_true]) | ((with_reducible refine zR.atLit ?_); first | refine zR.step rfl ?_ | refine zR.getf rfl (hK3.1) rfl ?_ | (refine zR.iald rfl hK3.2.1 (Or.inl rfl) (i := i) rfl (by omega) (by omega) ?_; rw [ek])) | rw [zcc1] | rw [zcc2] | rw [zcc3] | rw [zcc4] | rw [ze1 (q0)] | rw [ze2 (q0)])
        exact zR.ret rfl rfl ⟨rfl, rfl, rfl, ⟨i, k2, k3, k4, hK3, ha2, Or.inl q0, hl, by omega⟩, hF2⟩
      · by_cases q1 : kdF β L i = 1
        · repeat (first | ((with_reducible refine zR.stored ?_); dsimp only [zsto, zclr, zset, zget, zc2, cond_false, cond_true]) | ((with_reducible refine zR.atLit ?_); first | refine zR.step rfl ?_ | refine zR.getf rfl (hK3.1) rfl ?_ | (refine zR.iald rfl hK3.2.1 (Or.inl rfl) (i := i) rfl (by omega) (by omega) ?_; rw [ek])) | rw [zcc1] | rw [zcc2] | rw [zcc3] | rw [zcc4] | rw [zd1 (q0)] | rw [zd2 (q0)] | rw [ze1 (q1)] | rw [ze2 (q1)])
          exact zR.ret rfl rfl ⟨rfl, rfl, rfl, ⟨i, k2, k3, k4, hK3, ha2, Or.inr q1, hl, by omega⟩, hF2⟩
        · have ih' := ih (i + 1) M2 k2 k3 k4 (by omega) hK3 (fun q hq => ha2 q (by omega)) (fun q hq => by
            by_cases eq : q = i
            · subst eq
              exact ⟨q0, q1⟩
            · exact hl q (by omega)) hF2
          rw [← zI_s] at ih'
          repeat (first | with_reducible refine zR.hold (pc := 9) ?_ | ((with_reducible refine zR.stored ?_); dsimp only [zsto, zclr, zset, zget, zc2, cond_false, cond_true]) | ((with_reducible refine zR.atLit ?_); first | refine zR.step rfl ?_ | refine zR.getf rfl (hK3.1) rfl ?_ | (refine zR.iald rfl hK3.2.1 (Or.inl rfl) (i := i) rfl (by omega) (by omega) ?_; rw [ek])) | rw [zcc1] | rw [zcc2] | rw [zcc3] | rw [zcc4] | rw [zd1 (q0)] | rw [zd2 (q0)] | rw [zd1 (q1)] | rw [zd2 (q1)])
          exact ⟨trivial, ih'⟩
  show zR ztb _ kX10_cutUp 0 0 [some (.ref 28), some (.ref 26), none, none] [] _ _ _ _
  repeat (first | ((with_reducible refine zR.stored ?_); dsimp only [zsto, zclr, zset, zget, zc2, cond_false, cond_true]) | ((with_reducible refine zR.atLit ?_); first | refine zR.step rfl ?_) | rw [zcc1] | rw [zcc2] | rw [zcc3] | rw [zcc4])
  refine zR.putf rfl h28 rfl rfl ?_
  repeat (first | with_reducible refine zR.hold (pc := 9) ?_ | ((with_reducible refine zR.stored ?_); dsimp only [zsto, zclr, zset, zget, zc2, cond_false, cond_true]) | ((with_reducible refine zR.atLit ?_); first | refine zR.step rfl ?_) | rw [zcc1] | rw [zcc2] | rw [zcc3] | rw [zcc4])
  exact ⟨trivial, lp 201 0 _ f2 f3 f4 (by omega) ⟨by rw [zup_self]; rfl, by rw [zup_ne _ _ (by omega)]; exact h29, by rw [zup_ne _ _ (by omega)]; exact h30, by rw [zup_ne _ _ (by omega)]; exact h31⟩ (fun q hq => by omega) (fun q hq => by omega) (fun k a b c d => zup_ne _ _ a)⟩
end
