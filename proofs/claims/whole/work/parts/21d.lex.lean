
/-! lines: the class cuts the tape up. -/
def skF (β : Nat → Int32) (L p : Nat) : Nat := runF isBl β (L - p) p
def sgK (x : Int32) : Int32 := if x = -1 then 0 else if x = 40 then 6 else if x = 41 then 7 else if x = 59 then 8 else if x = 60 then 4 else if x = 61 then 5 else 1
def vlF (β : Nat → Int32) (p : Nat) : Nat → Int32
  | 0 => 0
  | m + 1 => vlF β p m * 10 + β (p + m) - 48
def leF (β : Nat → Int32) (L p : Nat) : Nat := runF isLt β (L - p) p
def dgF (β : Nat → Int32) (L p : Nat) : Nat := runF isDg β (L - p) p
abbrev crP (β : Nat → Int32) (L p : Nat) : Prop := leF β L p = p + 1 ∧ β p = 99 ∧ isDg (β (leF β L p)) = true
/-- the token that begins at p: kind, value, end -/
def tkF (β : Nat → Int32) (L p : Nat) : Int32 × Int32 × Nat :=
  if isLt (β p) = true then (if crP β L p then (3, β (leF β L p) - 48, leF β L p + 1) else (keyK β p (leF β L p), 0, leF β L p))
  else if isDg (β p) = true then (if 3 < dgF β L p - p then 1 else 2, vlF β p (dgF β L p - p), dgF β L p)
  else (sgK (β p), 0, p + 1)
def TK3 (M : zM) (j : Nat) (f2 f3 f4 : Nat → Int32) : Prop := M 28 = .inr (10, [.int (nI j), .ref 29, .ref 30, .ref 31]) ∧ M 29 = .inl (0, 201, .inl f2) ∧ M 30 = .inl (0, 201, .inl f3) ∧ M 31 = .inl (0, 201, .inl f4)
theorem isDg_y {x : Int32} (h : isDg x = true) : inI x 48 57 = 1 := of_decide_eq_true h
theorem isDg_n {x : Int32} (h : ¬ isDg x = true) : inI x 48 57 = 0 := inI_ne (fun z => h (decide_eq_true z))
theorem isLt_y {x : Int32} (h : isLt x = true) : inI x 97 122 = 1 := of_decide_eq_true h
theorem isLt_n {x : Int32} (h : ¬ isLt x = true) : inI x 97 122 = 0 := inI_ne (fun z => h (decide_eq_true z))
theorem TP.mv {M M' : zM} {β : Nat → Int32} {L : Nat} (h : TP M β L) (h1 : M' 26 = M 26) (h2 : M' 27 = M 27) : TP M' β L := by
  obtain ⟨a, b, c⟩ := h
  exact ⟨h1.trans a, by rw [h2]; exact b, c⟩
section
variable {M : zM} {β : Nat → Int32} {L : Nat} {d n w p j : Nat} {f2 f3 f4 : Nat → Int32}
theorem c_skip (hT : TP M β L) (hp : p ≤ L) : zCall (d + 1) 75 [.ref 26, .int (nI p)] n w M (some (.int (nI (skF β L p)))) n w M := by
  intro Q hQ
  have hL : L ≤ 200 := hT.2.2.2.2
  have lp : ∀ (x1 : Int32) t p, p + t = L → Q (some (.int (nI (runF isBl β t p)))) n w M → zR ztb (d + 1) kX10_skipBlanks 1 2 [some (.ref 26), some (.int x1), some (.int (nI p))] [] n w M Q := by
    intro x1 t
    induction t with
    | zero =>
      intro p hp hq
      have e : ¬ nI p < nI L := zI_nlt (by omega) (by omega)
      repeat (first | ((with_reducible refine zR.stored ?_); dsimp only [zsto, zclr, zset, zget, zc2, cond_false, cond_true]) | ((with_reducible refine zR.atLit ?_); first | refine zR.step rfl ?_ | refine zR.getf rfl (hT.1) rfl ?_) | rw [zcc1] | rw [zcc2] | rw [zcc3] | rw [zcc4] | rw [zn1 (e)] | rw [zn2 (e)] | rw [zn3 (e)] | rw [zn4 (e)])
      exact zR.ret rfl rfl hq
    | succ t ih =>
      intro p hp hq
      have e : nI p < nI L := zI_ylt (by omega) (by omega)
      rw [runF] at hq
      refine zR.step rfl ?_
      by_cases q : β p = 32
      · rw [if_pos (show isBl (β p) = true from decide_eq_true q)] at hq
        have ih' := ih (p + 1) (by omega) hq
        rw [← zI_s] at ih'
        repeat (first | with_reducible refine zR.hold (pc := 2) ?_ | ((with_reducible refine zR.stored ?_); dsimp only [zsto, zclr, zset, zget, zc2, cond_false, cond_true]) | ((with_reducible refine zR.atLit ?_); first | refine zR.step rfl ?_ | refine zR.getf rfl (hT.1) rfl ?_ | refine zR.cv rfl rfl rfl hT.1 rfl rfl (zCalP.of (c_at hT rfl (by omega)) ?_)) | rw [zcc1] | rw [zcc2] | rw [zcc3] | rw [zcc4] | rw [zb1 (e)] | rw [zb2 (e)] | rw [zb3 (e)] | rw [zb4 (e)] | rw [ze1 (q)] | rw [ze2 (q)])
        exact ⟨trivial, ih'⟩
      · rw [if_neg (show ¬ isBl (β p) = true from fun z => q (of_decide_eq_true z))] at hq
        repeat (first | ((with_reducible refine zR.stored ?_); dsimp only [zsto, zclr, zset, zget, zc2, cond_false, cond_true]) | ((with_reducible refine zR.atLit ?_); first | refine zR.step rfl ?_ | refine zR.getf rfl (hT.1) rfl ?_ | refine zR.cv rfl rfl rfl hT.1 rfl rfl (zCalP.of (c_at hT rfl (by omega)) ?_)) | rw [zcc1] | rw [zcc2] | rw [zcc3] | rw [zcc4] | rw [zb1 (e)] | rw [zb2 (e)] | rw [zb3 (e)] | rw [zb4 (e)] | rw [zd1 (q)] | rw [zd2 (q)])
        exact zR.ret rfl rfl hq
  show zR ztb _ kX10_skipBlanks 1 0 [some (.ref 26), some (.int (nI p)), none] [] _ _ _ _
  repeat (first | with_reducible refine zR.hold (pc := 2) ?_ | ((with_reducible refine zR.stored ?_); dsimp only [zsto, zclr, zset, zget, zc2, cond_false, cond_true]) | ((with_reducible refine zR.atLit ?_); first | refine zR.step rfl ?_) | rw [zcc1] | rw [zcc2] | rw [zcc3] | rw [zcc4])
  exact ⟨trivial, lp _ (L - p) p (by omega) hQ⟩
theorem c_signOf (x : Int32) : zCall d 82 [.int x] n w M (some (.int (sgK x))) n w M := by
  intro Q hQ
  unfold sgK at hQ
  show zR ztb _ kX10_signOf 1 0 [some (.int x)] [] _ _ _ _
  by_cases q0 : x = -1
  · rw [if_pos q0] at hQ
    subst q0
    repeat (first | ((with_reducible refine zR.stored ?_); dsimp only [zsto, zclr, zset, zget, zc2, cond_false, cond_true]) | ((with_reducible refine zR.atLit ?_); first | refine zR.step rfl ?_) | rw [zcc1] | rw [zcc2] | rw [zcc3] | rw [zcc4] | rw [zb1 (by decide)] | rw [zb2 (by decide)] | rw [zb3 (by decide)] | rw [zb4 (by decide)] | rw [zn1 (by decide)] | rw [zn2 (by decide)] | rw [zn3 (by decide)] | rw [zn4 (by decide)] | rw [ze1 (by decide)] | rw [ze2 (by decide)] | rw [zd1 (by decide)] | rw [zd2 (by decide)] | rw [zswy (by decide)] | rw [zswn (by decide)] | rw [zsw0])
    exact zR.ret rfl rfl hQ
  by_cases q1 : x = 40
  · rw [if_neg q0, if_pos q1] at hQ
    subst q1
    repeat (first | ((with_reducible refine zR.stored ?_); dsimp only [zsto, zclr, zset, zget, zc2, cond_false, cond_true]) | ((with_reducible refine zR.atLit ?_); first | refine zR.step rfl ?_) | rw [zcc1] | rw [zcc2] | rw [zcc3] | rw [zcc4] | rw [zb1 (by decide)] | rw [zb2 (by decide)] | rw [zb3 (by decide)] | rw [zb4 (by decide)] | rw [zn1 (by decide)] | rw [zn2 (by decide)] | rw [zn3 (by decide)] | rw [zn4 (by decide)] | rw [ze1 (by decide)] | rw [ze2 (by decide)] | rw [zd1 (by decide)] | rw [zd2 (by decide)] | rw [zswy (by decide)] | rw [zswn (by decide)] | rw [zsw0])
    exact zR.ret rfl rfl hQ
  by_cases q2 : x = 41
  · rw [if_neg q0, if_neg q1, if_pos q2] at hQ
    subst q2
    repeat (first | ((with_reducible refine zR.stored ?_); dsimp only [zsto, zclr, zset, zget, zc2, cond_false, cond_true]) | ((with_reducible refine zR.atLit ?_); first | refine zR.step rfl ?_) | rw [zcc1] | rw [zcc2] | rw [zcc3] | rw [zcc4] | rw [zb1 (by decide)] | rw [zb2 (by decide)] | rw [zb3 (by decide)] | rw [zb4 (by decide)] | rw [zn1 (by decide)] | rw [zn2 (by decide)] | rw [zn3 (by decide)] | rw [zn4 (by decide)] | rw [ze1 (by decide)] | rw [ze2 (by decide)] | rw [zd1 (by decide)] | rw [zd2 (by decide)] | rw [zswy (by decide)] | rw [zswn (by decide)] | rw [zsw0])
    exact zR.ret rfl rfl hQ
  by_cases q3 : x = 59
  · rw [if_neg q0, if_neg q1, if_neg q2, if_pos q3] at hQ
    subst q3
    repeat (first | ((with_reducible refine zR.stored ?_); dsimp only [zsto, zclr, zset, zget, zc2, cond_false, cond_true]) | ((with_reducible refine zR.atLit ?_); first | refine zR.step rfl ?_) | rw [zcc1] | rw [zcc2] | rw [zcc3] | rw [zcc4] | rw [zb1 (by decide)] | rw [zb2 (by decide)] | rw [zb3 (by decide)] | rw [zb4 (by decide)] | rw [zn1 (by decide)] | rw [zn2 (by decide)] | rw [zn3 (by decide)] | rw [zn4 (by decide)] | rw [ze1 (by decide)] | rw [ze2 (by decide)] | rw [zd1 (by decide)] | rw [zd2 (by decide)] | rw [zswy (by decide)] | rw [zswn (by decide)] | rw [zsw0])
    exact zR.ret rfl rfl hQ
  by_cases q4 : x = 60
  · rw [if_neg q0, if_neg q1, if_neg q2, if_neg q3, if_pos q4] at hQ
    subst q4
    repeat (first | ((with_reducible refine zR.stored ?_); dsimp only [zsto, zclr, zset, zget, zc2, cond_false, cond_true]) | ((with_reducible refine zR.atLit ?_); first | refine zR.step rfl ?_) | rw [zcc1] | rw [zcc2] | rw [zcc3] | rw [zcc4] | rw [zb1 (by decide)] | rw [zb2 (by decide)] | rw [zb3 (by decide)] | rw [zb4 (by decide)] | rw [zn1 (by decide)] | rw [zn2 (by decide)] | rw [zn3 (by decide)] | rw [zn4 (by decide)] | rw [ze1 (by decide)] | rw [ze2 (by decide)] | rw [zd1 (by decide)] | rw [zd2 (by decide)] | rw [zswy (by decide)] | rw [zswn (by decide)] | rw [zsw0])
    exact zR.ret rfl rfl hQ
  by_cases q5 : x = 61
  · rw [if_neg q0, if_neg q1, if_neg q2, if_neg q3, if_neg q4, if_pos q5] at hQ
    subst q5
    repeat (first | ((with_reducible refine zR.stored ?_); dsimp only [zsto, zclr, zset, zget, zc2, cond_false, cond_true]) | ((with_reducible refine zR.atLit ?_); first | refine zR.step rfl ?_) | rw [zcc1] | rw [zcc2] | rw [zcc3] | rw [zcc4] | rw [zb1 (by decide)] | rw [zb2 (by decide)] | rw [zb3 (by decide)] | rw [zb4 (by decide)] | rw [zn1 (by decide)] | rw [zn2 (by decide)] | rw [zn3 (by decide)] | rw [zn4 (by decide)] | rw [ze1 (by decide)] | rw [ze2 (by decide)] | rw [zd1 (by decide)] | rw [zd2 (by decide)] | rw [zswy (by decide)] | rw [zswn (by decide)] | rw [zsw0])
    exact zR.ret rfl rfl hQ
  rw [if_neg q0, if_neg q1, if_neg q2, if_neg q3, if_neg q4, if_neg q5] at hQ
  repeat (first | ((with_reducible refine zR.stored ?_); dsimp only [zsto, zclr, zset, zget, zc2, cond_false, cond_true]) | ((with_reducible refine zR.atLit ?_); first | refine zR.step rfl ?_) | rw [zcc1] | rw [zcc2] | rw [zcc3] | rw [zcc4] | rw [zswn q0] | rw [zswn q1] | rw [zswn q2] | rw [zswn q3] | rw [zswn q4] | rw [zswn q5] | rw [zsw0])
  exact zR.ret rfl rfl hQ
/-- a token is read: its kind and value stand at j -/
def TKP (M M' : zM) (j : Nat) (f2 f3 f4 : Nat → Int32) (K V : Int32) : Prop := ∃ g2 g4, TK3 M' j g2 f3 g4 ∧ g2 j = K ∧ g4 j = V ∧ (∀ q, q ≠ j → g2 q = f2 q ∧ g4 q = f4 q) ∧ ∀ k, k ≠ 28 → k ≠ 29 → k ≠ 30 → k ≠ 31 → M' k = M k
theorem c_readLetters (hT : TP M β L) (hW : SW M) (h3 : TK3 M j f2 f3 f4) (hj : j ≤ 200) (hp : p ≤ L) (hv : f4 j = 0) : zCalP (d + 6) 77 [.ref 28, .ref 26, .int (nI p)] n w M (fun v n' w' M' => v = some (.int (nI (if crP β L p then leF β L p + 1 else leF β L p))) ∧ n = n' ∧ w = w' ∧ TKP M M' j f2 f3 f4 (if crP β L p then 3 else keyK β p (leF β L p)) (if crP β L p then β (leF β L p) - 48 else 0)) := by
  have hL : L ≤ 200 := hT.2.2.2.2
  obtain ⟨h28, h29, h30, h31⟩ := h3
  have le := run_le (P := isLt) (β := β) (L - p) p
  have lp : ∀ (Q : Option Value → Nat → Nat → zM → Prop) t q, q + t = L → zR ztb (d + 6) kX10_readLetters 1 24 [some (.ref 28), some (.ref 26), some (.int (nI p)), some (.int (nI (runF isLt β t q)))] [] n w M Q → zR ztb (d + 6) kX10_readLetters 1 2 [some (.ref 28), some (.ref 26), some (.int (nI p)), some (.int (nI q))] [] n w M Q := by
    intro Q t
    induction t with
    | zero =>
      intro q hq hQ
      have e2 : q = L := by omega
      subst e2
      have e : ¬ nI q < nI q := zI_nlt (Nat.le_refl _) (by omega)
      repeat (first | with_reducible refine zR.hold (pc := 24) ?_ | ((with_reducible refine zR.stored ?_); dsimp only [zsto, zclr, zset, zget, zc2, cond_false, cond_true]) | ((with_reducible refine zR.atLit ?_); first | refine zR.step rfl ?_ | refine zR.getf rfl (hT.1) rfl ?_) | rw [zcc1] | rw [zcc2] | rw [zcc3] | rw [zcc4] | rw [zn1 (e)] | rw [zn2 (e)] | rw [zn3 (e)] | rw [zn4 (e)])
      exact ⟨trivial, hQ⟩
    | succ t ih =>
      intro q hq hQ
      have e : nI q < nI L := zI_ylt (by omega) (by omega)
      rw [runF] at hQ
      have cl := fun {d n w : Nat} => c_hasLetter (d := d) (n := n) (w := w) (k := q) hT rfl (by omega)
      refine zR.step rfl ?_
      by_cases z : isLt (β q) = true
      · rw [if_pos z] at hQ
        rw [isLt_y z] at cl
        have ih' := ih (q + 1) (by omega) hQ
        rw [← zI_s] at ih'
        repeat (first | with_reducible refine zR.hold (pc := 2) ?_ | ((with_reducible refine zR.stored ?_); dsimp only [zsto, zclr, zset, zget, zc2, cond_false, cond_true]) | ((with_reducible refine zR.atLit ?_); first | refine zR.step rfl ?_ | refine zR.getf rfl (hT.1) rfl ?_ | refine zR.cv rfl rfl rfl hT.1 rfl rfl (zCalP.of cl ?_)) | rw [zcc1] | rw [zcc2] | rw [zcc3] | rw [zcc4] | rw [zb1 (e)] | rw [zb2 (e)] | rw [zb3 (e)] | rw [zb4 (e)])
        exact ⟨trivial, ih'⟩
      · rw [if_neg z] at hQ
        rw [isLt_n z] at cl
        repeat (first | with_reducible refine zR.hold (pc := 24) ?_ | ((with_reducible refine zR.stored ?_); dsimp only [zsto, zclr, zset, zget, zc2, cond_false, cond_true]) | ((with_reducible refine zR.atLit ?_); first | refine zR.step rfl ?_ | refine zR.getf rfl (hT.1) rfl ?_ | refine zR.cv rfl rfl rfl hT.1 rfl rfl (zCalP.of cl ?_)) | rw [zcc1] | rw [zcc2] | rw [zcc3] | rw [zcc4] | rw [zb1 (e)] | rw [zb2 (e)] | rw [zb3 (e)] | rw [zb4 (e)])
        exact ⟨trivial, hQ⟩
  show zR ztb _ kX10_readLetters 1 0 [some (.ref 28), some (.ref 26), some (.int (nI p)), none] [] _ _ _ _
  repeat (first | with_reducible refine zR.hold (pc := 2) ?_ | ((with_reducible refine zR.stored ?_); dsimp only [zsto, zclr, zset, zget, zc2, cond_false, cond_true]) | ((with_reducible refine zR.atLit ?_); first | refine zR.step rfl ?_) | rw [zcc1] | rw [zcc2] | rw [zcc3] | rw [zcc4])
  refine ⟨trivial, lp _ (L - p) p (by omega) ?_⟩
  change zR ztb (d + 6) kX10_readLetters 1 24 [some (.ref 28), some (.ref 26), some (.int (nI p)), some (.int (nI (leF β L p)))] [] n w M _
  have hle : p ≤ leF β L p ∧ leF β L p ≤ p + (L - p) := le
  have key : ¬ crP β L p → zR ztb (d + 6) kX10_readLetters 1 80 [some (.ref 28), some (.ref 26), some (.int (nI p)), some (.int (nI (leF β L p)))] [] n w M (fun v n' w' M' => v = some (.int (nI (if crP β L p then leF β L p + 1 else leF β L p))) ∧ n = n' ∧ w = w' ∧ TKP M M' j f2 f3 f4 (if crP β L p then 3 else keyK β p (leF β L p)) (if crP β L p then β (leF β L p) - 48 else 0)) := by
    intro hn
    rw [if_neg hn, if_neg hn, if_neg hn]
    repeat (first | ((with_reducible refine zR.stored ?_); dsimp only [zsto, zclr, zset, zget, zc2, cond_false, cond_true]) | ((with_reducible refine zR.atLit ?_); first | refine zR.step rfl ?_ | refine zR.getf rfl (h28) rfl ?_ | refine zR.cs rfl rfl rfl rfl rfl (zCalP.of (c_keyOf hT hW hle.1 (by omega)) ?_)) | rw [zcc1] | rw [zcc2] | rw [zcc3] | rw [zcc4])
    refine zR.iast rfl h29 (i := j) rfl (by omega) (by decide) ?_
    repeat (first | ((with_reducible refine zR.stored ?_); dsimp only [zsto, zclr, zset, zget, zc2, cond_false, cond_true]) | ((with_reducible refine zR.atLit ?_); first | refine zR.step rfl ?_) | rw [zcc1] | rw [zcc2] | rw [zcc3] | rw [zcc4])
    refine zR.ret rfl rfl ⟨rfl, rfl, rfl, _, f4, ⟨by rw [zup_ne _ _ (by omega)]; exact h28, zup_self _ _ _, by rw [zup_ne _ _ (by omega)]; exact h30, by rw [zup_ne _ _ (by omega)]; exact h31⟩, zuf_self _ _ _, hv, fun q hq => ⟨zuf_ne _ _ hq, rfl⟩, fun k a b c d => zup_ne _ _ b⟩
  by_cases q1 : leF β L p = p + 1
  · have e1 : nI (leF β L p) = nI p + 1 := by rw [q1, zI_s]
    by_cases q2 : β p = 99
    · have cd := fun {d n w : Nat} => c_hasDigit (d := d) (n := n) (w := w) (k := leF β L p) hT rfl (by omega)
      by_cases q3 : isDg (β (leF β L p)) = true
      · rw [isDg_y q3] at cd
        rw [if_pos ⟨q1, q2, q3⟩, if_pos ⟨q1, q2, q3⟩, if_pos ⟨q1, q2, q3⟩]
        repeat (first | ((with_reducible refine zR.stored ?_); dsimp only [zsto, zclr, zset, zget, zc2, cond_false, cond_true]) | ((with_reducible refine zR.atLit ?_); first | refine zR.step rfl ?_ | refine zR.cv rfl rfl rfl hT.1 rfl rfl (zCalP.of (c_at (k := p) hT rfl (by omega)) ?_) | refine zR.cv rfl rfl rfl hT.1 rfl rfl (zCalP.of cd ?_) | refine zR.getf rfl (h28) rfl ?_) | rw [zcc1] | rw [zcc2] | rw [zcc3] | rw [zcc4] | rw [ze1 (e1)] | rw [ze2 (e1)] | rw [ze1 (q2)] | rw [ze2 (q2)])
        refine zR.iast rfl h29 (i := j) rfl (by omega) (by decide) ?_
        have hT1 : TP (zup M 29 (.inl (0, 201, .inl (zuf f2 j 3)))) β L := hT.mv (zup_ne _ _ (by omega)) (zup_ne _ _ (by omega))
        have h28' : zup M 29 (.inl (0, 201, .inl (zuf f2 j 3))) 28 = _ := (zup_ne _ _ (by omega)).trans h28
        have h31' : zup M 29 (.inl (0, 201, .inl (zuf f2 j 3))) 31 = _ := (zup_ne _ _ (by omega)).trans h31
        have h30' : zup M 29 (.inl (0, 201, .inl (zuf f2 j 3))) 30 = _ := (zup_ne _ _ (by omega)).trans h30
        repeat (first | ((with_reducible refine zR.stored ?_); dsimp only [zsto, zclr, zset, zget, zc2, cond_false, cond_true]) | ((with_reducible refine zR.atLit ?_); first | refine zR.step rfl ?_ | refine zR.getf rfl (h28') rfl ?_ | refine zR.cv rfl rfl rfl hT1.1 rfl rfl (zCalP.of (c_at (k := leF β L p) hT1 rfl (by omega)) ?_)) | rw [zcc1] | rw [zcc2] | rw [zcc3] | rw [zcc4])
        refine zR.iast rfl h31' (i := j) rfl (by omega) (by decide) ?_
        repeat (first | ((with_reducible refine zR.stored ?_); dsimp only [zsto, zclr, zset, zget, zc2, cond_false, cond_true]) | ((with_reducible refine zR.atLit ?_); first | refine zR.step rfl ?_) | rw [zcc1] | rw [zcc2] | rw [zcc3] | rw [zcc4] | rw [zI_s])
        refine zR.ret rfl rfl ⟨rfl, rfl, rfl, _, _, ⟨by rw [zup_ne _ _ (by omega)]; exact h28', by rw [zup_ne _ _ (by omega), zup_self], by rw [zup_ne _ _ (by omega)]; exact h30', zup_self _ _ _⟩, zuf_self _ _ _, zuf_self _ _ _, fun q hq => ⟨zuf_ne _ _ hq, zuf_ne _ _ hq⟩, fun k a b c d => by rw [zup_ne _ _ d, zup_ne _ _ b]⟩
      · rw [isDg_n q3] at cd
        repeat (first | with_reducible refine zR.hold (pc := 80) ?_ | ((with_reducible refine zR.stored ?_); dsimp only [zsto, zclr, zset, zget, zc2, cond_false, cond_true]) | ((with_reducible refine zR.atLit ?_); first | refine zR.step rfl ?_ | refine zR.cv rfl rfl rfl hT.1 rfl rfl (zCalP.of (c_at (k := p) hT rfl (by omega)) ?_) | refine zR.cv rfl rfl rfl hT.1 rfl rfl (zCalP.of cd ?_)) | rw [zcc1] | rw [zcc2] | rw [zcc3] | rw [zcc4] | rw [ze1 (e1)] | rw [ze2 (e1)] | rw [ze1 (q2)] | rw [ze2 (q2)])
        exact ⟨trivial, key (fun z => q3 z.2.2)⟩
    · repeat (first | with_reducible refine zR.hold (pc := 80) ?_ | ((with_reducible refine zR.stored ?_); dsimp only [zsto, zclr, zset, zget, zc2, cond_false, cond_true]) | ((with_reducible refine zR.atLit ?_); first | refine zR.step rfl ?_ | refine zR.cv rfl rfl rfl hT.1 rfl rfl (zCalP.of (c_at (k := p) hT rfl (by omega)) ?_)) | rw [zcc1] | rw [zcc2] | rw [zcc3] | rw [zcc4] | rw [ze1 (e1)] | rw [ze2 (e1)] | rw [zd1 (q2)] | rw [zd2 (q2)])
      exact ⟨trivial, key (fun z => q2 z.2.1)⟩
  · have e1 : ¬ nI (leF β L p) = nI p + 1 := by rw [zI_s]; exact fun z => q1 (zn_inj (by omega) (by omega) z)
    repeat (first | with_reducible refine zR.hold (pc := 80) ?_ | ((with_reducible refine zR.stored ?_); dsimp only [zsto, zclr, zset, zget, zc2, cond_false, cond_true]) | ((with_reducible refine zR.atLit ?_); first | refine zR.step rfl ?_) | rw [zcc1] | rw [zcc2] | rw [zcc3] | rw [zcc4] | rw [zd1 (e1)] | rw [zd2 (e1)])
    exact ⟨trivial, key (fun z => q1 z.1)⟩
theorem c_readDigits (hT : TP M β L) (h3 : TK3 M j f2 f3 f4) (hj : j ≤ 200) (hp : p ≤ L) : zCalP (d + 2) 78 [.ref 28, .ref 26, .int (nI p)] n w M (fun v n' w' M' => v = some (.int (nI (dgF β L p))) ∧ n = n' ∧ w = w' ∧ TKP M M' j f2 f3 f4 (if 3 < dgF β L p - p then 1 else 2) (vlF β p (dgF β L p - p))) := by
  have hL : L ≤ 200 := hT.2.2.2.2
  obtain ⟨h28, h29, h30, h31⟩ := h3
  have le := run_le (P := isDg) (β := β) (L - p) p
  have lp : ∀ (Q : Option Value → Nat → Nat → zM → Prop) t q, p ≤ q → q + t = L → zR ztb (d + 2) kX10_readDigits 1 43 [some (.ref 28), some (.ref 26), some (.int (nI p)), some (.int (nI (runF isDg β t q))), some (.int (vlF β p (runF isDg β t q - p)))] [] n w M Q → zR ztb (d + 2) kX10_readDigits 1 5 [some (.ref 28), some (.ref 26), some (.int (nI p)), some (.int (nI q)), some (.int (vlF β p (q - p)))] [] n w M Q := by
    intro Q t
    induction t with
    | zero =>
      intro q hpq hq hQ
      have e2 : q = L := by omega
      subst e2
      have e : ¬ nI q < nI q := zI_nlt (Nat.le_refl _) (by omega)
      repeat (first | with_reducible refine zR.hold (pc := 43) ?_ | ((with_reducible refine zR.stored ?_); dsimp only [zsto, zclr, zset, zget, zc2, cond_false, cond_true]) | ((with_reducible refine zR.atLit ?_); first | refine zR.step rfl ?_ | refine zR.getf rfl (hT.1) rfl ?_) | rw [zcc1] | rw [zcc2] | rw [zcc3] | rw [zcc4] | rw [zn1 (e)] | rw [zn2 (e)] | rw [zn3 (e)] | rw [zn4 (e)])
      exact ⟨trivial, hQ⟩
    | succ t ih =>
      intro q hpq hq hQ
      have e : nI q < nI L := zI_ylt (by omega) (by omega)
      rw [runF] at hQ
      have cl := fun {d n w : Nat} => c_hasDigit (d := d) (n := n) (w := w) (k := q) hT rfl (by omega)
      refine zR.step rfl ?_
      by_cases z : isDg (β q) = true
      · rw [if_pos z] at hQ
        rw [isDg_y z] at cl
        have ih' := ih (q + 1) (by omega) (by omega) hQ
        rw [← zI_s, show q + 1 - p = (q - p) + 1 by omega, vlF, show p + (q - p) = q by omega] at ih'
        repeat (first | with_reducible refine zR.hold (pc := 5) ?_ | ((with_reducible refine zR.stored ?_); dsimp only [zsto, zclr, zset, zget, zc2, cond_false, cond_true]) | ((with_reducible refine zR.atLit ?_); first | refine zR.step rfl ?_ | refine zR.getf rfl (hT.1) rfl ?_ | refine zR.cv rfl rfl rfl hT.1 rfl rfl (zCalP.of cl ?_) | refine zR.cv rfl rfl rfl hT.1 rfl rfl (zCalP.of (c_at (k := q) hT rfl (by omega)) ?_)) | rw [zcc1] | rw [zcc2] | rw [zcc3] | rw [zcc4] | rw [zb1 (e)] | rw [zb2 (e)] | rw [zb3 (e)] | rw [zb4 (e)])
        exact ⟨trivial, ih'⟩
      · rw [if_neg z] at hQ
        rw [isDg_n z] at cl
        repeat (first | with_reducible refine zR.hold (pc := 43) ?_ | ((with_reducible refine zR.stored ?_); dsimp only [zsto, zclr, zset, zget, zc2, cond_false, cond_true]) | ((with_reducible refine zR.atLit ?_); first | refine zR.step rfl ?_ | refine zR.getf rfl (hT.1) rfl ?_ | refine zR.cv rfl rfl rfl hT.1 rfl rfl (zCalP.of cl ?_)) | rw [zcc1] | rw [zcc2] | rw [zcc3] | rw [zcc4] | rw [zb1 (e)] | rw [zb2 (e)] | rw [zb3 (e)] | rw [zb4 (e)])
        exact ⟨trivial, hQ⟩
  have lp0 := fun Q => lp Q (L - p) p (Nat.le_refl _) (by omega)
  rw [show p - p = 0 by omega] at lp0
  show zR ztb _ kX10_readDigits 1 0 [some (.ref 28), some (.ref 26), some (.int (nI p)), none, none] [] _ _ _ _
  repeat (first | with_reducible refine zR.hold (pc := 5) ?_ | ((with_reducible refine zR.stored ?_); dsimp only [zsto, zclr, zset, zget, zc2, cond_false, cond_true]) | ((with_reducible refine zR.atLit ?_); first | refine zR.step rfl ?_) | rw [zcc1] | rw [zcc2] | rw [zcc3] | rw [zcc4])
  refine ⟨trivial, lp0 _ ?_⟩
  change zR ztb (d + 2) kX10_readDigits 1 43 [some (.ref 28), some (.ref 26), some (.int (nI p)), some (.int (nI (dgF β L p))), some (.int (vlF β p (dgF β L p - p)))] [] n w M _
  have hle : p ≤ dgF β L p ∧ dgF β L p ≤ p + (L - p) := le
  generalize dgF β L p = e at *
  have es : nI e - nI p = nI (e - p) := zI_sub hle.1 (by omega)
  by_cases q : 3 < e - p
  · have e3 : (3 : Int32) < nI (e - p) := zI_ylt (a := 3) q (by omega)
    rw [if_pos q]
    repeat (first | ((with_reducible refine zR.stored ?_); dsimp only [zsto, zclr, zset, zget, zc2, cond_false, cond_true]) | ((with_reducible refine zR.atLit ?_); first | refine zR.step rfl ?_ | refine zR.getf rfl (h28) rfl ?_) | rw [zcc1] | rw [zcc2] | rw [zcc3] | rw [zcc4] | rw [es] | rw [zb1 (e3)] | rw [zb2 (e3)] | rw [zb3 (e3)] | rw [zb4 (e3)])
    refine zR.iast rfl h29 (i := j) rfl (by omega) (by decide) ?_
    have h28' : zup M 29 (.inl (0, 201, .inl (zuf f2 j 1))) 28 = _ := (zup_ne _ _ (by omega)).trans h28
    have h31' : zup M 29 (.inl (0, 201, .inl (zuf f2 j 1))) 31 = _ := (zup_ne _ _ (by omega)).trans h31
    have h30' : zup M 29 (.inl (0, 201, .inl (zuf f2 j 1))) 30 = _ := (zup_ne _ _ (by omega)).trans h30
    repeat (first | ((with_reducible refine zR.stored ?_); dsimp only [zsto, zclr, zset, zget, zc2, cond_false, cond_true]) | ((with_reducible refine zR.atLit ?_); first | refine zR.step rfl ?_ | refine zR.getf rfl (h28') rfl ?_) | rw [zcc1] | rw [zcc2] | rw [zcc3] | rw [zcc4])
    refine zR.iast rfl h31' (i := j) rfl (by omega) (by decide) ?_
    repeat (first | ((with_reducible refine zR.stored ?_); dsimp only [zsto, zclr, zset, zget, zc2, cond_false, cond_true]) | ((with_reducible refine zR.atLit ?_); first | refine zR.step rfl ?_) | rw [zcc1] | rw [zcc2] | rw [zcc3] | rw [zcc4])
    refine zR.ret rfl rfl ⟨rfl, rfl, rfl, _, _, ⟨by rw [zup_ne _ _ (by omega)]; exact h28', by rw [zup_ne _ _ (by omega), zup_self], by rw [zup_ne _ _ (by omega)]; exact h30', zup_self _ _ _⟩, zuf_self _ _ _, zuf_self _ _ _, fun q hq => ⟨zuf_ne _ _ hq, zuf_ne _ _ hq⟩, fun k a b c d => by rw [zup_ne _ _ d, zup_ne _ _ b]⟩
  
  · have e3 : ¬ (3 : Int32) < nI (e - p) := zI_nlt (b := e - p) (a := 3) (by omega) (by omega)
    rw [if_neg q]
    repeat (first | ((with_reducible refine zR.stored ?_); dsimp only [zsto, zclr, zset, zget, zc2, cond_false, cond_true]) | ((with_reducible refine zR.atLit ?_); first | refine zR.step rfl ?_ | refine zR.getf rfl (h28) rfl ?_) | rw [zcc1] | rw [zcc2] | rw [zcc3] | rw [zcc4] | rw [es] | rw [zn1 (e3)] | rw [zn2 (e3)] | rw [zn3 (e3)] | rw [zn4 (e3)])
    refine zR.iast rfl h29 (i := j) rfl (by omega) (by decide) ?_
    have h28' : zup M 29 (.inl (0, 201, .inl (zuf f2 j 2))) 28 = _ := (zup_ne _ _ (by omega)).trans h28
    have h31' : zup M 29 (.inl (0, 201, .inl (zuf f2 j 2))) 31 = _ := (zup_ne _ _ (by omega)).trans h31
    have h30' : zup M 29 (.inl (0, 201, .inl (zuf f2 j 2))) 30 = _ := (zup_ne _ _ (by omega)).trans h30
    repeat (first | ((with_reducible refine zR.stored ?_); dsimp only [zsto, zclr, zset, zget, zc2, cond_false, cond_true]) | ((with_reducible refine zR.atLit ?_); first | refine zR.step rfl ?_ | refine zR.getf rfl (h28') rfl ?_) | rw [zcc1] | rw [zcc2] | rw [zcc3] | rw [zcc4])
    refine zR.iast rfl h31' (i := j) rfl (by omega) (by decide) ?_
    repeat (first | ((with_reducible refine zR.stored ?_); dsimp only [zsto, zclr, zset, zget, zc2, cond_false, cond_true]) | ((with_reducible refine zR.atLit ?_); first | refine zR.step rfl ?_) | rw [zcc1] | rw [zcc2] | rw [zcc3] | rw [zcc4])
    refine zR.ret rfl rfl ⟨rfl, rfl, rfl, _, _, ⟨by rw [zup_ne _ _ (by omega)]; exact h28', by rw [zup_ne _ _ (by omega), zup_self], by rw [zup_ne _ _ (by omega)]; exact h30', zup_self _ _ _⟩, zuf_self _ _ _, zuf_self _ _ _, fun q hq => ⟨zuf_ne _ _ hq, zuf_ne _ _ hq⟩, fun k a b c d => by rw [zup_ne _ _ d, zup_ne _ _ b]⟩
end
