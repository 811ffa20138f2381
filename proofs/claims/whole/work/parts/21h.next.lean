
/-! lines: the reference's next token. -/
def TV (K V tk va : Int32) : Prop := (K = 0 ∧ tk = 0) ∨ (K = 2 ∧ tk = 1 ∧ va = V) ∨ (K = 3 ∧ tk = 3 ∧ va = V) ∨ (K = 4 ∧ tk = 4 ∧ va = 60) ∨ (K = 5 ∧ tk = 4 ∧ va = 61) ∨ (K = 6 ∧ tk = 4 ∧ va = 40) ∨ (K = 7 ∧ tk = 4 ∧ va = 41) ∨ (K = 8 ∧ tk = 4 ∧ va = 59) ∨ ∃ i, i < 10 ∧ K = nI (10 + i) ∧ tk = 2 ∧ va = nI i
def vR (β : Nat → Int32) (p : Nat) : Nat → Int32
  | 0 => 0
  | m + 1 => if m < 3 then 10 * vR β p m + β (p + m) - 48 else vR β p m
theorem vR_eq {β : Nat → Int32} {p : Nat} : ∀ m, m ≤ 3 → vR β p m = vlF β p m
  | 0, _ => rfl
  | m + 1, h => by
    rw [vR, if_pos (by omega), vR_eq m (by omega), vlF, Int32.mul_comm]
section
variable {M0 : zM} {σ : mS} {β : Nat → Int32} {L : Nat} {d n w : Nat} {fk fp nt lm cd : Int32} {l8 l9 : Nat → Int32}
theorem c_digitsR {M : zM} {tk va : Int32} {p : Nat} (hT : RT σ β L) (hR : Rf M (pst σ fk fp (nI p) tk va (nI p) nt lm cd l8 l9)) (hS : Sm M0 M) (hf : ¬ fk = 1) (hp : p ≤ L) : zCalP (d + 2) 154 [.ref 287] n w M (fun v n' w' M' => v = none ∧ n = n' ∧ w = w' ∧ Sm M0 M' ∧ ∃ va', (if 3 < dgF β L p - p then Rf M' (pst σ 1 (nI p) (nI (dgF β L p)) 0 va' (nI p) nt lm cd l8 l9) else va' = vlF β p (dgF β L p - p) ∧ Rf M' (pst σ fk fp (nI (dgF β L p)) 1 va' (nI p) nt lm cd l8 l9))) := by
  have hL : L ≤ 200 := hT.2.2.2.2
  have hend : isDg (β L) = false := by rw [hT.2.2.2.1 L (Nat.le_refl _)]; decide
  have lp : ∀ (Q : Option Value → Nat → Nat → zM → Prop) (t q : Nat) (M : zM) (tk : Int32), p ≤ q → q + t = L → Rf M (pst σ fk fp (nI q) tk (vR β p (q - p)) (nI p) nt lm cd l8 l9) → Sm M0 M → (∀ M, Rf M (pst σ fk fp (nI (runF isDg β t q)) tk (vR β p (runF isDg β t q - p)) (nI p) nt lm cd l8 l9) → Sm M0 M → zR ztb (d + 2) kX12_digits 0 75 [some (.ref 287)] [] n w M Q) → zR ztb (d + 2) kX12_digits 0 5 [some (.ref 287)] [] n w M Q := by
    intro Q t
    induction t with
    | zero =>
      intro q M tk hpq hq hR hS hQ
      have eq : q = L := by omega
      have z : inI (β q) 48 57 = 0 := isDg_n (by rw [eq, hend]; decide)
      repeat (first | with_reducible refine zR.hold (pc := 75) ?_ | ((with_reducible refine zR.stored ?_); dsimp only [zsto, zclr, zset, zget, zc2, cond_false, cond_true]) | ((with_reducible refine zR.atLit ?_); first | refine zR.step rfl ?_ | refine zR.getf rfl hR.po rfl ?_ | refine zR.cv rfl rfl rfl hR.1 rfl rfl (zCalP.of (c_byteAt hR hT.p (by omega)) ?_) | (refine zR.cs rfl rfl rfl rfl rfl (zCalP.of c_isDigit ?_); rw [z])) | rw [zcc1] | rw [zcc2] | rw [zcc3] | rw [zcc4])
      exact ⟨trivial, hQ M hR hS⟩
    | succ t ih =>
      intro q M tk hpq hq hR hS hQ
      have es : nI q - nI p = nI (q - p) := zI_sub hpq (by omega)
      rw [runF] at hQ
      by_cases z : isDg (β q) = true
      · rw [if_pos z] at hQ
        have z' := isDg_y z
        have ev : vR β p (q + 1 - p) = if q - p < 3 then 10 * vR β p (q - p) + β q - 48 else vR β p (q - p) := by
          rw [show q + 1 - p = (q - p) + 1 by omega, vR, show p + (q - p) = q by omega]
        have go : ∀ M v, v = vR β p (q + 1 - p) → Rf M (pst σ fk fp (nI q) tk (vR β p (q - p)) (nI p) nt lm cd l8 l9) → Sm M0 M → zR ztb (d + 2) kX12_digits 0 59 [some (.ref 287)] [.int v, .ref 287] n w M Q := by
          intro M v hv hR hS
          subst hv
          refine zR.pt17 hR hS rfl (fun M1 hR hS => ?_)
          repeat (first | ((with_reducible refine zR.stored ?_); dsimp only [zsto, zclr, zset, zget, zc2, cond_false, cond_true]) | ((with_reducible refine zR.atLit ?_); first | refine zR.step rfl ?_ | refine zR.getf rfl hR.po rfl ?_) | rw [zcc1] | rw [zcc2] | rw [zcc3] | rw [zcc4])
          refine zR.pt15 hR hS rfl (fun M1 hR hS => ?_)
          rw [zI_s] at hR
          have ih' := ih (q + 1) M1 tk (by omega) (by omega) hR hS hQ
          repeat (first | with_reducible refine zR.hold (pc := 5) ?_ | ((with_reducible refine zR.stored ?_); dsimp only [zsto, zclr, zset, zget, zc2, cond_false, cond_true]) | ((with_reducible refine zR.atLit ?_); first | refine zR.step rfl ?_) | rw [zcc1] | rw [zcc2] | rw [zcc3] | rw [zcc4])
          exact ⟨trivial, ih'⟩
        by_cases q3 : q - p < 3
        · rw [if_pos q3] at ev
          have e3 : nI (q - p) < 3 := zI_ylt (b := 3) q3 (by omega)
          repeat (first | with_reducible refine zR.hold (pc := 59) ?_ | ((with_reducible refine zR.stored ?_); dsimp only [zsto, zclr, zset, zget, zc2, cond_false, cond_true]) | ((with_reducible refine zR.atLit ?_); first | refine zR.step rfl ?_ | refine zR.getf rfl hR.po rfl ?_ | refine zR.cv rfl rfl rfl hR.1 rfl rfl (zCalP.of (c_byteAt hR hT.p (by omega)) ?_) | (refine zR.cs rfl rfl rfl rfl rfl (zCalP.of c_isDigit ?_); rw [z'])) | rw [zcc1] | rw [zcc2] | rw [zcc3] | rw [zcc4] | rw [es] | rw [zb1 (e3)] | rw [zb2 (e3)] | rw [zb3 (e3)] | rw [zb4 (e3)])
          exact ⟨trivial, go M _ ev.symm hR hS⟩
        · rw [if_neg q3] at ev
          have e3 : ¬ nI (q - p) < 3 := zI_nlt (b := 3) (by omega) (by omega)
          repeat (first | with_reducible refine zR.hold (pc := 59) ?_ | ((with_reducible refine zR.stored ?_); dsimp only [zsto, zclr, zset, zget, zc2, cond_false, cond_true]) | ((with_reducible refine zR.atLit ?_); first | refine zR.step rfl ?_ | refine zR.getf rfl hR.po rfl ?_ | refine zR.cv rfl rfl rfl hR.1 rfl rfl (zCalP.of (c_byteAt hR hT.p (by omega)) ?_) | (refine zR.cs rfl rfl rfl rfl rfl (zCalP.of c_isDigit ?_); rw [z'])) | rw [zcc1] | rw [zcc2] | rw [zcc3] | rw [zcc4] | rw [es] | rw [zn1 (e3)] | rw [zn2 (e3)] | rw [zn3 (e3)] | rw [zn4 (e3)])
          exact ⟨trivial, go M _ ev.symm hR hS⟩
      · rw [if_neg z] at hQ
        have z' := isDg_n z
        repeat (first | with_reducible refine zR.hold (pc := 75) ?_ | ((with_reducible refine zR.stored ?_); dsimp only [zsto, zclr, zset, zget, zc2, cond_false, cond_true]) | ((with_reducible refine zR.atLit ?_); first | refine zR.step rfl ?_ | refine zR.getf rfl hR.po rfl ?_ | refine zR.cv rfl rfl rfl hR.1 rfl rfl (zCalP.of (c_byteAt hR hT.p (by omega)) ?_) | (refine zR.cs rfl rfl rfl rfl rfl (zCalP.of c_isDigit ?_); rw [z'])) | rw [zcc1] | rw [zcc2] | rw [zcc3] | rw [zcc4])
        exact ⟨trivial, hQ M hR hS⟩
  have le := run_le (P := isDg) (β := β) (L - p) p
  show zR ztb _ kX12_digits 0 0 [some (.ref 287)] [] _ _ _ _
  repeat (first | ((with_reducible refine zR.stored ?_); dsimp only [zsto, zclr, zset, zget, zc2, cond_false, cond_true]) | ((with_reducible refine zR.atLit ?_); first | refine zR.step rfl ?_) | rw [zcc1] | rw [zcc2] | rw [zcc3] | rw [zcc4])
  refine zR.pt17 hR hS rfl (fun M1 hR hS => ?_)
  repeat (first | with_reducible refine zR.hold (pc := 5) ?_ | ((with_reducible refine zR.stored ?_); dsimp only [zsto, zclr, zset, zget, zc2, cond_false, cond_true]) | ((with_reducible refine zR.atLit ?_); first | refine zR.step rfl ?_) | rw [zcc1] | rw [zcc2] | rw [zcc3] | rw [zcc4])
  refine ⟨trivial, lp _ (L - p) p M1 tk (Nat.le_refl _) (by omega) (by rw [Nat.sub_self]; exact hR) hS (fun M2 hR hS => ?_)⟩
  change Rf M2 (pst σ fk fp (nI (dgF β L p)) tk (vR β p (dgF β L p - p)) (nI p) nt lm cd l8 l9) at hR
  have hle : p ≤ dgF β L p ∧ dgF β L p ≤ p + (L - p) := le
  have es : nI (dgF β L p) - nI p = nI (dgF β L p - p) := zI_sub hle.1 (by omega)
  repeat (first | ((with_reducible refine zR.stored ?_); dsimp only [zsto, zclr, zset, zget, zc2, cond_false, cond_true]) | ((with_reducible refine zR.atLit ?_); first | refine zR.step rfl ?_) | rw [zcc1] | rw [zcc2] | rw [zcc3] | rw [zcc4])
  refine zR.pt16 hR hS rfl (fun M3 hR hS => ?_)
  by_cases q : 3 < dgF β L p - p
  · have e3 : (3 : Int32) < nI (dgF β L p - p) := zI_ylt (a := 3) q (by omega)
    repeat (first | ((with_reducible refine zR.stored ?_); dsimp only [zsto, zclr, zset, zget, zc2, cond_false, cond_true]) | ((with_reducible refine zR.atLit ?_); first | refine zR.step rfl ?_ | refine zR.getf rfl hR.po rfl ?_) | rw [zcc1] | rw [zcc2] | rw [zcc3] | rw [zcc4] | rw [es] | rw [zb1 (e3)] | rw [zb2 (e3)] | rw [zb3 (e3)] | rw [zb4 (e3)])
    refine zR.cv rfl rfl rfl hR.1 rfl rfl (zR.mono (c_cannot_l hR hS hf) (fun v n1 w1 M4 hv => ?_))
    obtain ⟨rfl, rfl, rfl, hS, hR⟩ := hv
    repeat (first | ((with_reducible refine zR.stored ?_); dsimp only [zsto, zclr, zset, zget, zc2, cond_false, cond_true]) | ((with_reducible refine zR.atLit ?_); first | refine zR.step rfl ?_) | rw [zcc1] | rw [zcc2] | rw [zcc3] | rw [zcc4])
    refine zR.ret rfl rfl ⟨rfl, rfl, rfl, hS, vR β p (dgF β L p - p), ?_⟩
    rw [if_pos q]
    exact hR
  · have e3 : ¬ (3 : Int32) < nI (dgF β L p - p) := zI_nlt (b := dgF β L p - p) (a := 3) (by omega) (by omega)
    repeat (first | ((with_reducible refine zR.stored ?_); dsimp only [zsto, zclr, zset, zget, zc2, cond_false, cond_true]) | ((with_reducible refine zR.atLit ?_); first | refine zR.step rfl ?_ | refine zR.getf rfl hR.po rfl ?_) | rw [zcc1] | rw [zcc2] | rw [zcc3] | rw [zcc4] | rw [es] | rw [zn1 (e3)] | rw [zn2 (e3)] | rw [zn3 (e3)] | rw [zn4 (e3)])
    refine zR.ret rfl rfl ⟨rfl, rfl, rfl, hS, vR β p (dgF β L p - p), ?_⟩
    rw [if_neg q]
    exact ⟨vR_eq _ (by omega), hR⟩
theorem c_lettersR {M : zM} {tk va : Int32} {p : Nat} (hT : RT σ β L) (hR : Rf M (pst σ fk fp (nI p) tk va (nI p) nt lm cd l8 l9)) (hS : Sm M0 M) (hf : ¬ fk = 1) (hp : p < L) (hlt : isLt (β p) = true) : zCalP (d + 2) 157 [.ref 287] n w M (fun v n' w' M' => v = none ∧ n = n' ∧ w = w' ∧ Sm M0 M' ∧ ∃ tk' va', (if crP β L p then tk' = 3 ∧ va' = β (leF β L p) - 48 ∧ Rf M' (pst σ fk fp (nI (leF β L p + 1)) tk' va' (nI p) nt lm cd l8 l9) else if keyK β p (leF β L p) = 1 then Rf M' (pst σ 1 (nI p) (nI (leF β L p)) 0 va' (nI p) nt lm cd l8 l9) else (∃ i, i < 10 ∧ keyK β p (leF β L p) = nI (10 + i) ∧ tk' = 2 ∧ va' = nI i) ∧ Rf M' (pst σ fk fp (nI (leF β L p)) tk' va' (nI p) nt lm cd l8 l9))) := by
  have hL : L ≤ 200 := hT.2.2.2.2
  have hend : isLt (β L) = false := by rw [hT.2.2.2.1 L (Nat.le_refl _)]; decide
  have lp : ∀ (Q : Option Value → Nat → Nat → zM → Prop) (t q : Nat) (M : zM), p ≤ q → q + t = L → Rf M (pst σ fk fp (nI q) tk va (nI p) nt lm cd l8 l9) → Sm M0 M → (∀ M, Rf M (pst σ fk fp (nI (runF isLt β t q)) tk va (nI p) nt lm cd l8 l9) → Sm M0 M → zR ztb (d + 2) kX12_letters 0 80 [some (.ref 287), some (.int (hsR β p (runF isLt β t q - p)))] [] n w M Q) → zR ztb (d + 2) kX12_letters 0 2 [some (.ref 287), some (.int (hsR β p (q - p)))] [] n w M Q := by
    intro Q t
    induction t with
    | zero =>
      intro q M hpq hq hR hS hQ
      have eq : q = L := by omega
      have z : inI (β q) 97 122 = 0 := isLt_n (by rw [eq, hend]; decide)
      refine zR.step rfl ?_
      repeat (first | with_reducible refine zR.hold (pc := 80) ?_ | ((with_reducible refine zR.stored ?_); dsimp only [zsto, zclr, zset, zget, zc2, cond_false, cond_true]) | ((with_reducible refine zR.atLit ?_); first | refine zR.step rfl ?_ | refine zR.getf rfl hR.po rfl ?_ | refine zR.cv rfl rfl rfl hR.1 rfl rfl (zCalP.of (c_byteAt hR hT.p (by omega)) ?_) | (refine zR.cs rfl rfl rfl rfl rfl (zCalP.of c_isLetter ?_); rw [z])) | rw [zcc1] | rw [zcc2] | rw [zcc3] | rw [zcc4])
      exact ⟨trivial, hQ M hR hS⟩
    | succ t ih =>
      intro q M hpq hq hR hS hQ
      have es : nI q - nI p = nI (q - p) := zI_sub hpq (by omega)
      have es2 : nI (q + 1) - nI p = nI (q + 1 - p) := zI_sub (by omega) (by omega)
      rw [runF] at hQ
      by_cases z : isLt (β q) = true
      · rw [if_pos z] at hQ
        have z' := isLt_y z
        have ev : hsR β p (q + 1 - p) = if q - p < 5 then 32 * hsR β p (q - p) + β q - 97 + 1 else -1 := by
          rw [show q + 1 - p = (q - p) + 1 by omega, hsR, show p + (q - p) = q by omega]
        have go : ∀ M v, v = hsR β p (q + 1 - p) → Rf M (pst σ fk fp (nI q) tk va (nI p) nt lm cd l8 l9) → Sm M0 M → zR ztb (d + 2) kX12_letters 0 52 [some (.ref 287), some (.int v)] [] n w M Q := by
          intro M v hv hR hS
          subst hv
          repeat (first | ((with_reducible refine zR.stored ?_); dsimp only [zsto, zclr, zset, zget, zc2, cond_false, cond_true]) | ((with_reducible refine zR.atLit ?_); first | refine zR.step rfl ?_ | refine zR.getf rfl hR.po rfl ?_) | rw [zcc1] | rw [zcc2] | rw [zcc3] | rw [zcc4])
          refine zR.pt15 hR hS rfl (fun M1 hR hS => ?_)
          rw [zI_s] at hR
          have ih' := ih (q + 1) M1 (by omega) (by omega) hR hS hQ
          by_cases q5 : 5 < q + 1 - p
          · have e5 : (5 : Int32) < nI (q + 1 - p) := zI_ylt (a := 5) q5 (by omega)
            rw [show hsR β p (q + 1 - p) = -1 by rw [ev, if_neg (by omega)]] at *
            repeat (first | with_reducible refine zR.hold (pc := 2) ?_ | ((with_reducible refine zR.stored ?_); dsimp only [zsto, zclr, zset, zget, zc2, cond_false, cond_true]) | ((with_reducible refine zR.atLit ?_); first | refine zR.step rfl ?_ | refine zR.getf rfl hR.po rfl ?_) | rw [zcc1] | rw [zcc2] | rw [zcc3] | rw [zcc4] | rw [es2] | rw [zb1 (e5)] | rw [zb2 (e5)] | rw [zb3 (e5)] | rw [zb4 (e5)])
            exact ⟨trivial, ih'⟩
          · have e5 : ¬ (5 : Int32) < nI (q + 1 - p) := zI_nlt (a := 5) (b := q + 1 - p) (by omega) (by omega)
            repeat (first | with_reducible refine zR.hold (pc := 2) ?_ | ((with_reducible refine zR.stored ?_); dsimp only [zsto, zclr, zset, zget, zc2, cond_false, cond_true]) | ((with_reducible refine zR.atLit ?_); first | refine zR.step rfl ?_ | refine zR.getf rfl hR.po rfl ?_) | rw [zcc1] | rw [zcc2] | rw [zcc3] | rw [zcc4] | rw [es2] | rw [zn1 (e5)] | rw [zn2 (e5)] | rw [zn3 (e5)] | rw [zn4 (e5)])
            exact ⟨trivial, ih'⟩
        refine zR.step rfl ?_
        by_cases q3 : q - p < 5
        · rw [if_pos q3] at ev
          have e3 : nI (q - p) < 5 := zI_ylt (b := 5) q3 (by omega)
          repeat (first | with_reducible refine zR.hold (pc := 52) ?_ | ((with_reducible refine zR.stored ?_); dsimp only [zsto, zclr, zset, zget, zc2, cond_false, cond_true]) | ((with_reducible refine zR.atLit ?_); first | refine zR.step rfl ?_ | refine zR.getf rfl hR.po rfl ?_ | refine zR.cv rfl rfl rfl hR.1 rfl rfl (zCalP.of (c_byteAt hR hT.p (by omega)) ?_) | (refine zR.cs rfl rfl rfl rfl rfl (zCalP.of c_isLetter ?_); rw [z'])) | rw [zcc1] | rw [zcc2] | rw [zcc3] | rw [zcc4] | rw [es] | rw [zb1 (e3)] | rw [zb2 (e3)] | rw [zb3 (e3)] | rw [zb4 (e3)])
          exact ⟨trivial, go M _ ev.symm hR hS⟩
        · rw [if_neg q3] at ev
          have e3 : ¬ nI (q - p) < 5 := zI_nlt (b := 5) (by omega) (by omega)
          repeat (first | with_reducible refine zR.hold (pc := 52) ?_ | ((with_reducible refine zR.stored ?_); dsimp only [zsto, zclr, zset, zget, zc2, cond_false, cond_true]) | ((with_reducible refine zR.atLit ?_); first | refine zR.step rfl ?_ | refine zR.getf rfl hR.po rfl ?_ | refine zR.cv rfl rfl rfl hR.1 rfl rfl (zCalP.of (c_byteAt hR hT.p (by omega)) ?_) | (refine zR.cs rfl rfl rfl rfl rfl (zCalP.of c_isLetter ?_); rw [z'])) | rw [zcc1] | rw [zcc2] | rw [zcc3] | rw [zcc4] | rw [es] | rw [zn1 (e3)] | rw [zn2 (e3)] | rw [zn3 (e3)] | rw [zn4 (e3)])
          exact ⟨trivial, go M _ ev.symm hR hS⟩
      · rw [if_neg z] at hQ
        have z' := isLt_n z
        refine zR.step rfl ?_
        repeat (first | with_reducible refine zR.hold (pc := 80) ?_ | ((with_reducible refine zR.stored ?_); dsimp only [zsto, zclr, zset, zget, zc2, cond_false, cond_true]) | ((with_reducible refine zR.atLit ?_); first | refine zR.step rfl ?_ | refine zR.getf rfl hR.po rfl ?_ | refine zR.cv rfl rfl rfl hR.1 rfl rfl (zCalP.of (c_byteAt hR hT.p (by omega)) ?_) | (refine zR.cs rfl rfl rfl rfl rfl (zCalP.of c_isLetter ?_); rw [z'])) | rw [zcc1] | rw [zcc2] | rw [zcc3] | rw [zcc4])
        exact ⟨trivial, hQ M hR hS⟩
  have le := run_le (P := isLt) (β := β) (L - p) p
  have le1 : p + 1 ≤ leF β L p := by
    unfold leF
    rw [show L - p = (L - p - 1) + 1 by omega, runF, if_pos hlt]
    exact (run_le _ _).1
  have hle : leF β L p ≤ p + (L - p) := le.2
  have hall : ∀ q, p ≤ q → q < leF β L p → isLt (β q) = true := fun q a b => run_all (L - p) p q a b
  have es : nI (leF β L p) - nI p = nI (leF β L p - p) := zI_sub (by omega) (by omega)
  have lp0 := fun Q M => lp Q (L - p) p M (Nat.le_refl _) (by omega)
  rw [Nat.sub_self] at lp0
  show zR ztb _ kX12_letters 0 0 [some (.ref 287), none] [] _ _ _ _
  repeat (first | with_reducible refine zR.hold (pc := 2) ?_ | ((with_reducible refine zR.stored ?_); dsimp only [zsto, zclr, zset, zget, zc2, cond_false, cond_true]) | ((with_reducible refine zR.atLit ?_); first | refine zR.step rfl ?_) | rw [zcc1] | rw [zcc2] | rw [zcc3] | rw [zcc4])
  refine ⟨trivial, lp0 _ M hR hS (fun M2 hR hS => ?_)⟩
  change Rf M2 (pst σ fk fp (nI (leF β L p)) tk va (nI p) nt lm cd l8 l9) at hR
  change zR ztb (d + 2) kX12_letters 0 80 [some (.ref 287), some (.int (hsR β p (leF β L p - p)))] [] n w M2 _
  have fin : ¬ crP β L p → ∀ M2, Rf M2 (pst σ fk fp (nI (leF β L p)) tk va (nI p) nt lm cd l8 l9) → Sm M0 M2 → zR ztb (d + 2) kX12_letters 0 130 [some (.ref 287), some (.int (hsR β p (leF β L p - p)))] [] n w M2 (fun v n' w' M' => v = none ∧ n = n' ∧ w = w' ∧ Sm M0 M' ∧ ∃ tk' va', (if crP β L p then tk' = 3 ∧ va' = β (leF β L p) - 48 ∧ Rf M' (pst σ fk fp (nI (leF β L p + 1)) tk' va' (nI p) nt lm cd l8 l9) else if keyK β p (leF β L p) = 1 then Rf M' (pst σ 1 (nI p) (nI (leF β L p)) 0 va' (nI p) nt lm cd l8 l9) else (∃ i, i < 10 ∧ keyK β p (leF β L p) = nI (10 + i) ∧ tk' = 2 ∧ va' = nI i) ∧ Rf M' (pst σ fk fp (nI (leF β L p)) tk' va' (nI p) nt lm cd l8 l9))) := by
    intro hnc M2 hR hS
    repeat (first | ((with_reducible refine zR.stored ?_); dsimp only [zsto, zclr, zset, zget, zc2, cond_false, cond_true]) | ((with_reducible refine zR.atLit ?_); first | refine zR.step rfl ?_) | rw [zcc1] | rw [zcc2] | rw [zcc3] | rw [zcc4])
    refine zR.pt16 hR hS rfl (fun M3 hR hS => ?_)
    by_cases q5 : 5 < leF β L p - p
    · have e5 : (5 : Int32) < nI (leF β L p - p) := zI_ylt (a := 5) q5 (by omega)
      have hk1 := key_long (β := β) q5
      repeat (first | ((with_reducible refine zR.stored ?_); dsimp only [zsto, zclr, zset, zget, zc2, cond_false, cond_true]) | ((with_reducible refine zR.atLit ?_); first | refine zR.step rfl ?_ | refine zR.getf rfl hR.po rfl ?_) | rw [zcc1] | rw [zcc2] | rw [zcc3] | rw [zcc4] | rw [es] | rw [zb1 (e5)] | rw [zb2 (e5)] | rw [zb3 (e5)] | rw [zb4 (e5)])
      refine zR.pt17 hR hS rfl (fun M4 hR hS => ?_)
      repeat (first | ((with_reducible refine zR.stored ?_); dsimp only [zsto, zclr, zset, zget, zc2, cond_false, cond_true]) | ((with_reducible refine zR.atLit ?_); first | refine zR.step rfl ?_ | refine zR.getf rfl hR.po rfl ?_) | rw [zcc1] | rw [zcc2] | rw [zcc3] | rw [zcc4] | rw [zb1 (by decide)] | rw [zb2 (by decide)] | rw [zb3 (by decide)] | rw [zb4 (by decide)] | rw [zn1 (by decide)] | rw [zn2 (by decide)] | rw [zn3 (by decide)] | rw [zn4 (by decide)] | rw [ze1 (by decide)] | rw [ze2 (by decide)] | rw [zd1 (by decide)] | rw [zd2 (by decide)] | rw [zswy (by decide)] | rw [zswn (by decide)] | rw [zsw0])
      refine zR.cv rfl rfl rfl hR.1 rfl rfl (zR.mono (c_cannot_l hR hS hf) (fun v n1 w1 M5 hv => ?_))
      obtain ⟨rfl, rfl, rfl, hS, hR⟩ := hv
      repeat (first | ((with_reducible refine zR.stored ?_); dsimp only [zsto, zclr, zset, zget, zc2, cond_false, cond_true]) | ((with_reducible refine zR.atLit ?_); first | refine zR.step rfl ?_) | rw [zcc1] | rw [zcc2] | rw [zcc3] | rw [zcc4])
      refine zR.ret rfl rfl ⟨rfl, rfl, rfl, hS, 0, -1, ?_⟩
      rw [if_neg hnc, if_pos hk1]
      exact hR
    · have e5 : ¬ (5 : Int32) < nI (leF β L p - p) := zI_nlt (a := 5) (b := leF β L p - p) (by omega) (by omega)
      obtain ⟨kr, -⟩ := key_rel (β := β) (p := p) (e := leF β L p) (by omega) (by omega) hall
      repeat (first | ((with_reducible refine zR.stored ?_); dsimp only [zsto, zclr, zset, zget, zc2, cond_false, cond_true]) | ((with_reducible refine zR.atLit ?_); first | refine zR.step rfl ?_ | refine zR.getf rfl hR.po rfl ?_ | refine zR.cv rfl rfl rfl hR.1 rfl rfl (zCalP.of (c_keyOfR _) ?_)) | rw [zcc1] | rw [zcc2] | rw [zcc3] | rw [zcc4] | rw [es] | rw [zn1 (e5)] | rw [zn2 (e5)] | rw [zn3 (e5)] | rw [zn4 (e5)])
      refine zR.pt17 hR hS rfl (fun M4 hR hS => ?_)
      rcases kr with ⟨k1, k2⟩ | ⟨i, hi, k1, k2⟩
      · rw [k1] at hR
        repeat (first | ((with_reducible refine zR.stored ?_); dsimp only [zsto, zclr, zset, zget, zc2, cond_false, cond_true]) | ((with_reducible refine zR.atLit ?_); first | refine zR.step rfl ?_ | refine zR.getf rfl hR.po rfl ?_) | rw [zcc1] | rw [zcc2] | rw [zcc3] | rw [zcc4] | rw [zb1 (by decide)] | rw [zb2 (by decide)] | rw [zb3 (by decide)] | rw [zb4 (by decide)] | rw [zn1 (by decide)] | rw [zn2 (by decide)] | rw [zn3 (by decide)] | rw [zn4 (by decide)] | rw [ze1 (by decide)] | rw [ze2 (by decide)] | rw [zd1 (by decide)] | rw [zd2 (by decide)] | rw [zswy (by decide)] | rw [zswn (by decide)] | rw [zsw0])
        refine zR.cv rfl rfl rfl hR.1 rfl rfl (zR.mono (c_cannot_l hR hS hf) (fun v n1 w1 M5 hv => ?_))
        obtain ⟨rfl, rfl, rfl, hS, hR⟩ := hv
        repeat (first | ((with_reducible refine zR.stored ?_); dsimp only [zsto, zclr, zset, zget, zc2, cond_false, cond_true]) | ((with_reducible refine zR.atLit ?_); first | refine zR.step rfl ?_) | rw [zcc1] | rw [zcc2] | rw [zcc3] | rw [zcc4])
        refine zR.ret rfl rfl ⟨rfl, rfl, rfl, hS, 0, -1, ?_⟩
        rw [if_neg hnc, if_pos k2]
        exact hR
      · rw [k1] at hR
        have em : ¬ nI i = -1 := zI_m1 (by omega)
        repeat (first | ((with_reducible refine zR.stored ?_); dsimp only [zsto, zclr, zset, zget, zc2, cond_false, cond_true]) | ((with_reducible refine zR.atLit ?_); first | refine zR.step rfl ?_ | refine zR.getf rfl hR.po rfl ?_) | rw [zcc1] | rw [zcc2] | rw [zcc3] | rw [zcc4] | rw [zd1 (em)] | rw [zd2 (em)])
        refine zR.ret rfl rfl ⟨rfl, rfl, rfl, hS, 2, nI i, ?_⟩
        rw [if_neg hnc, if_neg (by rw [k2]; exact fun z => by have := zn_inj (a := 10 + i) (b := 1) (by omega) (by omega) z; omega)]
        exact ⟨⟨i, hi, k2, rfl, rfl⟩, hR⟩
  have w3 : hsR β p (leF β L p - p) = 3 ↔ leF β L p = p + 1 ∧ β p = 99 := by
    by_cases q5 : leF β L p - p ≤ 5
    · exact (key_rel (by omega) q5 hall).2
    · constructor
      · intro z
        rw [show leF β L p - p = (leF β L p - p - 1) + 1 by omega, hsR, if_neg (by omega)] at z
        exact absurd z (by decide)
      · intro z
        omega
  by_cases q1 : hsR β p (leF β L p - p) = 3
  · obtain ⟨c1, c2⟩ := w3.mp q1
    by_cases q2 : isDg (β (leF β L p)) = true
    · have z' := isDg_y q2
      repeat (first | ((with_reducible refine zR.stored ?_); dsimp only [zsto, zclr, zset, zget, zc2, cond_false, cond_true]) | ((with_reducible refine zR.atLit ?_); first | refine zR.step rfl ?_ | refine zR.getf rfl hR.po rfl ?_ | refine zR.cv rfl rfl rfl hR.1 rfl rfl (zCalP.of (c_byteAt hR hT.p (by omega)) ?_) | (refine zR.cs rfl rfl rfl rfl rfl (zCalP.of c_isDigit ?_); rw [z'])) | rw [zcc1] | rw [zcc2] | rw [zcc3] | rw [zcc4] | rw [ze1 (q1)] | rw [ze2 (q1)])
      refine zR.pt16 hR hS rfl (fun M3 hR hS => ?_)
      repeat (first | ((with_reducible refine zR.stored ?_); dsimp only [zsto, zclr, zset, zget, zc2, cond_false, cond_true]) | ((with_reducible refine zR.atLit ?_); first | refine zR.step rfl ?_ | refine zR.getf rfl hR.po rfl ?_ | refine zR.cv rfl rfl rfl hR.1 rfl rfl (zCalP.of (c_byteAt hR hT.p (by omega)) ?_)) | rw [zcc1] | rw [zcc2] | rw [zcc3] | rw [zcc4])
      refine zR.pt17 hR hS rfl (fun M4 hR hS => ?_)
      repeat (first | ((with_reducible refine zR.stored ?_); dsimp only [zsto, zclr, zset, zget, zc2, cond_false, cond_true]) | ((with_reducible refine zR.atLit ?_); first | refine zR.step rfl ?_ | refine zR.getf rfl hR.po rfl ?_) | rw [zcc1] | rw [zcc2] | rw [zcc3] | rw [zcc4])
      refine zR.pt15 hR hS rfl (fun M5 hR hS => ?_)
      rw [zI_s] at hR
      repeat (first | ((with_reducible refine zR.stored ?_); dsimp only [zsto, zclr, zset, zget, zc2, cond_false, cond_true]) | ((with_reducible refine zR.atLit ?_); first | refine zR.step rfl ?_) | rw [zcc1] | rw [zcc2] | rw [zcc3] | rw [zcc4])
      refine zR.ret rfl rfl ⟨rfl, rfl, rfl, hS, 3, β (leF β L p) - 48, ?_⟩
      rw [if_pos ⟨c1, c2, q2⟩]
      exact ⟨rfl, rfl, hR⟩
    · have z' := isDg_n q2
      repeat (first | with_reducible refine zR.hold (pc := 130) ?_ | ((with_reducible refine zR.stored ?_); dsimp only [zsto, zclr, zset, zget, zc2, cond_false, cond_true]) | ((with_reducible refine zR.atLit ?_); first | refine zR.step rfl ?_ | refine zR.getf rfl hR.po rfl ?_ | refine zR.cv rfl rfl rfl hR.1 rfl rfl (zCalP.of (c_byteAt hR hT.p (by omega)) ?_) | (refine zR.cs rfl rfl rfl rfl rfl (zCalP.of c_isDigit ?_); rw [z'])) | rw [zcc1] | rw [zcc2] | rw [zcc3] | rw [zcc4] | rw [ze1 (q1)] | rw [ze2 (q1)])
      exact ⟨trivial, fin (fun z => q2 z.2.2) M2 hR hS⟩
  · repeat (first | with_reducible refine zR.hold (pc := 130) ?_ | ((with_reducible refine zR.stored ?_); dsimp only [zsto, zclr, zset, zget, zc2, cond_false, cond_true]) | ((with_reducible refine zR.atLit ?_); first | refine zR.step rfl ?_) | rw [zcc1] | rw [zcc2] | rw [zcc3] | rw [zcc4] | rw [zd1 (q1)] | rw [zd2 (q1)])
    exact ⟨trivial, fin (fun z => q1 (w3.mpr ⟨z.1, z.2.1⟩)) M2 hR hS⟩
end
