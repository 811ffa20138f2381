
/-! lines: the reference's next token, all of it. -/
section
variable {M0 : zM} {σ : mS} {β : Nat → Int32} {L : Nat} {d n w : Nat} {fk fp nt lm cd : Int32} {l8 l9 : Nat → Int32}
/-- what next leaves behind: s is where the token begins -/
def NX (M0 : zM) (σ : mS) (β : Nat → Int32) (L s : Nat) (fk fp nt lm cd : Int32) (l8 l9 : Nat → Int32) (M' : zM) : Prop := Sm M0 M' ∧ ∃ at' tk' va', (if (tkF β L s).1 = 1 then Rf M' (pst σ 1 (nI s) at' 0 va' (nI s) nt lm cd l8 l9) else TV (tkF β L s).1 (tkF β L s).2.1 tk' va' ∧ ((tkF β L s).1 = 0 ∨ at' = nI (tkF β L s).2.2) ∧ Rf M' (pst σ fk fp at' tk' va' (nI s) nt lm cd l8 l9))
theorem c_next_d {M : zM} {fp at_ tk va bg nt lm cd : Int32} (hR : Rf M (pst σ 1 fp at_ tk va bg nt lm cd l8 l9)) : zCall d 153 [.ref 287] n w M none n w M := by
  intro Q hQ
  show zR ztb _ kX12_next 0 0 [some (.ref 287), none] [] _ _ _ _
  repeat (first | ((with_reducible refine zR.stored ?_); dsimp only [zsto, zclr, zset, zget, zc2, cond_false, cond_true]) | ((with_reducible refine zR.atLit ?_); first | refine zR.step rfl ?_ | refine zR.getf rfl hR.po rfl ?_) | rw [zcc1] | rw [zcc2] | rw [zcc3] | rw [zcc4] | rw [zb1 (by decide)] | rw [zb2 (by decide)] | rw [zb3 (by decide)] | rw [zb4 (by decide)] | rw [zn1 (by decide)] | rw [zn2 (by decide)] | rw [zn3 (by decide)] | rw [zn4 (by decide)] | rw [ze1 (by decide)] | rw [ze2 (by decide)] | rw [zd1 (by decide)] | rw [zd2 (by decide)] | rw [zswy (by decide)] | rw [zswn (by decide)] | rw [zsw0])
  exact zR.ret rfl rfl hQ
theorem nx_at {M : zM} {tk va bg : Int32} {s : Nat} (hT : RT σ β L) (hR : Rf M (pst σ fk fp (nI s) tk va bg nt lm cd l8 l9)) (hS : Sm M0 M) (hf : ¬ fk = 1) (hs : s ≤ L) : zR ztb (d + 3) kX12_next 0 35 [some (.ref 287), none] [] n w M (fun v n' w' M' => v = none ∧ n = n' ∧ w = w' ∧ NX M0 σ β L s fk fp nt lm cd l8 l9 M') := by
  have hL : L ≤ 200 := hT.2.2.2.2
  unfold NX
  repeat (first | ((with_reducible refine zR.stored ?_); dsimp only [zsto, zclr, zset, zget, zc2, cond_false, cond_true]) | ((with_reducible refine zR.atLit ?_); first | refine zR.step rfl ?_ | refine zR.getf rfl hR.po rfl ?_) | rw [zcc1] | rw [zcc2] | rw [zcc3] | rw [zcc4])
  refine zR.pt18 hR hS rfl (fun M1 hR hS => ?_)
  repeat (first | ((with_reducible refine zR.stored ?_); dsimp only [zsto, zclr, zset, zget, zc2, cond_false, cond_true]) | ((with_reducible refine zR.atLit ?_); first | refine zR.step rfl ?_ | refine zR.getf rfl hR.po rfl ?_ | refine zR.cv rfl rfl rfl hR.1 rfl rfl (zCalP.of (c_byteAt hR hT.p (by omega)) ?_)) | rw [zcc1] | rw [zcc2] | rw [zcc3] | rw [zcc4])
  by_cases qL : s = L
  · have e : β s = -1 := hT.2.2.2.1 s (by omega)
    have et : tkF β L s = (0, 0, s + 1) := by
      unfold tkF
      rw [if_neg (show ¬ isLt (β s) = true by rw [e]; decide), if_neg (show ¬ isDg (β s) = true by rw [e]; decide), show sgK (β s) = 0 by rw [e]; rfl]
    rw [et]
    repeat (first | ((with_reducible refine zR.stored ?_); dsimp only [zsto, zclr, zset, zget, zc2, cond_false, cond_true]) | ((with_reducible refine zR.atLit ?_); first | refine zR.step rfl ?_) | rw [zcc1] | rw [zcc2] | rw [zcc3] | rw [zcc4] | rw [ze1 (e)] | rw [ze2 (e)])
    refine zR.pt16 hR hS rfl (fun M2 hR hS => ?_)
    repeat (first | ((with_reducible refine zR.stored ?_); dsimp only [zsto, zclr, zset, zget, zc2, cond_false, cond_true]) | ((with_reducible refine zR.atLit ?_); first | refine zR.step rfl ?_) | rw [zcc1] | rw [zcc2] | rw [zcc3] | rw [zcc4])
    refine zR.ret rfl rfl ⟨rfl, rfl, rfl, hS, nI s, 0, va, ?_⟩
    dsimp only
    rw [if_neg (by decide)]
    exact ⟨Or.inl ⟨rfl, rfl⟩, Or.inl rfl, hR⟩
  · have hlt : s < L := by omega
    obtain ⟨b, hb, -, hb2⟩ := hT.2.2.1 s hlt
    have em : ¬ β s = -1 := by rw [hb]; exact zI_m1 (by omega)
    by_cases q1 : isLt (β s) = true
    · have z := isLt_y q1
      repeat (first | ((with_reducible refine zR.stored ?_); dsimp only [zsto, zclr, zset, zget, zc2, cond_false, cond_true]) | ((with_reducible refine zR.atLit ?_); first | refine zR.step rfl ?_ | (refine zR.cs rfl rfl rfl rfl rfl (zCalP.of c_isLetter ?_); rw [z])) | rw [zcc1] | rw [zcc2] | rw [zcc3] | rw [zcc4] | rw [zd1 (em)] | rw [zd2 (em)])
      refine zR.cv rfl rfl rfl hR.1 rfl rfl (zR.mono (c_lettersR hT hR hS hf hlt q1) (fun v n1 w1 M2 hv => ?_))
      obtain ⟨rfl, rfl, rfl, hS, tk', va', hK⟩ := hv
      repeat (first | ((with_reducible refine zR.stored ?_); dsimp only [zsto, zclr, zset, zget, zc2, cond_false, cond_true]) | ((with_reducible refine zR.atLit ?_); first | refine zR.step rfl ?_) | rw [zcc1] | rw [zcc2] | rw [zcc3] | rw [zcc4])
      refine zR.ret rfl rfl ⟨rfl, rfl, rfl, hS, ?_⟩
      by_cases qc : crP β L s
      · rw [if_pos qc] at hK
        obtain ⟨k1, k2, k3⟩ := hK
        have et : tkF β L s = (3, β (leF β L s) - 48, leF β L s + 1) := by
          unfold tkF
          rw [if_pos q1, if_pos qc]
        rw [et]
        refine ⟨nI (leF β L s + 1), tk', va', ?_⟩
        dsimp only
        rw [if_neg (by decide)]
        exact ⟨Or.inr (Or.inr (Or.inl ⟨rfl, k1, k2⟩)), Or.inr rfl, k3⟩
      · rw [if_neg qc] at hK
        have et : tkF β L s = (keyK β s (leF β L s), 0, leF β L s) := by
          unfold tkF
          rw [if_pos q1, if_neg qc]
        rw [et]
        refine ⟨nI (leF β L s), tk', va', ?_⟩
        dsimp only
        by_cases qk : keyK β s (leF β L s) = 1
        · rw [if_pos qk] at hK
          rw [if_pos qk]
          exact hK
        · rw [if_neg qk] at hK
          rw [if_neg qk]
          exact ⟨Or.inr (Or.inr (Or.inr (Or.inr (Or.inr (Or.inr (Or.inr (Or.inr hK.1))))))), Or.inr rfl, hK.2⟩
    · have z := isLt_n q1
      by_cases q2 : isDg (β s) = true
      · have z2 := isDg_y q2
        repeat (first | ((with_reducible refine zR.stored ?_); dsimp only [zsto, zclr, zset, zget, zc2, cond_false, cond_true]) | ((with_reducible refine zR.atLit ?_); first | refine zR.step rfl ?_ | (refine zR.cs rfl rfl rfl rfl rfl (zCalP.of c_isLetter ?_); rw [z]) | (refine zR.cs rfl rfl rfl rfl rfl (zCalP.of c_isDigit ?_); rw [z2])) | rw [zcc1] | rw [zcc2] | rw [zcc3] | rw [zcc4] | rw [zd1 (em)] | rw [zd2 (em)])
        refine zR.cv rfl rfl rfl hR.1 rfl rfl (zR.mono (c_digitsR hT hR hS hf hs) (fun v n1 w1 M2 hv => ?_))
        obtain ⟨rfl, rfl, rfl, hS, va', hK⟩ := hv
        repeat (first | ((with_reducible refine zR.stored ?_); dsimp only [zsto, zclr, zset, zget, zc2, cond_false, cond_true]) | ((with_reducible refine zR.atLit ?_); first | refine zR.step rfl ?_) | rw [zcc1] | rw [zcc2] | rw [zcc3] | rw [zcc4])
        refine zR.ret rfl rfl ⟨rfl, rfl, rfl, hS, nI (dgF β L s), 1, va', ?_⟩
        by_cases q3 : 3 < dgF β L s - s
        · have et : tkF β L s = (1, vlF β s (dgF β L s - s), dgF β L s) := by
            unfold tkF
            rw [if_neg q1, if_pos q2, if_pos q3]
          rw [if_pos q3] at hK
          rw [et, if_pos rfl]
          exact hK
        · have et : tkF β L s = (2, vlF β s (dgF β L s - s), dgF β L s) := by
            unfold tkF
            rw [if_neg q1, if_pos q2, if_neg q3]
          rw [if_neg q3] at hK
          rw [et]
          dsimp only
          rw [if_neg (by decide)]
          exact ⟨Or.inr (Or.inl ⟨rfl, rfl, hK.1⟩), Or.inr rfl, hK.2⟩
      · have z2 := isDg_n q2
        have et : tkF β L s = (sgK (β s), 0, s + 1) := by
          unfold tkF
          rw [if_neg q1, if_neg q2]
        rw [et]
        dsimp only
        repeat (first | ((with_reducible refine zR.stored ?_); dsimp only [zsto, zclr, zset, zget, zc2, cond_false, cond_true]) | ((with_reducible refine zR.atLit ?_); first | refine zR.step rfl ?_ | (refine zR.cs rfl rfl rfl rfl rfl (zCalP.of c_isLetter ?_); rw [z]) | (refine zR.cs rfl rfl rfl rfl rfl (zCalP.of c_isDigit ?_); rw [z2])) | rw [zcc1] | rw [zcc2] | rw [zcc3] | rw [zcc4] | rw [zd1 (em)] | rw [zd2 (em)])
        refine zR.pt16 hR hS rfl (fun M2 hR hS => ?_)
        repeat (first | ((with_reducible refine zR.stored ?_); dsimp only [zsto, zclr, zset, zget, zc2, cond_false, cond_true]) | ((with_reducible refine zR.atLit ?_); first | refine zR.step rfl ?_) | rw [zcc1] | rw [zcc2] | rw [zcc3] | rw [zcc4])
        refine zR.pt17 hR hS rfl (fun M3 hR hS => ?_)
        repeat (first | ((with_reducible refine zR.stored ?_); dsimp only [zsto, zclr, zset, zget, zc2, cond_false, cond_true]) | ((with_reducible refine zR.atLit ?_); first | refine zR.step rfl ?_ | refine zR.getf rfl hR.po rfl ?_) | rw [zcc1] | rw [zcc2] | rw [zcc3] | rw [zcc4])
        refine zR.pt15 hR hS rfl (fun M4 hR hS => ?_)
        rw [zI_s] at hR
        by_cases c0 : β s = 60
        · rw [show sgK (β s) = 4 by rw [c0]; rfl]
          repeat (first | ((with_reducible refine zR.stored ?_); dsimp only [zsto, zclr, zset, zget, zc2, cond_false, cond_true]) | ((with_reducible refine zR.atLit ?_); first | refine zR.step rfl ?_) | rw [zcc1] | rw [zcc2] | rw [zcc3] | rw [zcc4] | rw [zb1 (by decide)] | rw [zb2 (by decide)] | rw [zb3 (by decide)] | rw [zb4 (by decide)] | rw [zn1 (by decide)] | rw [zn2 (by decide)] | rw [zn3 (by decide)] | rw [zn4 (by decide)] | rw [ze1 (by decide)] | rw [ze2 (by decide)] | rw [zd1 (by decide)] | rw [zd2 (by decide)] | rw [zswy (by decide)] | rw [zswn (by decide)] | rw [zsw0] | rw [ze1 (c0)] | rw [ze2 (c0)])
          refine zR.ret rfl rfl ⟨rfl, rfl, rfl, hS, nI (s + 1), 4, β s, ?_⟩
          rw [if_neg (by decide)]
          exact ⟨Or.inr (Or.inr (Or.inr (Or.inl ⟨rfl, rfl, c0⟩))), Or.inr rfl, hR⟩
        by_cases c1 : β s = 61
        · rw [show sgK (β s) = 5 by rw [c1]; rfl]
          repeat (first | ((with_reducible refine zR.stored ?_); dsimp only [zsto, zclr, zset, zget, zc2, cond_false, cond_true]) | ((with_reducible refine zR.atLit ?_); first | refine zR.step rfl ?_) | rw [zcc1] | rw [zcc2] | rw [zcc3] | rw [zcc4] | rw [zd1 (c0)] | rw [zd2 (c0)] | rw [ze1 (c1)] | rw [ze2 (c1)])
          refine zR.ret rfl rfl ⟨rfl, rfl, rfl, hS, nI (s + 1), 4, β s, ?_⟩
          rw [if_neg (by decide)]
          exact ⟨Or.inr (Or.inr (Or.inr (Or.inr (Or.inl ⟨rfl, rfl, c1⟩)))), Or.inr rfl, hR⟩
        by_cases c2 : β s = 40
        · rw [show sgK (β s) = 6 by rw [c2]; rfl]
          repeat (first | ((with_reducible refine zR.stored ?_); dsimp only [zsto, zclr, zset, zget, zc2, cond_false, cond_true]) | ((with_reducible refine zR.atLit ?_); first | refine zR.step rfl ?_) | rw [zcc1] | rw [zcc2] | rw [zcc3] | rw [zcc4] | rw [zd1 (c0)] | rw [zd2 (c0)] | rw [zd1 (c1)] | rw [zd2 (c1)] | rw [ze1 (c2)] | rw [ze2 (c2)])
          refine zR.ret rfl rfl ⟨rfl, rfl, rfl, hS, nI (s + 1), 4, β s, ?_⟩
          rw [if_neg (by decide)]
          exact ⟨Or.inr (Or.inr (Or.inr (Or.inr (Or.inr (Or.inl ⟨rfl, rfl, c2⟩))))), Or.inr rfl, hR⟩
        by_cases c3 : β s = 41
        · rw [show sgK (β s) = 7 by rw [c3]; rfl]
          repeat (first | ((with_reducible refine zR.stored ?_); dsimp only [zsto, zclr, zset, zget, zc2, cond_false, cond_true]) | ((with_reducible refine zR.atLit ?_); first | refine zR.step rfl ?_) | rw [zcc1] | rw [zcc2] | rw [zcc3] | rw [zcc4] | rw [zd1 (c0)] | rw [zd2 (c0)] | rw [zd1 (c1)] | rw [zd2 (c1)] | rw [zd1 (c2)] | rw [zd2 (c2)] | rw [ze1 (c3)] | rw [ze2 (c3)])
          refine zR.ret rfl rfl ⟨rfl, rfl, rfl, hS, nI (s + 1), 4, β s, ?_⟩
          rw [if_neg (by decide)]
          exact ⟨Or.inr (Or.inr (Or.inr (Or.inr (Or.inr (Or.inr (Or.inl ⟨rfl, rfl, c3⟩)))))), Or.inr rfl, hR⟩
        by_cases c4 : β s = 59
        · rw [show sgK (β s) = 8 by rw [c4]; rfl]
          repeat (first | ((with_reducible refine zR.stored ?_); dsimp only [zsto, zclr, zset, zget, zc2, cond_false, cond_true]) | ((with_reducible refine zR.atLit ?_); first | refine zR.step rfl ?_) | rw [zcc1] | rw [zcc2] | rw [zcc3] | rw [zcc4] | rw [zd1 (c0)] | rw [zd2 (c0)] | rw [zd1 (c1)] | rw [zd2 (c1)] | rw [zd1 (c2)] | rw [zd2 (c2)] | rw [zd1 (c3)] | rw [zd2 (c3)] | rw [ze1 (c4)] | rw [ze2 (c4)])
          refine zR.ret rfl rfl ⟨rfl, rfl, rfl, hS, nI (s + 1), 4, β s, ?_⟩
          rw [if_neg (by decide)]
          exact ⟨Or.inr (Or.inr (Or.inr (Or.inr (Or.inr (Or.inr (Or.inr (Or.inl ⟨rfl, rfl, c4⟩))))))), Or.inr rfl, hR⟩
        have ek : sgK (β s) = 1 := by
          unfold sgK
          rw [if_neg em, if_neg c2, if_neg c3, if_neg c4, if_neg c0, if_neg c1]
        rw [ek]
        repeat (first | ((with_reducible refine zR.stored ?_); dsimp only [zsto, zclr, zset, zget, zc2, cond_false, cond_true]) | ((with_reducible refine zR.atLit ?_); first | refine zR.step rfl ?_) | rw [zcc1] | rw [zcc2] | rw [zcc3] | rw [zcc4] | rw [zd1 (c0)] | rw [zd2 (c0)] | rw [zd1 (c1)] | rw [zd2 (c1)] | rw [zd1 (c2)] | rw [zd2 (c2)] | rw [zd1 (c3)] | rw [zd2 (c3)] | rw [zd1 (c4)] | rw [zd2 (c4)])
        refine zR.cv rfl rfl rfl hR.1 rfl rfl (zR.mono (c_cannot_l hR hS hf) (fun v n1 w1 M5 hv => ?_))
        obtain ⟨rfl, rfl, rfl, hS, hR⟩ := hv
        repeat (first | ((with_reducible refine zR.stored ?_); dsimp only [zsto, zclr, zset, zget, zc2, cond_false, cond_true]) | ((with_reducible refine zR.atLit ?_); first | refine zR.step rfl ?_) | rw [zcc1] | rw [zcc2] | rw [zcc3] | rw [zcc4])
        refine zR.ret rfl rfl ⟨rfl, rfl, rfl, hS, nI (s + 1), 0, β s, ?_⟩
        rw [if_pos rfl]
        exact hR
theorem c_next {M : zM} {tk va bg : Int32} {p : Nat} (hT : RT σ β L) (hR : Rf M (pst σ fk fp (nI p) tk va bg nt lm cd l8 l9)) (hS : Sm M0 M) (hf : ¬ fk = 1) (hp : p ≤ L) : zCalP (d + 3) 153 [.ref 287] n w M (fun v n' w' M' => v = none ∧ n = n' ∧ w = w' ∧ NX M0 σ β L (skF β L p) fk fp nt lm cd l8 l9 M') := by
  have hL : L ≤ 200 := hT.2.2.2.2
  have lp : ∀ (Q : Option Value → Nat → Nat → zM → Prop) (t q : Nat) (M : zM), q + t = L → Rf M (pst σ fk fp (nI q) tk va bg nt lm cd l8 l9) → Sm M0 M → (∀ M, Rf M (pst σ fk fp (nI (runF isBl β t q)) tk va bg nt lm cd l8 l9) → Sm M0 M → zR ztb (d + 3) kX12_next 0 35 [some (.ref 287), none] [] n w M Q) → zR ztb (d + 3) kX12_next 0 9 [some (.ref 287), none] [] n w M Q := by
    intro Q t
    induction t with
    | zero =>
      intro q M hq hR hS hQ
      have z : ¬ β q = 32 := by rw [hT.2.2.2.1 q (by omega)]; decide
      refine zR.step rfl ?_
      repeat (first | with_reducible refine zR.hold (pc := 35) ?_ | ((with_reducible refine zR.stored ?_); dsimp only [zsto, zclr, zset, zget, zc2, cond_false, cond_true]) | ((with_reducible refine zR.atLit ?_); first | refine zR.step rfl ?_ | refine zR.getf rfl hR.po rfl ?_ | refine zR.cv rfl rfl rfl hR.1 rfl rfl (zCalP.of (c_byteAt hR hT.p (by omega)) ?_)) | rw [zcc1] | rw [zcc2] | rw [zcc3] | rw [zcc4] | rw [zd1 (z)] | rw [zd2 (z)])
      exact ⟨trivial, hQ M hR hS⟩
    | succ t ih =>
      intro q M hq hR hS hQ
      rw [runF] at hQ
      refine zR.step rfl ?_
      by_cases z : β q = 32
      · rw [if_pos (show isBl (β q) = true from decide_eq_true z)] at hQ
        repeat (first | ((with_reducible refine zR.stored ?_); dsimp only [zsto, zclr, zset, zget, zc2, cond_false, cond_true]) | ((with_reducible refine zR.atLit ?_); first | refine zR.step rfl ?_ | refine zR.getf rfl hR.po rfl ?_ | refine zR.cv rfl rfl rfl hR.1 rfl rfl (zCalP.of (c_byteAt hR hT.p (by omega)) ?_)) | rw [zcc1] | rw [zcc2] | rw [zcc3] | rw [zcc4] | rw [ze1 (z)] | rw [ze2 (z)])
        refine zR.pt15 hR hS rfl (fun M1 hR hS => ?_)
        rw [zI_s] at hR
        have ih' := ih (q + 1) M1 (by omega) hR hS hQ
        repeat (first | with_reducible refine zR.hold (pc := 9) ?_ | ((with_reducible refine zR.stored ?_); dsimp only [zsto, zclr, zset, zget, zc2, cond_false, cond_true]) | ((with_reducible refine zR.atLit ?_); first | refine zR.step rfl ?_) | rw [zcc1] | rw [zcc2] | rw [zcc3] | rw [zcc4])
        exact ⟨trivial, ih'⟩
      · rw [if_neg (show ¬ isBl (β q) = true from fun y => z (of_decide_eq_true y))] at hQ
        repeat (first | with_reducible refine zR.hold (pc := 35) ?_ | ((with_reducible refine zR.stored ?_); dsimp only [zsto, zclr, zset, zget, zc2, cond_false, cond_true]) | ((with_reducible refine zR.atLit ?_); first | refine zR.step rfl ?_ | refine zR.getf rfl hR.po rfl ?_ | refine zR.cv rfl rfl rfl hR.1 rfl rfl (zCalP.of (c_byteAt hR hT.p (by omega)) ?_)) | rw [zcc1] | rw [zcc2] | rw [zcc3] | rw [zcc4] | rw [zd1 (z)] | rw [zd2 (z)])
        exact ⟨trivial, hQ M hR hS⟩
  show zR ztb _ kX12_next 0 0 [some (.ref 287), none] [] _ _ _ _
  repeat (first | with_reducible refine zR.hold (pc := 9) ?_ | ((with_reducible refine zR.stored ?_); dsimp only [zsto, zclr, zset, zget, zc2, cond_false, cond_true]) | ((with_reducible refine zR.atLit ?_); first | refine zR.step rfl ?_ | refine zR.getf rfl hR.po rfl ?_) | rw [zcc1] | rw [zcc2] | rw [zcc3] | rw [zcc4] | rw [zd1 (hf)] | rw [zd2 (hf)])
  exact ⟨trivial, lp _ (L - p) p M (by omega) hR hS (fun M1 hR hS => nx_at hT hR hS hf (sk_le hp).2)⟩
end
