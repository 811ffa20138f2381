
/-! lines: the reference's reader, its state. -/
def EV (σ : mS) (β : Nat → Int32) (L m c : Nat) : Prop := TE (kdF β L) (stF β L) m ∧ (∀ q, kdF β L q = 3 → ∃ x, x < 10 ∧ vaF β L q = nI x) ∧ σ 0 2 = nI c ∧ c ≤ 8 ∧ RT σ β L ∧ ∀ q, q ≤ m → psF β L q ≤ L
/-- a step as the reference writes it -/
def cvR (s : gStp) : gStp := if s.1 = 15 then (10, 0, 0, 0) else if s.1 = 13 then (11, 0, 0, 0) else if s.1 = 14 then (12, 0, 0, 0) else (s.2.1 - 10, s.2.2.1, s.1 + 56, s.2.2.2)
def CL (g : Nat → Int32) (l : List gStp) : Prop := ∀ k, k < l.length → ∃ s, l[k]? = some s ∧ g (4 * k) = (cvR s).1 ∧ g (4 * k + 1) = (cvR s).2.1 ∧ g (4 * k + 2) = (cvR s).2.2.1 ∧ g (4 * k + 3) = (cvR s).2.2.2
theorem CL.add {g : Nat → Int32} {l : List gStp} (h : CL g l) (s : gStp) : CL (zuf (zuf (zuf (zuf g (4 * l.length) (cvR s).1) (4 * l.length + 1) (cvR s).2.1) (4 * l.length + 2) (cvR s).2.2.1) (4 * l.length + 3) (cvR s).2.2.2) (l ++ [s]) := by
  intro k hk
  rw [List.length_append] at hk
  by_cases e : k = l.length
  · subst e
    rw [List.getElem?_append_right (Nat.le_refl _), Nat.sub_self]
    refine ⟨s, rfl, ?_, ?_, ?_, ?_⟩
    · rw [zuf_ne _ _ (by omega), zuf_ne _ _ (by omega), zuf_ne _ _ (by omega), zuf_self]
    · rw [zuf_ne _ _ (by omega), zuf_ne _ _ (by omega), zuf_self]
    · rw [zuf_ne _ _ (by omega), zuf_self]
    · rw [zuf_self]
  · have hk' : k < l.length := by
      have : k < l.length + 1 := hk
      omega
    rw [List.getElem?_append_left hk']
    obtain ⟨t, a, b⟩ := h k hk'
    refine ⟨t, a, ?_⟩
    rw [zuf_ne _ _ (by omega), zuf_ne _ _ (by omega), zuf_ne _ _ (by omega), zuf_ne _ _ (by omega), zuf_ne _ _ (by omega), zuf_ne _ _ (by omega), zuf_ne _ _ (by omega), zuf_ne _ _ (by omega), zuf_ne _ _ (by omega), zuf_ne _ _ (by omega), zuf_ne _ _ (by omega), zuf_ne _ _ (by omega), zuf_ne _ _ (by omega), zuf_ne _ _ (by omega), zuf_ne _ _ (by omega), zuf_ne _ _ (by omega)]
    exact b
section
variable (M0 : zM) (σ : mS) (β : Nat → Int32) (L c : Nat) (nt lm : Int32) (l8 : Nat → Int32)
/-- it reads on, at token i, with the steps l -/
def Lv (i : Nat) (l : List gStp) (M : zM) : Prop := ∃ at_ tk va l9, TV (kdF β L i) (vaF β L i) tk va ∧ (kdF β L i = 0 ∨ at_ = nI (psF β L (i + 1))) ∧ CL l9 l ∧ Rf M (pst σ (fkP (kdF β L) (vaF β L) (stF β L) (nI c) i).1 (fkP (kdF β L) (vaF β L) (stF β L) (nI c) i).2 at_ tk va (nI (stF β L i)) nt lm (nI l.length) l8 l9)
/-- it has found a fault in form at p -/
def Dd (p k : Nat) (M : zM) : Prop := ∃ at_ va bg l9, Rf M (pst σ 1 (nI p) at_ 0 va bg nt lm (nI k) l8 l9)
def GS (i0 : Nat) (l0 : List gStp) (r : gRes) (M : zM) : Prop := Sm M0 M ∧ ((r.1 = true ∧ ¬ kdF β L r.2.1 = 1 ∧ Lv σ β L c nt lm l8 r.2.1 r.2.2 M) ∨ (¬ (r.1 = true ∧ ¬ kdF β L r.2.1 = 1) ∧ ∃ k, 2 * k + stF β L i0 ≤ 2 * l0.length + stF β L r.2.1 ∧ Dd σ nt lm l8 (stF β L r.2.1) k M))
end
section
variable {M0 M : zM} {σ : mS} {β : Nat → Int32} {L m c i : Nat} {nt lm : Int32} {l8 : Nat → Int32} {i0 : Nat} {l0 l : List gStp} {r : gRes} {d n w : Nat}
theorem fk_n1 (hE : EV σ β L m c) (hi : i ≤ m + 1) : ¬ (fkP (kdF β L) (vaF β L) (stF β L) (nI c) i).1 = 1 := by
  rcases fk_or (V := vaF β L) (cc := nI c) hE.1 i hi with z | ⟨z, -⟩
  · rw [z]
    exact fun h => absurd (show (0 : Int32) = 1 from h) (by decide)
  · rw [z]
    decide
theorem fk_st (h : ¬ kdF β L i = 3) : fkP (kdF β L) (vaF β L) (stF β L) (nI c) (i + 1) = fkP (kdF β L) (vaF β L) (stF β L) (nI c) i := by
  rw [fkP, if_neg (fun z => h z.2.1)]
theorem GS.wk {j : Nat} (h : GS M0 σ β L c nt lm l8 j l0 r M) (hj : stF β L i0 ≤ stF β L j) : GS M0 σ β L c nt lm l8 i0 l0 r M := by
  obtain ⟨a, b | ⟨b, k, e, f⟩⟩ := h
  · exact ⟨a, Or.inl b⟩
  · exact ⟨a, Or.inr ⟨b, k, by omega, f⟩⟩
theorem GS.tr {r' : gRes} (hg : GD (stF β L) m i0 l0 r) (h : GS M0 σ β L c nt lm l8 r.2.1 r.2.2 r' M) : GS M0 σ β L c nt lm l8 i0 l0 r' M := by
  obtain ⟨g1, g2, g3, g4⟩ := hg
  obtain ⟨a, b | ⟨b, k, e, f⟩⟩ := h
  · exact ⟨a, Or.inl b⟩
  · exact ⟨a, Or.inr ⟨b, k, by omega, f⟩⟩
theorem c_isKeyS (h : GS M0 σ β L c nt lm l8 i0 l0 r M) {k : Nat} (hk : k < 10) : zCall d 158 [.ref 287, .int (nI k)] n w M (some (.int (if r.1 = true ∧ kdF β L r.2.1 = nI (10 + k) then 1 else 0))) n w M := by
  intro Q hQ
  obtain ⟨hS, ⟨hr, h1, at_, tk, va, l9, hV, -, -, hR⟩ | ⟨hn, q, -, at_, va, bg, l9, hR⟩⟩ := h
  · by_cases e : kdF β L r.2.1 = nI (10 + k)
    · rw [if_pos ⟨hr, e⟩] at hQ
      have hx : tk = 2 ∧ va = nI k := by
        rw [e] at hV
        rcases hV with z | z | z | z | z | z | z | z | ⟨i, hi, z1, z2, z3⟩
        all_goals first | (exfalso; have y := z.1; first | exact absurd (zn_inj (b := 0) (by omega) (by omega) y) (by omega) | exact absurd (zn_inj (b := 2) (by omega) (by omega) y) (by omega) | exact absurd (zn_inj (b := 3) (by omega) (by omega) y) (by omega) | exact absurd (zn_inj (b := 4) (by omega) (by omega) y) (by omega) | exact absurd (zn_inj (b := 5) (by omega) (by omega) y) (by omega) | exact absurd (zn_inj (b := 6) (by omega) (by omega) y) (by omega) | exact absurd (zn_inj (b := 7) (by omega) (by omega) y) (by omega) | exact absurd (zn_inj (b := 8) (by omega) (by omega) y) (by omega)) | skip
        have := zn_inj (by omega) (by omega) z1
        exact ⟨z2, by rw [z3, show i = k by omega]⟩
      obtain ⟨rfl, rfl⟩ := hx
      have er : nI k = nI k := rfl
      show zR ztb _ kX12_isKey 2 0 [some (.ref 287), some (.int (nI k))] [] _ _ _ _
      repeat (first | ((with_reducible refine zR.stored ?_); dsimp only [zsto, zclr, zset, zget, zc2, cond_false, cond_true]) | ((with_reducible refine zR.atLit ?_); first | refine zR.step rfl ?_ | refine zR.getf rfl hR.po rfl ?_) | rw [zcc1] | rw [zcc2] | rw [zcc3] | rw [zcc4] | rw [ze1 (er)] | rw [ze2 (er)] | rw [zb1 (by decide)] | rw [zb2 (by decide)] | rw [zb3 (by decide)] | rw [zb4 (by decide)] | rw [zn1 (by decide)] | rw [zn2 (by decide)] | rw [zn3 (by decide)] | rw [zn4 (by decide)] | rw [ze1 (by decide)] | rw [ze2 (by decide)] | rw [zd1 (by decide)] | rw [zd2 (by decide)] | rw [zswy (by decide)] | rw [zswn (by decide)] | rw [zsw0])
      exact zR.ret rfl rfl hQ
    · rw [if_neg (fun z => e z.2)] at hQ
      show zR ztb _ kX12_isKey 2 0 [some (.ref 287), some (.int (nI k))] [] _ _ _ _
      by_cases t : tk = 2
      · have hv : ¬ va = nI k := by
          intro hv
          rcases hV with z | z | z | z | z | z | z | z | ⟨i, hi, z1, z2, z3⟩
          · rw [z.2] at t; exact absurd t (by decide)
          · rw [z.2.1] at t; exact absurd t (by decide)
          · rw [z.2.1] at t; exact absurd t (by decide)
          · rw [z.2.1] at t; exact absurd t (by decide)
          · rw [z.2.1] at t; exact absurd t (by decide)
          · rw [z.2.1] at t; exact absurd t (by decide)
          · rw [z.2.1] at t; exact absurd t (by decide)
          · rw [z.2.1] at t; exact absurd t (by decide)
          · rw [z3] at hv
            have := zn_inj (by omega) (by omega) hv
            exact e (by rw [z1, this])
        repeat (first | ((with_reducible refine zR.stored ?_); dsimp only [zsto, zclr, zset, zget, zc2, cond_false, cond_true]) | ((with_reducible refine zR.atLit ?_); first | refine zR.step rfl ?_ | refine zR.getf rfl hR.po rfl ?_) | rw [zcc1] | rw [zcc2] | rw [zcc3] | rw [zcc4] | rw [ze1 (t)] | rw [ze2 (t)] | rw [zd1 (hv)] | rw [zd2 (hv)])
        exact zR.ret rfl rfl hQ
      · repeat (first | ((with_reducible refine zR.stored ?_); dsimp only [zsto, zclr, zset, zget, zc2, cond_false, cond_true]) | ((with_reducible refine zR.atLit ?_); first | refine zR.step rfl ?_ | refine zR.getf rfl hR.po rfl ?_) | rw [zcc1] | rw [zcc2] | rw [zcc3] | rw [zcc4] | rw [zd1 (t)] | rw [zd2 (t)])
        exact zR.ret rfl rfl hQ
  · have e : ¬ (r.1 = true ∧ kdF β L r.2.1 = nI (10 + k)) := fun z => hn ⟨z.1, fun y => by
      rw [z.2] at y
      have := zn_inj (b := 1) (by omega) (by omega) y
      omega⟩
    rw [if_neg e] at hQ
    show zR ztb _ kX12_isKey 2 0 [some (.ref 287), some (.int (nI k))] [] _ _ _ _
    repeat (first | ((with_reducible refine zR.stored ?_); dsimp only [zsto, zclr, zset, zget, zc2, cond_false, cond_true]) | ((with_reducible refine zR.atLit ?_); first | refine zR.step rfl ?_ | refine zR.getf rfl hR.po rfl ?_) | rw [zcc1] | rw [zcc2] | rw [zcc3] | rw [zcc4] | rw [zb1 (by decide)] | rw [zb2 (by decide)] | rw [zb3 (by decide)] | rw [zb4 (by decide)] | rw [zn1 (by decide)] | rw [zn2 (by decide)] | rw [zn3 (by decide)] | rw [zn4 (by decide)] | rw [ze1 (by decide)] | rw [ze2 (by decide)] | rw [zd1 (by decide)] | rw [zd2 (by decide)] | rw [zswy (by decide)] | rw [zswn (by decide)] | rw [zsw0])
    exact zR.ret rfl rfl hQ
end
