
/-! lines: the class reads a line. -/
section
variable {K V : Nat → Int32} {S : Nat → Nat} {m : Nat}
theorem c_readNot (hT : TE K S m) : ∀ (dl e D : Nat), dl + e = 6 → 3 * dl + 2 ≤ D → CQ K V S m D 48 [.int (nI e)] (pNot K V dl)
  | 0, e, D, he, hD => by
    intro M i l n w fk fp lc hP hK hi hl
    have h : ¬ nI e < 6 := zI_nlt (b := 6) (by omega) (by omega)
    rw [pNot]
    show zR ztb _ kX4_readNot 2 0 [some (.ref 32), some (.int (nI e))] [] _ _ _ _
    repeat (first | ((with_reducible refine zR.stored ?_); dsimp only [zsto, zclr, zset, zget, zc2, cond_false, cond_true]) | ((with_reducible refine zR.atLit ?_); first | refine zR.step rfl ?_) | rw [zcc1] | rw [zcc2] | rw [zcc3] | rw [zcc4] | rw [zn1 (h)] | rw [zn2 (h)] | rw [zn3 (h)] | rw [zn4 (h)])
    exact zR.ret rfl rfl ⟨rfl, rfl, rfl, hP, CFr.rf⟩
  | dl + 1, e, 0, he, hD => absurd hD (by omega)
  | dl + 1, e, 1, he, hD => absurd hD (by omega)
  | dl + 1, e, 2, he, hD => absurd hD (by omega)
  | dl + 1, e, D + 3, he, hD => by
    have hN := c_readNot hT dl (e + 1) (D + 2) (by omega) (by omega)
    have hg := GD.not (K := K) (V := V) (S := S) (m := m) hT dl
    have hO : CQ K V S m (D + 2) 46 [.int (nI (e + 1))] (pOr K (pNot K V dl)) := c_readOr hT (D := D + 1) (c_readAnd hT (D := D) (c_readNot hT dl (e + 1) D (by omega) (by omega)) hg) (GD.and hT hg)
    intro M i l n w fk fp lc hP hK hi hl
    have h : nI e < 6 := zI_ylt (b := 6) (by omega) (by omega)
    rw [pNot]
    show zR ztb _ kX4_readNot 2 0 [some (.ref 32), some (.int (nI e))] [] _ _ _ _
    repeat (first | ((with_reducible refine zR.stored ?_); dsimp only [zsto, zclr, zset, zget, zc2, cond_false, cond_true]) | ((with_reducible refine zR.atLit ?_); first | refine zR.step rfl ?_) | rw [zcc1] | rw [zcc2] | rw [zcc3] | rw [zcc4] | rw [zb1 (h)] | rw [zb2 (h)] | rw [zb3 (h)] | rw [zb4 (h)])
    by_cases q15 : K i = 15
    · have hk := hT.key (k := 15) hi q15 (by omega) (by omega)
      dsimp only
      rw [if_pos q15]
      refine zR.cv rfl rfl rfl hP.1 rfl rfl (acc_y hT hP hK hk.1 q15 (fun M1 hP1 hK1 hF1 => ?_))
      repeat (first | ((with_reducible refine zR.stored ?_); dsimp only [zsto, zclr, zset, zget, zc2, cond_false, cond_true]) | ((with_reducible refine zR.atLit ?_); first | refine zR.step rfl ?_) | rw [zcc1] | rw [zcc2] | rw [zcc3] | rw [zcc4] | rw [zb1 (by decide)] | rw [zb2 (by decide)] | rw [zb3 (by decide)] | rw [zb4 (by decide)] | rw [zn1 (by decide)] | rw [zn2 (by decide)] | rw [zn3 (by decide)] | rw [zn4 (by decide)] | rw [ze1 (by decide)] | rw [ze2 (by decide)] | rw [zd1 (by decide)] | rw [zd2 (by decide)] | rw [zswy (by decide)] | rw [zswn (by decide)] | rw [zsw0])
      rw [zI_s]
      refine zR.cv rfl rfl rfl hP1.1 rfl rfl (zR.mono (hN M1 _ _ _ _ _ _ _ hP1 hK1 hk.1 (by omega)) (fun v n1 w1 M2 hv => ?_))
      obtain ⟨rfl, rfl, rfl, hP2, hF2⟩ := hv
      obtain ⟨g1, g2, g3, g4⟩ := hg (i + 1) l hk.1
      have h200 := hT.2.2.2.2.2 _ g2
      unfold pSt
      cases y : (pNot K V dl (i + 1) l).1 with
      | true =>
        rw [if_pos rfl]
        repeat (first | ((with_reducible refine zR.stored ?_); dsimp only [zsto, zclr, zset, zget, zc2, cond_false, cond_true]) | ((with_reducible refine zR.atLit ?_); first | refine zR.step rfl ?_) | rw [zcc1] | rw [zcc2] | rw [zcc3] | rw [zcc4] | rw [b32_t] | rw [zb1 (by decide)] | rw [zb2 (by decide)] | rw [zb3 (by decide)] | rw [zb4 (by decide)] | rw [zn1 (by decide)] | rw [zn2 (by decide)] | rw [zn3 (by decide)] | rw [zn4 (by decide)] | rw [ze1 (by decide)] | rw [ze2 (by decide)] | rw [zd1 (by decide)] | rw [zd2 (by decide)] | rw [zswy (by decide)] | rw [zswn (by decide)] | rw [zsw0])
        refine zR.cv rfl rfl rfl hP2.1 rfl rfl (zR.mono (c_addStep hP2 (by omega) _ _ _ _) (fun v n3 w3 M3 hv => ?_))
        obtain ⟨rfl, rfl, rfl, hP3, hF3⟩ := hv
        repeat (first | ((with_reducible refine zR.stored ?_); dsimp only [zsto, zclr, zset, zget, zc2, cond_false, cond_true]) | ((with_reducible refine zR.atLit ?_); first | refine zR.step rfl ?_) | rw [zcc1] | rw [zcc2] | rw [zcc3] | rw [zcc4] | rw [zb1 (by decide)] | rw [zb2 (by decide)] | rw [zb3 (by decide)] | rw [zb4 (by decide)] | rw [zn1 (by decide)] | rw [zn2 (by decide)] | rw [zn3 (by decide)] | rw [zn4 (by decide)] | rw [ze1 (by decide)] | rw [ze2 (by decide)] | rw [zd1 (by decide)] | rw [zd2 (by decide)] | rw [zswy (by decide)] | rw [zswn (by decide)] | rw [zsw0])
        exact zR.ret rfl rfl ⟨rfl, rfl, rfl, hP3, (hF1.tr hF2).tr hF3⟩
      | false =>
        rw [if_neg (by decide)]
        repeat (first | ((with_reducible refine zR.stored ?_); dsimp only [zsto, zclr, zset, zget, zc2, cond_false, cond_true]) | ((with_reducible refine zR.atLit ?_); first | refine zR.step rfl ?_) | rw [zcc1] | rw [zcc2] | rw [zcc3] | rw [zcc4] | rw [b32_f] | rw [zb1 (by decide)] | rw [zb2 (by decide)] | rw [zb3 (by decide)] | rw [zb4 (by decide)] | rw [zn1 (by decide)] | rw [zn2 (by decide)] | rw [zn3 (by decide)] | rw [zn4 (by decide)] | rw [ze1 (by decide)] | rw [ze2 (by decide)] | rw [zd1 (by decide)] | rw [zd2 (by decide)] | rw [zswy (by decide)] | rw [zswn (by decide)] | rw [zsw0])
        exact zR.ret rfl rfl ⟨rfl, rfl, rfl, hP2, hF1.tr hF2⟩
    · dsimp only
      rw [if_neg q15]
      refine zR.cv rfl rfl rfl hP.1 rfl rfl (zCalP.of (c_accept_n hP q15) ?_)
      repeat (first | ((with_reducible refine zR.stored ?_); dsimp only [zsto, zclr, zset, zget, zc2, cond_false, cond_true]) | ((with_reducible refine zR.atLit ?_); first | refine zR.step rfl ?_) | rw [zcc1] | rw [zcc2] | rw [zcc3] | rw [zcc4] | rw [zb1 (by decide)] | rw [zb2 (by decide)] | rw [zb3 (by decide)] | rw [zb4 (by decide)] | rw [zn1 (by decide)] | rw [zn2 (by decide)] | rw [zn3 (by decide)] | rw [zn4 (by decide)] | rw [ze1 (by decide)] | rw [ze2 (by decide)] | rw [zd1 (by decide)] | rw [zd2 (by decide)] | rw [zswy (by decide)] | rw [zswn (by decide)] | rw [zsw0])
      by_cases q6 : K i = 6
      · have hk := hT.oth (k := 6) hi q6 (by omega) (by omega)
        rw [if_pos q6]
        refine zR.cv rfl rfl rfl hP.1 rfl rfl (acc_y hT hP hK hk.1 q6 (fun M1 hP1 hK1 hF1 => ?_))
        repeat (first | ((with_reducible refine zR.stored ?_); dsimp only [zsto, zclr, zset, zget, zc2, cond_false, cond_true]) | ((with_reducible refine zR.atLit ?_); first | refine zR.step rfl ?_) | rw [zcc1] | rw [zcc2] | rw [zcc3] | rw [zcc4] | rw [zb1 (by decide)] | rw [zb2 (by decide)] | rw [zb3 (by decide)] | rw [zb4 (by decide)] | rw [zn1 (by decide)] | rw [zn2 (by decide)] | rw [zn3 (by decide)] | rw [zn4 (by decide)] | rw [ze1 (by decide)] | rw [ze2 (by decide)] | rw [zd1 (by decide)] | rw [zd2 (by decide)] | rw [zswy (by decide)] | rw [zswn (by decide)] | rw [zsw0])
        rw [zI_s]
        refine zR.cv rfl rfl rfl hP1.1 rfl rfl (zR.mono (hO M1 _ _ _ _ _ _ _ hP1 hK1 hk.1 (by omega)) (fun v n1 w1 M2 hv => ?_))
        obtain ⟨rfl, rfl, rfl, hP2, hF2⟩ := hv
        obtain ⟨g1, g2, g3, g4⟩ := GD.or hT hg (i + 1) l hk.1
        have hK2 := hF2.tk hK1
        generalize pOr K (pNot K V dl) (i + 1) l = r at *
        unfold pCl
        cases y : r.1 with
        | true =>
          rw [if_pos rfl]
          repeat (first | ((with_reducible refine zR.stored ?_); dsimp only [zsto, zclr, zset, zget, zc2, cond_false, cond_true]) | ((with_reducible refine zR.atLit ?_); first | refine zR.step rfl ?_) | rw [zcc1] | rw [zcc2] | rw [zcc3] | rw [zcc4] | rw [b32_t] | rw [zb1 (by decide)] | rw [zb2 (by decide)] | rw [zb3 (by decide)] | rw [zb4 (by decide)] | rw [zn1 (by decide)] | rw [zn2 (by decide)] | rw [zn3 (by decide)] | rw [zn4 (by decide)] | rw [ze1 (by decide)] | rw [ze2 (by decide)] | rw [zd1 (by decide)] | rw [zd2 (by decide)] | rw [zswy (by decide)] | rw [zswn (by decide)] | rw [zsw0])
          by_cases q7 : K r.2.1 = 7
          · have hk7 := hT.oth (k := 7) g2 q7 (by omega) (by omega)
            rw [if_pos q7]
            refine zR.cv rfl rfl rfl hP2.1 rfl rfl (acc_y hT hP2 hK2 hk7.1 q7 (fun M3 hP3 hK3 hF3 => ?_))
            repeat (first | ((with_reducible refine zR.stored ?_); dsimp only [zsto, zclr, zset, zget, zc2, cond_false, cond_true]) | ((with_reducible refine zR.atLit ?_); first | refine zR.step rfl ?_) | rw [zcc1] | rw [zcc2] | rw [zcc3] | rw [zcc4] | rw [zb1 (by decide)] | rw [zb2 (by decide)] | rw [zb3 (by decide)] | rw [zb4 (by decide)] | rw [zn1 (by decide)] | rw [zn2 (by decide)] | rw [zn3 (by decide)] | rw [zn4 (by decide)] | rw [ze1 (by decide)] | rw [ze2 (by decide)] | rw [zd1 (by decide)] | rw [zd2 (by decide)] | rw [zswy (by decide)] | rw [zswn (by decide)] | rw [zsw0])
            exact zR.ret rfl rfl ⟨rfl, rfl, rfl, hP3, (hF1.tr hF2).tr hF3⟩
          · rw [if_neg q7]
            refine zR.cv rfl rfl rfl hP2.1 rfl rfl (zCalP.of (c_accept_n hP2 q7) ?_)
            repeat (first | ((with_reducible refine zR.stored ?_); dsimp only [zsto, zclr, zset, zget, zc2, cond_false, cond_true]) | ((with_reducible refine zR.atLit ?_); first | refine zR.step rfl ?_) | rw [zcc1] | rw [zcc2] | rw [zcc3] | rw [zcc4] | rw [zb1 (by decide)] | rw [zb2 (by decide)] | rw [zb3 (by decide)] | rw [zb4 (by decide)] | rw [zn1 (by decide)] | rw [zn2 (by decide)] | rw [zn3 (by decide)] | rw [zn4 (by decide)] | rw [ze1 (by decide)] | rw [ze2 (by decide)] | rw [zd1 (by decide)] | rw [zd2 (by decide)] | rw [zswy (by decide)] | rw [zswn (by decide)] | rw [zsw0])
            exact zR.ret rfl rfl ⟨rfl, rfl, rfl, hP2, hF1.tr hF2⟩
        | false =>
          rw [if_neg (by decide)]
          repeat (first | ((with_reducible refine zR.stored ?_); dsimp only [zsto, zclr, zset, zget, zc2, cond_false, cond_true]) | ((with_reducible refine zR.atLit ?_); first | refine zR.step rfl ?_) | rw [zcc1] | rw [zcc2] | rw [zcc3] | rw [zcc4] | rw [b32_f] | rw [zb1 (by decide)] | rw [zb2 (by decide)] | rw [zb3 (by decide)] | rw [zb4 (by decide)] | rw [zn1 (by decide)] | rw [zn2 (by decide)] | rw [zn3 (by decide)] | rw [zn4 (by decide)] | rw [ze1 (by decide)] | rw [ze2 (by decide)] | rw [zd1 (by decide)] | rw [zd2 (by decide)] | rw [zswy (by decide)] | rw [zswn (by decide)] | rw [zsw0])
          rw [y]
          exact zR.ret rfl rfl ⟨rfl, rfl, rfl, hP2, hF1.tr hF2⟩
      · rw [if_neg q6]
        refine zR.cv rfl rfl rfl hP.1 rfl rfl (zCalP.of (c_accept_n hP q6) ?_)
        repeat (first | ((with_reducible refine zR.stored ?_); dsimp only [zsto, zclr, zset, zget, zc2, cond_false, cond_true]) | ((with_reducible refine zR.atLit ?_); first | refine zR.step rfl ?_) | rw [zcc1] | rw [zcc2] | rw [zcc3] | rw [zcc4] | rw [zb1 (by decide)] | rw [zb2 (by decide)] | rw [zb3 (by decide)] | rw [zb4 (by decide)] | rw [zn1 (by decide)] | rw [zn2 (by decide)] | rw [zn3 (by decide)] | rw [zn4 (by decide)] | rw [ze1 (by decide)] | rw [ze2 (by decide)] | rw [zd1 (by decide)] | rw [zd2 (by decide)] | rw [zswy (by decide)] | rw [zswn (by decide)] | rw [zsw0])
        refine zR.cv rfl rfl rfl hP.1 rfl rfl (zR.mono (c_readTest hT M i l _ _ _ _ _ hP hK hi hl) (fun v n1 w1 M1 hv => ?_))
        obtain ⟨rfl, rfl, rfl, hP1, hF1⟩ := hv
        generalize pTst K V i l = r at *
        obtain ⟨b, r⟩ := r
        repeat (first | ((with_reducible refine zR.stored ?_); dsimp only [zsto, zclr, zset, zget, zc2, cond_false, cond_true]) | ((with_reducible refine zR.atLit ?_); first | refine zR.step rfl ?_) | rw [zcc1] | rw [zcc2] | rw [zcc3] | rw [zcc4])
        cases b with
        | true => exact zR.ret rfl rfl ⟨rfl, rfl, rfl, hP1, hF1⟩
        | false => exact zR.ret rfl rfl ⟨rfl, rfl, rfl, hP1, hF1⟩
/-! a line -/
/-- the rows of lines: verbs, crops, ends -/
abbrev gLn : Type := Int32 × Int32 × Nat
def LL (M : zM) (ls : List gLn) : Prop := ∃ a0 a1 a2, M 33 = .inl (0, 20, .inl a0) ∧ M 34 = .inl (0, 20, .inl a1) ∧ M 35 = .inl (0, 20, .inl a2) ∧ ∀ k, k < ls.length → ∃ e, ls[k]? = some (a0 k, a1 k, e) ∧ a2 k = nI e
theorem LL.mv {M M' : zM} {ls : List gLn} (h : LL M ls) (hs : ∀ k, 33 ≤ k → k < 36 → M' k = M k) : LL M' ls := by
  obtain ⟨a0, a1, a2, h0, h1, h2, h3⟩ := h
  exact ⟨a0, a1, a2, by rw [hs _ (by omega) (by omega)]; exact h0, by rw [hs _ (by omega) (by omega)]; exact h1, by rw [hs _ (by omega) (by omega)]; exact h2, h3⟩
section
variable (K V : Nat → Int32)
def pWh (i : Nat) (l : List gStp) : gRes := if K i = 12 then pOr K (pNot K V 6) (i + 1) l else (true, i, l)
def pSm (r : gRes) : gRes := if r.1 = true then (if K r.2.1 = 8 then (true, r.2.1 + 1, r.2.2) else (false, r.2.1, r.2.2)) else r
def pLn (i : Nat) (l : List gStp) : gRes := if K i = 10 ∨ K i = 11 then (if K (i + 1) = 3 then pSm K (pWh K V (i + 2) l) else (false, i + 1, l)) else (false, i, l)
end
theorem GD.wh (hT : TE K S m) {i : Nat} {l : List gStp} (hi : i ≤ m) : GD S m i l (pWh K V i l) := by
  unfold pWh
  by_cases q : K i = 12
  · rw [if_pos q]
    have hk := hT.key (k := 12) hi q (by omega) (by omega)
    obtain ⟨a, b, c, e⟩ := GD.or hT (GD.not (V := V) hT 6) (i + 1) l hk.1
    exact ⟨by omega, b, by omega, by omega⟩
  · rw [if_neg q]
    unfold GD
    dsimp only
    exact ⟨by omega, by omega, by omega, by omega⟩
theorem GD.sm (hT : TE K S m) {i : Nat} {l : List gStp} {r : gRes} (h : GD S m i l r) : GD S m i l (pSm K r) := by
  unfold pSm
  by_cases q : r.1 = true
  · rw [if_pos q]
    by_cases q2 : K r.2.1 = 8
    · rw [if_pos q2]
      have h2 := hT.oth (k := 8) h.2.1 q2 (by omega) (by omega)
      obtain ⟨a, b, c, d⟩ := h
      unfold GD
      dsimp only
      exact ⟨by omega, by omega, by omega, by omega⟩
    · rw [if_neg q2]
      exact h
  · rw [if_neg q]
    exact h
theorem GD.ln (hT : TE K S m) {i : Nat} {l : List gStp} (hi : i ≤ m) : GD S m i l (pLn K V i l) := by
  unfold pLn
  by_cases q : K i = 10 ∨ K i = 11
  · rw [if_pos q]
    have h1 : i + 1 ≤ m ∧ S i + 2 ≤ S (i + 1) := by
      rcases q with q | q
      · exact hT.key (k := 10) hi q (by omega) (by omega)
      · exact hT.key (k := 11) hi q (by omega) (by omega)
    by_cases q2 : K (i + 1) = 3
    · rw [if_pos q2]
      have h2 : i + 2 ≤ m ∧ S (i + 1) ≤ S (i + 2) := hT.oth (k := 3) h1.1 q2 (by omega) (by omega)
      obtain ⟨a, b, c, e⟩ := GD.sm hT (GD.wh (V := V) (l := l) hT h2.1)
      exact ⟨by omega, b, by omega, by omega⟩
    · rw [if_neg q2]
      unfold GD
      dsimp only
      exact ⟨by omega, by omega, by omega, by omega⟩
  · rw [if_neg q]
    unfold GD
    dsimp only
    exact ⟨by omega, by omega, by omega, by omega⟩
end
