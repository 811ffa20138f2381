
/-! A WEEK: the class fills a box. -/
def bxF (nl h sz lm nc : Nat) : Nat → Nat → (Nat → Int32) → Int32 → Int32 → (Nat → Int32) × Int32 × Int32
  | 0, _, s, hl, wo => (s, hl, wo)
  | t + 1, p, s, hl, wo => match chF s nl h sz lm nc with
    | none => bxF nl h sz lm nc t (p + 1) (plN s h p) (hl + 1) wo
    | some q => bxF nl h sz lm nc t (p + 1) (plY s h p q.1 q.2 ((fl s q.1 nl).getD 0)) hl (wo + s (50 + 10 * q.1 + 5))
theorem bxF_n {nl h sz lm nc t p : Nat} {s : Nat → Int32} {hl wo : Int32} (e : chF s nl h sz lm nc = none) : bxF nl h sz lm nc (t + 1) p s hl wo = bxF nl h sz lm nc t (p + 1) (plN s h p) (hl + 1) wo := by rw [bxF, e]
theorem bxF_y {nl h sz lm nc t p q l : Nat} {r : Int32} {s : Nat → Int32} {hl wo : Int32} (e : chF s nl h sz lm nc = some (q, r)) (hf : fl s q nl = some l) : bxF nl h sz lm nc (t + 1) p s hl wo = bxF nl h sz lm nc t (p + 1) (plY s h p q r l) hl (wo + s (50 + 10 * q + 5)) := by
  rw [bxF, e]
  dsimp only
  rw [hf]
  rfl
/-- what is chosen is a crop with something left -/
theorem GB.cho {D : Nat → Prop} {M : zM} {n : Nat} {c : mS} {kp bt : Nat → Option Nat} {la : Nat} {s : Nat → Int32} {h p sz q : Nat} {hl r : Int32} {nc nh nl lm wk : Nat} (hB : GB D M n c kp bt la s h p hl nc nh nl lm wk) (e : chF s nl h sz lm nc = some (q, r)) : q < nc ∧ ∃ l, fl s q nl = some l := by
  obtain ⟨hN, hC, hPB, hL, hS, hh, hHs, hM, hW, hX⟩ := hB
  have g1 : nc ≤ 8 := hN.2.1
  have key : q < nc ∧ goodP s nl h sz q := by
    unfold chF at e
    cases ef : fgF s nl h sz lm 0 with
    | some l =>
      rw [ef] at e
      dsimp only at e
      injection e with e
      injection e with e1 e2
      obtain ⟨f1, f2⟩ := fgF_lt _ _ _ ef
      obtain ⟨sc, r', en, x1, x2, x3, x4, x5, x6, x7, x8, x9⟩ := hX
      obtain ⟨-, -, -, -, -, -, ⟨i, hi, z7⟩, -⟩ := x8 l (by omega)
      rw [← e1]
      refine ⟨?_, f2.1.2⟩
      rw [z7, nI_clamp (by omega)]
      exact hi
    | none =>
      rw [ef] at e
      dsimp only at e
      cases em : msF s nl h sz lm nc with
      | some c' =>
        rw [em] at e
        dsimp only at e
        injection e with e
        injection e with e1 e2
        obtain ⟨f1, f2⟩ := msF_lt _ _ em
        rw [← e1]
        exact ⟨f1, f2.2⟩
      | none =>
        rw [em] at e
        cases e
  exact ⟨key.1, fl_pos (fun x hx => (hL x hx).2.2.1.1) key.2.1.1⟩
section
variable {M0 : zM} {g : Nat} {c0 : mS} {kp bt : Nat → Option Nat} {la : Nat} {d n w nn nc nh nl lm wk h sz : Nat} {D : Nat → Prop}
theorem fb_loop {R : (Nat → Int32) × Int32 × Int32} {H0 : Int32} {Q : Option Value → Nat → Nat → zM → Prop} (hg : 48 ≤ g ∧ g + 76 ≤ 300) (hz6 : sz ≤ 6) (hQ : ∀ M c, Gc M g c kp bt la → (∀ k, k < g ∨ g + 76 ≤ k → M k = M0 k) → GB D M0 nn c kp bt la R.1 h sz R.2.1 nc nh nl lm wk → R.1 (1700 + 40 * h) = nI sz → c 13 0 = H0 + R.2.1 → c 13 1 = R.2.2 → c 13 2 = c0 13 2 → c 13 3 = c0 13 3 → Q none n w M) : ∀ (t p : Nat) (M : zM) (c : mS) (s : Nat → Int32) (hl wo : Int32) (x3 x4 x5 : Option Value), p + t = sz → Gc M g c kp bt la → (∀ k, k < g ∨ g + 76 ≤ k → M k = M0 k) → GB D M0 nn c kp bt la s h p hl nc nh nl lm wk → s (1700 + 40 * h) = nI sz → bxF nl h sz lm nc t p s hl wo = R → c 13 0 = H0 + hl → c 13 1 = wo → c 13 2 = c0 13 2 → c 13 3 = c0 13 3 → zR ztb (d + 4) kX2_fillBox 0 2 [some (.ref g), some (.ref (g + 26 + 5 * h)), some (.int (nI p)), x3, x4, x5] [] n w M Q
  | t, p, M, c, s, hl, wo, x3, x4, x5, ht, hG, hF, hB, hz, hR, k0, k1, k2, k3 => by
    have hB' := hB
    obtain ⟨hN, hC, hPB, hL, hS, hh, hHs, hM, hW, hX⟩ := hB'
    have g1 : nc ≤ 8 := hN.2.1
    have g2 : nh ≤ 10 := hN.2.2.2.1
    have g3 : nl ≤ 240 := hN.2.2.2.2.2.1
    have hh10 : h < 10 := by omega
    have hc0 : c (30 + h) 0 = nI sz := by rw [hM.1 0 (by omega) (by omega)]; exact hz
    have hH := hG.h0 hh10
    unfold hof at hH
    rw [hc0] at hH
    refine zR.step rfl ?_
    match t, ht, hR with
    | 0, ht, hR =>
      have e2 : p = sz := by omega
      subst e2
      subst hR
      have e : ¬ nI p < nI p := zI_nlt (Nat.le_refl _) (by omega)
      repeat (first | ((with_reducible refine zR.stored ?_); dsimp only [zsto, zclr, zset, zget, zc2, cond_false, cond_true]) | ((with_reducible refine zR.atLit ?_); first | refine zR.step rfl ?_ | refine zR.getf rfl hH rfl ?_) | rw [zcc1] | rw [zcc2] | rw [zcc3] | rw [zcc4] | rw [zn1 (e)] | rw [zn2 (e)] | rw [zn3 (e)] | rw [zn4 (e)])
      exact zR.ret rfl rfl (hQ M c hG hF hB hz k0 k1 k2 k3)
    | t + 1, ht, hR =>
      have e : nI p < nI sz := zI_ylt (by omega) (by omega)
      have hq := hB.qb hG hF hg hz hz6 (by omega)
      have hq' := hq
      obtain ⟨-, -, -, -, -, -, -, -, -, -, -, -, -, -, hlm, sc, r, en, y1, y5, y6, y7, y8, y9⟩ := hq'
      have r1 : M (la + 2) = .inl (0, lm, .inl (r 1)) := y1.2 1 (by omega)
      -- the filling of a place, once a crop is chosen
      have fill : ∀ (q : Nat) (rs : Int32) (x3 : Int32), (if x3 = -1 then (-1 : Int32) else x3) = rs → chF s nl h sz lm nc = some (q, rs) → ∀ x5, zR ztb (d + 4) kX2_fillBox 0 43 [some (.ref g), some (.ref (g + 26 + 5 * h)), some (.int (nI p)), some (.int x3), x4, x5] [.int (nI q)] n w M Q := by
        intro q rs x3 hx ec x5
        obtain ⟨hqn, l, hf⟩ := hB.cho ec
        rw [bxF_y ec hf] at hR
        obtain ⟨⟨ca, ck, ca3, can, cm⟩, -⟩ := hC.1 q hqn
        have hcm : M ca = .inr (1, [.int (nI q), .int (s (50 + 10 * q)), .int (s (51 + 10 * q)), .int (s (52 + 10 * q)), .int (s (53 + 10 * q)), .int (s (54 + 10 * q)), .int (s (50 + 10 * q + 5))]) := by
          rw [hF ca (by omega), cm]
          unfold cropF
          rw [show 55 + 10 * q = 50 + 10 * q + 5 by omega]
        have em : ¬ nI q = -1 := zI_m1 (by omega)
        obtain ⟨N1, N2, N3, N4, N5, N6, N7, N8, N9, N10, N11, N12, N13, N14, N15, N16, N17⟩ := hN
        repeat (first | ((with_reducible refine zR.stored ?_); dsimp only [zsto, zclr, zset, zget, zc2, cond_false, cond_true]) | ((with_reducible refine zR.atLit ?_); first | refine zR.step rfl ?_) | rw [zcc1] | rw [zcc2] | rw [zcc3] | rw [zcc4] | rw [zd1 (em)] | rw [zd2 (em)])
        refine zR.cv rfl rfl rfl hG.o rfl rfl (zR.mono (c_handOver (s := s) (l := l) (nl := nl) hG hh10 (N11.trans N1) hqn g1 ck ca3 hg.2 hcm (N15.trans N5) g3 (fun i hi => ⟨(hL i hi).1 0 (by omega), by rw [show 255 + 6 * i = 250 + 6 * i + 5 by omega]; exact (hL i hi).1 5 (by omega)⟩) hf) (fun v n1 w1 M1 hv => ?_))
        obtain ⟨rfl, rfl, rfl, hG1, hF1⟩ := hv
        have go : zR ztb (d + 4) kX2_fillBox 0 106 [some (.ref g), some (.ref (g + 26 + 5 * h)), some (.int (nI p)), some (.int x3), some (.int (nI q)), some (.int (nI l))] [.int rs, .int (nI q), .int (nI p), .ref (g + 26 + 5 * h)] n w M1 Q := by
          repeat (first | ((with_reducible refine zR.stored ?_); dsimp only [zsto, zclr, zset, zget, zc2, cond_false, cond_true]) | ((with_reducible refine zR.atLit ?_); first | refine zR.step rfl ?_) | rw [zcc1] | rw [zcc2] | rw [zcc3] | rw [zcc4])
          refine zR.cv rfl rfl rfl (hG1.h0 hh10) rfl rfl (zR.mono (c_fillPlace hG1 hh10 (by omega) _ _ _) (fun v n1 w1 M2 hv => ?_))
          obtain ⟨rfl, rfl, rfl, hG2, hF2⟩ := hv
          rw [clY_eq hh10] at hG2
          have hB2 := hB.fill (r := rs) (by omega) hqn hf
          have ek : ∀ j, clY c h p q rs l (s (50 + 10 * q + 5)) 13 j = zuf (c 13) 1 (c 13 1 + s (50 + 10 * q + 5)) j := fun j => by
            unfold clY
            rw [zuf_ne _ _ (by omega), zuf_ne _ _ (by omega), zuf_ne _ _ (by omega), zuf_ne _ _ (by omega), zuf_self]
          have ih := fb_loop hg hz6 hQ t (p + 1) M2 _ _ hl (wo + s (50 + 10 * q + 5)) (some (.int x3)) (some (.int (nI q))) (some (.int (nI l))) (by omega) hG2 (fun k hk => by rw [hF2 k hk, hF1 k hk]; exact hF k hk) hB2 (by
            rw [plY_at hh10 (by omega) (by omega) (by have := (fl_spec _ _ hf).1; omega), if_neg (by omega), if_neg (by omega), if_neg (by omega), if_neg (by omega), if_neg (by omega), if_neg (by have := (fl_spec _ _ hf).1; omega), if_neg (by omega)]
            exact hz) hR (by rw [ek, zuf_ne _ _ (by omega)]; exact k0) (by rw [ek, zuf_self, k1]) (by rw [ek, zuf_ne _ _ (by omega)]; exact k2) (by rw [ek, zuf_ne _ _ (by omega)]; exact k3)
          rw [← zI_s] at ih
          repeat (first | with_reducible refine zR.hold (pc := 2) ?_ | ((with_reducible refine zR.stored ?_); dsimp only [zsto, zclr, zset, zget, zc2, cond_false, cond_true]) | ((with_reducible refine zR.atLit ?_); first | refine zR.step rfl ?_) | rw [zcc1] | rw [zcc2] | rw [zcc3] | rw [zcc4])
          exact ⟨trivial, ih⟩
        by_cases qx : x3 = -1
        · rw [if_pos qx] at hx
          repeat (first | with_reducible refine zR.hold (pc := 106) ?_ | ((with_reducible refine zR.stored ?_); dsimp only [zsto, zclr, zset, zget, zc2, cond_false, cond_true]) | ((with_reducible refine zR.atLit ?_); first | refine zR.step rfl ?_) | rw [zcc1] | rw [zcc2] | rw [zcc3] | rw [zcc4] | rw [ze1 (qx)] | rw [ze2 (qx)])
          exact ⟨trivial, by rw [← hx] at go; exact go⟩
        · rw [if_neg qx] at hx
          repeat (first | with_reducible refine zR.hold (pc := 106) ?_ | ((with_reducible refine zR.stored ?_); dsimp only [zsto, zclr, zset, zget, zc2, cond_false, cond_true]) | ((with_reducible refine zR.atLit ?_); first | refine zR.step rfl ?_) | rw [zcc1] | rw [zcc2] | rw [zcc3] | rw [zcc4] | rw [zd1 (qx)] | rw [zd2 (qx)])
          exact ⟨trivial, by rw [← hx] at go; exact go⟩
      cases ef : fgF s nl h sz lm 0 with
      | some l =>
        obtain ⟨f1, -⟩ := fgF_lt _ _ _ ef
        have el : ¬ nI l = -1 := zI_m1 (by omega)
        obtain ⟨-, -, -, -, -, z6, ⟨i, hi, z7⟩, -⟩ := y8 l (by omega)
        have ec : chF s nl h sz lm nc = some (i, nI l) := by
          unfold chF
          rw [ef]
          dsimp only
          rw [z7, nI_clamp (by omega)]
        repeat (first | with_reducible refine zR.hold (pc := 43) ?_ | ((with_reducible refine zR.stored ?_); dsimp only [zsto, zclr, zset, zget, zc2, cond_false, cond_true]) | ((with_reducible refine zR.atLit ?_); first | refine zR.step rfl ?_ | refine zR.getf rfl hH rfl ?_ | (refine zR.cv rfl rfl rfl hG.o rfl rfl (zCalP.of (c_firstGiving hq) ?_); rw [ef, show optI (some l) = nI l from rfl]) | refine zR.getf rfl (hG.o) rfl ?_ | refine zR.getf rfl (y1.1) rfl ?_ | (refine zR.iald rfl r1 (Or.inl rfl) (i := l) rfl (by omega) (by omega) ?_; rw [z6, z7])) | rw [zcc1] | rw [zcc2] | rw [zcc3] | rw [zcc4] | rw [zb1 (e)] | rw [zb2 (e)] | rw [zb3 (e)] | rw [zb4 (e)] | rw [zd1 (el)] | rw [zd2 (el)])
        exact ⟨trivial, fill i (nI l) (nI l) (if_neg el) ec _⟩
      | none =>
        repeat (first | ((with_reducible refine zR.stored ?_); dsimp only [zsto, zclr, zset, zget, zc2, cond_false, cond_true]) | ((with_reducible refine zR.atLit ?_); first | refine zR.step rfl ?_ | refine zR.getf rfl hH rfl ?_ | (refine zR.cv rfl rfl rfl hG.o rfl rfl (zCalP.of (c_firstGiving hq) ?_); rw [ef, show optI none = -1 from rfl])) | rw [zcc1] | rw [zcc2] | rw [zcc3] | rw [zcc4] | rw [zb1 (e)] | rw [zb2 (e)] | rw [zb3 (e)] | rw [zb4 (e)] | rw [zb1 (by decide)] | rw [zb2 (by decide)] | rw [zb3 (by decide)] | rw [zb4 (by decide)] | rw [zn1 (by decide)] | rw [zn2 (by decide)] | rw [zn3 (by decide)] | rw [zn4 (by decide)] | rw [ze1 (by decide)] | rw [ze2 (by decide)] | rw [zd1 (by decide)] | rw [zd2 (by decide)] | rw [zswy (by decide)] | rw [zswn (by decide)] | rw [zsw0])
        refine zR.cv rfl rfl rfl hG.o rfl rfl (zR.mono (c_barredFor hq) (fun v n1 w1 M1 hv => ?_))
        obtain ⟨x, rfl, rfl, rfl, rfl, hx1, hx2⟩ := hv
        cases em : msF s nl h sz lm nc with
        | some q =>
          have ec : chF s nl h sz lm nc = some (q, -1) := by
            unfold chF
            rw [ef, em]
          repeat (first | with_reducible refine zR.hold (pc := 43) ?_ | ((with_reducible refine zR.stored ?_); dsimp only [zsto, zclr, zset, zget, zc2, cond_false, cond_true]) | ((with_reducible refine zR.atLit ?_); first | refine zR.step rfl ?_ | (refine zR.cv rfl rfl rfl hG.o rfl rfl (zCalP.of (c_mostInStock hq hx1 hx2) ?_); rw [em, show optI (some q) = nI q from rfl])) | rw [zcc1] | rw [zcc2] | rw [zcc3] | rw [zcc4])
          exact ⟨trivial, fill q (-1) (-1) (if_pos rfl) ec _⟩
        | none =>
          have ec : chF s nl h sz lm nc = none := by
            unfold chF
            rw [ef, em]
          rw [bxF_n ec] at hR
          repeat (first | ((with_reducible refine zR.stored ?_); dsimp only [zsto, zclr, zset, zget, zc2, cond_false, cond_true]) | ((with_reducible refine zR.atLit ?_); first | refine zR.step rfl ?_ | (refine zR.cv rfl rfl rfl hG.o rfl rfl (zCalP.of (c_mostInStock hq hx1 hx2) ?_); rw [em, show optI none = -1 from rfl])) | rw [zcc1] | rw [zcc2] | rw [zcc3] | rw [zcc4] | rw [zb1 (by decide)] | rw [zb2 (by decide)] | rw [zb3 (by decide)] | rw [zb4 (by decide)] | rw [zn1 (by decide)] | rw [zn2 (by decide)] | rw [zn3 (by decide)] | rw [zn4 (by decide)] | rw [ze1 (by decide)] | rw [ze2 (by decide)] | rw [zd1 (by decide)] | rw [zd2 (by decide)] | rw [zswy (by decide)] | rw [zswn (by decide)] | rw [zsw0])
          refine zR.cv rfl rfl rfl (hG.h0 hh10) rfl rfl (zR.mono (c_fillPlace hG hh10 (by omega) _ _ _) (fun v n1 w1 M2 hv => ?_))
          obtain ⟨rfl, rfl, rfl, hG2, hF2⟩ := hv
          have e30 : zuf (zuf (zuf c (50 + h) (zuf (c (50 + h)) p (-1))) (60 + h) (zuf (c (60 + h)) p (-2))) (70 + h) (zuf (c (70 + h)) p (-1)) (30 + h) = c (30 + h) := by rw [zuf_ne _ _ (by omega), zuf_ne _ _ (by omega), zuf_ne _ _ (by omega)]
          have h30 := hG2.h0 hh10
          rw [e30] at h30
          repeat (first | ((with_reducible refine zR.stored ?_); dsimp only [zsto, zclr, zset, zget, zc2, cond_false, cond_true]) | ((with_reducible refine zR.atLit ?_); first | refine zR.step rfl ?_ | refine zR.getf rfl h30 rfl ?_) | rw [zcc1] | rw [zcc2] | rw [zcc3] | rw [zcc4])
          refine zR.putf rfl h30 rfl rfl ?_
          have hG3 := hG2.upH hh10 (zuf (c (30 + h)) 4 (c (30 + h) 4 + 1))
          have e13 : zuf (zuf (zuf (zuf c (50 + h) (zuf (c (50 + h)) p (-1))) (60 + h) (zuf (c (60 + h)) p (-2))) (70 + h) (zuf (c (70 + h)) p (-1))) (30 + h) (zuf (c (30 + h)) 4 (c (30 + h) 4 + 1)) 13 = c 13 := by rw [zuf_ne _ _ (by omega), zuf_ne _ _ (by omega), zuf_ne _ _ (by omega), zuf_ne _ _ (by omega)]
          have h13 := hG3.su
          rw [e13] at h13
          repeat (first | ((with_reducible refine zR.stored ?_); dsimp only [zsto, zclr, zset, zget, zc2, cond_false, cond_true]) | ((with_reducible refine zR.atLit ?_); first | refine zR.step rfl ?_ | refine zR.getf rfl (hG3.o) rfl ?_ | refine zR.iald rfl h13 (Or.inl rfl) (i := 0) rfl (by omega) (by omega) ?_) | rw [zcc1] | rw [zcc2] | rw [zcc3] | rw [zcc4])
          refine zR.iast rfl h13 (i := 0) rfl (by omega) (by decide) ?_
          have hG4 := hG3.upSu (zuf (c 13) 0 (c 13 0 + 1))
          have hB2 := hB.hole (by omega)
          have ek : ∀ j, clN c h p 13 j = zuf (c 13) 0 (c 13 0 + 1) j := fun j => by
            unfold clN
            rw [zuf_self]
          have ih := fb_loop hg hz6 hQ t (p + 1) _ (clN c h p) _ (hl + 1) wo (some (.int (-1))) (some (.int (-1))) x5 (by omega) hG4 (fun k hk => by rw [zup_ne _ _ (by omega), zup_ne _ _ (by omega), hF2 k hk]; exact hF k hk) hB2 (by rw [plN_at, if_neg (by omega), if_neg (by omega)]; exact hz) hR (by rw [ek, zuf_self, k0, Int32.add_assoc]) (by rw [ek, zuf_ne _ _ (by omega)]; exact k1) (by rw [ek, zuf_ne _ _ (by omega)]; exact k2) (by rw [ek, zuf_ne _ _ (by omega)]; exact k3)
          rw [← zI_s] at ih
          repeat (first | with_reducible refine zR.hold (pc := 2) ?_ | ((with_reducible refine zR.stored ?_); dsimp only [zsto, zclr, zset, zget, zc2, cond_false, cond_true]) | ((with_reducible refine zR.atLit ?_); first | refine zR.step rfl ?_) | rw [zcc1] | rw [zcc2] | rw [zcc3] | rw [zcc4])
          exact ⟨trivial, ih⟩
end
