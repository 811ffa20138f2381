
/-! A WEEK: the class fills a place. -/
section
variable {M : zM} {g : Nat} {c : mS} {kp bt : Nat → Option Nat} {la : Nat} {s : Nat → Int32} {d n w : Nat}
theorem to_loop {Q : Option Value → Nat → Nat → zM → Prop} {q l nl : Nat} (hG : Gc M g c kp bt la) (h4 : c 0 4 = nI nl) (hnl : nl ≤ 240) (hc : ∀ i, i < nl → c 1 i = s (250 + 6 * i) ∧ c 6 i = s (255 + 6 * i)) (hf : fl s q nl = some l) (hQ : Q (some (.int (nI l))) n w (zup M (g + 10) (.inl (0, 240, .inl (zuf (c 6) l (c 6 l - 1)))))) : ∀ (t i : Nat), i + t = l → zR ztb d kX6_takeOne 1 2 [some (.ref (g + 4)), some (.int (nI q)), some (.int (nI i))] [] n w M Q
  | t, i, hi => by
    obtain ⟨l1, ⟨l2, l3⟩, l4⟩ := fl_spec _ _ hf
    have hlo := hG.lo
    rw [h4] at hlo
    have e : nI i < nI nl := zI_ylt (by omega) (by omega)
    obtain ⟨a1, a2⟩ := hc i (by omega)
    refine zR.step rfl ?_
    match t, hi with
    | 0, hi =>
      have e2 : i = l := by omega
      subst e2
      have a3 : 0 < c 6 i := by rw [a2]; exact l3
      repeat (first | ((with_reducible refine zR.stored ?_); dsimp only [zsto, zclr, zset, zget, zc2, cond_false, cond_true]) | ((with_reducible refine zR.atLit ?_); first | refine zR.step rfl ?_ | refine zR.getf rfl (hlo) rfl ?_ | (refine zR.iald rfl hG.l0 (Or.inl rfl) (i := i) rfl (by omega) (by omega) ?_; rw [a1, l2]) | refine zR.iald rfl hG.l5 (Or.inl rfl) (i := i) rfl (by omega) (by omega) ?_) | rw [zcc1] | rw [zcc2] | rw [zcc3] | rw [zcc4] | rw [zb1 (e)] | rw [zb2 (e)] | rw [zb3 (e)] | rw [zb4 (e)] | rw [ze1 ((rfl : nI q = nI q))] | rw [ze2 ((rfl : nI q = nI q))] | rw [zb1 (a3)] | rw [zb2 (a3)] | rw [zb3 (a3)] | rw [zb4 (a3)])
      refine zR.iast rfl hG.l5 (i := i) rfl (by omega) (by decide) ?_
      repeat (first | ((with_reducible refine zR.stored ?_); dsimp only [zsto, zclr, zset, zget, zc2, cond_false, cond_true]) | ((with_reducible refine zR.atLit ?_); first | refine zR.step rfl ?_) | rw [zcc1] | rw [zcc2] | rw [zcc3] | rw [zcc4])
      exact zR.ret rfl rfl hQ
    | t + 1, hi =>
      have ih := to_loop hG h4 hnl hc hf hQ t (i + 1) (by omega)
      rw [← zI_s] at ih
      have hn := l4 i (by omega)
      by_cases b1 : s (250 + 6 * i) = nI q
      · have b2 : ¬ 0 < c 6 i := by rw [a2]; exact fun z => hn ⟨b1, z⟩
        repeat (first | with_reducible refine zR.hold (pc := 2) ?_ | ((with_reducible refine zR.stored ?_); dsimp only [zsto, zclr, zset, zget, zc2, cond_false, cond_true]) | ((with_reducible refine zR.atLit ?_); first | refine zR.step rfl ?_ | refine zR.getf rfl (hlo) rfl ?_ | (refine zR.iald rfl hG.l0 (Or.inl rfl) (i := i) rfl (by omega) (by omega) ?_; rw [a1, b1]) | refine zR.iald rfl hG.l5 (Or.inl rfl) (i := i) rfl (by omega) (by omega) ?_) | rw [zcc1] | rw [zcc2] | rw [zcc3] | rw [zcc4] | rw [zb1 (e)] | rw [zb2 (e)] | rw [zb3 (e)] | rw [zb4 (e)] | rw [ze1 ((rfl : nI q = nI q))] | rw [ze2 ((rfl : nI q = nI q))] | rw [zn1 (b2)] | rw [zn2 (b2)] | rw [zn3 (b2)] | rw [zn4 (b2)])
        exact ⟨trivial, ih⟩
      · repeat (first | with_reducible refine zR.hold (pc := 2) ?_ | ((with_reducible refine zR.stored ?_); dsimp only [zsto, zclr, zset, zget, zc2, cond_false, cond_true]) | ((with_reducible refine zR.atLit ?_); first | refine zR.step rfl ?_ | refine zR.getf rfl (hlo) rfl ?_ | (refine zR.iald rfl hG.l0 (Or.inl rfl) (i := i) rfl (by omega) (by omega) ?_; rw [a1])) | rw [zcc1] | rw [zcc2] | rw [zcc3] | rw [zcc4] | rw [zb1 (e)] | rw [zb2 (e)] | rw [zb3 (e)] | rw [zb4 (e)] | rw [zd1 (b1)] | rw [zd2 (b1)])
        exact ⟨trivial, ih⟩
theorem c_takeOne {q l nl : Nat} (hG : Gc M g c kp bt la) (h4 : c 0 4 = nI nl) (hnl : nl ≤ 240) (hc : ∀ i, i < nl → c 1 i = s (250 + 6 * i) ∧ c 6 i = s (255 + 6 * i)) (hf : fl s q nl = some l) : zCall d 58 [.ref (g + 4), .int (nI q)] n w M (some (.int (nI l))) n w (zup M (g + 10) (.inl (0, 240, .inl (zuf (c 6) l (c 6 l - 1))))) := by
  intro Q hQ
  show zR ztb _ kX6_takeOne 1 0 [some (.ref (g + 4)), some (.int (nI q)), none] [] _ _ _ _
  repeat (first | with_reducible refine zR.hold (pc := 2) ?_ | ((with_reducible refine zR.stored ?_); dsimp only [zsto, zclr, zset, zget, zc2, cond_false, cond_true]) | ((with_reducible refine zR.atLit ?_); first | refine zR.step rfl ?_) | rw [zcc1] | rw [zcc2] | rw [zcc3] | rw [zcc4])
  exact ⟨trivial, to_loop hG h4 hnl hc hf hQ l 0 (by omega)⟩
theorem c_fillPlace {h p : Nat} (hG : Gc M g c kp bt la) (hh : h < 10) (hp : p < 6) (x y z : Int32) : zCalP (d + 1) 41 [.ref (g + 26 + 5 * h), .int (nI p), .int x, .int y, .int z] n w M (fun v n' w' M' => v = none ∧ n = n' ∧ w = w' ∧ Gc M' g (zuf (zuf (zuf c (50 + h) (zuf (c (50 + h)) p x)) (60 + h) (zuf (c (60 + h)) p y)) (70 + h) (zuf (c (70 + h)) p z)) kp bt la ∧ ∀ k, k < g ∨ g + 76 ≤ k → M' k = M k) := by
  have e : inI (nI p) 0 5 = 1 := inI_y (lo := 0) (hi := 5) (by omega) (by omega) (by omega)
  show zR ztb _ kX3_fillPlace 0 0 [some (.ref (g + 26 + 5 * h)), some (.int (nI p)), some (.int x), some (.int y), some (.int z)] [] _ _ _ _
  repeat (first | ((with_reducible refine zR.stored ?_); dsimp only [zsto, zclr, zset, zget, zc2, cond_false, cond_true]) | ((with_reducible refine zR.atLit ?_); first | refine zR.step rfl ?_ | refine zR.cs rfl rfl rfl rfl rfl (zCalP.of (c_isWithin _ _ _) ?_) | refine zR.getf rfl (hG.h0 hh) rfl ?_) | rw [zcc1] | rw [zcc2] | rw [zcc3] | rw [zcc4] | rw [e])
  refine zR.iast rfl (hG.h2 hh) (i := p) rfl (by omega) (by decide) ?_
  have hG1 := hG.upH2 hh (zuf (c (50 + h)) p x)
  repeat (first | ((with_reducible refine zR.stored ?_); dsimp only [zsto, zclr, zset, zget, zc2, cond_false, cond_true]) | ((with_reducible refine zR.atLit ?_); first | refine zR.step rfl ?_ | refine zR.getf rfl (hG1.h0 hh) rfl ?_) | rw [zcc1] | rw [zcc2] | rw [zcc3] | rw [zcc4])
  refine zR.iast rfl (hG1.h3 hh) (i := p) rfl (by omega) (by decide) ?_
  rw [show zuf c (50 + h) (zuf (c (50 + h)) p x) (60 + h) = c (60 + h) from zuf_ne _ _ (by omega)]
  have hG2 := hG1.upH3 hh (zuf (c (60 + h)) p y)
  repeat (first | ((with_reducible refine zR.stored ?_); dsimp only [zsto, zclr, zset, zget, zc2, cond_false, cond_true]) | ((with_reducible refine zR.atLit ?_); first | refine zR.step rfl ?_ | refine zR.getf rfl (hG2.h0 hh) rfl ?_) | rw [zcc1] | rw [zcc2] | rw [zcc3] | rw [zcc4])
  refine zR.iast rfl (hG2.h4 hh) (i := p) rfl (by omega) (by decide) ?_
  rw [show zuf (zuf c (50 + h) (zuf (c (50 + h)) p x)) (60 + h) (zuf (c (60 + h)) p y) (70 + h) = c (70 + h) by rw [zuf_ne _ _ (by omega), zuf_ne _ _ (by omega)]]
  have hG3 := hG2.upH4 hh (zuf (c (70 + h)) p z)
  repeat (first | ((with_reducible refine zR.stored ?_); dsimp only [zsto, zclr, zset, zget, zc2, cond_false, cond_true]) | ((with_reducible refine zR.atLit ?_); first | refine zR.step rfl ?_) | rw [zcc1] | rw [zcc2] | rw [zcc3] | rw [zcc4])
  refine zR.ret rfl rfl ⟨rfl, rfl, rfl, hG3, fun k hk => ?_⟩
  rw [zup_ne _ _ (by omega), zup_ne _ _ (by omega), zup_ne _ _ (by omega)]
def clH (c : mS) (h q l : Nat) (wv : Int32) : mS := zuf (zuf (zuf (zuf (zuf (zuf c 8 (zuf (c 8) q (c 8 q - 1))) 11 (zuf (c 11) q (c 11 q + 1))) (40 + h) (zuf (c (40 + h)) q (c 0 2))) (30 + h) (zuf (c (30 + h)) 3 (c (30 + h) 3 + wv))) 13 (zuf (c 13) 1 (c 13 1 + wv))) 6 (zuf (c 6) l (c 6 l - 1))
theorem c_handOver {h q l nl nc ca : Nat} {u0 u1 u2 u3 u4 u5 wv : Int32} (hG : Gc M g c kp bt la) (hh : h < 10) (h0 : c 0 0 = nI nc) (hq : q < nc) (h8 : nc ≤ 8) (hk : kp q = some ca) (hca : 300 ≤ ca) (hg : g + 76 ≤ 300) (hcm : M ca = .inr (1, [.int u0, .int u1, .int u2, .int u3, .int u4, .int u5, .int wv])) (h4 : c 0 4 = nI nl) (hnl : nl ≤ 240) (hc : ∀ i, i < nl → c 1 i = s (250 + 6 * i) ∧ c 6 i = s (255 + 6 * i)) (hf : fl s q nl = some l) : zCalP (d + 2) 33 [.ref g, .ref (g + 26 + 5 * h), .int (nI q)] n w M (fun v n' w' M' => v = some (.int (nI l)) ∧ n = n' ∧ w = w' ∧ Gc M' g (clH c h q l wv) kp bt la ∧ ∀ k, k < g ∨ g + 76 ≤ k → M' k = M k) := by
  have ec : inI (nI q) 0 (c 0 0 - 1) = 1 := by
    rw [h0, zI_pred (by omega) (by omega)]
    exact inI_y (lo := 0) (by omega) (by omega) (by omega)
  have hcr : ∀ (M1 : zM) (x : zC) (a : Nat), g ≤ a → a < g + 76 → M1 ca = .inr (1, [.int u0, .int u1, .int u2, .int u3, .int u4, .int u5, .int wv]) → zup M1 a x ca = .inr (1, [.int u0, .int u1, .int u2, .int u3, .int u4, .int u5, .int wv]) := fun M1 x a a1 a2 a3 => (zup_ne _ _ (by omega)).trans a3
  show zR ztb _ kX2_handOver 1 0 [some (.ref g), some (.ref (g + 26 + 5 * h)), some (.int (nI q)), none] [] _ _ _ _
  repeat (first | ((with_reducible refine zR.stored ?_); dsimp only [zsto, zclr, zset, zget, zc2, cond_false, cond_true]) | ((with_reducible refine zR.atLit ?_); first | refine zR.step rfl ?_ | refine zR.cv rfl rfl rfl hG.o rfl rfl (zCalP.of (c_cropAt_y hG ec (by omega) hk) ?_) | refine zR.getf rfl (hG.o) rfl ?_ | refine zR.iald rfl hG.s0 (Or.inl rfl) (i := q) rfl (by omega) (by omega) ?_) | rw [zcc1] | rw [zcc2] | rw [zcc3] | rw [zcc4])
  refine zR.iast rfl hG.s0 (i := q) rfl (by omega) (by decide) ?_
  have hG1 := hG.upS (j := 0) (by omega) (zuf (c 8) q (c 8 q - 1))
  have k1 := hcr _ (.inl (0, 8, .inl (zuf (c 8) q (c 8 q - 1)))) (g + 12) (by omega) (by omega) hcm
  repeat (first | ((with_reducible refine zR.stored ?_); dsimp only [zsto, zclr, zset, zget, zc2, cond_false, cond_true]) | ((with_reducible refine zR.atLit ?_); first | refine zR.step rfl ?_ | refine zR.getf rfl (hG1.o) rfl ?_ | refine zR.iald rfl hG1.s3 (Or.inl rfl) (i := q) rfl (by omega) (by omega) ?_) | rw [zcc1] | rw [zcc2] | rw [zcc3] | rw [zcc4])
  refine zR.iast rfl hG1.s3 (i := q) rfl (by omega) (by decide) ?_
  have e11 : zuf c (8 + 0) (zuf (c 8) q (c 8 q - 1)) 11 = c 11 := zuf_ne _ _ (by omega)
  rw [e11]
  have hG2 := hG1.upS (j := 3) (by omega) (zuf (c 11) q (c 11 q + 1))
  have k2 := hcr _ (.inl (0, 8, .inl (zuf (c 11) q (c 11 q + 1)))) (g + 15) (by omega) (by omega) k1
  repeat (first | ((with_reducible refine zR.stored ?_); dsimp only [zsto, zclr, zset, zget, zc2, cond_false, cond_true]) | ((with_reducible refine zR.atLit ?_); first | refine zR.step rfl ?_ | refine zR.getf rfl (hG2.o) rfl ?_ | refine zR.getf rfl (hG2.h0 hh) rfl ?_) | rw [zcc1] | rw [zcc2] | rw [zcc3] | rw [zcc4])
  refine zR.iast rfl (hG2.h1 hh) (i := q) rfl (by omega) (by decide) ?_
  have e02 : zuf (zuf c (8 + 0) (zuf (c 8) q (c 8 q - 1))) (8 + 3) (zuf (c 11) q (c 11 q + 1)) 0 2 = c 0 2 := rfl
  have e40 : zuf (zuf c (8 + 0) (zuf (c 8) q (c 8 q - 1))) (8 + 3) (zuf (c 11) q (c 11 q + 1)) (40 + h) = c (40 + h) := by rw [zuf_ne _ _ (by omega), zuf_ne _ _ (by omega)]
  rw [e40, e02]
  have hG3 := hG2.upH1 hh (zuf (c (40 + h)) q (c 0 2))
  have k3 := hcr _ (.inl (0, 8, .inl (zuf (c (40 + h)) q (c 0 2)))) (g + 26 + 5 * h + 1) (by omega) (by omega) k2
  have e30 : zuf (zuf (zuf c (8 + 0) (zuf (c 8) q (c 8 q - 1))) (8 + 3) (zuf (c 11) q (c 11 q + 1))) (40 + h) (zuf (c (40 + h)) q (c 0 2)) (30 + h) = c (30 + h) := by rw [zuf_ne _ _ (by omega), zuf_ne _ _ (by omega), zuf_ne _ _ (by omega)]
  have h30 := hG3.h0 hh
  rw [e30] at h30
  repeat (first | ((with_reducible refine zR.stored ?_); dsimp only [zsto, zclr, zset, zget, zc2, cond_false, cond_true]) | ((with_reducible refine zR.atLit ?_); first | refine zR.step rfl ?_ | refine zR.getf rfl h30 rfl ?_ | refine zR.getf rfl k3 rfl ?_) | rw [zcc1] | rw [zcc2] | rw [zcc3] | rw [zcc4])
  refine zR.putf rfl h30 rfl rfl ?_
  have hG4 := hG3.upH hh (zuf (c (30 + h)) 3 (c (30 + h) 3 + wv))
  have k4 := hcr _ (.inr (3, hof (g + 26 + 5 * h) (zuf (c (30 + h)) 3 (c (30 + h) 3 + wv)))) (g + 26 + 5 * h) (by omega) (by omega) k3
  repeat (first | ((with_reducible refine zR.stored ?_); dsimp only [zsto, zclr, zset, zget, zc2, cond_false, cond_true]) | ((with_reducible refine zR.atLit ?_); first | refine zR.step rfl ?_ | refine zR.getf rfl (hG4.o) rfl ?_ | refine zR.iald rfl hG4.su (Or.inl rfl) (i := 1) rfl (by omega) (by omega) ?_ | refine zR.getf rfl k4 rfl ?_) | rw [zcc1] | rw [zcc2] | rw [zcc3] | rw [zcc4])
  refine zR.iast rfl hG4.su (i := 1) rfl (by omega) (by decide) ?_
  have e13 : zuf (zuf (zuf (zuf c (8 + 0) (zuf (c 8) q (c 8 q - 1))) (8 + 3) (zuf (c 11) q (c 11 q + 1))) (40 + h) (zuf (c (40 + h)) q (c 0 2))) (30 + h) (zuf (c (30 + h)) 3 (c (30 + h) 3 + wv)) 13 = c 13 := by rw [zuf_ne _ _ (by omega), zuf_ne _ _ (by omega), zuf_ne _ _ (by omega), zuf_ne _ _ (by omega)]
  rw [e13]
  have hG5 := hG4.upSu (zuf (c 13) 1 (c 13 1 + wv))
  have hrow : ∀ j, j < 8 → zuf (zuf (zuf (zuf (zuf c (8 + 0) (zuf (c 8) q (c 8 q - 1))) (8 + 3) (zuf (c 11) q (c 11 q + 1))) (40 + h) (zuf (c (40 + h)) q (c 0 2))) (30 + h) (zuf (c (30 + h)) 3 (c (30 + h) 3 + wv))) 13 (zuf (c 13) 1 (c 13 1 + wv)) j = c j := fun j hj => by rw [zuf_ne _ _ (by omega), zuf_ne _ _ (by omega), zuf_ne _ _ (by omega), zuf_ne _ _ (by omega), zuf_ne _ _ (by omega)]
  have ct := fun {d n w : Nat} => c_takeOne (d := d) (n := n) (w := w) (s := s) (q := q) (l := l) (nl := nl) hG5 (by rw [hrow 0 (by omega)]; exact h4) hnl (by rw [hrow 1 (by omega), hrow 6 (by omega)]; exact hc) hf
  rw [hrow 6 (by omega)] at ct
  have hG6 := hG5.upL (j := 5) (by omega) (zuf (c 6) l (c 6 l - 1))
  repeat (first | ((with_reducible refine zR.stored ?_); dsimp only [zsto, zclr, zset, zget, zc2, cond_false, cond_true]) | ((with_reducible refine zR.atLit ?_); first | refine zR.step rfl ?_ | refine zR.getf rfl (hG5.o) rfl ?_ | refine zR.cv rfl rfl rfl hG5.lo rfl rfl (zCalP.of ct ?_)) | rw [zcc1] | rw [zcc2] | rw [zcc3] | rw [zcc4])
  refine zR.ret rfl rfl ⟨rfl, rfl, rfl, hG6, fun k hk => ?_⟩
  rw [zup_ne _ _ (by omega), zup_ne _ _ (by omega), zup_ne _ _ (by omega), zup_ne _ _ (by omega), zup_ne _ _ (by omega), zup_ne _ _ (by omega)]
theorem clY_eq {h p q l : Nat} {r wv : Int32} (hh : h < 10) : zuf (zuf (zuf (clH c h q l wv) (50 + h) (zuf (clH c h q l wv (50 + h)) p (nI q))) (60 + h) (zuf (clH c h q l wv (60 + h)) p r)) (70 + h) (zuf (clH c h q l wv (70 + h)) p (nI l)) = clY c h p q r l wv := by
  have e : ∀ j, 50 ≤ j → clH c h q l wv j = c j := fun j hj => by
    unfold clH
    rw [zuf_ne _ _ (by omega), zuf_ne _ _ (by omega), zuf_ne _ _ (by omega), zuf_ne _ _ (by omega), zuf_ne _ _ (by omega), zuf_ne _ _ (by omega)]
  rw [e _ (by omega), e _ (by omega), e _ (by omega)]
  rfl
end
