
/-! A WEEK: all boxes in the class. -/
/-- a house's turn: the row, the holes and the worth so far -/
def hsF (nl lm nc wk h : Nat) (s : Nat → Int32) (H W : Int32) : (Nat → Int32) × Int32 × Int32 :=
  if (s (1702 + 40 * h) >>> (nI wk &&& 31)) &&& 1 = 1 then (zuf s (1700 + 40 * h + 6) 0, H, W) else
  (zuf (bxF nl h (s (1700 + 40 * h)).toNatClampNeg lm nc (s (1700 + 40 * h)).toNatClampNeg 0 (bx0 (zuf s (1700 + 40 * h + 6) 0) h) 0 W).1 (1700 + 40 * h + 4) ((bxF nl h (s (1700 + 40 * h)).toNatClampNeg lm nc (s (1700 + 40 * h)).toNatClampNeg 0 (bx0 (zuf s (1700 + 40 * h + 6) 0) h) 0 W).1 (1700 + 40 * h + 4) + (bxF nl h (s (1700 + 40 * h)).toNatClampNeg lm nc (s (1700 + 40 * h)).toNatClampNeg 0 (bx0 (zuf s (1700 + 40 * h + 6) 0) h) 0 W).2.1), H + (bxF nl h (s (1700 + 40 * h)).toNatClampNeg lm nc (s (1700 + 40 * h)).toNatClampNeg 0 (bx0 (zuf s (1700 + 40 * h + 6) 0) h) 0 W).2.1, (bxF nl h (s (1700 + 40 * h)).toNatClampNeg lm nc (s (1700 + 40 * h)).toNatClampNeg 0 (bx0 (zuf s (1700 + 40 * h + 6) 0) h) 0 W).2.2)
theorem hsF_y {nl lm nc wk h sz : Nat} {s : Nat → Int32} {H W : Int32} {R : (Nat → Int32) × Int32 × Int32} (ha : ¬ (s (1702 + 40 * h) >>> (nI wk &&& 31)) &&& 1 = 1) (hz : s (1700 + 40 * h) = nI sz) (hz6 : sz ≤ 6) (hR : bxF nl h sz lm nc sz 0 (bx0 (zuf s (1700 + 40 * h + 6) 0) h) 0 W = R) : hsF nl lm nc wk h s H W = (zuf R.1 (1700 + 40 * h + 4) (R.1 (1700 + 40 * h + 4) + R.2.1), H + R.2.1, R.2.2) := by
  unfold hsF
  rw [if_neg ha, hz, nI_clamp (by omega), hR]
def bsF (nl lm nc nh wk : Nat) : Nat → Nat → (Nat → Int32) → Int32 → Int32 → (Nat → Int32) × Int32 × Int32
  | 0, _, s, H, W => (s, H, W)
  | t + 1, k, s, H, W => bsF nl lm nc nh wk t (k + 1) (hsF nl lm nc wk ((wk + k) % nh) s H W).1 (hsF nl lm nc wk ((wk + k) % nh) s H W).2.1 (hsF nl lm nc wk ((wk + k) % nh) s H W).2.2
theorem GH.mono {D D' : Nat → Prop} {M : zM} {n : Nat} {c : mS} {kp bt : Nat → Option Nat} {la : Nat} {s : Nat → Int32} {nc nh nl lm wk : Nat} (hB : GH D M n c kp bt la s nc nh nl lm wk) (h : ∀ q, D' q → D q) : GH D' M n c kp bt la s nc nh nl lm wk := by
  obtain ⟨hN, hC, hPB, hL, hS, hHs, hW, hX⟩ := hB
  exact ⟨hN, hC, hPB, hL, hS, fun q hq => ⟨(hHs q hq).1, fun z => (hHs q hq).2 (h q z)⟩, hW, hX⟩
theorem mod_ne {wk nh j k : Nat} (hj : j < k) (hk : k < nh) : (wk + k) % nh ≠ (wk + j) % nh := by
  intro h
  have := Nat.sub_mod_eq_zero_of_mod_eq h
  rw [show wk + k - (wk + j) = k - j by omega, Nat.mod_eq_of_lt (by omega)] at this
  omega
/-- the houses whose turn is still to come -/
def todo (wk nh k q : Nat) : Prop := ∀ j, j < k → q ≠ (wk + j) % nh
theorem todo_s {wk nh k q : Nat} (h : todo wk nh (k + 1) q) : todo wk nh k q ∧ q ≠ (wk + k) % nh := ⟨fun j hj => h j (by omega), h k (by omega)⟩
section
variable {M M0 : zM} {g : Nat} {c c0 : mS} {kp bt : Nat → Option Nat} {la : Nat} {d n w nn nc nh nl lm wk h sz : Nat}
theorem c_isAway (hG : Gc M g c kp bt la) (hh : h < 10) (x : Int32) : zCall d 38 [.ref (g + 26 + 5 * h), .int x] n w M (some (.int (if (c (30 + h) 2 >>> (x &&& 31)) &&& 1 = 0 then 0 else 1))) n w M := by
  intro Q hQ
  show zR ztb _ kX3_isAway 2 0 [some (.ref (g + 26 + 5 * h)), some (.int x)] [] _ _ _ _
  by_cases q : (c (30 + h) 2 >>> (x &&& 31)) &&& 1 = 0
  · rw [if_pos q] at hQ
    repeat (first | ((with_reducible refine zR.stored ?_); dsimp only [zsto, zclr, zset, zget, zc2, cond_false, cond_true]) | ((with_reducible refine zR.atLit ?_); first | refine zR.step rfl ?_ | refine zR.getf rfl (hG.h0 hh) rfl ?_) | rw [zcc1] | rw [zcc2] | rw [zcc3] | rw [zcc4] | rw [ze1 (q)] | rw [ze2 (q)])
    exact zR.ret rfl rfl hQ
  · rw [if_neg q] at hQ
    repeat (first | ((with_reducible refine zR.stored ?_); dsimp only [zsto, zclr, zset, zget, zc2, cond_false, cond_true]) | ((with_reducible refine zR.atLit ?_); first | refine zR.step rfl ?_ | refine zR.getf rfl (hG.h0 hh) rfl ?_) | rw [zcc1] | rw [zcc2] | rw [zcc3] | rw [zcc4] | rw [zd1 (q)] | rw [zd2 (q)])
    exact zR.ret rfl rfl hQ
theorem fbs_loop {R : (Nat → Int32) × Int32 × Int32} {Q : Option Value → Nat → Nat → zM → Prop} (hg : 48 ≤ g ∧ g + 76 ≤ 300) (hwk : wk < 30) (hQ : ∀ M c D, Gc M g c kp bt la → (∀ k, k < g ∨ g + 76 ≤ k → M k = M0 k) → GH D M0 nn c kp bt la R.1 nc nh nl lm wk → c 13 0 = R.2.1 → c 13 1 = R.2.2 → c 13 2 = c0 13 2 → c 13 3 = c0 13 3 → Q none n w M) : ∀ (t k : Nat) (M : zM) (c : mS) (s : Nat → Int32) (H W : Int32) (x2 : Option Value), k + t = nh → Gc M g c kp bt la → (∀ k, k < g ∨ g + 76 ≤ k → M k = M0 k) → GH (todo wk nh k) M0 nn c kp bt la s nc nh nl lm wk → bsF nl lm nc nh wk t k s H W = R → c 13 0 = H → c 13 1 = W → c 13 2 = c0 13 2 → c 13 3 = c0 13 3 → zR ztb (d + 5) kX2_fillBoxes 0 2 [some (.ref g), some (.int (nI k)), x2] [] n w M Q
  | t, k, M, c, s, H, W, x2, ht, hG, hF, hB, hR, k0, k1, k2, k3 => by
    have hB' := hB
    obtain ⟨hN, hC, hPB, hL, hS, hHs, hW, hX⟩ := hB'
    obtain ⟨N1, N2, N3, N4, N5, N6, N7, N8, N9, N10, N11, N12, N13, N14, N15, N16, N17⟩ := hN
    have ho := hG.o
    rw [N12, N3, N13, N9] at ho
    refine zR.step rfl ?_
    match t, ht, hR with
    | 0, ht, hR =>
      have e2 : k = nh := by omega
      subst e2
      subst hR
      have e : ¬ nI k < nI k := zI_nlt (Nat.le_refl _) (by omega)
      repeat (first | ((with_reducible refine zR.stored ?_); dsimp only [zsto, zclr, zset, zget, zc2, cond_false, cond_true]) | ((with_reducible refine zR.atLit ?_); first | refine zR.step rfl ?_ | refine zR.getf rfl (ho) rfl ?_) | rw [zcc1] | rw [zcc2] | rw [zcc3] | rw [zcc4] | rw [zn1 (e)] | rw [zn2 (e)] | rw [zn3 (e)] | rw [zn4 (e)])
      exact zR.ret rfl rfl (hQ M c _ hG hF hB k0 k1 k2 k3)
    | t + 1, ht, hR =>
      have e : nI k < nI nh := zI_ylt (by omega) (by omega)
      have en0 : ¬ nI nh = 0 := fun z => by have := zn_inj (a := nh) (b := 0) (by omega) (by omega) z; omega
      have er : nI wk + nI k - (nI wk + nI k) / nI nh * nI nh = nI ((wk + k) % nh) := by
        rw [zn_add]
        exact rem40 ⟨wk + k, by omega⟩ ⟨nh, by omega⟩ (by show nh ≠ 0; omega)
      have hh : (wk + k) % nh < nh := Nat.mod_lt _ (by omega)
      have hD : todo wk nh k ((wk + k) % nh) := fun j hj => mod_ne hj (by omega)
      rw [bsF] at hR
      generalize hx : (wk + k) % nh = h at *
      have h10 : h < 10 := by omega
      obtain ⟨p1, p2, ⟨sz, p3, p3a, p3b⟩, p4, p5, p6, p7, p8⟩ := (hHs h hh).1
      have e2 : c (30 + h) 2 = s (1702 + 40 * h) := by rw [p1 2 (by omega), show 1700 + 40 * h + 2 = 1702 + 40 * h by omega]
      have ca := fun {d n w : Nat} => c_isAway (d := d) (n := n) (w := w) hG h10 (nI wk)
      rw [e2] at ca
      rcases and1_or (s (1702 + 40 * h) >>> (nI wk &&& 31)) with q | q
      · have qn : ¬ (s (1702 + 40 * h) >>> (nI wk &&& 31)) &&& 1 = 1 := by rw [q]; decide
        rw [if_pos q] at ca
        rw [hsF_y qn p3 p3b rfl] at hR
        have hS2 := hB.start hh hD
        repeat (first | ((with_reducible refine zR.stored ?_); dsimp only [zsto, zclr, zset, zget, zc2, cond_false, cond_true]) | ((with_reducible refine zR.atLit ?_); first | refine zR.step rfl ?_ | refine zR.getf rfl (ho) rfl ?_ | (refine zR.remi rfl en0 ?_; rw [er]) | (refine zR.aald rfl hG.hr (Or.inr (Or.inr (Or.inl rfl))) (i := h) rfl h10 (by decide) ?_; rw [hrow_y h10]) | refine zR.cv rfl rfl rfl (hG.h0 h10) rfl rfl (zCalP.of ca ?_)) | rw [zcc1] | rw [zcc2] | rw [zcc3] | rw [zcc4] | rw [zb1 (e)] | rw [zb2 (e)] | rw [zb3 (e)] | rw [zb4 (e)] | rw [zb1 (by decide)] | rw [zb2 (by decide)] | rw [zb3 (by decide)] | rw [zb4 (by decide)] | rw [zn1 (by decide)] | rw [zn2 (by decide)] | rw [zn3 (by decide)] | rw [zn4 (by decide)] | rw [ze1 (by decide)] | rw [ze2 (by decide)] | rw [zd1 (by decide)] | rw [zd2 (by decide)] | rw [zswy (by decide)] | rw [zswn (by decide)] | rw [zsw0])
        refine zR.putf rfl (hG.h0 h10) rfl rfl ?_
        have hG1 := hG.upH h10 (zuf (c (30 + h)) 6 1)
        have e3 := hG1.h0 h10
        rw [zuf_self] at e3
        repeat (first | ((with_reducible refine zR.stored ?_); dsimp only [zsto, zclr, zset, zget, zc2, cond_false, cond_true]) | ((with_reducible refine zR.atLit ?_); first | refine zR.step rfl ?_ | refine zR.getf rfl e3 rfl ?_) | rw [zcc1] | rw [zcc2] | rw [zcc3] | rw [zcc4] | rw [zuf_self] | rw [zb1 (by decide)] | rw [zb2 (by decide)] | rw [zb3 (by decide)] | rw [zb4 (by decide)] | rw [zn1 (by decide)] | rw [zn2 (by decide)] | rw [zn3 (by decide)] | rw [zn4 (by decide)] | rw [ze1 (by decide)] | rw [ze2 (by decide)] | rw [zd1 (by decide)] | rw [zd2 (by decide)] | rw [zswy (by decide)] | rw [zswn (by decide)] | rw [zsw0])
        refine zR.putf rfl e3 rfl rfl ?_
        have hG2 := hG1.upH h10 (zuf (zuf (c (30 + h)) 6 1) 5 (c (30 + h) 5 + 1))
        rw [zup_up, zuf_uf] at hG2
        rw [zup_up]
        repeat (first | ((with_reducible refine zR.stored ?_); dsimp only [zsto, zclr, zset, zget, zc2, cond_false, cond_true]) | ((with_reducible refine zR.atLit ?_); first | refine zR.step rfl ?_) | rw [zcc1] | rw [zcc2] | rw [zcc3] | rw [zcc4])
        refine zR.cv rfl rfl rfl hG2.o rfl rfl ?_
        show zR ztb _ kX2_fillBox 0 0 [some (.ref g), some (.ref (g + 26 + 5 * h)), none, none, none, none] [] _ _ _ _
        have ek : ∀ j, zuf c (30 + h) (zuf (zuf (c (30 + h)) 6 1) 5 (c (30 + h) 5 + 1)) 13 j = c 13 j := fun j => by rw [zuf_ne _ _ (by omega)]
        repeat (first | with_reducible refine zR.hold (pc := 2) ?_ | ((with_reducible refine zR.stored ?_); dsimp only [zsto, zclr, zset, zget, zc2, cond_false, cond_true]) | ((with_reducible refine zR.atLit ?_); first | refine zR.step rfl ?_) | rw [zcc1] | rw [zcc2] | rw [zcc3] | rw [zcc4])
        refine ⟨trivial, fb_loop (M0 := M0) (c0 := c0) (nn := nn) (D := todo wk nh k) (H0 := H) (wk := wk) (nh := nh) hg p3b (fun M3 c3 a1 a2 a3 a4 a5 a6 a7 a8 => ?_) sz 0 _ _ _ 0 W none none none (by omega) hG2 (fun k hk => by rw [zup_ne _ _ (by omega)]; exact hF k hk) hS2 (by rw [bx0_ne (by omega) (by omega) (fun r hr => by omega), zuf_ne _ _ (by omega)]; exact p3) rfl (by rw [ek, k0, Int32.add_zero]) (by rw [ek]; exact k1) (by rw [ek]; exact k2) (by rw [ek]; exact k3)⟩
        have ih := fbs_loop hg hwk hQ t (k + 1) M3 c3 _ _ _ (some (.ref (g + 26 + 5 * h))) (by omega) a1 a2 ((a3.fin a4 p3b).mono (fun q z => by rw [← hx]; exact todo_s z)) hR a5 a6 a7 a8
        rw [← zI_s] at ih
        repeat (first | with_reducible refine zR.hold (pc := 2) ?_ | ((with_reducible refine zR.stored ?_); dsimp only [zsto, zclr, zset, zget, zc2, cond_false, cond_true]) | ((with_reducible refine zR.atLit ?_); first | refine zR.step rfl ?_) | rw [zcc1] | rw [zcc2] | rw [zcc3] | rw [zcc4])
        exact ⟨trivial, ih⟩
      · rw [if_neg (by rw [q]; decide)] at ca
        rw [show hsF nl lm nc wk h s H W = (zuf s (1700 + 40 * h + 6) 0, H, W) from if_pos q] at hR
        repeat (first | ((with_reducible refine zR.stored ?_); dsimp only [zsto, zclr, zset, zget, zc2, cond_false, cond_true]) | ((with_reducible refine zR.atLit ?_); first | refine zR.step rfl ?_ | refine zR.getf rfl (ho) rfl ?_ | (refine zR.remi rfl en0 ?_; rw [er]) | (refine zR.aald rfl hG.hr (Or.inr (Or.inr (Or.inl rfl))) (i := h) rfl h10 (by decide) ?_; rw [hrow_y h10]) | refine zR.cv rfl rfl rfl (hG.h0 h10) rfl rfl (zCalP.of ca ?_)) | rw [zcc1] | rw [zcc2] | rw [zcc3] | rw [zcc4] | rw [zb1 (e)] | rw [zb2 (e)] | rw [zb3 (e)] | rw [zb4 (e)] | rw [zb1 (by decide)] | rw [zb2 (by decide)] | rw [zb3 (by decide)] | rw [zb4 (by decide)] | rw [zn1 (by decide)] | rw [zn2 (by decide)] | rw [zn3 (by decide)] | rw [zn4 (by decide)] | rw [ze1 (by decide)] | rw [ze2 (by decide)] | rw [zd1 (by decide)] | rw [zd2 (by decide)] | rw [zswy (by decide)] | rw [zswn (by decide)] | rw [zsw0])
        refine zR.putf rfl (hG.h0 h10) rfl rfl ?_
        have hG1 := hG.upH h10 (zuf (c (30 + h)) 6 0)
        have e3 := hG1.h0 h10
        rw [zuf_self] at e3
        have ek : ∀ j, zuf c (30 + h) (zuf (c (30 + h)) 6 0) 13 j = c 13 j := fun j => by rw [zuf_ne _ _ (by omega)]
        have ih := fbs_loop hg hwk hQ t (k + 1) _ _ _ H W (some (.ref (g + 26 + 5 * h))) (by omega) hG1 (fun k hk => by rw [zup_ne _ _ (by omega)]; exact hF k hk) ((hB.away hh).mono (fun q z => by rw [← hx]; exact todo_s z)) hR (by rw [ek]; exact k0) (by rw [ek]; exact k1) (by rw [ek]; exact k2) (by rw [ek]; exact k3)
        rw [← zI_s] at ih
        repeat (first | with_reducible refine zR.hold (pc := 2) ?_ | ((with_reducible refine zR.stored ?_); dsimp only [zsto, zclr, zset, zget, zc2, cond_false, cond_true]) | ((with_reducible refine zR.atLit ?_); first | refine zR.step rfl ?_ | refine zR.getf rfl e3 rfl ?_) | rw [zcc1] | rw [zcc2] | rw [zcc3] | rw [zcc4] | rw [zuf_self] | rw [zb1 (by decide)] | rw [zb2 (by decide)] | rw [zb3 (by decide)] | rw [zb4 (by decide)] | rw [zn1 (by decide)] | rw [zn2 (by decide)] | rw [zn3 (by decide)] | rw [zn4 (by decide)] | rw [ze1 (by decide)] | rw [ze2 (by decide)] | rw [zd1 (by decide)] | rw [zd2 (by decide)] | rw [zswy (by decide)] | rw [zswn (by decide)] | rw [zsw0])
        exact ⟨trivial, ih⟩
end
