
/-! SMALL METHODS: stock, had, warmth. -/
theorem zI_m1 {i : Nat} (hi : i < 2 ^ 31) : ¬ nI i = -1 := by
  intro h
  have h2 := congrArg Int32.toInt h
  rw [nI_toInt hi, show (-1 : Int32).toInt = -1 by decide] at h2
  omega
theorem zI_nlt {a b : Nat} (h : b ≤ a) (ha : a < 2 ^ 31) : ¬ nI a < nI b := fun h2 => by
  have := (zn_lt ha (by omega)).mp h2
  omega
theorem zI_ylt {a b : Nat} (h : a < b) (hb : b < 2 ^ 31) : nI a < nI b := (zn_lt (by omega) hb).mpr h
theorem zI_s {i : Nat} : nI i + 1 = nI (i + 1) := zn_add i 1
theorem zR.hold {d : Nat} {k : Nat → zI} {rt pc : Nat} {L : zL} {st : List Value} {n w : Nat} {M : zM} {Q : Option Value → Nat → Nat → zM → Prop} (h : True ∧ zR ztb d k rt pc L st n w M Q) : zR ztb d k rt pc L st n w M Q := h.2
section
variable {M : zM} {σ : mS}
theorem stock_loop {d n w nl : Nat} {x : Int32} {Q : Option Value → Nat → Nat → zM → Prop} (hR : Rf M σ) (h3 : σ 0 3 = nI nl) (hn : nl ≤ 240) (hQ : Q (some (.int (stockF (σ 0) x nl))) n w M) : ∀ (t l : Nat), l + t = nl → zR ztb d kX12_stock 1 4 [some (.ref 287), some (.int x), some (.int (stockF (σ 0) x l)), some (.int (nI l))] [] n w M Q
  | 0, l, h => by
    have e : ¬ nI l < σ 0 3 := by rw [h3]; exact zI_nlt (by omega) (by omega)
    have e2 : l = nl := by omega
    subst e2
    repeat (first | rw [zcc1] | rw [zcc2] | rw [zcc3] | rw [zcc4] | rw [zn1 (e)] | rw [zn2 (e)] | rw [zn3 (e)] | rw [zn4 (e)] | refine zR.step rfl ?_ | refine zR.getf rfl (hR.1) rfl ?_ | refine zR.ilR0 hR rfl (by (try simp only [zn_lit, zn_add, zn_mul]); rfl) (by omega) ?_)
    exact zR.ret rfl rfl hQ
  | t + 1, l, h => by
    have e : nI l < σ 0 3 := by rw [h3]; exact zI_ylt (by omega) (by omega)
    have ih := stock_loop (d := d) (w := w) hR h3 hn hQ t (l + 1) (by omega)
    repeat (first | rw [zcc1] | rw [zcc2] | rw [zcc3] | rw [zcc4] | rw [zb1 (e)] | rw [zb2 (e)] | rw [zb3 (e)] | rw [zb4 (e)] | refine zR.step rfl ?_ | refine zR.getf rfl (hR.1) rfl ?_ | refine zR.ilR0 hR rfl (by (try simp only [zn_lit, zn_add, zn_mul]); rfl) (by omega) ?_)
    by_cases q : σ 0 (250 + 6 * l) = x
    · have hs : stockF (σ 0) x (l + 1) = stockF (σ 0) x l + σ 0 (250 + 6 * l + 5) := by
        rw [stockF, if_pos q, show 255 + 6 * l = 250 + 6 * l + 5 by omega]
      rw [hs, ← zI_s] at ih
      repeat (first | with_reducible refine zR.hold (pc := 4) ?_ | rw [zcc1] | rw [zcc2] | rw [zcc3] | rw [zcc4] | rw [ze1 (q)] | rw [ze2 (q)] | refine zR.step rfl ?_ | refine zR.getf rfl (hR.1) rfl ?_ | refine zR.ilR0 hR rfl (by (try simp only [zn_lit, zn_add, zn_mul]); rfl) (by omega) ?_)
      exact ⟨trivial, ih⟩
    · have hs : stockF (σ 0) x (l + 1) = stockF (σ 0) x l + 0 := by
        rw [stockF, if_neg q]
      rw [hs, ← zI_s] at ih
      repeat (first | with_reducible refine zR.hold (pc := 4) ?_ | rw [zcc1] | rw [zcc2] | rw [zcc3] | rw [zcc4] | rw [zd1 (q)] | rw [zd2 (q)] | refine zR.step rfl ?_ | refine zR.getf rfl (hR.1) rfl ?_ | refine zR.ilR0 hR rfl (by (try simp only [zn_lit, zn_add, zn_mul]); rfl) (by omega) ?_)
      exact ⟨trivial, ih⟩
theorem c_stock {d n w nl : Nat} (hR : Rf M σ) (h3 : σ 0 3 = nI nl) (hn : nl ≤ 240) (x : Int32) : zCall d 170 [.ref 287, .int x] n w M (some (.int (stockF (σ 0) x nl))) n w M := by
  intro Q hQ
  show zR ztb _ kX12_stock 1 0 [some (.ref 287), some (.int x), none, none] [] _ _ _ _
  iterate 4 refine zR.step rfl ?_
  exact stock_loop hR h3 hn hQ nl 0 (by omega)
/-- weeks since a house had a crop -/
def hadF (s : Nat → Int32) (h c : Nat) : Int32 := if s (1708 + 40 * h + c) = -1 then 99 else s 0 - s (1708 + 40 * h + c)
theorem c_had {d n w h c : Nat} (hR : Rf M σ) (hh : h < 10) (hc : c < 8) : zCall (d + 1) 171 [.ref 287, .int (nI h), .int (nI c)] n w M (some (.int (hadF (σ 0) h c))) n w M := by
  intro Q hQ
  have ha : 8 + nI c = nI (8 + c) := zn_add 8 c
  have hb : 1700 + 40 * h + (8 + c) = 1708 + 40 * h + c := by omega
  unfold hadF at hQ
  show zR ztb _ kX12_had 1 0 [some (.ref 287), some (.int (nI h)), some (.int (nI c)), none] [] _ _ _ _
  repeat (first | rw [zcc1] | rw [zcc2] | rw [zcc3] | rw [zcc4] | rw [ha] | rw [hb] | refine zR.step rfl ?_ | refine zR.getf rfl (hR.1) rfl ?_ | refine zR.cv rfl rfl rfl hR.1 rfl rfl (zCalP.of (c_houseIs hR h (8 + c) (by omega)) ?_))
  refine zR.ite (fun q => ?_) (fun q => ?_)
  · rw [if_pos q] at hQ
    repeat (first | rw [zcc1] | rw [zcc2] | rw [zcc3] | rw [zcc4] | refine zR.step rfl ?_)
    exact zR.ret rfl rfl hQ
  · rw [if_neg q] at hQ
    repeat (first | rw [zcc1] | rw [zcc2] | rw [zcc3] | rw [zcc4] | refine zR.step rfl ?_ | refine zR.getf rfl (hR.1) rfl ?_ | refine zR.ilR0 hR rfl (by (try simp only [zn_lit, zn_add, zn_mul]); rfl) (by omega) ?_)
    exact zR.ret rfl rfl hQ
end
section
variable {M : zM} {g : Nat} {c : mS} {kp bt : Nat → Option Nat} {la : Nat}
theorem c_weeksSince {d n w i q : Nat} (hG : Gc M g c kp bt la) (hi : i < 10) (hq : q < 8) (x : Int32) : zCall d 40 [.ref (g + 26 + 5 * i), .int (nI q), .int x] n w M (some (.int (if c (40 + i) q = -1 then 99 else x - c (40 + i) q))) n w M := by
  intro Q hQ
  have e1 : ¬ nI q < 0 := nI_pos (by omega)
  have e2 : nI q < 8 := zI_ylt (b := 8) (by omega) (by omega)
  show zR ztb _ kX3_weeksSince 1 0 [some (.ref (g + 26 + 5 * i)), some (.int (nI q)), some (.int x), none] [] _ _ _ _
  repeat (first | rw [zcc1] | rw [zcc2] | rw [zcc3] | rw [zcc4] | rw [zn1 (e1)] | rw [zn2 (e1)] | rw [zn3 (e1)] | rw [zn4 (e1)] | rw [zb1 (e2)] | rw [zb2 (e2)] | rw [zb3 (e2)] | rw [zb4 (e2)] | refine zR.step rfl ?_ | refine zR.getf rfl (hG.h0 hi) rfl ?_ | refine zR.iald rfl (hG.h1 hi) (Or.inl rfl) (i := q) (by first | with_reducible rfl | (simp only [zn_lit, zn_add, zn_mul]; done) | exact zI_pred (by omega) (by omega) | rfl) (by omega) (by decide) ?_)
  refine zR.ite (fun z => ?_) (fun z => ?_)
  · rw [if_pos z] at hQ
    repeat (first | rw [zcc1] | rw [zcc2] | rw [zcc3] | rw [zcc4] | refine zR.step rfl ?_ | refine zR.getf rfl (hG.h0 hi) rfl ?_)
    exact zR.ret rfl rfl hQ
  · rw [if_neg z] at hQ
    repeat (first | rw [zcc1] | rw [zcc2] | rw [zcc3] | rw [zcc4] | refine zR.step rfl ?_ | refine zR.getf rfl (hG.h0 hi) rfl ?_ | refine zR.iald rfl (hG.h1 hi) (Or.inl rfl) (i := q) (by first | with_reducible rfl | (simp only [zn_lit, zn_add, zn_mul]; done) | exact zI_pred (by omega) (by omega) | rfl) (by omega) (by decide) ?_)
    exact zR.ret rfl rfl hQ
theorem c_stockOf {d n w q : Nat} (hG : Gc M g c kp bt la) (hq : q < 8) : zCall d 17 [.ref g, .int (nI q)] n w M (some (.int (c 8 q))) n w M := by
  intro Q hQ
  have e1 : ¬ nI q < 0 := nI_pos (by omega)
  have e2 : nI q < 8 := zI_ylt (b := 8) (by omega) (by omega)
  show zR ztb _ kX2_stockOf 1 0 [some (.ref g), some (.int (nI q))] [] _ _ _ _
  repeat (first | rw [zcc1] | rw [zcc2] | rw [zcc3] | rw [zcc4] | rw [zn1 (e1)] | rw [zn2 (e1)] | rw [zn3 (e1)] | rw [zn4 (e1)] | rw [zb1 (e2)] | rw [zb2 (e2)] | rw [zb3 (e2)] | rw [zb4 (e2)] | refine zR.step rfl ?_ | refine zR.getf rfl (hG.o) rfl ?_ | refine zR.iald rfl (hG.s0) (Or.inl rfl) (i := q) (by first | with_reducible rfl | (simp only [zn_lit, zn_add, zn_mul]; done) | exact zI_pred (by omega) (by omega) | rfl) (by omega) (by decide) ?_)
  exact zR.ret rfl rfl hQ
end
