
/-! A WEEK: what a house is given. -/
theorem bitsT : ∀ x : Fin 256, ∀ c : Fin 8, ((nI x.val >>> (nI c.val &&& 31)) &&& 1 = if x.val.testBit c.val then 1 else 0) ∧ nI x.val ||| (1 <<< (nI c.val &&& 31)) = nI (x.val ||| 2 ^ c.val) := by decide +kernel
/-- no place up to p has the crop -/
def ninB (s : Nat → Int32) (h c : Nat) : Nat → Bool
  | 0 => true
  | p + 1 => ninB s h c p && !decide (s (1716 + 40 * h + 3 * p) = nI c)
abbrev goodP (s : Nat → Int32) (nl h sz c : Nat) : Prop := (0 < stockF s (nI c) nl ∧ (s (1701 + 40 * h) >>> (nI c &&& 31)) &&& 1 = 0) ∧ ninB s h c sz = true
def lhB (s : Nat → Int32) (nl h l : Nat) : Bool := decide (encN (evS s nl h ((s (2103 + 4 * l)).toNatClampNeg - (s (2102 + 4 * l)).toNatClampNeg) (s (2102 + 4 * l)).toNatClampNeg []) % 2 = 1)
abbrev givP (s : Nat → Int32) (nl h sz l : Nat) : Prop := (s (2100 + 4 * l) = 1 ∧ goodP s nl h sz (s (2101 + 4 * l)).toNatClampNeg) ∧ lhB s nl h l = true
def fgF (s : Nat → Int32) (nl h sz : Nat) : Nat → Nat → Option Nat
  | 0, _ => none
  | t + 1, l => if givP s nl h sz l then some l else fgF s nl h sz t (l + 1)
def brB (s : Nat → Int32) (nl h c : Nat) : Nat → Bool
  | 0 => false
  | l + 1 => brB s nl h c l || (decide (s (2100 + 4 * l) = 0) && decide (s (2101 + 4 * l) = nI c) && lhB s nl h l)
abbrev freP (s : Nat → Int32) (nl h sz lm c : Nat) : Prop := brB s nl h c lm = false ∧ goodP s nl h sz c
def mor (s : Nat → Int32) (nl c : Nat) : Option Nat → Bool
  | none => true
  | some o => decide (stockF s (nI o) nl < stockF s (nI c) nl)
def msF (s : Nat → Int32) (nl h sz lm : Nat) : Nat → Option Nat
  | 0 => none
  | c + 1 => if freP s nl h sz lm c ∧ mor s nl c (msF s nl h sz lm c) = true then some c else msF s nl h sz lm c
theorem msF_lt {s : Nat → Int32} {nl h sz lm : Nat} : ∀ m o, msF s nl h sz lm m = some o → o < m ∧ freP s nl h sz lm o
  | 0, o, he => by cases he
  | c + 1, o, he => by
    rw [msF] at he
    by_cases q : freP s nl h sz lm c ∧ mor s nl c (msF s nl h sz lm c) = true
    · rw [if_pos q] at he
      injection he with he
      subst he
      exact ⟨by omega, q.1⟩
    · rw [if_neg q] at he
      obtain ⟨a1, a2⟩ := msF_lt c o he
      exact ⟨by omega, a2⟩
theorem fgF_lt {s : Nat → Int32} {nl h sz : Nat} : ∀ t l o, fgF s nl h sz t l = some o → o < l + t ∧ givP s nl h sz o
  | 0, l, o, he => by cases he
  | t + 1, l, o, he => by
    rw [fgF] at he
    by_cases q : givP s nl h sz l
    · rw [if_pos q] at he
      injection he with he
      subst he
      exact ⟨by omega, q⟩
    · rw [if_neg q] at he
      obtain ⟨a1, a2⟩ := fgF_lt t (l + 1) o he
      exact ⟨by omega, a2⟩
/-- lines as cells, and what the row says of them -/
def LNS (M : zM) (la : Nat) (s : Nat → Int32) (nc lm : Nat) : Prop := ∃ (sc : Nat) (r : mS) (en : Nat → Nat), Lc M la lm sc r ∧ sc ≤ 100 ∧ en 0 = 0 ∧ (∀ l, l ≤ lm → en l ≤ sc) ∧ (∀ l, l < lm → en l ≤ en (l + 1) ∧ s (2102 + 4 * l) = nI (en l) ∧ s (2103 + 4 * l) = nI (en (l + 1)) ∧ r 2 l = nI (en (l + 1)) ∧ ((r 0 l = 10 ∧ s (2100 + 4 * l) = 1) ∨ (r 0 l = 11 ∧ s (2100 + 4 * l) = 0)) ∧ r 1 l = s (2101 + 4 * l) ∧ (∃ i, i < nc ∧ s (2101 + 4 * l) = nI i) ∧ (en l = en (l + 1) ∨ wfS s (en (l + 1) - en l) (en l) 0)) ∧ ∀ k, k < sc → stepR (r 3 k) (r 4 k) (r 5 k) (r 6 k) (s (2200 + 4 * k)) (s (2201 + 4 * k)) (s (2202 + 4 * k)) (s (2203 + 4 * k)) ∧ (s (2200 + 4 * k) = 6 ∨ s (2200 + 4 * k) = 7 → ∃ i, i < nc ∧ s (2201 + 4 * k) = nI i)
theorem PX.lns {M M' : zM} {n la nc lm g : Nat} {s : Nat → Int32} (h : PX M n la s nc lm) (hF : ∀ k, k < g ∨ g + 76 ≤ k → M' k = M k) (hg : 48 ≤ g ∧ g + 76 ≤ 300) : LNS M' la s nc lm := by
  obtain ⟨sc, r, en, x1, x2, x3, x4, x5, x6, x7, x8, x9⟩ := h
  exact ⟨sc, r, en, x1.same (fun k a b => hF k (by omega)), x5, x6, x7, x8, x9⟩
/-- all that the questions at a box need -/
def QB (M : zM) (g : Nat) (c : mS) (kp bt : Nat → Option Nat) (la : Nat) (s : Nat → Int32) (nc nl lm wk h sz : Nat) : Prop := Gc M g c kp bt la ∧ c 0 0 = nI nc ∧ nc ≤ 8 ∧ (∀ q, q < 8 → c 8 q = stockF s (nI q) nl) ∧ c 0 2 = s 0 ∧ s 0 = nI wk ∧ wk ≤ 30 ∧ c (30 + h) 0 = s (1700 + 40 * h) ∧ s (1700 + 40 * h) = nI sz ∧ sz ≤ 6 ∧ c (30 + h) 1 = s (1701 + 40 * h) ∧ (∀ q, q < 8 → c (40 + h) q = s (1708 + 40 * h + q) ∧ (s (1708 + 40 * h + q) = -1 ∨ ∃ k, s (1708 + 40 * h + q) = nI k ∧ k ≤ wk)) ∧ (∀ q, q < 8 → (s (1708 + 40 * h + q) = nI wk ↔ ninB s h q sz = false)) ∧ h < 10 ∧ lm ≤ 20 ∧ LNS M la s nc lm
section
variable {M : zM} {g : Nat} {c : mS} {kp bt : Nat → Option Nat} {la : Nat} {s : Nat → Int32} {d n w nc nl lm wk h sz : Nat}
theorem c_isMetB {l : Nat} (hQ : QB M g c kp bt la s nc nl lm wk h sz) (hl : l < lm) : zCall (d + 2) 52 [.ref la, .int (nI l), .ref g, .ref (g + 26 + 5 * h)] n w M (some (.int (if lhB s nl h l = true then 1 else 0))) n w M := by
  obtain ⟨hG, -, h8, hS, hwk, -, -, hz, -, -, -, hH, -, hh, hlm, sc, r, en, x1, x5, x6, x7, x8, x9⟩ := hQ
  obtain ⟨z1, z2, z3, z4, z5, z6, z7, z8⟩ := x8 l hl
  have hst : ∀ k, k < sc → stepR (r 3 k) (r 4 k) (r 5 k) (r 6 k) (s (2200 + 4 * k)) (s (2201 + 4 * k)) (s (2202 + 4 * k)) (s (2203 + 4 * k)) ∧ (s (2200 + 4 * k) = 6 ∨ s (2200 + 4 * k) = 7 → ∃ i, i < 8 ∧ s (2201 + 4 * k) = nI i) := fun k hk => ⟨(x9 k hk).1, fun q => by
    obtain ⟨j, y1, y2⟩ := (x9 k hk).2 q
    exact ⟨j, by omega, y2⟩⟩
  have hbeg : (l = 0 ∧ en l = 0) ∨ (0 < l ∧ r 2 (l - 1) = nI (en l)) := by
    rcases Nat.eq_zero_or_pos l with q | q
    · exact Or.inl ⟨q, by rw [q]; exact x6⟩
    · have := (x8 (l - 1) (by omega)).2.2.2.1
      rw [show l - 1 + 1 = l by omega] at this
      exact Or.inr ⟨q, this⟩
  have b1 := x7 l (by omega)
  have b2 := x7 (l + 1) (by omega)
  have e : lhB s nl h l = decide (encN (evS s nl h (en (l + 1) - en l) (en l) []) % 2 = 1) := by
    unfold lhB
    rw [z2, z3, nI_clamp (by omega), nI_clamp (by omega)]
  have := c_isMet (d := d) (n := n) (w := w) (nl := nl) (h := h) (ln := l) hG x1 x5 hlm hh z1 b2 hl z4 hbeg z8 hst hS hwk (fun q hq => (hH q hq).1) hz
  rw [e]
  by_cases q : encN (evS s nl h (en (l + 1) - en l) (en l) []) % 2 = 1
  · rw [if_pos q] at this
    rw [if_pos (decide_eq_true q)]
    exact this
  · rw [if_neg q] at this
    rw [if_neg (by rw [decide_eq_false q]; decide)]
    exact this
theorem c_isGoodC {q : Nat} (hQ : QB M g c kp bt la s nc nl lm wk h sz) (hq : q < 8) : zCall (d + 1) 32 [.ref g, .ref (g + 26 + 5 * h), .int (nI q)] n w M (some (.int (if goodP s nl h sz q then 1 else 0))) n w M := by
  obtain ⟨hG, -, h8, hS, hwk, hw, hw30, hz, -, -, h1, hH, hlk, hh, -⟩ := hQ
  obtain ⟨hq1, hq2⟩ := hH q hq
  have e8 := hS q hq
  intro Q hQ
  show zR ztb _ kX2_isGood 2 0 [some (.ref g), some (.ref (g + 26 + 5 * h)), some (.int (nI q))] [] _ _ _ _
  have cs := fun {d n w : Nat} => c_stockOf (d := d) (n := n) (w := w) hG hq
  rw [e8] at cs
  have cd := fun {d n w : Nat} => c_dislikes (d := d) (n := n) (w := w) hG hh (nI q)
  rw [h1] at cd
  have cw := fun {d n w : Nat} => c_weeksSince (d := d) (n := n) (w := w) hG hh hq (c 0 2)
  rw [hq1, hwk, hw] at cw
  by_cases g1 : 0 < stockF s (nI q) nl
  · by_cases g2 : (s (1701 + 40 * h) >>> (nI q &&& 31)) &&& 1 = 0
    · rw [if_pos g2] at cd
      by_cases g3 : s (1708 + 40 * h + q) = nI wk
      · have g4 : ninB s h q sz = false := (hlk q hq).mp g3
        rw [if_neg (fun z => by rw [z.2] at g4; exact absurd g4 (by decide))] at hQ
        rw [g3, if_neg (zI_m1 (by omega)), Int32.sub_self] at cw
        repeat (first | ((with_reducible refine zR.stored ?_); dsimp only [zsto, zclr, zset, zget, zc2, cond_false, cond_true]) | ((with_reducible refine zR.atLit ?_); first | refine zR.step rfl ?_ | refine zR.cv rfl rfl rfl hG.o rfl rfl (zCalP.of cs ?_) | refine zR.cv rfl rfl rfl (hG.h0 hh) rfl rfl (zCalP.of cd ?_) | (refine zR.getf rfl hG.o rfl ?_; rw [hwk, hw]) | refine zR.cv rfl rfl rfl (hG.h0 hh) rfl rfl (zCalP.of cw ?_)) | rw [zcc1] | rw [zcc2] | rw [zcc3] | rw [zcc4] | rw [zb1 (g1)] | rw [zb2 (g1)] | rw [zb3 (g1)] | rw [zb4 (g1)] | rw [zb1 (by decide)] | rw [zb2 (by decide)] | rw [zb3 (by decide)] | rw [zb4 (by decide)] | rw [zn1 (by decide)] | rw [zn2 (by decide)] | rw [zn3 (by decide)] | rw [zn4 (by decide)] | rw [ze1 (by decide)] | rw [ze2 (by decide)] | rw [zd1 (by decide)] | rw [zd2 (by decide)] | rw [zswy (by decide)] | rw [zswn (by decide)] | rw [zsw0])
        exact zR.ret rfl rfl hQ
      · have g4 : ninB s h q sz = true := by
          cases z : ninB s h q sz with
          | true => rfl
          | false => exact absurd ((hlk q hq).mpr z) g3
        rw [if_pos ⟨⟨g1, g2⟩, g4⟩] at hQ
        have g5 : ¬ (if s (1708 + 40 * h + q) = -1 then (99 : Int32) else nI wk - s (1708 + 40 * h + q)) = 0 := by
          rcases hq2 with y | ⟨k, y, hk⟩
          · rw [if_pos y]; decide
          · rw [y, if_neg (zI_m1 (by omega)), zI_sub hk (by omega)]
            intro z
            have := zn_inj (a := wk - k) (b := 0) (by omega) (by omega) z
            exact g3 (by rw [y]; exact congrArg nI (by omega))
        repeat (first | ((with_reducible refine zR.stored ?_); dsimp only [zsto, zclr, zset, zget, zc2, cond_false, cond_true]) | ((with_reducible refine zR.atLit ?_); first | refine zR.step rfl ?_ | refine zR.cv rfl rfl rfl hG.o rfl rfl (zCalP.of cs ?_) | refine zR.cv rfl rfl rfl (hG.h0 hh) rfl rfl (zCalP.of cd ?_) | (refine zR.getf rfl hG.o rfl ?_; rw [hwk, hw]) | refine zR.cv rfl rfl rfl (hG.h0 hh) rfl rfl (zCalP.of cw ?_)) | rw [zcc1] | rw [zcc2] | rw [zcc3] | rw [zcc4] | rw [zb1 (g1)] | rw [zb2 (g1)] | rw [zb3 (g1)] | rw [zb4 (g1)] | rw [zd1 (g5)] | rw [zd2 (g5)] | rw [zb1 (by decide)] | rw [zb2 (by decide)] | rw [zb3 (by decide)] | rw [zb4 (by decide)] | rw [zn1 (by decide)] | rw [zn2 (by decide)] | rw [zn3 (by decide)] | rw [zn4 (by decide)] | rw [ze1 (by decide)] | rw [ze2 (by decide)] | rw [zd1 (by decide)] | rw [zd2 (by decide)] | rw [zswy (by decide)] | rw [zswn (by decide)] | rw [zsw0])
        exact zR.ret rfl rfl hQ
    · rw [if_neg g2] at cd
      rw [if_neg (fun z => g2 z.1.2)] at hQ
      repeat (first | ((with_reducible refine zR.stored ?_); dsimp only [zsto, zclr, zset, zget, zc2, cond_false, cond_true]) | ((with_reducible refine zR.atLit ?_); first | refine zR.step rfl ?_ | refine zR.cv rfl rfl rfl hG.o rfl rfl (zCalP.of cs ?_) | refine zR.cv rfl rfl rfl (hG.h0 hh) rfl rfl (zCalP.of cd ?_)) | rw [zcc1] | rw [zcc2] | rw [zcc3] | rw [zcc4] | rw [zb1 (g1)] | rw [zb2 (g1)] | rw [zb3 (g1)] | rw [zb4 (g1)] | rw [zb1 (by decide)] | rw [zb2 (by decide)] | rw [zb3 (by decide)] | rw [zb4 (by decide)] | rw [zn1 (by decide)] | rw [zn2 (by decide)] | rw [zn3 (by decide)] | rw [zn4 (by decide)] | rw [ze1 (by decide)] | rw [ze2 (by decide)] | rw [zd1 (by decide)] | rw [zd2 (by decide)] | rw [zswy (by decide)] | rw [zswn (by decide)] | rw [zsw0])
      exact zR.ret rfl rfl hQ
  · rw [if_neg (fun z => g1 z.1.1)] at hQ
    repeat (first | ((with_reducible refine zR.stored ?_); dsimp only [zsto, zclr, zset, zget, zc2, cond_false, cond_true]) | ((with_reducible refine zR.atLit ?_); first | refine zR.step rfl ?_ | refine zR.cv rfl rfl rfl hG.o rfl rfl (zCalP.of cs ?_)) | rw [zcc1] | rw [zcc2] | rw [zcc3] | rw [zcc4] | rw [zn1 (g1)] | rw [zn2 (g1)] | rw [zn3 (g1)] | rw [zn4 (g1)])
    exact zR.ret rfl rfl hQ
end
