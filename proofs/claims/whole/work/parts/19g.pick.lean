
/-! A WEEK: picking. -/
/-- what holds of a garden between the growing and the closing of a week -/
def GK (M : zM) (n : Nat) (c : mS) (kp bt : Nat → Option Nat) (la : Nat) (s : Nat → Int32) : Prop := ∃ nc nh nl lm wk, PN c s nc nh nl lm wk ∧ PC M n kp s nc ∧ (∀ b, b < 8 → PBk M n c bt s nc b) ∧ PL c s nc nl wk ∧ PS c s nl ∧ PH c s nh wk ∧ PW c s ∧ PX M n la s nc lm
theorem GK.lot {M : zM} {n : Nat} {c : mS} {kp bt : Nat → Option Nat} {la : Nat} {s : Nat → Int32} {l i : Nat} {bd cm x : Int32} (h : GK M n c kp bt la s) (h3 : s 3 = nI l) (hl : l < 240) (hi : ∀ nc, s 2 = nI nc → nc ≤ 8 → i < nc) (hx : 0 ≤ x.toInt ∧ x.toInt ≤ 300) : GK M n (lotC c l i bd cm x) kp bt la (lotY s l i bd cm x) := by
  obtain ⟨nc, nh, nl, lm, wk, h1, h2, h3', h4, h5, h6, h7, h8⟩ := h
  obtain ⟨N1, N2, N3, N4, N5, N6, N7, N8, N9, N10, N11, N12, N13, N14, N15, N16, N17⟩ := h1
  have hi' := hi nc N1 N2
  have e : nl = l := zn_inj (by omega) (by omega) (N5.symm.trans h3)
  subst e
  refine ⟨nc, nh, nl + 1, lm, wk, ⟨?_, N2, ?_, N4, ?_, by omega, ?_, N8, ?_, N10, ?_, ?_, ?_, ?_, ?_, fun h a b k a2 b2 => ?_, N17.cg (fun j h1 h2 => lotC_ne (by omega))⟩, h2.cg N2 (fun k hk => lotY_ne (by omega) (by omega) (by omega)), fun b hb => (h3' b hb).cg N2 (fun k hk => lotY_ne (by omega) (by omega) (by omega)) (fun k hk => lotY_ne (by omega) (by omega) (by omega)) (lotC_ne (by omega)) rfl, h4.lot hl hi' N2 hx N9 N13, h5.lot hl (by omega), h6.cg N4 (fun k hk => lotY_ne (by omega) (by omega) (by omega)) (fun j hj => lotC_ne (by omega)), h7.cg (fun k hk => lotY_ne (by omega) (by omega) (by omega)) (lotC_ne (by omega)), h8.cg N8 (fun k hk => lotY_ne (by omega) (by omega) (by omega))⟩
  · rw [lotY_ne (by omega) (by omega) (by omega)]; exact N1
  · rw [lotY_ne (by omega) (by omega) (by omega)]; exact N3
  · rw [lotY_3, zI_s]
  · rw [lotY_ne (by omega) (by omega) (by omega)]; exact N7
  · rw [lotY_ne (by omega) (by omega) (by omega)]; exact N9
  · rw [lotY_ne (by omega) (by omega) (by omega)]; exact N11
  · rw [lotY_ne (by omega) (by omega) (by omega)]; exact N12
  · rw [lotY_ne (by omega) (by omega) (by omega)]; exact N13
  · rw [lotY_ne (by omega) (by omega) (by omega)]; exact N14
  · rw [lotY_3]; rfl
  · rw [lotY_ne (by omega) (by omega) (by omega)]; exact N16 h a b k a2 b2
theorem GK.bed {M : zM} {n : Nat} {c : mS} {kp bt : Nat → Option Nat} {la : Nat} {s : Nat → Int32} {b : Nat} {x y : Nat → Int32} {z : Option Nat} (h : GK M n c kp bt la s) (hb : b < 8) (hx8 : x 8 = 0 ∨ x 8 = 1) (hy : ∀ k, ¬ (150 + 10 * b ≤ k ∧ k < 160 + 10 * b) → y k = s k) (hp : ∀ nc, nc ≤ 8 → s 2 = nI nc → PBk M n c bt s nc b → PBk M n (zuf c (20 + b) x) (zuf bt b z) y nc b) : GK M n (zuf c (20 + b) x) kp (zuf bt b z) la y := by
  obtain ⟨nc, nh, nl, lm, wk, h1, h2, h3, h4, h5, h6, h7, h8⟩ := h
  have g1 : nc ≤ 8 := h1.2.1
  have g2 : nh ≤ 10 := h1.2.2.2.1
  have g3 : nl ≤ 240 := h1.2.2.2.2.2.1
  have g4 : lm ≤ 20 := h1.2.2.2.2.2.2.2.1
  have g5 : wk ≤ 30 := h1.2.2.2.2.2.2.2.2.2.1
  refine ⟨nc, nh, nl, lm, wk, ?_, h2.cg g1 (fun i hi => hy i (by omega)), fun q hq => ?_, h4.cg g3 (fun i hi => hy i (by omega)) (fun j hj => zuf_ne _ _ (by omega)), h5.cg g3 (fun i hi => hy i (by omega)) (fun j hj => zuf_ne _ _ (by omega)), h6.cg g2 (fun i hi => hy i (by omega)) (fun j hj => zuf_ne _ _ (by omega)), h7.cg (fun i hi => hy i (by omega)) (zuf_ne _ _ (by omega)), h8.cg g4 (fun i hi => hy i (by omega))⟩
  · unfold PN at h1 ⊢
    rw [hy 2 (by omega), hy 4 (by omega), hy 3 (by omega), hy 5 (by omega), hy 0 (by omega), hy 1 (by omega), zuf_ne _ _ (by omega)]
    obtain ⟨N1, N2, N3, N4, N5, N6, N7, N8, N9, N10, N11, N12, N13, N14, N15, N16, N17⟩ := h1
    exact ⟨N1, N2, N3, N4, N5, N6, N7, N8, N9, N10, N11, N12, N13, N14, N15, fun h a z k a2 b2 => by rw [hy _ (by omega)]; exact N16 h a z k a2 b2, fun q hq => by
      by_cases e : q = b
      · subst e
        rw [zuf_self]
        exact hx8
      · rw [zuf_ne _ _ (by omega)]
        exact N17.1 q hq, fun q hq => by rw [zuf_ne _ _ (by omega)]; exact N17.2 q hq⟩
  · by_cases e : q = b
    · subst e
      exact hp nc g1 h1.1 (h3 q hq)
    · exact PBk.cg (h3 q hq) g1 (fun i hi => hy i (by omega)) (fun k hk => hy _ (by omega)) (zuf_ne _ _ (by omega)) (zuf_ne _ _ e)
/-- bed b is picked for x -/
def pkL (s : Nat → Int32) (b : Nat) (x : Int32) : List Int32 := [s (150 + 10 * b + 0), s (150 + 10 * b + 1), s (150 + 10 * b + 2), s (150 + 10 * b + 3), s (150 + 10 * b + 4) - x, s (150 + 10 * b + 5), s (150 + 10 * b + 6), s (150 + 10 * b + 7), s (150 + 10 * b + 8), if s (150 + 10 * b + 4) - x = 0 then 1 else 0]
def pick1 (s : Nat → Int32) (l i b : Nat) (x : Int32) : Nat → Int32 := setB (lotY s l i (nI b) (s (150 + 10 * b + 1)) x) b (pkL s b x)
def pkX (s : Nat → Int32) (b : Nat) (left : Int32) : Int32 := if s (150 + 10 * b + 4) < left then s (150 + 10 * b + 4) else left
def pkF : Nat → (Nat → Int32) → Int32 → (Nat → Int32)
  | 0, s, _ => s
  | t + 1, s, left => match nxt s (fun _ => 0) 8 with
    | none => s
    | some b => if 0 < left ∧ s 3 < 240 then pkF t (pick1 s (s 3).toNatClampNeg (s (150 + 10 * b + 0)).toNatClampNeg b (pkX s b left)) (left - pkX s b left) else s
theorem pk_num {r left : Int32} (h1 : 0 < r) (h2 : r.toInt ≤ 300) (h3 : 0 < left) : (0 ≤ (if r < left then r else left).toInt ∧ (if r < left then r else left).toInt ≤ 300) ∧ (0 ≤ (r - (if r < left then r else left)).toInt ∧ (r - (if r < left then r else left)).toInt ≤ 300) ∧ (r - (if r < left then r else left) = 0 ∨ left - (if r < left then r else left) = 0) := by
  rw [Int32.lt_iff_toInt_lt, show (0 : Int32).toInt = 0 by decide] at h1 h3
  by_cases q : r < left
  · rw [if_pos q, Int32.sub_self]
    exact ⟨⟨by omega, h2⟩, by decide, Or.inl rfl⟩
  · rw [if_neg q]
    rw [Int32.lt_iff_toInt_lt] at q
    refine ⟨⟨by omega, by omega⟩, ?_, Or.inr (Int32.sub_self left)⟩
    rw [Int32.toInt_sub, Int.bmod_eq_of_le (by omega) (by omega)]
    omega
theorem pkL_lfn {z : Option Nat} {s : Nat → Int32} {b : Nat} {x p : Int32} : bof z (lfn (pkL s b x) p) = [zrf z, .int (s (150 + 10 * b + 1)), .int (s (150 + 10 * b + 2)), .int (s (150 + 10 * b + 3)), .int (s (150 + 10 * b + 4) - x), .int (s (150 + 10 * b + 5)), .int (s (150 + 10 * b + 6)), .int (s (150 + 10 * b + 7)), .int p] := rfl
/-- a picking keeps what holds -/
theorem GK.pick {M : zM} {n : Nat} {c : mS} {kp bt : Nat → Option Nat} {la : Nat} {s : Nat → Int32} {l i b nc0 : Nat} {left : Int32} (h : GK M n c kp bt la s) (h3 : s 3 = nI l) (hl : l < 240) (hb : b < 8) (h2 : s 2 = nI nc0) (hn0 : nc0 ≤ 8) (hi : i < nc0) (hi0 : s (150 + 10 * b + 0) = nI i) (hr : 0 < s (150 + 10 * b + 4)) (hleft : 0 < left) : GK M n (zuf (lotC c l i (nI b) (s (150 + 10 * b + 1)) (pkX s b left)) (20 + b) (lfn (pkL s b (pkX s b left)) 1)) kp bt la (pick1 s l i b (pkX s b left)) := by
  have hR : (s (150 + 10 * b + 4)).toInt ≤ 300 := by
    obtain ⟨nc, nh, nl, lm, wk, g1, g2, g3, -⟩ := h
    exact (g3 b hb).2.2.2.2.1.2
  obtain ⟨b1, b2, b3⟩ := pk_num hr hR hleft
  have h' := h.lot (l := l) (i := i) (bd := nI b) (cm := s (150 + 10 * b + 1)) (x := pkX s b left) h3 hl (fun nc e1 e2 => by
    have := zn_inj (a := nc) (b := nc0) (by omega) (by omega) (e1.symm.trans h2)
    omega) b1
  have hy : ∀ k, k < 10 → lotY s l i (nI b) (s (150 + 10 * b + 1)) (pkX s b left) (150 + 10 * b + k) = s (150 + 10 * b + k) := fun k hk => lotY_ne (by omega) (by omega) (by omega)
  have := h'.bed (b := b) (x := lfn (pkL s b (pkX s b left)) 1) (y := pick1 s l i b (pkX s b left)) (z := bt b) hb (Or.inr rfl) (fun k hk => setB_ne hk) (fun nc e1 e2 hp => by
    obtain ⟨p1, p2, p3, p4, p5, p6⟩ := hp
    rw [hy 7 (by omega)] at p3
    rw [hy 6 (by omega)] at p4
    have e0 := hy 0 (by omega)
    unfold pick1 pkL
    refine PBk.mk ?_ hb e1 p3 p4 b2 ?_
    · rcases p1 with ⟨y0, -⟩ | ⟨j, a, y1, y2, y3, y4, y5, y6⟩
      · exact absurd ((e0.symm.trans y0).symm.trans hi0) (fun z => zI_m1 (by omega) z.symm)
      · refine Or.inr ⟨j, a, y1, e0.symm.trans y2, y3, y4, y5, fun z => Or.inl ?_⟩
        rcases y6 z with y | y
        · rw [hy 8 (by omega)] at y
          exact y
        · rw [hy 4 (by omega)] at y
          rw [y] at hr
          exact absurd hr (by decide)
    · by_cases z : s (150 + 10 * b + 4) - pkX s b left = 0
      · rw [if_pos z]
        exact Or.inl ⟨rfl, rfl, z⟩
      · rw [if_neg z]
        exact Or.inr ⟨rfl, Or.inr ⟨rfl, z⟩⟩)
  rw [zuf_id rfl] at this
  exact this
