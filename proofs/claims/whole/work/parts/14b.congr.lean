
/-! THE PIECES OF A GARDEN'S STANDING FOR A ROW: what they ask of the row. -/
theorem CropAt.cg {M : zM} {n a i : Nat} {s s' : Nat → Int32} (h : CropAt M n a i s) (hi : i < 8) (hs : ∀ i, 50 ≤ i ∧ i < 130 ∧ i % 10 < 6 → s' i = s i) : CropAt M n a i s' := by
  unfold CropAt cropF at h ⊢
  rw [hs (50 + 10 * i) (by omega), hs (51 + 10 * i) (by omega), hs (52 + 10 * i) (by omega), hs (53 + 10 * i) (by omega), hs (54 + 10 * i) (by omega), hs (55 + 10 * i) (by omega)]
  exact h
theorem PC.cg {M : zM} {n nc : Nat} {kp : Nat → Option Nat} {s s' : Nat → Int32} (h : PC M n kp s nc) (h8 : nc ≤ 8) (hs : ∀ i, 50 ≤ i ∧ i < 130 ∧ i % 10 < 6 → s' i = s i) : PC M n kp s' nc := by
  refine ⟨fun i hi => ?_, h.2⟩
  obtain ⟨⟨a, q1, q2⟩, q3⟩ := h.1 i hi
  rw [hs (50 + 10 * i) (by omega), hs (51 + 10 * i) (by omega), hs (52 + 10 * i) (by omega), hs (53 + 10 * i) (by omega), hs (54 + 10 * i) (by omega), hs (55 + 10 * i) (by omega)]
  exact ⟨⟨a, q1, q2.cg (by omega) hs⟩, q3⟩
theorem PB.cg {M : zM} {n nc : Nat} {c c' : mS} {bt : Nat → Option Nat} {s s' : Nat → Int32} (h : PB M n c bt s nc) (h8 : nc ≤ 8) (hs : ∀ i, (50 ≤ i ∧ i < 130 ∧ i % 10 < 6) ∨ (150 ≤ i ∧ i < 230 ∧ i % 10 < 8) → s' i = s i) (hc : ∀ b, b < 8 → c' (20 + b) = c (20 + b)) : PB M n c' bt s' nc := by
  intro b hb
  obtain ⟨q1, q2, q3⟩ := h b hb
  rw [hs (150 + 10 * b) (by omega), hs (151 + 10 * b) (by omega), hs (157 + 10 * b) (by omega), hs (156 + 10 * b) (by omega), hs (154 + 10 * b) (by omega), hs (153 + 10 * b) (by omega), hs (155 + 10 * b) (by omega), hc b hb]
  refine ⟨?_, fun k h1 h2 => by rw [hs _ (by omega)]; exact q2 k h1 h2, q3⟩
  rcases q1 with q1 | ⟨i, a, e1, e2, e3, e4, e5, e6⟩
  · exact Or.inl q1
  · refine Or.inr ⟨i, a, e1, e2, e3, e4.cg (by omega) (fun i hi => hs i (Or.inl hi)), ?_⟩
    rw [hs (50 + 10 * i) (by omega)]
    exact ⟨e5, e6⟩
theorem PL.cg {c c' : mS} {s s' : Nat → Int32} {nc nl wk : Nat} (h : PL c s nc nl wk) (hl : nl ≤ 240) (hs : ∀ i, 250 ≤ i ∧ i < 1690 → s' i = s i) (hc : ∀ j, j < 6 → c' (1 + j) = c (1 + j)) : PL c' s' nc nl wk := by
  intro l hl2
  obtain ⟨q1, q2⟩ := h l hl2
  rw [hs (250 + 6 * l) (by omega), hs (255 + 6 * l) (by omega), hs (253 + 6 * l) (by omega)]
  exact ⟨fun j hj => by rw [hs _ (by omega), hc j hj]; exact q1 j hj, q2⟩
theorem stockF_cg {s s' : Nat → Int32} {x : Int32} : ∀ nl, nl ≤ 240 → (∀ i, 250 ≤ i ∧ i < 1690 → s' i = s i) → stockF s' x nl = stockF s x nl
  | 0, _, _ => rfl
  | l + 1, h, hs => by
    unfold stockF
    rw [stockF_cg l (by omega) hs, hs (250 + 6 * l) (by omega), hs (255 + 6 * l) (by omega)]
theorem PS.cg {c c' : mS} {s s' : Nat → Int32} {nl : Nat} (h : PS c s nl) (hl : nl ≤ 240) (hs : ∀ i, (250 ≤ i ∧ i < 1690) ∨ (50 ≤ i ∧ i < 130 ∧ 6 ≤ i % 10) → s' i = s i) (hc : ∀ j, j < 5 → c' (8 + j) = c (8 + j)) : PS c' s' nl := by
  intro i hi
  obtain ⟨q1, q2, q3, q4, q5⟩ := h i hi
  have e0 := hc 0 (by omega)
  have e1 := hc 1 (by omega)
  have e2 := hc 2 (by omega)
  have e3 := hc 3 (by omega)
  have e4 := hc 4 (by omega)
  rw [stockF_cg nl hl (fun i h => hs i (Or.inl h)), hs (56 + 10 * i) (by omega), hs (57 + 10 * i) (by omega), hs (58 + 10 * i) (by omega), hs (59 + 10 * i) (by omega)]
  refine ⟨?_, ?_, ?_, ?_, ?_⟩
  · rw [show c' 8 = c 8 from e0]; exact q1
  · rw [show c' 9 = c 9 from e1]; exact q2
  · rw [show c' 10 = c 10 from e2]; exact q3
  · rw [show c' 11 = c 11 from e3]; exact q4
  · rw [show c' 12 = c 12 from e4]; exact q5
theorem PH.cg {c c' : mS} {s s' : Nat → Int32} {nh wk : Nat} (h : PH c s nh wk) (hn : nh ≤ 10) (hs : ∀ i, 1700 ≤ i ∧ i < 2100 → s' i = s i) (hc : ∀ j, 30 ≤ j → c' j = c j) : PH c' s' nh wk := by
  intro q hq
  obtain ⟨q1, q2, q3, q4, q5, q6, q7, q8⟩ := h q hq
  rw [hs (1700 + 40 * q) (by omega), hs (1701 + 40 * q) (by omega), hs (1702 + 40 * q) (by omega), hs (1703 + 40 * q) (by omega), hs (1706 + 40 * q) (by omega), hc (30 + q) (by omega), hc (40 + q) (by omega), hc (50 + q) (by omega), hc (60 + q) (by omega), hc (70 + q) (by omega)]
  refine ⟨fun k hk => by rw [hs _ (by omega)]; exact q1 k hk, fun i hi => by rw [hs _ (by omega)]; exact q2 i hi, q3, q4, q5, q6, q7, fun h1 p hp hp2 => ?_⟩
  rw [hs _ (by omega), hs _ (by omega), hs _ (by omega)]
  exact q8 h1 p hp hp2
theorem PW.cg {c c' : mS} {s s' : Nat → Int32} (h : PW c s) (hs : ∀ i, 10 ≤ i ∧ i < 40 → s' i = s i) (hc : c' 7 = c 7) : PW c' s' := by
  intro j hj
  rw [hs _ (by omega), hc]
  exact h j hj
theorem wfS_cg {s s' : Nat → Int32} : ∀ m k dp, k + m ≤ 100 → (∀ i, 2200 ≤ i ∧ i < 2600 → s' i = s i) → wfS s m k dp → wfS s' m k dp
  | 0, _, _, _, _, h => h
  | m + 1, k, dp, hk, hs, h => by
    unfold wfS at h ⊢
    rw [hs _ (by omega)]
    rcases h with ⟨a, b, c⟩ | ⟨a, b, c⟩ | ⟨a, b, c⟩
    · exact Or.inl ⟨a, b, wfS_cg m _ _ (by omega) hs c⟩
    · exact Or.inr (Or.inl ⟨a, b, wfS_cg m _ _ (by omega) hs c⟩)
    · exact Or.inr (Or.inr ⟨a, b, wfS_cg m _ _ (by omega) hs c⟩)
theorem PX.cg {M : zM} {n la nc lm : Nat} {s s' : Nat → Int32} (h : PX M n la s nc lm) (hl : lm ≤ 20) (hs : ∀ i, 2100 ≤ i ∧ i < 2600 → s' i = s i) : PX M n la s' nc lm := by
  obtain ⟨sc, r, en, x1, x2, x3, x4, x5, x6, x7, x8, x9⟩ := h
  refine ⟨sc, r, en, x1, x2, x3, x4, x5, x6, x7, fun l hl2 => ?_, fun k hk => ?_⟩
  · obtain ⟨y1, y2, y3, y4, y5, y6, y7, y8⟩ := x8 l hl2
    have z1 := x7 (l + 1) (by omega)
    rw [hs (2102 + 4 * l) (by omega), hs (2103 + 4 * l) (by omega), hs (2100 + 4 * l) (by omega), hs (2101 + 4 * l) (by omega)]
    exact ⟨y1, y2, y3, y4, y5, y6, y7, y8.imp id (wfS_cg _ _ _ (by omega) (fun i hi => hs i (by omega)))⟩
  · obtain ⟨y1, y2⟩ := x9 k hk
    rw [hs (2200 + 4 * k) (by omega), hs (2201 + 4 * k) (by omega), hs (2202 + 4 * k) (by omega), hs (2203 + 4 * k) (by omega)]
    exact ⟨y1, y2⟩
/-- a change of the numbers alone -/
theorem GR.num {M : zM} {n : Nat} {c c' : mS} {kp bt : Nat → Option Nat} {la : Nat} {s s' : Nat → Int32} (h : GR M n c kp bt la s) (hs : ∀ i, 10 ≤ i → s' i = s i) (hc : ∀ j, 1 ≤ j → c' j = c j) (hN : ∀ nc nh nl lm wk, PN c s nc nh nl lm wk → PN c' s' nc nh nl lm wk) : GR M n c' kp bt la s' := by
  obtain ⟨nc, nh, nl, lm, wk, h1, h2, h3, h4, h5, h6, h7, h8⟩ := h
  have g1 : nc ≤ 8 := h1.2.1
  have g2 : nh ≤ 10 := h1.2.2.2.1
  have g3 : nl ≤ 240 := h1.2.2.2.2.2.1
  have g4 : lm ≤ 20 := h1.2.2.2.2.2.2.2.1
  exact ⟨nc, nh, nl, lm, wk, hN _ _ _ _ _ h1, h2.cg g1 (fun i hi => hs i (by omega)), h3.cg g1 (fun i hi => hs i (by omega)) (fun b hb => hc _ (by omega)), h4.cg g3 (fun i hi => hs i (by omega)) (fun j hj => hc _ (by omega)), h5.cg g3 (fun i hi => hs i (by omega)) (fun j hj => hc _ (by omega)), h6.cg g2 (fun i hi => hs i (by omega)) (fun j hj => hc _ (by omega)), h7.cg (fun i hi => hs i (by omega)) (hc _ (by omega)), h8.cg g4 (fun i hi => hs i (by omega))⟩
/-- a garden's own numbers written anew -/
theorem Gc.row0 {M : zM} {g : Nat} {c : mS} {kp bt : Nat → Option Nat} {la : Nat} (h : Gc M g c kp bt la) (x : Nat → Int32) (hx : x 4 = c 0 4) : Gc (zup M g (.inr (2, gob g la (x 0) (x 1) (x 2) (x 3)))) g (zuf c 0 x) kp bt la := by
  obtain ⟨h0, h1, h2, h3, h4, h5, h6, h7, h8, h9, h10⟩ := h
  refine ⟨zup_self _ _ _, by rw [zup_ne _ _ (by omega)]; exact h1, by rw [zup_ne _ _ (by omega)]; exact h2, by rw [zup_ne _ _ (by omega)]; exact h3, ?_, fun j hj => ?_, by rw [zup_ne _ _ (by omega)]; exact h6, fun j hj => ?_, by rw [zup_ne _ _ (by omega)]; exact h8, fun i hi => ?_, fun i hi => ?_⟩
  · rw [zup_ne _ _ (by omega), zuf_self, hx]; exact h4
  · rw [zup_ne _ _ (by omega), zuf_ne _ _ (by omega)]; exact h5 j hj
  · rw [zup_ne _ _ (by omega), zuf_ne _ _ (by omega)]; exact h7 j hj
  · rw [zup_ne _ _ (by omega), zuf_ne _ _ (by omega)]; exact h9 i hi
  · rw [zup_ne _ _ (by omega), zup_ne _ _ (by omega), zup_ne _ _ (by omega), zup_ne _ _ (by omega), zup_ne _ _ (by omega), zuf_ne _ _ (by omega), zuf_ne _ _ (by omega), zuf_ne _ _ (by omega), zuf_ne _ _ (by omega), zuf_ne _ _ (by omega)]
    exact h10 i hi
theorem Tc.out {M : zM} {t : mS} {tr : Option Nat} (h : Tc M t tr) {a : Nat} {c : zC} (ha : 40 ≤ a ∧ (a < 276 ∨ 287 ≤ a)) : Tc (zup M a c) t tr := h.same (fun k hk => zup_ne _ _ (by omega))
theorem Gc.out {M : zM} {g : Nat} {c : mS} {kp bt : Nat → Option Nat} {la : Nat} (h : Gc M g c kp bt la) {a : Nat} {x : zC} (ha : a < g ∨ g + 76 ≤ a) : Gc (zup M a x) g c kp bt la := h.same (fun k h1 h2 => zup_ne _ _ (by omega))
theorem GR.out {M : zM} {n : Nat} {c : mS} {kp bt : Nat → Option Nat} {la : Nat} {s : Nat → Int32} (h : GR M n c kp bt la s) {a : Nat} {x : zC} (ha : a < 40 ∨ (48 ≤ a ∧ a < 300)) : GR (zup M a x) n c kp bt la s := h.mv (fun k h1 h2 => zup_ne _ _ (by omega)) (Nat.le_refl _)
