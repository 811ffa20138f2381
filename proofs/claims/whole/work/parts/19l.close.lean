
/-! A WEEK: all beds are closed. -/
theorem PBi.mk {M : zM} {n : Nat} {c : mS} {bt : Nat → Option Nat} {s : Nat → Int32} {nc b : Nat} {z : Option Nat} {p a0 a1 a2 a3 a4 a5 a6 a7 a8 a9 : Int32} (h1 : (a0 = -1 ∧ z = none ∧ a1 = -1 ∧ a3 = 0 ∧ a4 = 0 ∧ a5 = 0) ∨ ∃ i a, i < nc ∧ a0 = nI i ∧ z = some a ∧ CropAt M n a i s ∧ s (50 + 10 * i) ≠ 5 ∧ (s (50 + 10 * i) = 0 ∨ s (50 + 10 * i) = 1 → a4 = 0)) (hb : b < 8) (h8 : nc ≤ 8) (h7 : a7 = 0 ∨ a7 = 1) (h6 : a6 = -1 ∨ inN a6 0 7) (h4 : 0 ≤ a4.toInt ∧ a4.toInt ≤ 300) : PBi M n (zuf c (20 + b) (lfn [a0, a1, a2, a3, a4, a5, a6, a7, a8, a9] p)) (zuf bt b z) (setB s b [a0, a1, a2, a3, a4, a5, a6, a7, a8, a9]) nc b := by
  have e0 : setB s b [a0, a1, a2, a3, a4, a5, a6, a7, a8, a9] (150 + 10 * b) = a0 := setB_at (j := 0) (by omega) rfl
  unfold PBi
  rw [show 151 + 10 * b = 150 + 10 * b + 1 by omega, show 153 + 10 * b = 150 + 10 * b + 3 by omega, show 154 + 10 * b = 150 + 10 * b + 4 by omega, show 155 + 10 * b = 150 + 10 * b + 5 by omega, show 156 + 10 * b = 150 + 10 * b + 6 by omega, show 157 + 10 * b = 150 + 10 * b + 7 by omega]
  rw [zuf_self, zuf_self, e0, setB_at (j := 1) (by omega) rfl, setB_at (j := 3) (by omega) rfl, setB_at (j := 4) (by omega) rfl, setB_at (j := 5) (by omega) rfl, setB_at (j := 6) (by omega) rfl, setB_at (j := 7) (by omega) rfl]
  refine ⟨?_, fun k h1 h2 => ?_, h7, h6, h4⟩
  · rcases h1 with h1 | ⟨i, a, e1, e2, e3, e4, e5⟩
    · exact Or.inl h1
    · refine Or.inr ⟨i, a, e1, e2, e3, e4.cg (by omega) (fun k hk => setB_ne (by omega)), ?_⟩
      rw [setB_ne (by omega)]
      exact e5
  · match k, h1, h2 with
    | 1, _, _ => exact (setB_at (j := 1) (by omega) rfl).symm
    | 2, _, _ => exact (setB_at (j := 2) (by omega) rfl).symm
    | 3, _, _ => exact (setB_at (j := 3) (by omega) rfl).symm
    | 4, _, _ => exact (setB_at (j := 4) (by omega) rfl).symm
    | 5, _, _ => exact (setB_at (j := 5) (by omega) rfl).symm
    | 6, _, _ => exact (setB_at (j := 6) (by omega) rfl).symm
    | 7, _, _ => exact (setB_at (j := 7) (by omega) rfl).symm
    | k + 8, _, h2 => exact absurd h2 (by omega)
def GE (b : Nat) (M : zM) (n : Nat) (c : mS) (kp bt : Nat → Option Nat) (la : Nat) (s : Nat → Int32) : Prop := ∃ nc nh nl lm wk, PN c s nc nh nl lm wk ∧ PC M n kp s nc ∧ (∀ q, q < b → PBi M n c bt s nc q) ∧ (∀ q, b ≤ q → q < 8 → PBk M n c bt s nc q) ∧ PL c s nc nl wk ∧ PS c s nl ∧ PH c s nh wk ∧ PW c s ∧ PX M n la s nc lm
theorem GK.ge {M : zM} {n : Nat} {c : mS} {kp bt : Nat → Option Nat} {la : Nat} {s : Nat → Int32} (h : GK M n c kp bt la s) : GE 0 M n c kp bt la s := by
  obtain ⟨nc, nh, nl, lm, wk, h1, h2, h3, h4⟩ := h
  exact ⟨nc, nh, nl, lm, wk, h1, h2, fun q hq => absurd hq (by omega), fun q _ hq => h3 q hq, h4⟩
theorem GE.gr {M : zM} {n : Nat} {c : mS} {kp bt : Nat → Option Nat} {la : Nat} {s : Nat → Int32} (h : GE 8 M n c kp bt la s) : GR M n c kp bt la s := by
  obtain ⟨nc, nh, nl, lm, wk, h1, h2, h3, -, h4⟩ := h
  exact ⟨nc, nh, nl, lm, wk, h1, h2, h3, h4⟩
theorem PBk.bare {M : zM} {n : Nat} {c : mS} {bt : Nat → Option Nat} {s : Nat → Int32} {nc b : Nat} (h : PBk M n c bt s nc b) (h0 : s (150 + 10 * b + 0) = -1) (h8 : nc ≤ 8) : PBi M n c bt s nc b := by
  obtain ⟨q1, q2, q3, q4, q5, -⟩ := h
  unfold PBi
  rw [show 151 + 10 * b = 150 + 10 * b + 1 by omega, show 153 + 10 * b = 150 + 10 * b + 3 by omega, show 154 + 10 * b = 150 + 10 * b + 4 by omega, show 155 + 10 * b = 150 + 10 * b + 5 by omega, show 156 + 10 * b = 150 + 10 * b + 6 by omega, show 157 + 10 * b = 150 + 10 * b + 7 by omega]
  rcases q1 with q1 | ⟨i, a, e1, e2, -⟩
  · exact ⟨Or.inl q1, q2, q3, q4, q5⟩
  · exact absurd (e2.symm.trans h0) (zI_m1 (by omega))
theorem GE.bare {b : Nat} {M : zM} {n : Nat} {c : mS} {kp bt : Nat → Option Nat} {la : Nat} {s : Nat → Int32} (h : GE b M n c kp bt la s) (hb : b < 8) (h0 : s (150 + 10 * b + 0) = -1) : GE (b + 1) M n c kp bt la s := by
  obtain ⟨nc, nh, nl, lm, wk, h1, h2, h3, h4, h5⟩ := h
  refine ⟨nc, nh, nl, lm, wk, h1, h2, fun q hq => ?_, fun q h q8 => h4 q (by omega) q8, h5⟩
  by_cases e : q = b
  · subst e
    exact (h4 q (by omega) hb).bare h0 h1.2.1
  · exact h3 q (by omega)
theorem bofL_en {z : Option Nat} {p kd ls r0 r1 r2 r3 r4 r5 r6 r7 r8 r9 : Int32} : bofL (zrf z) p (enL kd ls r0 r1 r2 r3 r4 r5 r6 r7 r8 r9) = bof z (lfn (enL kd ls r0 r1 r2 r3 r4 r5 r6 r7 r8 r9) p) := by
  unfold enL
  by_cases o : enO kd ls r3 (en4 kd r4 r8)
  · rw [if_pos o]; rfl
  · rw [if_neg o]; rfl
theorem endS_y {s : Nat → Int32} {b i : Nat} (h : s (150 + 10 * b + 0) = nI i) (hi : i < 8) : endS s b = setB (lostS s i (enXs s b)) b (ELs s b) := by
  unfold endS
  rw [if_neg (by rw [h]; exact zI_m1 (by omega)), h, nI_clamp (by omega)]
theorem endS_ne {s : Nat → Int32} {b i : Nat} (h : s (150 + 10 * b + 0) = nI i) (hi : i < 8) (k : Nat) (h1 : ¬ (150 + 10 * b ≤ k ∧ k < 160 + 10 * b)) (h2 : k ≠ 50 + 10 * i + 7) : endS s b k = s k := by
  rw [endS_y h hi, setB_ne h1]
  exact zuf_ne _ _ h2
/-- the cells when bed b is closed -/
def endC (c : mS) (s : Nat → Int32) (b i : Nat) : mS := zuf (zuf (zuf c (20 + b) (lfn (ELs s b) (c (20 + b) 8))) 10 (zuf (c 10) i (c 10 i + enXs s b))) 13 (zuf (c 13) 3 (c 13 3 + enXs s b))
def endZ (s : Nat → Int32) (b i : Nat) (z : Option Nat) : Option Nat := enZ (s (50 + 10 * i + 0)) (s (50 + 10 * i + 3)) (s (150 + 10 * b + 3)) (s (150 + 10 * b + 4)) (s (150 + 10 * b + 8)) z
theorem GE.close {b i : Nat} {M : zM} {n : Nat} {c : mS} {kp bt : Nat → Option Nat} {la : Nat} {s : Nat → Int32} (h : GE b M n c kp bt la s) (hb : b < 8) (h0 : s (150 + 10 * b + 0) = nI i) (hi : i < 8) : GE (b + 1) M n (endC c s b i) kp (zuf bt b (endZ s b i (bt b))) la (endS s b) := by
  obtain ⟨nc, nh, nl, lm, wk, h1, h2, h3, h4, h5, h6, h7, h8, h9⟩ := h
  have g1 : nc ≤ 8 := h1.2.1
  have g2 : nh ≤ 10 := h1.2.2.2.1
  have g3 : nl ≤ 240 := h1.2.2.2.2.2.1
  have g4 : lm ≤ 20 := h1.2.2.2.2.2.2.2.1
  have hy := endS_ne h0 hi
  have hc : ∀ j, j ≠ 20 + b → j ≠ 10 → j ≠ 13 → endC c s b i j = c j := fun j a1 a2 a3 => by
    unfold endC
    rw [zuf_ne _ _ a3, zuf_ne _ _ a2, zuf_ne _ _ a1]
  have hcb : endC c s b i (20 + b) = lfn (ELs s b) (c (20 + b) 8) := by
    unfold endC
    rw [zuf_ne _ _ (by omega), zuf_ne _ _ (by omega), zuf_self]
  refine ⟨nc, nh, nl, lm, wk, ?_, h2.cg g1 (fun k hk => hy k (by omega) (by omega)), fun q hq => ?_, fun q hq q8 => ?_, h5.cg g3 (fun k hk => hy k (by omega) (by omega)) (fun j hj => hc _ (by omega) (by omega) (by omega)), fun q hq => ?_, h7.cg g2 (fun k hk => hy k (by omega) (by omega)) (fun j hj => hc j (by omega) (by omega) (by omega)), h8.cg (fun k hk => hy k (by omega) (by omega)) (hc 7 (by omega) (by omega) (by omega)), h9.cg g4 (fun k hk => hy k (by omega) (by omega))⟩
  · unfold PN at h1 ⊢
    rw [hy 2 (by omega) (by omega), hy 4 (by omega) (by omega), hy 3 (by omega) (by omega), hy 5 (by omega) (by omega), hy 0 (by omega) (by omega), hy 1 (by omega) (by omega), hc 0 (by omega) (by omega) (by omega)]
    obtain ⟨N1, N2, N3, N4, N5, N6, N7, N8, N9, N10, N11, N12, N13, N14, N15, N16, N17⟩ := h1
    exact ⟨N1, N2, N3, N4, N5, N6, N7, N8, N9, N10, N11, N12, N13, N14, N15, fun h a z k a2 b2 => by rw [hy _ (by omega) (by omega)]; exact N16 h a z k a2 b2, fun q hq => by
      by_cases e : q = b
      · subst e
        rw [hcb]
        exact N17.1 q hq
      · rw [hc _ (by omega) (by omega) (by omega)]
        exact N17.1 q hq, fun q hq => by rw [hc _ (by omega) (by omega) (by omega)]; exact N17.2 q hq⟩
  · by_cases e : q = b
    · subst e
      obtain ⟨p1, p2, p3, p4, p5, -⟩ := h4 q (by omega) hb
      rcases p1 with ⟨z, -⟩ | ⟨j, a, e1, e2, e3, e4, e5, e6⟩
      · exact absurd (h0.symm.trans z) (zI_m1 (by omega))
      have ej : j = i := zn_inj (by omega) (by omega) (e2.symm.trans h0)
      subst ej
      have ec : endC c s q j = zuf (zuf (zuf c 10 (zuf (c 10) j (c 10 j + enXs s q))) 13 (zuf (c 13) 3 (c 13 3 + enXs s q))) (20 + q) (lfn (ELs s q) (c (20 + q) 8)) := by
        unfold endC
        rw [zuf_cm _ _ _ (show 20 + q ≠ 10 by omega), zuf_cm _ _ _ (show 20 + q ≠ 13 by omega)]
      have ez : endZ s q j (bt q) = if enO (s (50 + 10 * j + 0)) (s (50 + 10 * j + 3)) (s (150 + 10 * q + 3)) (en4 (s (50 + 10 * j + 0)) (s (150 + 10 * q + 4)) (s (150 + 10 * q + 8))) then none else bt q := rfl
      have el : ELs s q = if enO (s (50 + 10 * j + 0)) (s (50 + 10 * j + 3)) (s (150 + 10 * q + 3)) (en4 (s (50 + 10 * j + 0)) (s (150 + 10 * q + 4)) (s (150 + 10 * q + 8))) then [-1, -1, 0, 0, 0, 0, nI j, if s (50 + 10 * j + 0) = 4 then 1 else 0, s (150 + 10 * q + 8), s (150 + 10 * q + 9)] else [nI j, s (150 + 10 * q + 1), s (150 + 10 * q + 2), s (150 + 10 * q + 3), en4 (s (50 + 10 * j + 0)) (s (150 + 10 * q + 4)) (s (150 + 10 * q + 8)), en5 (s (50 + 10 * j + 0)) (s (150 + 10 * q + 5)) (s (150 + 10 * q + 9)), s (150 + 10 * q + 6), s (150 + 10 * q + 7), s (150 + 10 * q + 8), s (150 + 10 * q + 9)] := by
        unfold ELs enL
        rw [h0, nI_clamp (by omega)]
      have hl : ∀ k, 50 ≤ k ∧ k < 130 ∧ k % 10 < 6 → lostS s j (enXs s q) k = s k := fun k hk => zuf_ne _ _ (by omega)
      rw [endS_y h0 hi, ec, ez, el]
      by_cases o : enO (s (50 + 10 * j + 0)) (s (50 + 10 * j + 3)) (s (150 + 10 * q + 3)) (en4 (s (50 + 10 * j + 0)) (s (150 + 10 * q + 4)) (s (150 + 10 * q + 8)))
      · rw [if_pos o, if_pos o]
        refine PBi.mk (Or.inl ⟨rfl, rfl, rfl, rfl, rfl, rfl⟩) hb g1 ?_ (Or.inr ⟨j, rfl, by omega, by omega⟩) (by decide)
        by_cases k4 : s (50 + 10 * j + 0) = 4
        · rw [if_pos k4]; exact Or.inr rfl
        · rw [if_neg k4]; exact Or.inl rfl
      · rw [if_neg o, if_neg o]
        refine PBi.mk (Or.inr ⟨j, a, e1, rfl, e3, e4.cg (by omega) hl, ?_, ?_⟩) hb g1 p3 p4 ?_
        · rw [hl _ (by omega)]; exact e5
        · rw [hl _ (by omega)]
          intro k01
          unfold en4
          by_cases y8 : s (150 + 10 * q + 8) = 1
          · rw [if_pos ⟨y8, k01⟩]
          · rw [if_neg (fun z => y8 z.1)]
            exact (e6 k01).resolve_left y8
        · unfold en4
          by_cases y8 : s (150 + 10 * q + 8) = 1 ∧ (s (50 + 10 * j + 0) = 0 ∨ s (50 + 10 * j + 0) = 1)
          · rw [if_pos y8]; decide
          · rw [if_neg y8]; exact p5
    · exact PBi.cg (h3 q (by omega)) g1 (fun k hk => hy k (by omega) (by omega)) (fun k hk => hy _ (by omega) (by omega)) (hc _ (by omega) (by omega) (by omega)) (zuf_ne _ _ e)
  · exact PBk.cg (h4 q (by omega) q8) g1 (fun k hk => hy k (by omega) (by omega)) (fun k hk => hy _ (by omega) (by omega)) (hc _ (by omega) (by omega) (by omega)) (zuf_ne _ _ (by omega))
  · obtain ⟨q1, q2, q3, q4, q5⟩ := h6 q hq
    rw [hc 8 (by omega) (by omega) (by omega), hc 9 (by omega) (by omega) (by omega), hc 11 (by omega) (by omega) (by omega), hc 12 (by omega) (by omega) (by omega), hy (56 + 10 * q) (by omega) (by omega), hy (58 + 10 * q) (by omega) (by omega), hy (59 + 10 * q) (by omega) (by omega), stockF_cg nl g3 (fun k hk => hy k (by omega) (by omega))]
    refine ⟨q1, q2, ?_, q4, q5⟩
    show zuf (c 10) i (c 10 i + enXs s b) q = _
    by_cases e : q = i
    · subst e
      rw [zuf_self, q3, endS_y h0 hi, setB_ne (by omega)]
      unfold lostS
      rw [show 57 + 10 * q = 50 + 10 * q + 7 by omega, zuf_self]
    · rw [zuf_ne _ _ e, q3, hy _ (by omega) (by omega)]
