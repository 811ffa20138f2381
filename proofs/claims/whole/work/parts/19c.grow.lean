
/-! A WEEK: beds grow in the class. -/
def lfn (l : List Int32) (p : Int32) : Nat → Int32 := fun k => if k = 8 then p else (lg l k).getD 0
def GLs (s : Nat → Int32) (wk b : Nat) : List Int32 := grL (wmF s wk) (s (50 + 10 * (s (150 + 10 * b)).toNatClampNeg + 0)) (s (50 + 10 * (s (150 + 10 * b)).toNatClampNeg + 1)) (s (50 + 10 * (s (150 + 10 * b)).toNatClampNeg + 2)) (s (50 + 10 * (s (150 + 10 * b)).toNatClampNeg + 3)) (s (150 + 10 * b + 0)) (s (150 + 10 * b + 1)) (s (150 + 10 * b + 2)) (s (150 + 10 * b + 3)) (s (150 + 10 * b + 4)) (s (150 + 10 * b + 5)) (s (150 + 10 * b + 6)) (s (150 + 10 * b + 7))
theorem growS_eq {s : Nat → Int32} {wk b : Nat} : growS s wk b = setB s b (GLs s wk b) := rfl
theorem bofL_eq {z : Option Nat} {p a0 a1 a2 a3 a4 a5 a6 a7 a8 a9 : Int32} : bofL (zrf z) p [a0, a1, a2, a3, a4, a5, a6, a7, a8, a9] = bof z (lfn [a0, a1, a2, a3, a4, a5, a6, a7, a8, a9] p) := rfl
/-- what holds of a bed between the growing and the closing of a week -/
def PBk (M : zM) (n : Nat) (c : mS) (bt : Nat → Option Nat) (s : Nat → Int32) (nc b : Nat) : Prop := ((s (150 + 10 * b) = -1 ∧ bt b = none ∧ s (150 + 10 * b + 1) = -1 ∧ s (150 + 10 * b + 3) = 0 ∧ s (150 + 10 * b + 4) = 0 ∧ s (150 + 10 * b + 5) = 0) ∨ ∃ i a, i < nc ∧ s (150 + 10 * b) = nI i ∧ bt b = some a ∧ CropAt M n a i s ∧ s (50 + 10 * i) ≠ 5 ∧ (s (50 + 10 * i) = 0 ∨ s (50 + 10 * i) = 1 → s (150 + 10 * b + 8) = 1 ∨ s (150 + 10 * b + 4) = 0)) ∧ (∀ k, 1 ≤ k → k ≤ 7 → c (20 + b) k = s (150 + 10 * b + k)) ∧ (s (150 + 10 * b + 7) = 0 ∨ s (150 + 10 * b + 7) = 1) ∧ (s (150 + 10 * b + 6) = -1 ∨ inN (s (150 + 10 * b + 6)) 0 7) ∧ (0 ≤ (s (150 + 10 * b + 4)).toInt ∧ (s (150 + 10 * b + 4)).toInt ≤ 300) ∧ ((s (150 + 10 * b + 9) = 1 ∧ c (20 + b) 8 = 1 ∧ s (150 + 10 * b + 4) = 0) ∨ (s (150 + 10 * b + 9) = 0 ∧ (c (20 + b) 8 = 0 ∨ (c (20 + b) 8 = 1 ∧ ¬ s (150 + 10 * b + 4) = 0))))
theorem PBk.cg {M : zM} {n : Nat} {c c' : mS} {bt bt' : Nat → Option Nat} {s s' : Nat → Int32} {nc b : Nat} (q : PBk M n c bt s nc b) (h8 : nc ≤ 8) (hs : ∀ i, 50 ≤ i ∧ i < 130 ∧ i % 10 < 6 → s' i = s i) (hs2 : ∀ k, k < 10 → s' (150 + 10 * b + k) = s (150 + 10 * b + k)) (hc : c' (20 + b) = c (20 + b)) (hb : bt' b = bt b) : PBk M n c' bt' s' nc b := by
  have e0 : s' (150 + 10 * b) = s (150 + 10 * b) := hs2 0 (by omega)
  obtain ⟨q1, q2, q3⟩ := q
  unfold PBk
  rw [hc, hb, e0, hs2 1 (by omega), hs2 3 (by omega), hs2 4 (by omega), hs2 5 (by omega), hs2 6 (by omega), hs2 7 (by omega), hs2 8 (by omega), hs2 9 (by omega)]
  refine ⟨?_, fun k h1 h2 => by rw [hs2 k (by omega)]; exact q2 k h1 h2, q3⟩
  rcases q1 with q1 | ⟨i, a, e1, e2, e3, e4, e5⟩
  · exact Or.inl q1
  · refine Or.inr ⟨i, a, e1, e2, e3, e4.cg (by omega) hs, ?_⟩
    rw [hs (50 + 10 * i) (by omega)]
    exact e5
/-- what comes of a bed's numbers -/
theorem grL_spec {wm kd nd ys ls r0 r1 r2 r3 r4 r5 r6 r7 : Int32} (hy : inN ys 1 20) (hl : inN ls 1 10) (h7 : r7 = 0 ∨ r7 = 1) (h4 : 0 ≤ r4.toInt ∧ r4.toInt ≤ 300) : ∃ h o r t nw, grL wm kd nd ys ls r0 r1 r2 r3 r4 r5 r6 r7 = [r0, r1, h, o, r, t, r6, r7, nw, 0] ∧ (0 ≤ r.toInt ∧ r.toInt ≤ 300) ∧ (nw = 1 ∨ r = r4) ∧ (r0 = -1 → o = r3 ∧ r = r4 ∧ t = r5) := by
  obtain ⟨y, rfl, hy1, hy2⟩ := hy
  obtain ⟨l, rfl, hl1, hl2⟩ := hl
  have e : ∃ u : Nat, nI y + r7 = nI u ∧ u ≤ 21 := by
    rcases h7 with rfl | rfl
    · exact ⟨y, by rw [Int32.add_zero], by omega⟩
    · exact ⟨y + 1, zI_s, by omega⟩
  obtain ⟨u, eu, hu⟩ := e
  have b1 : 0 ≤ (nI u).toInt ∧ (nI u).toInt ≤ 300 := by rw [nI_toInt (by omega)]; omega
  have b2 : 0 ≤ (nI u * nI l).toInt ∧ (nI u * nI l).toInt ≤ 300 := by
    have : u * l ≤ 21 * 10 := Nat.mul_le_mul hu hl2
    rw [zn_mul, nI_toInt (by omega)]; omega
  unfold grL
  rw [eu]
  by_cases c0 : r0 = -1
  · rw [if_pos c0]; exact ⟨_, _, _, _, _, rfl, h4, Or.inr rfl, fun _ => ⟨rfl, rfl, rfl⟩⟩
  rw [if_neg c0]
  by_cases c1 : r2 + wm < nd
  · rw [if_pos c1]; exact ⟨_, _, _, _, _, rfl, h4, Or.inr rfl, fun h => absurd h c0⟩
  rw [if_neg c1]
  by_cases c2 : kd = 2
  · rw [if_pos c2]
    by_cases c3 : 0 < r5
    · rw [if_pos c3]; exact ⟨_, _, _, _, _, rfl, h4, Or.inr rfl, fun h => absurd h c0⟩
    rw [if_neg c3]
    by_cases c4 : r4 = 0
    · rw [if_pos c4]; exact ⟨_, _, _, _, _, rfl, b1, Or.inl rfl, fun h => absurd h c0⟩
    · rw [if_neg c4]; exact ⟨_, _, _, _, _, rfl, h4, Or.inr rfl, fun h => absurd h c0⟩
  rw [if_neg c2]
  by_cases c3 : kd = 3
  · rw [if_pos c3]
    by_cases c4 : r3 = 0
    · rw [if_pos c4]; exact ⟨_, _, _, _, _, rfl, b2, Or.inl rfl, fun h => absurd h c0⟩
    · rw [if_neg c4]; exact ⟨_, _, _, _, _, rfl, h4, Or.inr rfl, fun h => absurd h c0⟩
  rw [if_neg c3]
  by_cases c4 : kd = 4
  · rw [if_pos c4]; exact ⟨_, _, _, _, _, rfl, h4, Or.inr rfl, fun h => absurd h c0⟩
  · rw [if_neg c4]; exact ⟨_, _, _, _, _, rfl, b1, Or.inl rfl, fun h => absurd h c0⟩
theorem grL_bare {wm kd nd ys ls r1 r2 r3 r4 r5 r6 r7 : Int32} : grL wm kd nd ys ls (-1) r1 r2 r3 r4 r5 r6 r7 = [-1, r1, r2, r3, r4, r5, r6, r7, 0, 0] := if_pos rfl
theorem GLs_n {s : Nat → Int32} {wk b : Nat} (h : s (150 + 10 * b) = -1) : GLs s wk b = [-1, s (150 + 10 * b + 1), s (150 + 10 * b + 2), s (150 + 10 * b + 3), s (150 + 10 * b + 4), s (150 + 10 * b + 5), s (150 + 10 * b + 6), s (150 + 10 * b + 7), 0, 0] := by
  unfold GLs
  rw [show s (150 + 10 * b + 0) = -1 from h, grL_bare]
theorem GLs_y {s : Nat → Int32} {wk b i : Nat} (h : s (150 + 10 * b) = nI i) (hi : i < 8) : GLs s wk b = grL (wmF s wk) (s (50 + 10 * i + 0)) (s (50 + 10 * i + 1)) (s (50 + 10 * i + 2)) (s (50 + 10 * i + 3)) (nI i) (s (150 + 10 * b + 1)) (s (150 + 10 * b + 2)) (s (150 + 10 * b + 3)) (s (150 + 10 * b + 4)) (s (150 + 10 * b + 5)) (s (150 + 10 * b + 6)) (s (150 + 10 * b + 7)) := by
  unfold GLs
  rw [h, nI_clamp (by omega), show s (150 + 10 * b + 0) = nI i from h]
/-- a record written into a bed, and what the row then says -/
theorem PBk.mk {M : zM} {n : Nat} {c : mS} {bt : Nat → Option Nat} {s : Nat → Int32} {nc b : Nat} {z : Option Nat} {p a0 a1 a2 a3 a4 a5 a6 a7 a8 a9 : Int32} (h1 : (a0 = -1 ∧ z = none ∧ a1 = -1 ∧ a3 = 0 ∧ a4 = 0 ∧ a5 = 0) ∨ ∃ i a, i < nc ∧ a0 = nI i ∧ z = some a ∧ CropAt M n a i s ∧ s (50 + 10 * i) ≠ 5 ∧ (s (50 + 10 * i) = 0 ∨ s (50 + 10 * i) = 1 → a8 = 1 ∨ a4 = 0)) (hb : b < 8) (h8 : nc ≤ 8) (h7 : a7 = 0 ∨ a7 = 1) (h6 : a6 = -1 ∨ inN a6 0 7) (h4 : 0 ≤ a4.toInt ∧ a4.toInt ≤ 300) (h9 : (a9 = 1 ∧ p = 1 ∧ a4 = 0) ∨ (a9 = 0 ∧ (p = 0 ∨ (p = 1 ∧ ¬ a4 = 0)))) : PBk M n (zuf c (20 + b) (lfn [a0, a1, a2, a3, a4, a5, a6, a7, a8, a9] p)) (zuf bt b z) (setB s b [a0, a1, a2, a3, a4, a5, a6, a7, a8, a9]) nc b := by
  have e0 : setB s b [a0, a1, a2, a3, a4, a5, a6, a7, a8, a9] (150 + 10 * b) = a0 := setB_at (j := 0) (by omega) rfl
  unfold PBk
  rw [zuf_self, zuf_self, e0, setB_at (j := 1) (by omega) rfl, setB_at (j := 3) (by omega) rfl, setB_at (j := 4) (by omega) rfl, setB_at (j := 5) (by omega) rfl, setB_at (j := 6) (by omega) rfl, setB_at (j := 7) (by omega) rfl, setB_at (j := 8) (by omega) rfl, setB_at (j := 9) (by omega) rfl]
  refine ⟨?_, fun k h1 h2 => ?_, h7, h6, h4, h9⟩
  · rcases h1 with h1 | ⟨i, a, e1, e2, e3, e4, e5⟩
    · exact Or.inl h1
    · refine Or.inr ⟨i, a, e1, e2, e3, e4.cg (by omega) (fun k hk => setB_ne (by omega)), ?_⟩
      rw [setB_ne (by omega)]
      exact e5
  · match k, h1, h2 with
    | 1, _, _ => exact (setB_at (j := 1) (by omega) rfl).symm
    | 2, _, _ => exact (setB_at (j := 2) (by omega) rfl).symm
    | 3, _, _ => exact (setB_at (j := 3) (by omega) rfl).symm
    | 4, _, _ => exact (setB_at (j := 4) (by omega) rfl).symm
    | 5, _, _ => exact (setB_at (j := 5) (by omega) rfl).symm
    | 6, _, _ => exact (setB_at (j := 6) (by omega) rfl).symm
    | 7, _, _ => exact (setB_at (j := 7) (by omega) rfl).symm
    | k + 8, _, h2 => exact absurd h2 (by omega)
theorem PBi.grow {M : zM} {n : Nat} {c : mS} {bt : Nat → Option Nat} {s : Nat → Int32} {nc b wk : Nat} (h : PBi M n c bt s nc b) (hb : b < 8) (h8 : nc ≤ 8) (hC : ∀ i, i < nc → inN (s (52 + 10 * i)) 1 20 ∧ inN (s (53 + 10 * i)) 1 10) : PBk M n (zuf c (20 + b) (lfn (GLs s wk b) 0)) bt (growS s wk b) nc b ∧ bofL (zrf (bt b)) 0 (GLs s wk b) = bof (bt b) (lfn (GLs s wk b) 0) := by
  obtain ⟨q1, q2, q3, q4, q5⟩ := h
  rw [show 157 + 10 * b = 150 + 10 * b + 7 by omega] at q3
  rw [show 156 + 10 * b = 150 + 10 * b + 6 by omega] at q4
  rw [show 154 + 10 * b = 150 + 10 * b + 4 by omega] at q5
  rw [show 151 + 10 * b = 150 + 10 * b + 1 by omega, show 153 + 10 * b = 150 + 10 * b + 3 by omega, show 154 + 10 * b = 150 + 10 * b + 4 by omega, show 155 + 10 * b = 150 + 10 * b + 5 by omega] at q1
  rw [growS_eq]
  rcases q1 with ⟨e0, e1, e2, e3, e4, e5⟩ | ⟨i, a, e1, e2, e3, e4, e5, e6⟩
  · rw [GLs_n e0]
    refine ⟨?_, bofL_eq⟩
    have := PBk.mk (M := M) (n := n) (c := c) (bt := bt) (s := s) (nc := nc) (b := b) (z := bt b) (p := 0) (a0 := -1) (a1 := s (150 + 10 * b + 1)) (a2 := s (150 + 10 * b + 2)) (a3 := s (150 + 10 * b + 3)) (a4 := s (150 + 10 * b + 4)) (a5 := s (150 + 10 * b + 5)) (a6 := s (150 + 10 * b + 6)) (a7 := s (150 + 10 * b + 7)) (a8 := 0) (a9 := 0) (Or.inl ⟨rfl, e1, e2, e3, e4, e5⟩) hb h8 q3 q4 q5 (Or.inr ⟨rfl, Or.inl rfl⟩)
    rw [zuf_id rfl] at this
    exact this
  · obtain ⟨y1, y2⟩ := hC i e1
    rw [show 52 + 10 * i = 50 + 10 * i + 2 by omega] at y1
    rw [show 53 + 10 * i = 50 + 10 * i + 3 by omega] at y2
    rw [GLs_y e2 (by omega)]
    obtain ⟨h, o, r, t, nw, g1, g2, g3, -⟩ := grL_spec (wm := wmF s wk) (kd := s (50 + 10 * i + 0)) (nd := s (50 + 10 * i + 1)) (r0 := nI i) (r1 := s (150 + 10 * b + 1)) (r2 := s (150 + 10 * b + 2)) (r3 := s (150 + 10 * b + 3)) (r5 := s (150 + 10 * b + 5)) (r6 := s (150 + 10 * b + 6)) y1 y2 q3 q5
    rw [g1]
    refine ⟨?_, bofL_eq⟩
    have := PBk.mk (M := M) (n := n) (c := c) (bt := bt) (s := s) (nc := nc) (b := b) (z := bt b) (p := 0) (a0 := nI i) (a1 := s (150 + 10 * b + 1)) (a2 := h) (a3 := o) (a4 := r) (a5 := t) (a6 := s (150 + 10 * b + 6)) (a7 := s (150 + 10 * b + 7)) (a8 := nw) (a9 := 0) (Or.inr ⟨i, a, e1, rfl, e3, e4, e5, fun z => g3.imp id (fun y => y.trans (e6 z))⟩) hb h8 q3 q4 g2 (Or.inr ⟨rfl, Or.inl rfl⟩)
    rw [zuf_id rfl] at this
    exact this
theorem c_growB {M M0 : zM} {g : Nat} {c : mS} {kp bt : Nat → Option Nat} {la : Nat} {s : Nat → Int32} {d n w nn nc b wk : Nat} (hG : Gc M g c kp bt la) (hF : ∀ k, k < g ∨ g + 76 ≤ k → M k = M0 k) (hg : g + 76 ≤ 300) (h : PBi M0 nn c bt s nc b) (hb : b < 8) (h8 : nc ≤ 8) : zCalP (d + 1) 4 [.ref (g + 18 + b), .int (wmF s wk)] n w M (fun v n' w' M' => v = none ∧ n = n' ∧ w = w' ∧ M' = zup M (g + 18 + b) (.inr (0, bofL (zrf (bt b)) 0 (GLs s wk b)))) := by
  obtain ⟨q1, q2, q3, q4, q5⟩ := h
  rw [show 157 + 10 * b = 150 + 10 * b + 7 by omega] at q3
  have hb' := hG.b hb
  unfold bof at hb'
  rw [q2 1 (by omega) (by omega), q2 2 (by omega) (by omega), q2 3 (by omega) (by omega), q2 4 (by omega) (by omega), q2 5 (by omega) (by omega), q2 6 (by omega) (by omega), q2 7 (by omega) (by omega)] at hb'
  rcases q1 with ⟨e0, e1, -⟩ | ⟨i, a, e1, e2, e3, e4, e5⟩
  · rw [GLs_n e0, e1]
    rw [e1] at hb'
    exact zCalP.of (c_growBy_n (p := 0) hb' rfl rfl) ⟨rfl, rfl, rfl, rfl⟩
  · rw [GLs_y e2 (by omega), e3]
    rw [e3] at hb'
    obtain ⟨f1, f2, f3⟩ := e4
    have hc : M a = .inr (1, cropF s i) := by rw [hF a (by omega)]; exact f3
    unfold cropF at hc
    rw [show 51 + 10 * i = 50 + 10 * i + 1 by omega, show 52 + 10 * i = 50 + 10 * i + 2 by omega, show 53 + 10 * i = 50 + 10 * i + 3 by omega] at hc
    exact zCalP.of (c_growBy hb' hc (by omega) (zI_m1 (by omega)) q3) ⟨rfl, rfl, rfl, rfl⟩
