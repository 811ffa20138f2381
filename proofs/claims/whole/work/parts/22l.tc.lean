
/-! lines: the class's cells after reading. -/
/-- the class's numbers after reading: fields in r0, rows of tokens f2 f3 f4, rows of lines g -/
def tL (t : mS) (sz a5 a6 a7 a8 a9 a10 a11 : Int32) (f2 f3 f4 : Nat → Int32) (g : Nat → Nat → Int32) : mS := fun j => if j = 0 then (fun q => if q = 3 then 0 else if q = 4 then sz else if q = 5 then a5 else if q = 6 then a6 else if q = 7 then a7 else if q = 8 then a8 else if q = 9 then a9 else if q = 10 then a10 else if q = 11 then a11 else t 0 q) else if j = 2 then f2 else if j = 3 then f3 else if j = 4 then f4 else if 5 ≤ j ∧ j < 12 then g (j - 5) else t j
theorem Tc.ln {M M' : zM} {t : mS} {tr : Option Nat} {sz a5 a6 a7 a8 a9 a10 a11 : Int32} {f2 f3 f4 : Nat → Int32} {g : Nat → Nat → Int32} (h : Tc M t tr) (hs : ∀ k, (k < 26 ∨ k = 27 ∨ 40 ≤ k) → M' k = M k) (h26 : M' 26 = .inr (9, [.ref 27, .int 0])) (h28 : M' 28 = .inr (10, [.int sz, .ref 29, .ref 30, .ref 31])) (h29 : M' 29 = .inl (0, 201, .inl f2)) (h30 : M' 30 = .inl (0, 201, .inl f3)) (h31 : M' 31 = .inl (0, 201, .inl f4)) (h32 : M' 32 = .inr (4, [.ref 28, .int a5, .int a6, .int a7, .int a8, .int a9, .int a10, .int a11, .ref 33, .ref 34, .ref 35, .ref 36, .ref 37, .ref 38, .ref 39])) (hr : ∀ j, j < 7 → M' (33 + j) = .inl (0, rln j, .inl (g j))) : Tc M' (tL t sz a5 a6 a7 a8 a9 a10 a11 f2 f3 f4 g) (some 28) := by
  obtain ⟨c1, c2, c3, c4, c5, c6, c7, c8, c9, c10⟩ := h
  refine ⟨by rw [hs _ (by omega)]; exact c1, h26, by rw [hs _ (by omega)]; exact c3, h28, fun j hj => ?_, ⟨h32, fun j hj => ?_⟩, by rw [hs _ (by omega)]; exact c7, by rw [hs _ (by omega)]; exact c8, by rw [hs _ (by omega)]; exact c9, fun i hi => ?_⟩
  · have : j = 0 ∨ j = 1 ∨ j = 2 := by omega
    rcases this with rfl | rfl | rfl
    · exact h29
    · exact h30
    · exact h31
  · rw [hr j hj]
    unfold tL
    rw [if_neg (by omega), if_neg (by omega), if_neg (by omega), if_neg (by omega), if_pos (by omega), show 5 + j - 5 = j by omega]
  · have e1 : tL t sz a5 a6 a7 a8 a9 a10 a11 f2 f3 f4 g (20 + i) = t (20 + i) := by
      unfold tL
      rw [if_neg (by omega), if_neg (by omega), if_neg (by omega), if_neg (by omega), if_neg (by omega)]
    have e2 : tL t sz a5 a6 a7 a8 a9 a10 a11 f2 f3 f4 g (30 + i) = t (30 + i) := by
      unfold tL
      rw [if_neg (by omega), if_neg (by omega), if_neg (by omega), if_neg (by omega), if_neg (by omega)]
    rw [hs _ (by omega), hs _ (by omega), e1, e2]
    exact c10 i hi
