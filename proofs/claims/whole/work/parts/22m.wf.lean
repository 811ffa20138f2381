
/-! lines: the row's steps, from the grammar's. -/
theorem cv_15 {u : gStp} (h : u.1 = 15) : cvR u = (10, 0, 0, 0) := by
  unfold cvR
  rw [if_pos h]
theorem cv_13 {u : gStp} (h : u.1 = 13) : cvR u = (11, 0, 0, 0) := by
  unfold cvR
  rw [if_neg (by rw [h]; decide), if_pos h]
theorem cv_14 {u : gStp} (h : u.1 = 14) : cvR u = (12, 0, 0, 0) := by
  unfold cvR
  rw [if_neg (by rw [h]; decide), if_neg (by rw [h]; decide), if_pos h]
theorem cv_45 {u : gStp} (h : u.1 = 4 ∨ u.1 = 5) : cvR u = (u.2.1 - 10, u.2.2.1, u.1 + 56, u.2.2.2) := by
  unfold cvR
  rcases h with h | h
  · rw [if_neg (by rw [h]; decide), if_neg (by rw [h]; decide), if_neg (by rw [h]; decide)]
  · rw [if_neg (by rw [h]; decide), if_neg (by rw [h]; decide), if_neg (by rw [h]; decide)]
theorem wf_of (s : Nat → Int32) : ∀ (t : List gStp) (k dp : Nat), WD t dp 1 → (∀ j u, t[j]? = some u → s (2200 + 4 * (k + j)) = (cvR u).1) → wfS s t.length k dp
  | [], k, dp, h, _ => h
  | u :: t, k, dp, h, hs => by
    have h0 : s (2200 + 4 * k) = (cvR u).1 := hs 0 u rfl
    have ih := fun dp h => wf_of s t (k + 1) dp h (fun j v hv => by rw [show k + 1 + j = k + (j + 1) by omega]; exact hs (j + 1) v hv)
    show wfS s (t.length + 1) k dp
    rw [wfS]
    rcases h with ⟨x, y, z⟩ | ⟨x, y, z⟩ | ⟨x, x2, y, z⟩
    · rw [cv_15 x] at h0
      exact Or.inl ⟨h0, y, ih _ z⟩
    · refine Or.inr (Or.inl ⟨?_, y, ih _ z⟩)
      rcases x with x | x
      · rw [cv_13 x] at h0
        exact Or.inl h0
      · rw [cv_14 x] at h0
        exact Or.inr h0
    · refine Or.inr (Or.inr ⟨?_, y, ih _ z⟩)
      rw [cv_45 x] at h0
      rw [h0]
      rcases x2 with e | e | e | e
      · rw [e]; exact Or.inl rfl
      · rw [e]; exact Or.inr (Or.inl rfl)
      · rw [e]; exact Or.inr (Or.inr (Or.inl rfl))
      · rw [e]; exact Or.inr (Or.inr (Or.inr rfl))
