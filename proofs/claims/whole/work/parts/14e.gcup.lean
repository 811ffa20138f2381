
/-! A GARDEN WITH ONE CELL WRITTEN ANEW. -/
section
variable {M : zM} {g : Nat} {c : mS} {kp bt : Nat → Option Nat} {la : Nat}
theorem Gc.upK (h : Gc M g c kp bt la) (x : Nat → Option Nat) : Gc (zup M (g + 1) (.inl (3, 8, .inr x))) g c x bt la := by
  obtain ⟨h0, h1, h2, h3, h4, h5, h6, h7, h8, h9, h10⟩ := h
  refine ⟨by rw [zup_ne _ _ (by omega)]; skip; exact h0, zup_self _ _ _, by rw [zup_ne _ _ (by omega)]; skip; exact h2, by rw [zup_ne _ _ (by omega)]; skip; exact h3, by rw [zup_ne _ _ (by omega)]; skip; exact h4, fun j2 hj2 => by rw [zup_ne _ _ (by omega)]; skip; exact h5 j2 hj2, by rw [zup_ne _ _ (by omega)]; skip; exact h6, fun j2 hj2 => by rw [zup_ne _ _ (by omega)]; skip; exact h7 j2 hj2, by rw [zup_ne _ _ (by omega)]; skip; exact h8, fun i2 hi2 => by rw [zup_ne _ _ (by omega)]; skip; exact h9 i2 hi2, fun i2 hi2 => by rw [zup_ne _ _ (by omega), zup_ne _ _ (by omega), zup_ne _ _ (by omega), zup_ne _ _ (by omega), zup_ne _ _ (by omega)]; skip; exact h10 i2 hi2⟩
theorem Gc.upLo (h : Gc M g c kp bt la) (x : Int32) : Gc (zup M (g + 4) (.inr (6, lob g x))) g (zuf c 0 (zuf (c 0) 4 x)) kp bt la := by
  obtain ⟨h0, h1, h2, h3, h4, h5, h6, h7, h8, h9, h10⟩ := h
  refine ⟨by rw [zup_ne _ _ (by omega)]; exact h0, by rw [zup_ne _ _ (by omega)]; skip; exact h1, by rw [zup_ne _ _ (by omega)]; skip; exact h2, by rw [zup_ne _ _ (by omega)]; skip; exact h3, by rw [zup_self]; rfl, fun j2 hj2 => by rw [zup_ne _ _ (by omega)]; (try rw [zuf_ne _ _ (by omega)]); exact h5 j2 hj2, by rw [zup_ne _ _ (by omega)]; (try rw [zuf_ne _ _ (by omega)]); exact h6, fun j2 hj2 => by rw [zup_ne _ _ (by omega)]; (try rw [zuf_ne _ _ (by omega)]); exact h7 j2 hj2, by rw [zup_ne _ _ (by omega)]; (try rw [zuf_ne _ _ (by omega)]); exact h8, fun i2 hi2 => by rw [zup_ne _ _ (by omega)]; (try rw [zuf_ne _ _ (by omega)]); exact h9 i2 hi2, fun i2 hi2 => by rw [zup_ne _ _ (by omega), zup_ne _ _ (by omega), zup_ne _ _ (by omega), zup_ne _ _ (by omega), zup_ne _ _ (by omega)]; (try rw [zuf_ne _ _ (by omega), zuf_ne _ _ (by omega), zuf_ne _ _ (by omega), zuf_ne _ _ (by omega), zuf_ne _ _ (by omega)]); exact h10 i2 hi2⟩
theorem Gc.upL (h : Gc M g c kp bt la) {j : Nat} (hj : j < 6) (x : Nat → Int32) : Gc (zup M (g + 5 + j) (.inl (0, 240, .inl x))) g (zuf c (1 + j) x) kp bt la := by
  obtain ⟨h0, h1, h2, h3, h4, h5, h6, h7, h8, h9, h10⟩ := h
  refine ⟨by rw [zup_ne _ _ (by omega)]; (try rw [zuf_ne _ _ (by omega)]); exact h0, by rw [zup_ne _ _ (by omega)]; skip; exact h1, by rw [zup_ne _ _ (by omega)]; skip; exact h2, by rw [zup_ne _ _ (by omega)]; skip; exact h3, by rw [zup_ne _ _ (by omega)]; (try rw [zuf_ne _ _ (by omega)]); exact h4, fun j2 hj2 => ?_, by rw [zup_ne _ _ (by omega)]; (try rw [zuf_ne _ _ (by omega)]); exact h6, fun j2 hj2 => by rw [zup_ne _ _ (by omega)]; (try rw [zuf_ne _ _ (by omega)]); exact h7 j2 hj2, by rw [zup_ne _ _ (by omega)]; (try rw [zuf_ne _ _ (by omega)]); exact h8, fun i2 hi2 => by rw [zup_ne _ _ (by omega)]; (try rw [zuf_ne _ _ (by omega)]); exact h9 i2 hi2, fun i2 hi2 => by rw [zup_ne _ _ (by omega), zup_ne _ _ (by omega), zup_ne _ _ (by omega), zup_ne _ _ (by omega), zup_ne _ _ (by omega)]; (try rw [zuf_ne _ _ (by omega), zuf_ne _ _ (by omega), zuf_ne _ _ (by omega), zuf_ne _ _ (by omega), zuf_ne _ _ (by omega)]); exact h10 i2 hi2⟩
  by_cases e : j2 = j
  · subst e
    rw [zup_self, zuf_self]
  · rw [zup_ne _ _ (by omega), zuf_ne _ _ (by omega)]
    exact h5 j2 hj2
theorem Gc.upW (h : Gc M g c kp bt la) (x : Nat → Int32) : Gc (zup M (g + 11) (.inl (0, 30, .inl x))) g (zuf c 7 x) kp bt la := by
  obtain ⟨h0, h1, h2, h3, h4, h5, h6, h7, h8, h9, h10⟩ := h
  refine ⟨by rw [zup_ne _ _ (by omega)]; (try rw [zuf_ne _ _ (by omega)]); exact h0, by rw [zup_ne _ _ (by omega)]; skip; exact h1, by rw [zup_ne _ _ (by omega)]; skip; exact h2, by rw [zup_ne _ _ (by omega)]; skip; exact h3, by rw [zup_ne _ _ (by omega)]; (try rw [zuf_ne _ _ (by omega)]); exact h4, fun j2 hj2 => by rw [zup_ne _ _ (by omega)]; (try rw [zuf_ne _ _ (by omega)]); exact h5 j2 hj2, by rw [zup_self, zuf_self], fun j2 hj2 => by rw [zup_ne _ _ (by omega)]; (try rw [zuf_ne _ _ (by omega)]); exact h7 j2 hj2, by rw [zup_ne _ _ (by omega)]; (try rw [zuf_ne _ _ (by omega)]); exact h8, fun i2 hi2 => by rw [zup_ne _ _ (by omega)]; (try rw [zuf_ne _ _ (by omega)]); exact h9 i2 hi2, fun i2 hi2 => by rw [zup_ne _ _ (by omega), zup_ne _ _ (by omega), zup_ne _ _ (by omega), zup_ne _ _ (by omega), zup_ne _ _ (by omega)]; (try rw [zuf_ne _ _ (by omega), zuf_ne _ _ (by omega), zuf_ne _ _ (by omega), zuf_ne _ _ (by omega), zuf_ne _ _ (by omega)]); exact h10 i2 hi2⟩
theorem Gc.upS (h : Gc M g c kp bt la) {j : Nat} (hj : j < 5) (x : Nat → Int32) : Gc (zup M (g + 12 + j) (.inl (0, 8, .inl x))) g (zuf c (8 + j) x) kp bt la := by
  obtain ⟨h0, h1, h2, h3, h4, h5, h6, h7, h8, h9, h10⟩ := h
  refine ⟨by rw [zup_ne _ _ (by omega)]; (try rw [zuf_ne _ _ (by omega)]); exact h0, by rw [zup_ne _ _ (by omega)]; skip; exact h1, by rw [zup_ne _ _ (by omega)]; skip; exact h2, by rw [zup_ne _ _ (by omega)]; skip; exact h3, by rw [zup_ne _ _ (by omega)]; (try rw [zuf_ne _ _ (by omega)]); exact h4, fun j2 hj2 => by rw [zup_ne _ _ (by omega)]; (try rw [zuf_ne _ _ (by omega)]); exact h5 j2 hj2, by rw [zup_ne _ _ (by omega)]; (try rw [zuf_ne _ _ (by omega)]); exact h6, fun j2 hj2 => ?_, by rw [zup_ne _ _ (by omega)]; (try rw [zuf_ne _ _ (by omega)]); exact h8, fun i2 hi2 => by rw [zup_ne _ _ (by omega)]; (try rw [zuf_ne _ _ (by omega)]); exact h9 i2 hi2, fun i2 hi2 => by rw [zup_ne _ _ (by omega), zup_ne _ _ (by omega), zup_ne _ _ (by omega), zup_ne _ _ (by omega), zup_ne _ _ (by omega)]; (try rw [zuf_ne _ _ (by omega), zuf_ne _ _ (by omega), zuf_ne _ _ (by omega), zuf_ne _ _ (by omega), zuf_ne _ _ (by omega)]); exact h10 i2 hi2⟩
  by_cases e : j2 = j
  · subst e
    rw [zup_self, zuf_self]
  · rw [zup_ne _ _ (by omega), zuf_ne _ _ (by omega)]
    exact h7 j2 hj2
theorem Gc.upSu (h : Gc M g c kp bt la) (x : Nat → Int32) : Gc (zup M (g + 17) (.inl (0, 4, .inl x))) g (zuf c 13 x) kp bt la := by
  obtain ⟨h0, h1, h2, h3, h4, h5, h6, h7, h8, h9, h10⟩ := h
  refine ⟨by rw [zup_ne _ _ (by omega)]; (try rw [zuf_ne _ _ (by omega)]); exact h0, by rw [zup_ne _ _ (by omega)]; skip; exact h1, by rw [zup_ne _ _ (by omega)]; skip; exact h2, by rw [zup_ne _ _ (by omega)]; skip; exact h3, by rw [zup_ne _ _ (by omega)]; (try rw [zuf_ne _ _ (by omega)]); exact h4, fun j2 hj2 => by rw [zup_ne _ _ (by omega)]; (try rw [zuf_ne _ _ (by omega)]); exact h5 j2 hj2, by rw [zup_ne _ _ (by omega)]; (try rw [zuf_ne _ _ (by omega)]); exact h6, fun j2 hj2 => by rw [zup_ne _ _ (by omega)]; (try rw [zuf_ne _ _ (by omega)]); exact h7 j2 hj2, by rw [zup_self, zuf_self], fun i2 hi2 => by rw [zup_ne _ _ (by omega)]; (try rw [zuf_ne _ _ (by omega)]); exact h9 i2 hi2, fun i2 hi2 => by rw [zup_ne _ _ (by omega), zup_ne _ _ (by omega), zup_ne _ _ (by omega), zup_ne _ _ (by omega), zup_ne _ _ (by omega)]; (try rw [zuf_ne _ _ (by omega), zuf_ne _ _ (by omega), zuf_ne _ _ (by omega), zuf_ne _ _ (by omega), zuf_ne _ _ (by omega)]); exact h10 i2 hi2⟩
theorem Gc.upB (h : Gc M g c kp bt la) {i : Nat} (hi : i < 8) (b : Option Nat) (x : Nat → Int32) : Gc (zup M (g + 18 + i) (.inr (0, bof b x))) g (zuf c (20 + i) x) kp (zuf bt i b) la := by
  obtain ⟨h0, h1, h2, h3, h4, h5, h6, h7, h8, h9, h10⟩ := h
  refine ⟨by rw [zup_ne _ _ (by omega)]; (try rw [zuf_ne _ _ (by omega)]); exact h0, by rw [zup_ne _ _ (by omega)]; skip; exact h1, by rw [zup_ne _ _ (by omega)]; skip; exact h2, by rw [zup_ne _ _ (by omega)]; skip; exact h3, by rw [zup_ne _ _ (by omega)]; (try rw [zuf_ne _ _ (by omega)]); exact h4, fun j2 hj2 => by rw [zup_ne _ _ (by omega)]; (try rw [zuf_ne _ _ (by omega)]); exact h5 j2 hj2, by rw [zup_ne _ _ (by omega)]; (try rw [zuf_ne _ _ (by omega)]); exact h6, fun j2 hj2 => by rw [zup_ne _ _ (by omega)]; (try rw [zuf_ne _ _ (by omega)]); exact h7 j2 hj2, by rw [zup_ne _ _ (by omega)]; (try rw [zuf_ne _ _ (by omega)]); exact h8, fun i2 hi2 => ?_, fun i2 hi2 => by rw [zup_ne _ _ (by omega), zup_ne _ _ (by omega), zup_ne _ _ (by omega), zup_ne _ _ (by omega), zup_ne _ _ (by omega)]; (try rw [zuf_ne _ _ (by omega), zuf_ne _ _ (by omega), zuf_ne _ _ (by omega), zuf_ne _ _ (by omega), zuf_ne _ _ (by omega)]); exact h10 i2 hi2⟩
  by_cases e : i2 = i
  · subst e
    rw [zup_self, zuf_self, zuf_self]
  · rw [zup_ne _ _ (by omega), zuf_ne _ _ (by omega), zuf_ne _ _ (by omega)]
    exact h9 i2 hi2
theorem Gc.upH (h : Gc M g c kp bt la) {i : Nat} (hi : i < 10) (x : Nat → Int32) : Gc (zup M (g + 26 + 5 * i) (.inr (3, hof (g + 26 + 5 * i) x))) g (zuf c (30 + i) x) kp bt la := by
  obtain ⟨h0, h1, h2, h3, h4, h5, h6, h7, h8, h9, h10⟩ := h
  refine ⟨by rw [zup_ne _ _ (by omega)]; (try rw [zuf_ne _ _ (by omega)]); exact h0, by rw [zup_ne _ _ (by omega)]; skip; exact h1, by rw [zup_ne _ _ (by omega)]; skip; exact h2, by rw [zup_ne _ _ (by omega)]; skip; exact h3, by rw [zup_ne _ _ (by omega)]; (try rw [zuf_ne _ _ (by omega)]); exact h4, fun j2 hj2 => by rw [zup_ne _ _ (by omega)]; (try rw [zuf_ne _ _ (by omega)]); exact h5 j2 hj2, by rw [zup_ne _ _ (by omega)]; (try rw [zuf_ne _ _ (by omega)]); exact h6, fun j2 hj2 => by rw [zup_ne _ _ (by omega)]; (try rw [zuf_ne _ _ (by omega)]); exact h7 j2 hj2, by rw [zup_ne _ _ (by omega)]; (try rw [zuf_ne _ _ (by omega)]); exact h8, fun i2 hi2 => by rw [zup_ne _ _ (by omega)]; (try rw [zuf_ne _ _ (by omega)]); exact h9 i2 hi2, fun i2 hi2 => ?_⟩
  obtain ⟨a1, a2, a3, a4, a5⟩ := h10 i2 hi2
  by_cases e : i2 = i
  · subst e
    exact ⟨by rw [zup_self, zuf_self], by rw [zup_ne _ _ (by omega), zuf_ne _ _ (by omega)]; exact a2, by rw [zup_ne _ _ (by omega), zuf_ne _ _ (by omega)]; exact a3, by rw [zup_ne _ _ (by omega), zuf_ne _ _ (by omega)]; exact a4, by rw [zup_ne _ _ (by omega), zuf_ne _ _ (by omega)]; exact a5⟩
  · rw [zup_ne _ _ (by omega), zup_ne _ _ (by omega), zup_ne _ _ (by omega), zup_ne _ _ (by omega), zup_ne _ _ (by omega), zuf_ne _ _ (by omega), zuf_ne _ _ (by omega), zuf_ne _ _ (by omega), zuf_ne _ _ (by omega), zuf_ne _ _ (by omega)]
    exact ⟨a1, a2, a3, a4, a5⟩
theorem Gc.upH1 (h : Gc M g c kp bt la) {i : Nat} (hi : i < 10) (x : Nat → Int32) : Gc (zup M (g + 26 + 5 * i + 1) (.inl (0, 8, .inl x))) g (zuf c (40 + i) x) kp bt la := by
  obtain ⟨h0, h1, h2, h3, h4, h5, h6, h7, h8, h9, h10⟩ := h
  refine ⟨by rw [zup_ne _ _ (by omega)]; (try rw [zuf_ne _ _ (by omega)]); exact h0, by rw [zup_ne _ _ (by omega)]; skip; exact h1, by rw [zup_ne _ _ (by omega)]; skip; exact h2, by rw [zup_ne _ _ (by omega)]; skip; exact h3, by rw [zup_ne _ _ (by omega)]; (try rw [zuf_ne _ _ (by omega)]); exact h4, fun j2 hj2 => by rw [zup_ne _ _ (by omega)]; (try rw [zuf_ne _ _ (by omega)]); exact h5 j2 hj2, by rw [zup_ne _ _ (by omega)]; (try rw [zuf_ne _ _ (by omega)]); exact h6, fun j2 hj2 => by rw [zup_ne _ _ (by omega)]; (try rw [zuf_ne _ _ (by omega)]); exact h7 j2 hj2, by rw [zup_ne _ _ (by omega)]; (try rw [zuf_ne _ _ (by omega)]); exact h8, fun i2 hi2 => by rw [zup_ne _ _ (by omega)]; (try rw [zuf_ne _ _ (by omega)]); exact h9 i2 hi2, fun i2 hi2 => ?_⟩
  obtain ⟨a1, a2, a3, a4, a5⟩ := h10 i2 hi2
  by_cases e : i2 = i
  · subst e
    exact ⟨by rw [zup_ne _ _ (by omega), zuf_ne _ _ (by omega)]; exact a1, by rw [show g + 27 + 5 * i2 = g + 26 + 5 * i2 + 1 by omega, zup_self, zuf_self], by rw [zup_ne _ _ (by omega), zuf_ne _ _ (by omega)]; exact a3, by rw [zup_ne _ _ (by omega), zuf_ne _ _ (by omega)]; exact a4, by rw [zup_ne _ _ (by omega), zuf_ne _ _ (by omega)]; exact a5⟩
  · rw [zup_ne _ _ (by omega), zup_ne _ _ (by omega), zup_ne _ _ (by omega), zup_ne _ _ (by omega), zup_ne _ _ (by omega), zuf_ne _ _ (by omega), zuf_ne _ _ (by omega), zuf_ne _ _ (by omega), zuf_ne _ _ (by omega), zuf_ne _ _ (by omega)]
    exact ⟨a1, a2, a3, a4, a5⟩
theorem Gc.upH2 (h : Gc M g c kp bt la) {i : Nat} (hi : i < 10) (x : Nat → Int32) : Gc (zup M (g + 26 + 5 * i + 2) (.inl (0, 6, .inl x))) g (zuf c (50 + i) x) kp bt la := by
  obtain ⟨h0, h1, h2, h3, h4, h5, h6, h7, h8, h9, h10⟩ := h
  refine ⟨by rw [zup_ne _ _ (by omega)]; (try rw [zuf_ne _ _ (by omega)]); exact h0, by rw [zup_ne _ _ (by omega)]; skip; exact h1, by rw [zup_ne _ _ (by omega)]; skip; exact h2, by rw [zup_ne _ _ (by omega)]; skip; exact h3, by rw [zup_ne _ _ (by omega)]; (try rw [zuf_ne _ _ (by omega)]); exact h4, fun j2 hj2 => by rw [zup_ne _ _ (by omega)]; (try rw [zuf_ne _ _ (by omega)]); exact h5 j2 hj2, by rw [zup_ne _ _ (by omega)]; (try rw [zuf_ne _ _ (by omega)]); exact h6, fun j2 hj2 => by rw [zup_ne _ _ (by omega)]; (try rw [zuf_ne _ _ (by omega)]); exact h7 j2 hj2, by rw [zup_ne _ _ (by omega)]; (try rw [zuf_ne _ _ (by omega)]); exact h8, fun i2 hi2 => by rw [zup_ne _ _ (by omega)]; (try rw [zuf_ne _ _ (by omega)]); exact h9 i2 hi2, fun i2 hi2 => ?_⟩
  obtain ⟨a1, a2, a3, a4, a5⟩ := h10 i2 hi2
  by_cases e : i2 = i
  · subst e
    exact ⟨by rw [zup_ne _ _ (by omega), zuf_ne _ _ (by omega)]; exact a1, by rw [zup_ne _ _ (by omega), zuf_ne _ _ (by omega)]; exact a2, by rw [show g + 28 + 5 * i2 = g + 26 + 5 * i2 + 2 by omega, zup_self, zuf_self], by rw [zup_ne _ _ (by omega), zuf_ne _ _ (by omega)]; exact a4, by rw [zup_ne _ _ (by omega), zuf_ne _ _ (by omega)]; exact a5⟩
  · rw [zup_ne _ _ (by omega), zup_ne _ _ (by omega), zup_ne _ _ (by omega), zup_ne _ _ (by omega), zup_ne _ _ (by omega), zuf_ne _ _ (by omega), zuf_ne _ _ (by omega), zuf_ne _ _ (by omega), zuf_ne _ _ (by omega), zuf_ne _ _ (by omega)]
    exact ⟨a1, a2, a3, a4, a5⟩
theorem Gc.upH3 (h : Gc M g c kp bt la) {i : Nat} (hi : i < 10) (x : Nat → Int32) : Gc (zup M (g + 26 + 5 * i + 3) (.inl (0, 6, .inl x))) g (zuf c (60 + i) x) kp bt la := by
  obtain ⟨h0, h1, h2, h3, h4, h5, h6, h7, h8, h9, h10⟩ := h
  refine ⟨by rw [zup_ne _ _ (by omega)]; (try rw [zuf_ne _ _ (by omega)]); exact h0, by rw [zup_ne _ _ (by omega)]; skip; exact h1, by rw [zup_ne _ _ (by omega)]; skip; exact h2, by rw [zup_ne _ _ (by omega)]; skip; exact h3, by rw [zup_ne _ _ (by omega)]; (try rw [zuf_ne _ _ (by omega)]); exact h4, fun j2 hj2 => by rw [zup_ne _ _ (by omega)]; (try rw [zuf_ne _ _ (by omega)]); exact h5 j2 hj2, by rw [zup_ne _ _ (by omega)]; (try rw [zuf_ne _ _ (by omega)]); exact h6, fun j2 hj2 => by rw [zup_ne _ _ (by omega)]; (try rw [zuf_ne _ _ (by omega)]); exact h7 j2 hj2, by rw [zup_ne _ _ (by omega)]; (try rw [zuf_ne _ _ (by omega)]); exact h8, fun i2 hi2 => by rw [zup_ne _ _ (by omega)]; (try rw [zuf_ne _ _ (by omega)]); exact h9 i2 hi2, fun i2 hi2 => ?_⟩
  obtain ⟨a1, a2, a3, a4, a5⟩ := h10 i2 hi2
  by_cases e : i2 = i
  · subst e
    exact ⟨by rw [zup_ne _ _ (by omega), zuf_ne _ _ (by omega)]; exact a1, by rw [zup_ne _ _ (by omega), zuf_ne _ _ (by omega)]; exact a2, by rw [zup_ne _ _ (by omega), zuf_ne _ _ (by omega)]; exact a3, by rw [show g + 29 + 5 * i2 = g + 26 + 5 * i2 + 3 by omega, zup_self, zuf_self], by rw [zup_ne _ _ (by omega), zuf_ne _ _ (by omega)]; exact a5⟩
  · rw [zup_ne _ _ (by omega), zup_ne _ _ (by omega), zup_ne _ _ (by omega), zup_ne _ _ (by omega), zup_ne _ _ (by omega), zuf_ne _ _ (by omega), zuf_ne _ _ (by omega), zuf_ne _ _ (by omega), zuf_ne _ _ (by omega), zuf_ne _ _ (by omega)]
    exact ⟨a1, a2, a3, a4, a5⟩
theorem Gc.upH4 (h : Gc M g c kp bt la) {i : Nat} (hi : i < 10) (x : Nat → Int32) : Gc (zup M (g + 26 + 5 * i + 4) (.inl (0, 6, .inl x))) g (zuf c (70 + i) x) kp bt la := by
  obtain ⟨h0, h1, h2, h3, h4, h5, h6, h7, h8, h9, h10⟩ := h
  refine ⟨by rw [zup_ne _ _ (by omega)]; (try rw [zuf_ne _ _ (by omega)]); exact h0, by rw [zup_ne _ _ (by omega)]; skip; exact h1, by rw [zup_ne _ _ (by omega)]; skip; exact h2, by rw [zup_ne _ _ (by omega)]; skip; exact h3, by rw [zup_ne _ _ (by omega)]; (try rw [zuf_ne _ _ (by omega)]); exact h4, fun j2 hj2 => by rw [zup_ne _ _ (by omega)]; (try rw [zuf_ne _ _ (by omega)]); exact h5 j2 hj2, by rw [zup_ne _ _ (by omega)]; (try rw [zuf_ne _ _ (by omega)]); exact h6, fun j2 hj2 => by rw [zup_ne _ _ (by omega)]; (try rw [zuf_ne _ _ (by omega)]); exact h7 j2 hj2, by rw [zup_ne _ _ (by omega)]; (try rw [zuf_ne _ _ (by omega)]); exact h8, fun i2 hi2 => by rw [zup_ne _ _ (by omega)]; (try rw [zuf_ne _ _ (by omega)]); exact h9 i2 hi2, fun i2 hi2 => ?_⟩
  obtain ⟨a1, a2, a3, a4, a5⟩ := h10 i2 hi2
  by_cases e : i2 = i
  · subst e
    exact ⟨by rw [zup_ne _ _ (by omega), zuf_ne _ _ (by omega)]; exact a1, by rw [zup_ne _ _ (by omega), zuf_ne _ _ (by omega)]; exact a2, by rw [zup_ne _ _ (by omega), zuf_ne _ _ (by omega)]; exact a3, by rw [zup_ne _ _ (by omega), zuf_ne _ _ (by omega)]; exact a4, by rw [show g + 30 + 5 * i2 = g + 26 + 5 * i2 + 4 by omega, zup_self, zuf_self]⟩
  · rw [zup_ne _ _ (by omega), zup_ne _ _ (by omega), zup_ne _ _ (by omega), zup_ne _ _ (by omega), zup_ne _ _ (by omega), zuf_ne _ _ (by omega), zuf_ne _ _ (by omega), zuf_ne _ _ (by omega), zuf_ne _ _ (by omega), zuf_ne _ _ (by omega)]
    exact ⟨a1, a2, a3, a4, a5⟩
end
/-! ONE BED, ONE LOT, ONE HOUSE. -/
def PBi (M : zM) (n : Nat) (c : mS) (bt : Nat → Option Nat) (s : Nat → Int32) (nc b : Nat) : Prop := ((s (150 + 10 * b) = -1 ∧ bt b = none ∧ s (151 + 10 * b) = -1 ∧ s (153 + 10 * b) = 0 ∧ s (154 + 10 * b) = 0 ∧ s (155 + 10 * b) = 0) ∨ ∃ i a, i < nc ∧ s (150 + 10 * b) = nI i ∧ bt b = some a ∧ CropAt M n a i s ∧ s (50 + 10 * i) ≠ 5 ∧ (s (50 + 10 * i) = 0 ∨ s (50 + 10 * i) = 1 → s (154 + 10 * b) = 0)) ∧ (∀ k, 1 ≤ k → k ≤ 7 → c (20 + b) k = s (150 + 10 * b + k)) ∧ (s (157 + 10 * b) = 0 ∨ s (157 + 10 * b) = 1) ∧ (s (156 + 10 * b) = -1 ∨ inN (s (156 + 10 * b)) 0 7) ∧ (0 ≤ (s (154 + 10 * b)).toInt ∧ (s (154 + 10 * b)).toInt ≤ 300)
theorem PB.iff {M : zM} {n : Nat} {c : mS} {bt : Nat → Option Nat} {s : Nat → Int32} {nc : Nat} : PB M n c bt s nc ↔ ∀ b, b < 8 → PBi M n c bt s nc b := Iff.rfl
def PLi (c : mS) (s : Nat → Int32) (nc wk l : Nat) : Prop := (∀ j, j < 6 → c (1 + j) l = s (250 + 6 * l + j)) ∧ (∃ i, i < nc ∧ s (250 + 6 * l) = nI i) ∧ (0 ≤ (s (255 + 6 * l)).toInt ∧ (s (255 + 6 * l)).toInt ≤ 300) ∧ inN (s (253 + 6 * l)) 0 wk
theorem PL.iff {c : mS} {s : Nat → Int32} {nc nl wk : Nat} : PL c s nc nl wk ↔ ∀ l, l < nl → PLi c s nc wk l := Iff.rfl
def PHi (c : mS) (s : Nat → Int32) (wk h : Nat) : Prop := (∀ k, k < 7 → c (30 + h) k = s (1700 + 40 * h + k)) ∧ (∀ q, q < 8 → c (40 + h) q = s (1708 + 40 * h + q) ∧ (s (1708 + 40 * h + q) = -1 ∨ ∃ k, s (1708 + 40 * h + q) = nI k ∧ k < wk)) ∧ inN (s (1700 + 40 * h)) 1 6 ∧ inN (s (1701 + 40 * h)) 0 255 ∧ inN (s (1702 + 40 * h)) 0 (2 ^ 30 - 1) ∧ inN (s (1703 + 40 * h)) 0 (54 * wk) ∧ (s (1706 + 40 * h) = 0 ∨ s (1706 + 40 * h) = 1) ∧ (s (1706 + 40 * h) = 1 → ∀ p, p < 6 → nI p < s (1700 + 40 * h) → c (50 + h) p = s (1716 + 40 * h + 3 * p) ∧ c (60 + h) p = s (1717 + 40 * h + 3 * p) ∧ c (70 + h) p = s (1718 + 40 * h + 3 * p))
theorem PH.iff {c : mS} {s : Nat → Int32} {nh wk : Nat} : PH c s nh wk ↔ ∀ h, h < nh → PHi c s wk h := Iff.rfl
theorem PHi.cg {c c' : mS} {s s' : Nat → Int32} {wk h : Nat} (q : PHi c s wk h) (hs : ∀ k, k < 40 → s' (1700 + 40 * h + k) = s (1700 + 40 * h + k)) (h3 : c' (30 + h) = c (30 + h)) (h4 : c' (40 + h) = c (40 + h)) (h5 : c' (50 + h) = c (50 + h)) (h6 : c' (60 + h) = c (60 + h)) (h7 : c' (70 + h) = c (70 + h)) : PHi c' s' wk h := by
  have hs2 : ∀ z, 1700 + 40 * h ≤ z → z < 1740 + 40 * h → s' z = s z := fun z a b => by
    have := hs (z - (1700 + 40 * h)) (by omega)
    rw [show 1700 + 40 * h + (z - (1700 + 40 * h)) = z by omega] at this
    exact this
  obtain ⟨q1, q2, q3, q4, q5, q6, q7, q8⟩ := q
  unfold PHi
  rw [hs2 (1700 + 40 * h) (by omega) (by omega), hs2 (1701 + 40 * h) (by omega) (by omega), hs2 (1702 + 40 * h) (by omega) (by omega), hs2 (1703 + 40 * h) (by omega) (by omega), hs2 (1706 + 40 * h) (by omega) (by omega), h3, h4, h5, h6, h7]
  refine ⟨fun k hk => by rw [hs2 _ (by omega) (by omega)]; exact q1 k hk, fun i hi => by rw [hs2 _ (by omega) (by omega)]; exact q2 i hi, q3, q4, q5, q6, q7, fun h1 p hp hp2 => ?_⟩
  rw [hs2 _ (by omega) (by omega), hs2 _ (by omega) (by omega), hs2 _ (by omega) (by omega)]
  exact q8 h1 p hp hp2
theorem PBi.cg {M : zM} {n : Nat} {c c' : mS} {bt bt' : Nat → Option Nat} {s s' : Nat → Int32} {nc b : Nat} (q : PBi M n c bt s nc b) (h8 : nc ≤ 8) (hs : ∀ i, 50 ≤ i ∧ i < 130 ∧ i % 10 < 6 → s' i = s i) (hs2 : ∀ k, k < 8 → s' (150 + 10 * b + k) = s (150 + 10 * b + k)) (hc : c' (20 + b) = c (20 + b)) (hb : bt' b = bt b) : PBi M n c' bt' s' nc b := by
  have hs3 : ∀ z, 150 + 10 * b ≤ z → z < 158 + 10 * b → s' z = s z := fun z a a2 => by
    have := hs2 (z - (150 + 10 * b)) (by omega)
    rw [show 150 + 10 * b + (z - (150 + 10 * b)) = z by omega] at this
    exact this
  obtain ⟨q1, q2, q3⟩ := q
  unfold PBi
  rw [hs3 (150 + 10 * b) (by omega) (by omega), hs3 (151 + 10 * b) (by omega) (by omega), hs3 (157 + 10 * b) (by omega) (by omega), hs3 (156 + 10 * b) (by omega) (by omega), hs3 (154 + 10 * b) (by omega) (by omega), hs3 (153 + 10 * b) (by omega) (by omega), hs3 (155 + 10 * b) (by omega) (by omega), hc, hb]
  refine ⟨?_, fun k h1 h2 => by rw [hs3 _ (by omega) (by omega)]; exact q2 k h1 h2, q3⟩
  rcases q1 with q1 | ⟨i, a, e1, e2, e3, e4, e5, e6⟩
  · exact Or.inl q1
  · refine Or.inr ⟨i, a, e1, e2, e3, e4.cg (by omega) (fun i hi => hs i hi), ?_⟩
    rw [hs (50 + 10 * i) (by omega)]
    exact ⟨e5, e6⟩
theorem PLi.cg {c c' : mS} {s s' : Nat → Int32} {nc nc' wk wk' l : Nat} (q : PLi c s nc wk l) (hn : nc ≤ nc') (hw : wk ≤ wk') (hs : ∀ k, k < 6 → s' (250 + 6 * l + k) = s (250 + 6 * l + k)) (hc : ∀ j, j < 6 → c' (1 + j) l = c (1 + j) l) : PLi c' s' nc' wk' l := by
  obtain ⟨q1, ⟨i, q2, q3⟩, q4, k, q5, q6, q7⟩ := q
  have e0 := hs 0 (by omega)
  have e3 : s' (253 + 6 * l) = s (253 + 6 * l) := by have := hs 3 (by omega); rw [show 250 + 6 * l + 3 = 253 + 6 * l by omega] at this; exact this
  have e5 : s' (255 + 6 * l) = s (255 + 6 * l) := by have := hs 5 (by omega); rw [show 250 + 6 * l + 5 = 255 + 6 * l by omega] at this; exact this
  unfold PLi
  rw [e3, e5]
  exact ⟨fun j hj => by rw [hc j hj, hs j hj]; exact q1 j hj, ⟨i, by omega, by rw [show 250 + 6 * l = 250 + 6 * l + 0 by omega, e0]; exact q3⟩, q4, k, q5, q6, by omega⟩
theorem shr_toInt (x : Int32) {k : Nat} (hk : k < 32) : (x >>> (nI k &&& 31)).toInt = x.toInt / 2 ^ k := by
  have h : ∀ k : Fin 32, ((nI k.val &&& 31).toBitVec.smod 32).toNat = k.val := by decide
  have e := h ⟨k, hk⟩
  show (x.toBitVec.sshiftRight ((nI k &&& 31).toBitVec.smod 32).toNat).toInt = _
  rw [e, BitVec.toInt_sshiftRight, Int.shiftRight_eq_div_pow]
  rfl
theorem shr_eq0 {j k : Nat} (hj : j < 2 ^ k) (hk : k < 31) : nI j >>> (nI k &&& 31) = 0 := by
  apply Int32.toInt_inj.mp
  have h31 : 2 ^ k ≤ 2 ^ 30 := Nat.pow_le_pow_right (by omega) (by omega)
  rw [shr_toInt _ (by omega), nI_toInt (by omega)]
  exact Int.ediv_eq_zero_of_lt (by omega) (by exact_mod_cast hj)
