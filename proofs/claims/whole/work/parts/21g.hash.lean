
/-! lines: keys by number. -/
def hsR (β : Nat → Int32) (p : Nat) : Nat → Int32
  | 0 => 0
  | m + 1 => if m < 5 then 32 * hsR β p m + β (p + m) - 97 + 1 else -1
theorem hsR_s {β : Nat → Int32} {p m N y : Nat} (h5 : m < 5) (h : hsR β p m = nI N) (hb : β (p + m) = nI (96 + y)) (hy : 1 ≤ y ∧ y ≤ 26) (hN : N < 2 ^ 25) : hsR β p (m + 1) = nI (32 * N + y) := by
  rw [hsR, if_pos h5, h, hb, show (32 : Int32) = nI 32 from rfl, zn_mul, zn_add, show (97 : Int32) = nI 97 from rfl, zI_sub (by omega) (by omega), show (1 : Int32) = nI 1 from rfl, zn_add]
  exact congrArg nI (by omega)
theorem hk_1_0 {β : Nat → Int32} {p y0 : Nat} (h0 : β p = nI (96 + y0)) (g0 : 1 ≤ y0 ∧ y0 ≤ 26) : nI (y0) = 239301 ↔ wdB β p (p + 1) [103, 105, 118, 101] = true := by
  constructor
  · intro z
    have := zn_inj (a := y0) (b := 239301) (by omega) (by omega) z
    omega
  · intro z
    rw [wdB_n (show ¬ p + 1 = p + 4 by omega)] at z
    cases z
theorem hk_1_1 {β : Nat → Int32} {p y0 : Nat} (h0 : β p = nI (96 + y0)) (g0 : 1 ≤ y0 ∧ y0 ≤ 26) : nI (y0) = 2098 ↔ wdB β p (p + 1) [98, 97, 114] = true := by
  constructor
  · intro z
    have := zn_inj (a := y0) (b := 2098) (by omega) (by omega) z
    omega
  · intro z
    rw [wdB_n (show ¬ p + 1 = p + 3 by omega)] at z
    cases z
theorem hk_1_2 {β : Nat → Int32} {p y0 : Nat} (h0 : β p = nI (96 + y0)) (g0 : 1 ≤ y0 ∧ y0 ≤ 26) : nI (y0) = 762030 ↔ wdB β p (p + 1) [119, 104, 101, 110] = true := by
  constructor
  · intro z
    have := zn_inj (a := y0) (b := 762030) (by omega) (by omega) z
    omega
  · intro z
    rw [wdB_n (show ¬ p + 1 = p + 4 by omega)] at z
    cases z
theorem hk_1_3 {β : Nat → Int32} {p y0 : Nat} (h0 : β p = nI (96 + y0)) (g0 : 1 ≤ y0 ∧ y0 ≤ 26) : nI (y0) = 1476 ↔ wdB β p (p + 1) [97, 110, 100] = true := by
  constructor
  · intro z
    have := zn_inj (a := y0) (b := 1476) (by omega) (by omega) z
    omega
  · intro z
    rw [wdB_n (show ¬ p + 1 = p + 3 by omega)] at z
    cases z
theorem hk_1_4 {β : Nat → Int32} {p y0 : Nat} (h0 : β p = nI (96 + y0)) (g0 : 1 ≤ y0 ∧ y0 ≤ 26) : nI (y0) = 498 ↔ wdB β p (p + 1) [111, 114] = true := by
  constructor
  · intro z
    have := zn_inj (a := y0) (b := 498) (by omega) (by omega) z
    omega
  · intro z
    rw [wdB_n (show ¬ p + 1 = p + 2 by omega)] at z
    cases z
theorem hk_1_5 {β : Nat → Int32} {p y0 : Nat} (h0 : β p = nI (96 + y0)) (g0 : 1 ≤ y0 ∧ y0 ≤ 26) : nI (y0) = 14836 ↔ wdB β p (p + 1) [110, 111, 116] = true := by
  constructor
  · intro z
    have := zn_inj (a := y0) (b := 14836) (by omega) (by omega) z
    omega
  · intro z
    rw [wdB_n (show ¬ p + 1 = p + 3 by omega)] at z
    cases z
theorem hk_1_6 {β : Nat → Int32} {p y0 : Nat} (h0 : β p = nI (96 + y0)) (g0 : 1 ≤ y0 ∧ y0 ≤ 26) : nI (y0) = 20593771 ↔ wdB β p (p + 1) [115, 116, 111, 99, 107] = true := by
  constructor
  · intro z
    have := zn_inj (a := y0) (b := 20593771) (by omega) (by omega) z
    omega
  · intro z
    rw [wdB_n (show ¬ p + 1 = p + 5 by omega)] at z
    cases z
theorem hk_1_7 {β : Nat → Int32} {p y0 : Nat} (h0 : β p = nI (96 + y0)) (g0 : 1 ≤ y0 ∧ y0 ≤ 26) : nI (y0) = 8228 ↔ wdB β p (p + 1) [104, 97, 100] = true := by
  constructor
  · intro z
    have := zn_inj (a := y0) (b := 8228) (by omega) (by omega) z
    omega
  · intro z
    rw [wdB_n (show ¬ p + 1 = p + 3 by omega)] at z
    cases z
theorem hk_1_8 {β : Nat → Int32} {p y0 : Nat} (h0 : β p = nI (96 + y0)) (g0 : 1 ≤ y0 ∧ y0 ≤ 26) : nI (y0) = 758955 ↔ wdB β p (p + 1) [119, 101, 101, 107] = true := by
  constructor
  · intro z
    have := zn_inj (a := y0) (b := 758955) (by omega) (by omega) z
    omega
  · intro z
    rw [wdB_n (show ¬ p + 1 = p + 4 by omega)] at z
    cases z
theorem hk_1_9 {β : Nat → Int32} {p y0 : Nat} (h0 : β p = nI (96 + y0)) (g0 : 1 ≤ y0 ∧ y0 ≤ 26) : nI (y0) = 632645 ↔ wdB β p (p + 1) [115, 105, 122, 101] = true := by
  constructor
  · intro z
    have := zn_inj (a := y0) (b := 632645) (by omega) (by omega) z
    omega
  · intro z
    rw [wdB_n (show ¬ p + 1 = p + 4 by omega)] at z
    cases z
theorem hk_2_0 {β : Nat → Int32} {p y0 y1 : Nat} (h0 : β p = nI (96 + y0)) (g0 : 1 ≤ y0 ∧ y0 ≤ 26) (h1 : β (p + 1) = nI (96 + y1)) (g1 : 1 ≤ y1 ∧ y1 ≤ 26) : nI (32 * (y0) + y1) = 239301 ↔ wdB β p (p + 2) [103, 105, 118, 101] = true := by
  constructor
  · intro z
    have := zn_inj (a := 32 * (y0) + y1) (b := 239301) (by omega) (by omega) z
    omega
  · intro z
    rw [wdB_n (show ¬ p + 2 = p + 4 by omega)] at z
    cases z
theorem hk_2_1 {β : Nat → Int32} {p y0 y1 : Nat} (h0 : β p = nI (96 + y0)) (g0 : 1 ≤ y0 ∧ y0 ≤ 26) (h1 : β (p + 1) = nI (96 + y1)) (g1 : 1 ≤ y1 ∧ y1 ≤ 26) : nI (32 * (y0) + y1) = 2098 ↔ wdB β p (p + 2) [98, 97, 114] = true := by
  constructor
  · intro z
    have := zn_inj (a := 32 * (y0) + y1) (b := 2098) (by omega) (by omega) z
    omega
  · intro z
    rw [wdB_n (show ¬ p + 2 = p + 3 by omega)] at z
    cases z
theorem hk_2_2 {β : Nat → Int32} {p y0 y1 : Nat} (h0 : β p = nI (96 + y0)) (g0 : 1 ≤ y0 ∧ y0 ≤ 26) (h1 : β (p + 1) = nI (96 + y1)) (g1 : 1 ≤ y1 ∧ y1 ≤ 26) : nI (32 * (y0) + y1) = 762030 ↔ wdB β p (p + 2) [119, 104, 101, 110] = true := by
  constructor
  · intro z
    have := zn_inj (a := 32 * (y0) + y1) (b := 762030) (by omega) (by omega) z
    omega
  · intro z
    rw [wdB_n (show ¬ p + 2 = p + 4 by omega)] at z
    cases z
theorem hk_2_3 {β : Nat → Int32} {p y0 y1 : Nat} (h0 : β p = nI (96 + y0)) (g0 : 1 ≤ y0 ∧ y0 ≤ 26) (h1 : β (p + 1) = nI (96 + y1)) (g1 : 1 ≤ y1 ∧ y1 ≤ 26) : nI (32 * (y0) + y1) = 1476 ↔ wdB β p (p + 2) [97, 110, 100] = true := by
  constructor
  · intro z
    have := zn_inj (a := 32 * (y0) + y1) (b := 1476) (by omega) (by omega) z
    omega
  · intro z
    rw [wdB_n (show ¬ p + 2 = p + 3 by omega)] at z
    cases z
theorem hk_2_4 {β : Nat → Int32} {p y0 y1 : Nat} (h0 : β p = nI (96 + y0)) (g0 : 1 ≤ y0 ∧ y0 ≤ 26) (h1 : β (p + 1) = nI (96 + y1)) (g1 : 1 ≤ y1 ∧ y1 ≤ 26) : nI (32 * (y0) + y1) = 498 ↔ wdB β p (p + 2) [111, 114] = true := by
  constructor
  · intro z
    have := zn_inj (a := 32 * (y0) + y1) (b := 498) (by omega) (by omega) z
    have e0 : y0 = 15 := by omega
    have e1 : y1 = 18 := by omega
    subst e0 e1
    unfold wdB
    simp [mtB, Nat.add_assoc, h0, h1, zn_lit]
  · intro z
    unfold wdB at z
    simp [mtB, Nat.add_assoc] at z
    obtain ⟨z0, z1⟩ := z
    have e0 : 96 + y0 = 111 := zn_inj (b := 111) (by omega) (by omega) (h0.symm.trans z0)
    have e1 : 96 + y1 = 114 := zn_inj (b := 114) (by omega) (by omega) (h1.symm.trans z1)
    have : 32 * (y0) + y1 = 498 := by omega
    rw [this]
    rfl
theorem hk_2_5 {β : Nat → Int32} {p y0 y1 : Nat} (h0 : β p = nI (96 + y0)) (g0 : 1 ≤ y0 ∧ y0 ≤ 26) (h1 : β (p + 1) = nI (96 + y1)) (g1 : 1 ≤ y1 ∧ y1 ≤ 26) : nI (32 * (y0) + y1) = 14836 ↔ wdB β p (p + 2) [110, 111, 116] = true := by
  constructor
  · intro z
    have := zn_inj (a := 32 * (y0) + y1) (b := 14836) (by omega) (by omega) z
    omega
  · intro z
    rw [wdB_n (show ¬ p + 2 = p + 3 by omega)] at z
    cases z
theorem hk_2_6 {β : Nat → Int32} {p y0 y1 : Nat} (h0 : β p = nI (96 + y0)) (g0 : 1 ≤ y0 ∧ y0 ≤ 26) (h1 : β (p + 1) = nI (96 + y1)) (g1 : 1 ≤ y1 ∧ y1 ≤ 26) : nI (32 * (y0) + y1) = 20593771 ↔ wdB β p (p + 2) [115, 116, 111, 99, 107] = true := by
  constructor
  · intro z
    have := zn_inj (a := 32 * (y0) + y1) (b := 20593771) (by omega) (by omega) z
    omega
  · intro z
    rw [wdB_n (show ¬ p + 2 = p + 5 by omega)] at z
    cases z
theorem hk_2_7 {β : Nat → Int32} {p y0 y1 : Nat} (h0 : β p = nI (96 + y0)) (g0 : 1 ≤ y0 ∧ y0 ≤ 26) (h1 : β (p + 1) = nI (96 + y1)) (g1 : 1 ≤ y1 ∧ y1 ≤ 26) : nI (32 * (y0) + y1) = 8228 ↔ wdB β p (p + 2) [104, 97, 100] = true := by
  constructor
  · intro z
    have := zn_inj (a := 32 * (y0) + y1) (b := 8228) (by omega) (by omega) z
    omega
  · intro z
    rw [wdB_n (show ¬ p + 2 = p + 3 by omega)] at z
    cases z
theorem hk_2_8 {β : Nat → Int32} {p y0 y1 : Nat} (h0 : β p = nI (96 + y0)) (g0 : 1 ≤ y0 ∧ y0 ≤ 26) (h1 : β (p + 1) = nI (96 + y1)) (g1 : 1 ≤ y1 ∧ y1 ≤ 26) : nI (32 * (y0) + y1) = 758955 ↔ wdB β p (p + 2) [119, 101, 101, 107] = true := by
  constructor
  · intro z
    have := zn_inj (a := 32 * (y0) + y1) (b := 758955) (by omega) (by omega) z
    omega
  · intro z
    rw [wdB_n (show ¬ p + 2 = p + 4 by omega)] at z
    cases z
theorem hk_2_9 {β : Nat → Int32} {p y0 y1 : Nat} (h0 : β p = nI (96 + y0)) (g0 : 1 ≤ y0 ∧ y0 ≤ 26) (h1 : β (p + 1) = nI (96 + y1)) (g1 : 1 ≤ y1 ∧ y1 ≤ 26) : nI (32 * (y0) + y1) = 632645 ↔ wdB β p (p + 2) [115, 105, 122, 101] = true := by
  constructor
  · intro z
    have := zn_inj (a := 32 * (y0) + y1) (b := 632645) (by omega) (by omega) z
    omega
  · intro z
    rw [wdB_n (show ¬ p + 2 = p + 4 by omega)] at z
    cases z
theorem hk_3_0 {β : Nat → Int32} {p y0 y1 y2 : Nat} (h0 : β p = nI (96 + y0)) (g0 : 1 ≤ y0 ∧ y0 ≤ 26) (h1 : β (p + 1) = nI (96 + y1)) (g1 : 1 ≤ y1 ∧ y1 ≤ 26) (h2 : β (p + 2) = nI (96 + y2)) (g2 : 1 ≤ y2 ∧ y2 ≤ 26) : nI (32 * (32 * (y0) + y1) + y2) = 239301 ↔ wdB β p (p + 3) [103, 105, 118, 101] = true := by
  constructor
  · intro z
    have := zn_inj (a := 32 * (32 * (y0) + y1) + y2) (b := 239301) (by omega) (by omega) z
    omega
  · intro z
    rw [wdB_n (show ¬ p + 3 = p + 4 by omega)] at z
    cases z
theorem hk_3_1 {β : Nat → Int32} {p y0 y1 y2 : Nat} (h0 : β p = nI (96 + y0)) (g0 : 1 ≤ y0 ∧ y0 ≤ 26) (h1 : β (p + 1) = nI (96 + y1)) (g1 : 1 ≤ y1 ∧ y1 ≤ 26) (h2 : β (p + 2) = nI (96 + y2)) (g2 : 1 ≤ y2 ∧ y2 ≤ 26) : nI (32 * (32 * (y0) + y1) + y2) = 2098 ↔ wdB β p (p + 3) [98, 97, 114] = true := by
  constructor
  · intro z
    have := zn_inj (a := 32 * (32 * (y0) + y1) + y2) (b := 2098) (by omega) (by omega) z
    have e0 : y0 = 2 := by omega
    have e1 : y1 = 1 := by omega
    have e2 : y2 = 18 := by omega
    subst e0 e1 e2
    unfold wdB
    simp [mtB, Nat.add_assoc, h0, h1, h2, zn_lit]
  · intro z
    unfold wdB at z
    simp [mtB, Nat.add_assoc] at z
    obtain ⟨z0, z1, z2⟩ := z
    have e0 : 96 + y0 = 98 := zn_inj (b := 98) (by omega) (by omega) (h0.symm.trans z0)
    have e1 : 96 + y1 = 97 := zn_inj (b := 97) (by omega) (by omega) (h1.symm.trans z1)
    have e2 : 96 + y2 = 114 := zn_inj (b := 114) (by omega) (by omega) (h2.symm.trans z2)
    have : 32 * (32 * (y0) + y1) + y2 = 2098 := by omega
    rw [this]
    rfl
theorem hk_3_2 {β : Nat → Int32} {p y0 y1 y2 : Nat} (h0 : β p = nI (96 + y0)) (g0 : 1 ≤ y0 ∧ y0 ≤ 26) (h1 : β (p + 1) = nI (96 + y1)) (g1 : 1 ≤ y1 ∧ y1 ≤ 26) (h2 : β (p + 2) = nI (96 + y2)) (g2 : 1 ≤ y2 ∧ y2 ≤ 26) : nI (32 * (32 * (y0) + y1) + y2) = 762030 ↔ wdB β p (p + 3) [119, 104, 101, 110] = true := by
  constructor
  · intro z
    have := zn_inj (a := 32 * (32 * (y0) + y1) + y2) (b := 762030) (by omega) (by omega) z
    omega
  · intro z
    rw [wdB_n (show ¬ p + 3 = p + 4 by omega)] at z
    cases z
theorem hk_3_3 {β : Nat → Int32} {p y0 y1 y2 : Nat} (h0 : β p = nI (96 + y0)) (g0 : 1 ≤ y0 ∧ y0 ≤ 26) (h1 : β (p + 1) = nI (96 + y1)) (g1 : 1 ≤ y1 ∧ y1 ≤ 26) (h2 : β (p + 2) = nI (96 + y2)) (g2 : 1 ≤ y2 ∧ y2 ≤ 26) : nI (32 * (32 * (y0) + y1) + y2) = 1476 ↔ wdB β p (p + 3) [97, 110, 100] = true := by
  constructor
  · intro z
    have := zn_inj (a := 32 * (32 * (y0) + y1) + y2) (b := 1476) (by omega) (by omega) z
    have e0 : y0 = 1 := by omega
    have e1 : y1 = 14 := by omega
    have e2 : y2 = 4 := by omega
    subst e0 e1 e2
    unfold wdB
    simp [mtB, Nat.add_assoc, h0, h1, h2, zn_lit]
  · intro z
    unfold wdB at z
    simp [mtB, Nat.add_assoc] at z
    obtain ⟨z0, z1, z2⟩ := z
    have e0 : 96 + y0 = 97 := zn_inj (b := 97) (by omega) (by omega) (h0.symm.trans z0)
    have e1 : 96 + y1 = 110 := zn_inj (b := 110) (by omega) (by omega) (h1.symm.trans z1)
    have e2 : 96 + y2 = 100 := zn_inj (b := 100) (by omega) (by omega) (h2.symm.trans z2)
    have : 32 * (32 * (y0) + y1) + y2 = 1476 := by omega
    rw [this]
    rfl
theorem hk_3_4 {β : Nat → Int32} {p y0 y1 y2 : Nat} (h0 : β p = nI (96 + y0)) (g0 : 1 ≤ y0 ∧ y0 ≤ 26) (h1 : β (p + 1) = nI (96 + y1)) (g1 : 1 ≤ y1 ∧ y1 ≤ 26) (h2 : β (p + 2) = nI (96 + y2)) (g2 : 1 ≤ y2 ∧ y2 ≤ 26) : nI (32 * (32 * (y0) + y1) + y2) = 498 ↔ wdB β p (p + 3) [111, 114] = true := by
  constructor
  · intro z
    have := zn_inj (a := 32 * (32 * (y0) + y1) + y2) (b := 498) (by omega) (by omega) z
    omega
  · intro z
    rw [wdB_n (show ¬ p + 3 = p + 2 by omega)] at z
    cases z
theorem hk_3_5 {β : Nat → Int32} {p y0 y1 y2 : Nat} (h0 : β p = nI (96 + y0)) (g0 : 1 ≤ y0 ∧ y0 ≤ 26) (h1 : β (p + 1) = nI (96 + y1)) (g1 : 1 ≤ y1 ∧ y1 ≤ 26) (h2 : β (p + 2) = nI (96 + y2)) (g2 : 1 ≤ y2 ∧ y2 ≤ 26) : nI (32 * (32 * (y0) + y1) + y2) = 14836 ↔ wdB β p (p + 3) [110, 111, 116] = true := by
  constructor
  · intro z
    have := zn_inj (a := 32 * (32 * (y0) + y1) + y2) (b := 14836) (by omega) (by omega) z
    have e0 : y0 = 14 := by omega
    have e1 : y1 = 15 := by omega
    have e2 : y2 = 20 := by omega
    subst e0 e1 e2
    unfold wdB
    simp [mtB, Nat.add_assoc, h0, h1, h2, zn_lit]
  · intro z
    unfold wdB at z
    simp [mtB, Nat.add_assoc] at z
    obtain ⟨z0, z1, z2⟩ := z
    have e0 : 96 + y0 = 110 := zn_inj (b := 110) (by omega) (by omega) (h0.symm.trans z0)
    have e1 : 96 + y1 = 111 := zn_inj (b := 111) (by omega) (by omega) (h1.symm.trans z1)
    have e2 : 96 + y2 = 116 := zn_inj (b := 116) (by omega) (by omega) (h2.symm.trans z2)
    have : 32 * (32 * (y0) + y1) + y2 = 14836 := by omega
    rw [this]
    rfl
theorem hk_3_6 {β : Nat → Int32} {p y0 y1 y2 : Nat} (h0 : β p = nI (96 + y0)) (g0 : 1 ≤ y0 ∧ y0 ≤ 26) (h1 : β (p + 1) = nI (96 + y1)) (g1 : 1 ≤ y1 ∧ y1 ≤ 26) (h2 : β (p + 2) = nI (96 + y2)) (g2 : 1 ≤ y2 ∧ y2 ≤ 26) : nI (32 * (32 * (y0) + y1) + y2) = 20593771 ↔ wdB β p (p + 3) [115, 116, 111, 99, 107] = true := by
  constructor
  · intro z
    have := zn_inj (a := 32 * (32 * (y0) + y1) + y2) (b := 20593771) (by omega) (by omega) z
    omega
  · intro z
    rw [wdB_n (show ¬ p + 3 = p + 5 by omega)] at z
    cases z
theorem hk_3_7 {β : Nat → Int32} {p y0 y1 y2 : Nat} (h0 : β p = nI (96 + y0)) (g0 : 1 ≤ y0 ∧ y0 ≤ 26) (h1 : β (p + 1) = nI (96 + y1)) (g1 : 1 ≤ y1 ∧ y1 ≤ 26) (h2 : β (p + 2) = nI (96 + y2)) (g2 : 1 ≤ y2 ∧ y2 ≤ 26) : nI (32 * (32 * (y0) + y1) + y2) = 8228 ↔ wdB β p (p + 3) [104, 97, 100] = true := by
  constructor
  · intro z
    have := zn_inj (a := 32 * (32 * (y0) + y1) + y2) (b := 8228) (by omega) (by omega) z
    have e0 : y0 = 8 := by omega
    have e1 : y1 = 1 := by omega
    have e2 : y2 = 4 := by omega
    subst e0 e1 e2
    unfold wdB
    simp [mtB, Nat.add_assoc, h0, h1, h2, zn_lit]
  · intro z
    unfold wdB at z
    simp [mtB, Nat.add_assoc] at z
    obtain ⟨z0, z1, z2⟩ := z
    have e0 : 96 + y0 = 104 := zn_inj (b := 104) (by omega) (by omega) (h0.symm.trans z0)
    have e1 : 96 + y1 = 97 := zn_inj (b := 97) (by omega) (by omega) (h1.symm.trans z1)
    have e2 : 96 + y2 = 100 := zn_inj (b := 100) (by omega) (by omega) (h2.symm.trans z2)
    have : 32 * (32 * (y0) + y1) + y2 = 8228 := by omega
    rw [this]
    rfl
theorem hk_3_8 {β : Nat → Int32} {p y0 y1 y2 : Nat} (h0 : β p = nI (96 + y0)) (g0 : 1 ≤ y0 ∧ y0 ≤ 26) (h1 : β (p + 1) = nI (96 + y1)) (g1 : 1 ≤ y1 ∧ y1 ≤ 26) (h2 : β (p + 2) = nI (96 + y2)) (g2 : 1 ≤ y2 ∧ y2 ≤ 26) : nI (32 * (32 * (y0) + y1) + y2) = 758955 ↔ wdB β p (p + 3) [119, 101, 101, 107] = true := by
  constructor
  · intro z
    have := zn_inj (a := 32 * (32 * (y0) + y1) + y2) (b := 758955) (by omega) (by omega) z
    omega
  · intro z
    rw [wdB_n (show ¬ p + 3 = p + 4 by omega)] at z
    cases z
theorem hk_3_9 {β : Nat → Int32} {p y0 y1 y2 : Nat} (h0 : β p = nI (96 + y0)) (g0 : 1 ≤ y0 ∧ y0 ≤ 26) (h1 : β (p + 1) = nI (96 + y1)) (g1 : 1 ≤ y1 ∧ y1 ≤ 26) (h2 : β (p + 2) = nI (96 + y2)) (g2 : 1 ≤ y2 ∧ y2 ≤ 26) : nI (32 * (32 * (y0) + y1) + y2) = 632645 ↔ wdB β p (p + 3) [115, 105, 122, 101] = true := by
  constructor
  · intro z
    have := zn_inj (a := 32 * (32 * (y0) + y1) + y2) (b := 632645) (by omega) (by omega) z
    omega
  · intro z
    rw [wdB_n (show ¬ p + 3 = p + 4 by omega)] at z
    cases z
theorem hk_4_0 {β : Nat → Int32} {p y0 y1 y2 y3 : Nat} (h0 : β p = nI (96 + y0)) (g0 : 1 ≤ y0 ∧ y0 ≤ 26) (h1 : β (p + 1) = nI (96 + y1)) (g1 : 1 ≤ y1 ∧ y1 ≤ 26) (h2 : β (p + 2) = nI (96 + y2)) (g2 : 1 ≤ y2 ∧ y2 ≤ 26) (h3 : β (p + 3) = nI (96 + y3)) (g3 : 1 ≤ y3 ∧ y3 ≤ 26) : nI (32 * (32 * (32 * (y0) + y1) + y2) + y3) = 239301 ↔ wdB β p (p + 4) [103, 105, 118, 101] = true := by
  constructor
  · intro z
    have := zn_inj (a := 32 * (32 * (32 * (y0) + y1) + y2) + y3) (b := 239301) (by omega) (by omega) z
    have e0 : y0 = 7 := by omega
    have e1 : y1 = 9 := by omega
    have e2 : y2 = 22 := by omega
    have e3 : y3 = 5 := by omega
    subst e0 e1 e2 e3
    unfold wdB
    simp [mtB, Nat.add_assoc, h0, h1, h2, h3, zn_lit]
  · intro z
    unfold wdB at z
    simp [mtB, Nat.add_assoc] at z
    obtain ⟨z0, z1, z2, z3⟩ := z
    have e0 : 96 + y0 = 103 := zn_inj (b := 103) (by omega) (by omega) (h0.symm.trans z0)
    have e1 : 96 + y1 = 105 := zn_inj (b := 105) (by omega) (by omega) (h1.symm.trans z1)
    have e2 : 96 + y2 = 118 := zn_inj (b := 118) (by omega) (by omega) (h2.symm.trans z2)
    have e3 : 96 + y3 = 101 := zn_inj (b := 101) (by omega) (by omega) (h3.symm.trans z3)
    have : 32 * (32 * (32 * (y0) + y1) + y2) + y3 = 239301 := by omega
    rw [this]
    rfl
theorem hk_4_1 {β : Nat → Int32} {p y0 y1 y2 y3 : Nat} (h0 : β p = nI (96 + y0)) (g0 : 1 ≤ y0 ∧ y0 ≤ 26) (h1 : β (p + 1) = nI (96 + y1)) (g1 : 1 ≤ y1 ∧ y1 ≤ 26) (h2 : β (p + 2) = nI (96 + y2)) (g2 : 1 ≤ y2 ∧ y2 ≤ 26) (h3 : β (p + 3) = nI (96 + y3)) (g3 : 1 ≤ y3 ∧ y3 ≤ 26) : nI (32 * (32 * (32 * (y0) + y1) + y2) + y3) = 2098 ↔ wdB β p (p + 4) [98, 97, 114] = true := by
  constructor
  · intro z
    have := zn_inj (a := 32 * (32 * (32 * (y0) + y1) + y2) + y3) (b := 2098) (by omega) (by omega) z
    omega
  · intro z
    rw [wdB_n (show ¬ p + 4 = p + 3 by omega)] at z
    cases z
theorem hk_4_2 {β : Nat → Int32} {p y0 y1 y2 y3 : Nat} (h0 : β p = nI (96 + y0)) (g0 : 1 ≤ y0 ∧ y0 ≤ 26) (h1 : β (p + 1) = nI (96 + y1)) (g1 : 1 ≤ y1 ∧ y1 ≤ 26) (h2 : β (p + 2) = nI (96 + y2)) (g2 : 1 ≤ y2 ∧ y2 ≤ 26) (h3 : β (p + 3) = nI (96 + y3)) (g3 : 1 ≤ y3 ∧ y3 ≤ 26) : nI (32 * (32 * (32 * (y0) + y1) + y2) + y3) = 762030 ↔ wdB β p (p + 4) [119, 104, 101, 110] = true := by
  constructor
  · intro z
    have := zn_inj (a := 32 * (32 * (32 * (y0) + y1) + y2) + y3) (b := 762030) (by omega) (by omega) z
    have e0 : y0 = 23 := by omega
    have e1 : y1 = 8 := by omega
    have e2 : y2 = 5 := by omega
    have e3 : y3 = 14 := by omega
    subst e0 e1 e2 e3
    unfold wdB
    simp [mtB, Nat.add_assoc, h0, h1, h2, h3, zn_lit]
  · intro z
    unfold wdB at z
    simp [mtB, Nat.add_assoc] at z
    obtain ⟨z0, z1, z2, z3⟩ := z
    have e0 : 96 + y0 = 119 := zn_inj (b := 119) (by omega) (by omega) (h0.symm.trans z0)
    have e1 : 96 + y1 = 104 := zn_inj (b := 104) (by omega) (by omega) (h1.symm.trans z1)
    have e2 : 96 + y2 = 101 := zn_inj (b := 101) (by omega) (by omega) (h2.symm.trans z2)
    have e3 : 96 + y3 = 110 := zn_inj (b := 110) (by omega) (by omega) (h3.symm.trans z3)
    have : 32 * (32 * (32 * (y0) + y1) + y2) + y3 = 762030 := by omega
    rw [this]
    rfl
theorem hk_4_3 {β : Nat → Int32} {p y0 y1 y2 y3 : Nat} (h0 : β p = nI (96 + y0)) (g0 : 1 ≤ y0 ∧ y0 ≤ 26) (h1 : β (p + 1) = nI (96 + y1)) (g1 : 1 ≤ y1 ∧ y1 ≤ 26) (h2 : β (p + 2) = nI (96 + y2)) (g2 : 1 ≤ y2 ∧ y2 ≤ 26) (h3 : β (p + 3) = nI (96 + y3)) (g3 : 1 ≤ y3 ∧ y3 ≤ 26) : nI (32 * (32 * (32 * (y0) + y1) + y2) + y3) = 1476 ↔ wdB β p (p + 4) [97, 110, 100] = true := by
  constructor
  · intro z
    have := zn_inj (a := 32 * (32 * (32 * (y0) + y1) + y2) + y3) (b := 1476) (by omega) (by omega) z
    omega
  · intro z
    rw [wdB_n (show ¬ p + 4 = p + 3 by omega)] at z
    cases z
theorem hk_4_4 {β : Nat → Int32} {p y0 y1 y2 y3 : Nat} (h0 : β p = nI (96 + y0)) (g0 : 1 ≤ y0 ∧ y0 ≤ 26) (h1 : β (p + 1) = nI (96 + y1)) (g1 : 1 ≤ y1 ∧ y1 ≤ 26) (h2 : β (p + 2) = nI (96 + y2)) (g2 : 1 ≤ y2 ∧ y2 ≤ 26) (h3 : β (p + 3) = nI (96 + y3)) (g3 : 1 ≤ y3 ∧ y3 ≤ 26) : nI (32 * (32 * (32 * (y0) + y1) + y2) + y3) = 498 ↔ wdB β p (p + 4) [111, 114] = true := by
  constructor
  · intro z
    have := zn_inj (a := 32 * (32 * (32 * (y0) + y1) + y2) + y3) (b := 498) (by omega) (by omega) z
    omega
  · intro z
    rw [wdB_n (show ¬ p + 4 = p + 2 by omega)] at z
    cases z
theorem hk_4_5 {β : Nat → Int32} {p y0 y1 y2 y3 : Nat} (h0 : β p = nI (96 + y0)) (g0 : 1 ≤ y0 ∧ y0 ≤ 26) (h1 : β (p + 1) = nI (96 + y1)) (g1 : 1 ≤ y1 ∧ y1 ≤ 26) (h2 : β (p + 2) = nI (96 + y2)) (g2 : 1 ≤ y2 ∧ y2 ≤ 26) (h3 : β (p + 3) = nI (96 + y3)) (g3 : 1 ≤ y3 ∧ y3 ≤ 26) : nI (32 * (32 * (32 * (y0) + y1) + y2) + y3) = 14836 ↔ wdB β p (p + 4) [110, 111, 116] = true := by
  constructor
  · intro z
    have := zn_inj (a := 32 * (32 * (32 * (y0) + y1) + y2) + y3) (b := 14836) (by omega) (by omega) z
    omega
  · intro z
    rw [wdB_n (show ¬ p + 4 = p + 3 by omega)] at z
    cases z
theorem hk_4_6 {β : Nat → Int32} {p y0 y1 y2 y3 : Nat} (h0 : β p = nI (96 + y0)) (g0 : 1 ≤ y0 ∧ y0 ≤ 26) (h1 : β (p + 1) = nI (96 + y1)) (g1 : 1 ≤ y1 ∧ y1 ≤ 26) (h2 : β (p + 2) = nI (96 + y2)) (g2 : 1 ≤ y2 ∧ y2 ≤ 26) (h3 : β (p + 3) = nI (96 + y3)) (g3 : 1 ≤ y3 ∧ y3 ≤ 26) : nI (32 * (32 * (32 * (y0) + y1) + y2) + y3) = 20593771 ↔ wdB β p (p + 4) [115, 116, 111, 99, 107] = true := by
  constructor
  · intro z
    have := zn_inj (a := 32 * (32 * (32 * (y0) + y1) + y2) + y3) (b := 20593771) (by omega) (by omega) z
    omega
  · intro z
    rw [wdB_n (show ¬ p + 4 = p + 5 by omega)] at z
    cases z
theorem hk_4_7 {β : Nat → Int32} {p y0 y1 y2 y3 : Nat} (h0 : β p = nI (96 + y0)) (g0 : 1 ≤ y0 ∧ y0 ≤ 26) (h1 : β (p + 1) = nI (96 + y1)) (g1 : 1 ≤ y1 ∧ y1 ≤ 26) (h2 : β (p + 2) = nI (96 + y2)) (g2 : 1 ≤ y2 ∧ y2 ≤ 26) (h3 : β (p + 3) = nI (96 + y3)) (g3 : 1 ≤ y3 ∧ y3 ≤ 26) : nI (32 * (32 * (32 * (y0) + y1) + y2) + y3) = 8228 ↔ wdB β p (p + 4) [104, 97, 100] = true := by
  constructor
  · intro z
    have := zn_inj (a := 32 * (32 * (32 * (y0) + y1) + y2) + y3) (b := 8228) (by omega) (by omega) z
    omega
  · intro z
    rw [wdB_n (show ¬ p + 4 = p + 3 by omega)] at z
    cases z
theorem hk_4_8 {β : Nat → Int32} {p y0 y1 y2 y3 : Nat} (h0 : β p = nI (96 + y0)) (g0 : 1 ≤ y0 ∧ y0 ≤ 26) (h1 : β (p + 1) = nI (96 + y1)) (g1 : 1 ≤ y1 ∧ y1 ≤ 26) (h2 : β (p + 2) = nI (96 + y2)) (g2 : 1 ≤ y2 ∧ y2 ≤ 26) (h3 : β (p + 3) = nI (96 + y3)) (g3 : 1 ≤ y3 ∧ y3 ≤ 26) : nI (32 * (32 * (32 * (y0) + y1) + y2) + y3) = 758955 ↔ wdB β p (p + 4) [119, 101, 101, 107] = true := by
  constructor
  · intro z
    have := zn_inj (a := 32 * (32 * (32 * (y0) + y1) + y2) + y3) (b := 758955) (by omega) (by omega) z
    have e0 : y0 = 23 := by omega
    have e1 : y1 = 5 := by omega
    have e2 : y2 = 5 := by omega
    have e3 : y3 = 11 := by omega
    subst e0 e1 e2 e3
    unfold wdB
    simp [mtB, Nat.add_assoc, h0, h1, h2, h3, zn_lit]
  · intro z
    unfold wdB at z
    simp [mtB, Nat.add_assoc] at z
    obtain ⟨z0, z1, z2, z3⟩ := z
    have e0 : 96 + y0 = 119 := zn_inj (b := 119) (by omega) (by omega) (h0.symm.trans z0)
    have e1 : 96 + y1 = 101 := zn_inj (b := 101) (by omega) (by omega) (h1.symm.trans z1)
    have e2 : 96 + y2 = 101 := zn_inj (b := 101) (by omega) (by omega) (h2.symm.trans z2)
    have e3 : 96 + y3 = 107 := zn_inj (b := 107) (by omega) (by omega) (h3.symm.trans z3)
    have : 32 * (32 * (32 * (y0) + y1) + y2) + y3 = 758955 := by omega
    rw [this]
    rfl
theorem hk_4_9 {β : Nat → Int32} {p y0 y1 y2 y3 : Nat} (h0 : β p = nI (96 + y0)) (g0 : 1 ≤ y0 ∧ y0 ≤ 26) (h1 : β (p + 1) = nI (96 + y1)) (g1 : 1 ≤ y1 ∧ y1 ≤ 26) (h2 : β (p + 2) = nI (96 + y2)) (g2 : 1 ≤ y2 ∧ y2 ≤ 26) (h3 : β (p + 3) = nI (96 + y3)) (g3 : 1 ≤ y3 ∧ y3 ≤ 26) : nI (32 * (32 * (32 * (y0) + y1) + y2) + y3) = 632645 ↔ wdB β p (p + 4) [115, 105, 122, 101] = true := by
  constructor
  · intro z
    have := zn_inj (a := 32 * (32 * (32 * (y0) + y1) + y2) + y3) (b := 632645) (by omega) (by omega) z
    have e0 : y0 = 19 := by omega
    have e1 : y1 = 9 := by omega
    have e2 : y2 = 26 := by omega
    have e3 : y3 = 5 := by omega
    subst e0 e1 e2 e3
    unfold wdB
    simp [mtB, Nat.add_assoc, h0, h1, h2, h3, zn_lit]
  · intro z
    unfold wdB at z
    simp [mtB, Nat.add_assoc] at z
    obtain ⟨z0, z1, z2, z3⟩ := z
    have e0 : 96 + y0 = 115 := zn_inj (b := 115) (by omega) (by omega) (h0.symm.trans z0)
    have e1 : 96 + y1 = 105 := zn_inj (b := 105) (by omega) (by omega) (h1.symm.trans z1)
    have e2 : 96 + y2 = 122 := zn_inj (b := 122) (by omega) (by omega) (h2.symm.trans z2)
    have e3 : 96 + y3 = 101 := zn_inj (b := 101) (by omega) (by omega) (h3.symm.trans z3)
    have : 32 * (32 * (32 * (y0) + y1) + y2) + y3 = 632645 := by omega
    rw [this]
    rfl
theorem hk_5_0 {β : Nat → Int32} {p y0 y1 y2 y3 y4 : Nat} (h0 : β p = nI (96 + y0)) (g0 : 1 ≤ y0 ∧ y0 ≤ 26) (h1 : β (p + 1) = nI (96 + y1)) (g1 : 1 ≤ y1 ∧ y1 ≤ 26) (h2 : β (p + 2) = nI (96 + y2)) (g2 : 1 ≤ y2 ∧ y2 ≤ 26) (h3 : β (p + 3) = nI (96 + y3)) (g3 : 1 ≤ y3 ∧ y3 ≤ 26) (h4 : β (p + 4) = nI (96 + y4)) (g4 : 1 ≤ y4 ∧ y4 ≤ 26) : nI (32 * (32 * (32 * (32 * (y0) + y1) + y2) + y3) + y4) = 239301 ↔ wdB β p (p + 5) [103, 105, 118, 101] = true := by
  constructor
  · intro z
    have := zn_inj (a := 32 * (32 * (32 * (32 * (y0) + y1) + y2) + y3) + y4) (b := 239301) (by omega) (by omega) z
    omega
  · intro z
    rw [wdB_n (show ¬ p + 5 = p + 4 by omega)] at z
    cases z
theorem hk_5_1 {β : Nat → Int32} {p y0 y1 y2 y3 y4 : Nat} (h0 : β p = nI (96 + y0)) (g0 : 1 ≤ y0 ∧ y0 ≤ 26) (h1 : β (p + 1) = nI (96 + y1)) (g1 : 1 ≤ y1 ∧ y1 ≤ 26) (h2 : β (p + 2) = nI (96 + y2)) (g2 : 1 ≤ y2 ∧ y2 ≤ 26) (h3 : β (p + 3) = nI (96 + y3)) (g3 : 1 ≤ y3 ∧ y3 ≤ 26) (h4 : β (p + 4) = nI (96 + y4)) (g4 : 1 ≤ y4 ∧ y4 ≤ 26) : nI (32 * (32 * (32 * (32 * (y0) + y1) + y2) + y3) + y4) = 2098 ↔ wdB β p (p + 5) [98, 97, 114] = true := by
  constructor
  · intro z
    have := zn_inj (a := 32 * (32 * (32 * (32 * (y0) + y1) + y2) + y3) + y4) (b := 2098) (by omega) (by omega) z
    omega
  · intro z
    rw [wdB_n (show ¬ p + 5 = p + 3 by omega)] at z
    cases z
theorem hk_5_2 {β : Nat → Int32} {p y0 y1 y2 y3 y4 : Nat} (h0 : β p = nI (96 + y0)) (g0 : 1 ≤ y0 ∧ y0 ≤ 26) (h1 : β (p + 1) = nI (96 + y1)) (g1 : 1 ≤ y1 ∧ y1 ≤ 26) (h2 : β (p + 2) = nI (96 + y2)) (g2 : 1 ≤ y2 ∧ y2 ≤ 26) (h3 : β (p + 3) = nI (96 + y3)) (g3 : 1 ≤ y3 ∧ y3 ≤ 26) (h4 : β (p + 4) = nI (96 + y4)) (g4 : 1 ≤ y4 ∧ y4 ≤ 26) : nI (32 * (32 * (32 * (32 * (y0) + y1) + y2) + y3) + y4) = 762030 ↔ wdB β p (p + 5) [119, 104, 101, 110] = true := by
  constructor
  · intro z
    have := zn_inj (a := 32 * (32 * (32 * (32 * (y0) + y1) + y2) + y3) + y4) (b := 762030) (by omega) (by omega) z
    omega
  · intro z
    rw [wdB_n (show ¬ p + 5 = p + 4 by omega)] at z
    cases z
theorem hk_5_3 {β : Nat → Int32} {p y0 y1 y2 y3 y4 : Nat} (h0 : β p = nI (96 + y0)) (g0 : 1 ≤ y0 ∧ y0 ≤ 26) (h1 : β (p + 1) = nI (96 + y1)) (g1 : 1 ≤ y1 ∧ y1 ≤ 26) (h2 : β (p + 2) = nI (96 + y2)) (g2 : 1 ≤ y2 ∧ y2 ≤ 26) (h3 : β (p + 3) = nI (96 + y3)) (g3 : 1 ≤ y3 ∧ y3 ≤ 26) (h4 : β (p + 4) = nI (96 + y4)) (g4 : 1 ≤ y4 ∧ y4 ≤ 26) : nI (32 * (32 * (32 * (32 * (y0) + y1) + y2) + y3) + y4) = 1476 ↔ wdB β p (p + 5) [97, 110, 100] = true := by
  constructor
  · intro z
    have := zn_inj (a := 32 * (32 * (32 * (32 * (y0) + y1) + y2) + y3) + y4) (b := 1476) (by omega) (by omega) z
    omega
  · intro z
    rw [wdB_n (show ¬ p + 5 = p + 3 by omega)] at z
    cases z
theorem hk_5_4 {β : Nat → Int32} {p y0 y1 y2 y3 y4 : Nat} (h0 : β p = nI (96 + y0)) (g0 : 1 ≤ y0 ∧ y0 ≤ 26) (h1 : β (p + 1) = nI (96 + y1)) (g1 : 1 ≤ y1 ∧ y1 ≤ 26) (h2 : β (p + 2) = nI (96 + y2)) (g2 : 1 ≤ y2 ∧ y2 ≤ 26) (h3 : β (p + 3) = nI (96 + y3)) (g3 : 1 ≤ y3 ∧ y3 ≤ 26) (h4 : β (p + 4) = nI (96 + y4)) (g4 : 1 ≤ y4 ∧ y4 ≤ 26) : nI (32 * (32 * (32 * (32 * (y0) + y1) + y2) + y3) + y4) = 498 ↔ wdB β p (p + 5) [111, 114] = true := by
  constructor
  · intro z
    have := zn_inj (a := 32 * (32 * (32 * (32 * (y0) + y1) + y2) + y3) + y4) (b := 498) (by omega) (by omega) z
    omega
  · intro z
    rw [wdB_n (show ¬ p + 5 = p + 2 by omega)] at z
    cases z
theorem hk_5_5 {β : Nat → Int32} {p y0 y1 y2 y3 y4 : Nat} (h0 : β p = nI (96 + y0)) (g0 : 1 ≤ y0 ∧ y0 ≤ 26) (h1 : β (p + 1) = nI (96 + y1)) (g1 : 1 ≤ y1 ∧ y1 ≤ 26) (h2 : β (p + 2) = nI (96 + y2)) (g2 : 1 ≤ y2 ∧ y2 ≤ 26) (h3 : β (p + 3) = nI (96 + y3)) (g3 : 1 ≤ y3 ∧ y3 ≤ 26) (h4 : β (p + 4) = nI (96 + y4)) (g4 : 1 ≤ y4 ∧ y4 ≤ 26) : nI (32 * (32 * (32 * (32 * (y0) + y1) + y2) + y3) + y4) = 14836 ↔ wdB β p (p + 5) [110, 111, 116] = true := by
  constructor
  · intro z
    have := zn_inj (a := 32 * (32 * (32 * (32 * (y0) + y1) + y2) + y3) + y4) (b := 14836) (by omega) (by omega) z
    omega
  · intro z
    rw [wdB_n (show ¬ p + 5 = p + 3 by omega)] at z
    cases z
theorem hk_5_6 {β : Nat → Int32} {p y0 y1 y2 y3 y4 : Nat} (h0 : β p = nI (96 + y0)) (g0 : 1 ≤ y0 ∧ y0 ≤ 26) (h1 : β (p + 1) = nI (96 + y1)) (g1 : 1 ≤ y1 ∧ y1 ≤ 26) (h2 : β (p + 2) = nI (96 + y2)) (g2 : 1 ≤ y2 ∧ y2 ≤ 26) (h3 : β (p + 3) = nI (96 + y3)) (g3 : 1 ≤ y3 ∧ y3 ≤ 26) (h4 : β (p + 4) = nI (96 + y4)) (g4 : 1 ≤ y4 ∧ y4 ≤ 26) : nI (32 * (32 * (32 * (32 * (y0) + y1) + y2) + y3) + y4) = 20593771 ↔ wdB β p (p + 5) [115, 116, 111, 99, 107] = true := by
  constructor
  · intro z
    have := zn_inj (a := 32 * (32 * (32 * (32 * (y0) + y1) + y2) + y3) + y4) (b := 20593771) (by omega) (by omega) z
    have e0 : y0 = 19 := by omega
    have e1 : y1 = 20 := by omega
    have e2 : y2 = 15 := by omega
    have e3 : y3 = 3 := by omega
    have e4 : y4 = 11 := by omega
    subst e0 e1 e2 e3 e4
    unfold wdB
    simp [mtB, Nat.add_assoc, h0, h1, h2, h3, h4, zn_lit]
  · intro z
    unfold wdB at z
    simp [mtB, Nat.add_assoc] at z
    obtain ⟨z0, z1, z2, z3, z4⟩ := z
    have e0 : 96 + y0 = 115 := zn_inj (b := 115) (by omega) (by omega) (h0.symm.trans z0)
    have e1 : 96 + y1 = 116 := zn_inj (b := 116) (by omega) (by omega) (h1.symm.trans z1)
    have e2 : 96 + y2 = 111 := zn_inj (b := 111) (by omega) (by omega) (h2.symm.trans z2)
    have e3 : 96 + y3 = 99 := zn_inj (b := 99) (by omega) (by omega) (h3.symm.trans z3)
    have e4 : 96 + y4 = 107 := zn_inj (b := 107) (by omega) (by omega) (h4.symm.trans z4)
    have : 32 * (32 * (32 * (32 * (y0) + y1) + y2) + y3) + y4 = 20593771 := by omega
    rw [this]
    rfl
theorem hk_5_7 {β : Nat → Int32} {p y0 y1 y2 y3 y4 : Nat} (h0 : β p = nI (96 + y0)) (g0 : 1 ≤ y0 ∧ y0 ≤ 26) (h1 : β (p + 1) = nI (96 + y1)) (g1 : 1 ≤ y1 ∧ y1 ≤ 26) (h2 : β (p + 2) = nI (96 + y2)) (g2 : 1 ≤ y2 ∧ y2 ≤ 26) (h3 : β (p + 3) = nI (96 + y3)) (g3 : 1 ≤ y3 ∧ y3 ≤ 26) (h4 : β (p + 4) = nI (96 + y4)) (g4 : 1 ≤ y4 ∧ y4 ≤ 26) : nI (32 * (32 * (32 * (32 * (y0) + y1) + y2) + y3) + y4) = 8228 ↔ wdB β p (p + 5) [104, 97, 100] = true := by
  constructor
  · intro z
    have := zn_inj (a := 32 * (32 * (32 * (32 * (y0) + y1) + y2) + y3) + y4) (b := 8228) (by omega) (by omega) z
    omega
  · intro z
    rw [wdB_n (show ¬ p + 5 = p + 3 by omega)] at z
    cases z
theorem hk_5_8 {β : Nat → Int32} {p y0 y1 y2 y3 y4 : Nat} (h0 : β p = nI (96 + y0)) (g0 : 1 ≤ y0 ∧ y0 ≤ 26) (h1 : β (p + 1) = nI (96 + y1)) (g1 : 1 ≤ y1 ∧ y1 ≤ 26) (h2 : β (p + 2) = nI (96 + y2)) (g2 : 1 ≤ y2 ∧ y2 ≤ 26) (h3 : β (p + 3) = nI (96 + y3)) (g3 : 1 ≤ y3 ∧ y3 ≤ 26) (h4 : β (p + 4) = nI (96 + y4)) (g4 : 1 ≤ y4 ∧ y4 ≤ 26) : nI (32 * (32 * (32 * (32 * (y0) + y1) + y2) + y3) + y4) = 758955 ↔ wdB β p (p + 5) [119, 101, 101, 107] = true := by
  constructor
  · intro z
    have := zn_inj (a := 32 * (32 * (32 * (32 * (y0) + y1) + y2) + y3) + y4) (b := 758955) (by omega) (by omega) z
    omega
  · intro z
    rw [wdB_n (show ¬ p + 5 = p + 4 by omega)] at z
    cases z
theorem hk_5_9 {β : Nat → Int32} {p y0 y1 y2 y3 y4 : Nat} (h0 : β p = nI (96 + y0)) (g0 : 1 ≤ y0 ∧ y0 ≤ 26) (h1 : β (p + 1) = nI (96 + y1)) (g1 : 1 ≤ y1 ∧ y1 ≤ 26) (h2 : β (p + 2) = nI (96 + y2)) (g2 : 1 ≤ y2 ∧ y2 ≤ 26) (h3 : β (p + 3) = nI (96 + y3)) (g3 : 1 ≤ y3 ∧ y3 ≤ 26) (h4 : β (p + 4) = nI (96 + y4)) (g4 : 1 ≤ y4 ∧ y4 ≤ 26) : nI (32 * (32 * (32 * (32 * (y0) + y1) + y2) + y3) + y4) = 632645 ↔ wdB β p (p + 5) [115, 105, 122, 101] = true := by
  constructor
  · intro z
    have := zn_inj (a := 32 * (32 * (32 * (32 * (y0) + y1) + y2) + y3) + y4) (b := 632645) (by omega) (by omega) z
    omega
  · intro z
    rw [wdB_n (show ¬ p + 5 = p + 4 by omega)] at z
    cases z
theorem kk_rel {β : Nat → Int32} {p e : Nat} {x : Int32} (h0 : x = 239301 ↔ wdB β p e [103, 105, 118, 101] = true) (h1 : x = 2098 ↔ wdB β p e [98, 97, 114] = true) (h2 : x = 762030 ↔ wdB β p e [119, 104, 101, 110] = true) (h3 : x = 1476 ↔ wdB β p e [97, 110, 100] = true) (h4 : x = 498 ↔ wdB β p e [111, 114] = true) (h5 : x = 14836 ↔ wdB β p e [110, 111, 116] = true) (h6 : x = 20593771 ↔ wdB β p e [115, 116, 111, 99, 107] = true) (h7 : x = 8228 ↔ wdB β p e [104, 97, 100] = true) (h8 : x = 758955 ↔ wdB β p e [119, 101, 101, 107] = true) (h9 : x = 632645 ↔ wdB β p e [115, 105, 122, 101] = true) : (kyR x = -1 ∧ keyK β p e = 1) ∨ ∃ i, i < 10 ∧ kyR x = nI i ∧ keyK β p e = nI (10 + i) := by
  by_cases q0 : x = 239301
  · refine Or.inr ⟨0, by omega, by rw [q0]; decide, ?_⟩
    unfold keyK
    rw [if_pos (h0.mp q0)]
    rfl
  by_cases q1 : x = 2098
  · refine Or.inr ⟨1, by omega, by rw [q1]; decide, ?_⟩
    unfold keyK
    rw [if_neg (fun z => q0 (h0.mpr z)), if_pos (h1.mp q1)]
    rfl
  by_cases q2 : x = 762030
  · refine Or.inr ⟨2, by omega, by rw [q2]; decide, ?_⟩
    unfold keyK
    rw [if_neg (fun z => q0 (h0.mpr z)), if_neg (fun z => q1 (h1.mpr z)), if_pos (h2.mp q2)]
    rfl
  by_cases q3 : x = 1476
  · refine Or.inr ⟨3, by omega, by rw [q3]; decide, ?_⟩
    unfold keyK
    rw [if_neg (fun z => q0 (h0.mpr z)), if_neg (fun z => q1 (h1.mpr z)), if_neg (fun z => q2 (h2.mpr z)), if_pos (h3.mp q3)]
    rfl
  by_cases q4 : x = 498
  · refine Or.inr ⟨4, by omega, by rw [q4]; decide, ?_⟩
    unfold keyK
    rw [if_neg (fun z => q0 (h0.mpr z)), if_neg (fun z => q1 (h1.mpr z)), if_neg (fun z => q2 (h2.mpr z)), if_neg (fun z => q3 (h3.mpr z)), if_pos (h4.mp q4)]
    rfl
  by_cases q5 : x = 14836
  · refine Or.inr ⟨5, by omega, by rw [q5]; decide, ?_⟩
    unfold keyK
    rw [if_neg (fun z => q0 (h0.mpr z)), if_neg (fun z => q1 (h1.mpr z)), if_neg (fun z => q2 (h2.mpr z)), if_neg (fun z => q3 (h3.mpr z)), if_neg (fun z => q4 (h4.mpr z)), if_pos (h5.mp q5)]
    rfl
  by_cases q6 : x = 20593771
  · refine Or.inr ⟨6, by omega, by rw [q6]; decide, ?_⟩
    unfold keyK
    rw [if_neg (fun z => q0 (h0.mpr z)), if_neg (fun z => q1 (h1.mpr z)), if_neg (fun z => q2 (h2.mpr z)), if_neg (fun z => q3 (h3.mpr z)), if_neg (fun z => q4 (h4.mpr z)), if_neg (fun z => q5 (h5.mpr z)), if_pos (h6.mp q6)]
    rfl
  by_cases q7 : x = 8228
  · refine Or.inr ⟨7, by omega, by rw [q7]; decide, ?_⟩
    unfold keyK
    rw [if_neg (fun z => q0 (h0.mpr z)), if_neg (fun z => q1 (h1.mpr z)), if_neg (fun z => q2 (h2.mpr z)), if_neg (fun z => q3 (h3.mpr z)), if_neg (fun z => q4 (h4.mpr z)), if_neg (fun z => q5 (h5.mpr z)), if_neg (fun z => q6 (h6.mpr z)), if_pos (h7.mp q7)]
    rfl
  by_cases q8 : x = 758955
  · refine Or.inr ⟨8, by omega, by rw [q8]; decide, ?_⟩
    unfold keyK
    rw [if_neg (fun z => q0 (h0.mpr z)), if_neg (fun z => q1 (h1.mpr z)), if_neg (fun z => q2 (h2.mpr z)), if_neg (fun z => q3 (h3.mpr z)), if_neg (fun z => q4 (h4.mpr z)), if_neg (fun z => q5 (h5.mpr z)), if_neg (fun z => q6 (h6.mpr z)), if_neg (fun z => q7 (h7.mpr z)), if_pos (h8.mp q8)]
    rfl
  by_cases q9 : x = 632645
  · refine Or.inr ⟨9, by omega, by rw [q9]; decide, ?_⟩
    unfold keyK
    rw [if_neg (fun z => q0 (h0.mpr z)), if_neg (fun z => q1 (h1.mpr z)), if_neg (fun z => q2 (h2.mpr z)), if_neg (fun z => q3 (h3.mpr z)), if_neg (fun z => q4 (h4.mpr z)), if_neg (fun z => q5 (h5.mpr z)), if_neg (fun z => q6 (h6.mpr z)), if_neg (fun z => q7 (h7.mpr z)), if_neg (fun z => q8 (h8.mpr z)), if_pos (h9.mp q9)]
    rfl
  left
  unfold kyR keyK
  rw [if_neg q0, if_neg q1, if_neg q2, if_neg q3, if_neg q4, if_neg q5, if_neg q6, if_neg q7, if_neg q8, if_neg q9, if_neg (fun z => q0 (h0.mpr z)), if_neg (fun z => q1 (h1.mpr z)), if_neg (fun z => q2 (h2.mpr z)), if_neg (fun z => q3 (h3.mpr z)), if_neg (fun z => q4 (h4.mpr z)), if_neg (fun z => q5 (h5.mpr z)), if_neg (fun z => q6 (h6.mpr z)), if_neg (fun z => q7 (h7.mpr z)), if_neg (fun z => q8 (h8.mpr z)), if_neg (fun z => q9 (h9.mpr z))]
  exact ⟨rfl, rfl⟩
theorem key_long {β : Nat → Int32} {p e : Nat} (h : 5 < e - p) : keyK β p e = 1 := by
  unfold keyK
  rw [if_neg (by rw [wdB_n (show ¬ e = p + 4 by omega)]; decide), if_neg (by rw [wdB_n (show ¬ e = p + 3 by omega)]; decide), if_neg (by rw [wdB_n (show ¬ e = p + 4 by omega)]; decide), if_neg (by rw [wdB_n (show ¬ e = p + 3 by omega)]; decide), if_neg (by rw [wdB_n (show ¬ e = p + 2 by omega)]; decide), if_neg (by rw [wdB_n (show ¬ e = p + 3 by omega)]; decide), if_neg (by rw [wdB_n (show ¬ e = p + 5 by omega)]; decide), if_neg (by rw [wdB_n (show ¬ e = p + 3 by omega)]; decide), if_neg (by rw [wdB_n (show ¬ e = p + 4 by omega)]; decide), if_neg (by rw [wdB_n (show ¬ e = p + 4 by omega)]; decide)]
theorem key_rel {β : Nat → Int32} {p e : Nat} (hpe : p < e) (h5 : e - p ≤ 5) (hl : ∀ q, p ≤ q → q < e → isLt (β q) = true) : ((kyR (hsR β p (e - p)) = -1 ∧ keyK β p e = 1) ∨ ∃ i, i < 10 ∧ kyR (hsR β p (e - p)) = nI i ∧ keyK β p e = nI (10 + i)) ∧ (hsR β p (e - p) = 3 ↔ e = p + 1 ∧ β p = 99) := by
  have hy : ∀ q, p ≤ q → q < e → ∃ y, β q = nI (96 + y) ∧ 1 ≤ y ∧ y ≤ 26 := fun q a b => by
    have h1 := isLt_y (hl q a b)
    rcases inI_nat (β q) 97 122 (by omega) (by omega) with ⟨i, c1, c2, c3, -⟩ | ⟨-, c3⟩
    · exact ⟨i - 96, by rw [c3]; exact congrArg nI (by omega), by omega, by omega⟩
    · rw [show inI (β q) 97 122 = 0 from c3] at h1
      exact absurd h1 (by decide)
  obtain ⟨m, hm⟩ : ∃ m, e = p + m := ⟨e - p, by omega⟩
  subst hm
  rw [show p + m - p = m by omega] at *
  have a0 : hsR β p 0 = nI 0 := rfl
  match m, hpe, h5, hy with
  | 0, hpe, _, _ => omega
  | 1, hpe, h5, hy =>
    obtain ⟨y0, b0, g0⟩ := hy (p + 0) (by omega) (by omega)
    have a1 := hsR_s (by omega) a0 b0 g0 (by omega)
    have c0 : β p = nI (96 + y0) := b0
    have aN : hsR β p 1 = nI (y0) := a1.trans (congrArg nI (by omega))
    rw [aN]
    refine ⟨kk_rel (hk_1_0 c0 g0) (hk_1_1 c0 g0) (hk_1_2 c0 g0) (hk_1_3 c0 g0) (hk_1_4 c0 g0) (hk_1_5 c0 g0) (hk_1_6 c0 g0) (hk_1_7 c0 g0) (hk_1_8 c0 g0) (hk_1_9 c0 g0), ?_⟩
    constructor
    · intro z
      have := zn_inj (a := y0) (b := 3) (by omega) (by omega) z
      exact ⟨rfl, by rw [c0, this]; rfl⟩
    · intro z
      have := zn_inj (a := 96 + y0) (b := 99) (by omega) (by omega) (c0.symm.trans z.2)
      have e3 : y0 = 3 := by omega
      rw [e3]
      rfl
  | 2, hpe, h5, hy =>
    obtain ⟨y0, b0, g0⟩ := hy (p + 0) (by omega) (by omega)
    have a1 := hsR_s (by omega) a0 b0 g0 (by omega)
    obtain ⟨y1, b1, g1⟩ := hy (p + 1) (by omega) (by omega)
    have a2 := hsR_s (by omega) a1 b1 g1 (by omega)
    have c0 : β p = nI (96 + y0) := b0
    have aN : hsR β p 2 = nI (32 * (y0) + y1) := a2.trans (congrArg nI (by omega))
    rw [aN]
    refine ⟨kk_rel (hk_2_0 c0 g0 b1 g1) (hk_2_1 c0 g0 b1 g1) (hk_2_2 c0 g0 b1 g1) (hk_2_3 c0 g0 b1 g1) (hk_2_4 c0 g0 b1 g1) (hk_2_5 c0 g0 b1 g1) (hk_2_6 c0 g0 b1 g1) (hk_2_7 c0 g0 b1 g1) (hk_2_8 c0 g0 b1 g1) (hk_2_9 c0 g0 b1 g1), ?_⟩
    constructor
    · intro z
      have := zn_inj (a := 32 * (y0) + y1) (b := 3) (by omega) (by omega) z
      omega
    · intro z
      have := z.1
      omega
  | 3, hpe, h5, hy =>
    obtain ⟨y0, b0, g0⟩ := hy (p + 0) (by omega) (by omega)
    have a1 := hsR_s (by omega) a0 b0 g0 (by omega)
    obtain ⟨y1, b1, g1⟩ := hy (p + 1) (by omega) (by omega)
    have a2 := hsR_s (by omega) a1 b1 g1 (by omega)
    obtain ⟨y2, b2, g2⟩ := hy (p + 2) (by omega) (by omega)
    have a3 := hsR_s (by omega) a2 b2 g2 (by omega)
    have c0 : β p = nI (96 + y0) := b0
    have aN : hsR β p 3 = nI (32 * (32 * (y0) + y1) + y2) := a3.trans (congrArg nI (by omega))
    rw [aN]
    refine ⟨kk_rel (hk_3_0 c0 g0 b1 g1 b2 g2) (hk_3_1 c0 g0 b1 g1 b2 g2) (hk_3_2 c0 g0 b1 g1 b2 g2) (hk_3_3 c0 g0 b1 g1 b2 g2) (hk_3_4 c0 g0 b1 g1 b2 g2) (hk_3_5 c0 g0 b1 g1 b2 g2) (hk_3_6 c0 g0 b1 g1 b2 g2) (hk_3_7 c0 g0 b1 g1 b2 g2) (hk_3_8 c0 g0 b1 g1 b2 g2) (hk_3_9 c0 g0 b1 g1 b2 g2), ?_⟩
    constructor
    · intro z
      have := zn_inj (a := 32 * (32 * (y0) + y1) + y2) (b := 3) (by omega) (by omega) z
      omega
    · intro z
      have := z.1
      omega
  | 4, hpe, h5, hy =>
    obtain ⟨y0, b0, g0⟩ := hy (p + 0) (by omega) (by omega)
    have a1 := hsR_s (by omega) a0 b0 g0 (by omega)
    obtain ⟨y1, b1, g1⟩ := hy (p + 1) (by omega) (by omega)
    have a2 := hsR_s (by omega) a1 b1 g1 (by omega)
    obtain ⟨y2, b2, g2⟩ := hy (p + 2) (by omega) (by omega)
    have a3 := hsR_s (by omega) a2 b2 g2 (by omega)
    obtain ⟨y3, b3, g3⟩ := hy (p + 3) (by omega) (by omega)
    have a4 := hsR_s (by omega) a3 b3 g3 (by omega)
    have c0 : β p = nI (96 + y0) := b0
    have aN : hsR β p 4 = nI (32 * (32 * (32 * (y0) + y1) + y2) + y3) := a4.trans (congrArg nI (by omega))
    rw [aN]
    refine ⟨kk_rel (hk_4_0 c0 g0 b1 g1 b2 g2 b3 g3) (hk_4_1 c0 g0 b1 g1 b2 g2 b3 g3) (hk_4_2 c0 g0 b1 g1 b2 g2 b3 g3) (hk_4_3 c0 g0 b1 g1 b2 g2 b3 g3) (hk_4_4 c0 g0 b1 g1 b2 g2 b3 g3) (hk_4_5 c0 g0 b1 g1 b2 g2 b3 g3) (hk_4_6 c0 g0 b1 g1 b2 g2 b3 g3) (hk_4_7 c0 g0 b1 g1 b2 g2 b3 g3) (hk_4_8 c0 g0 b1 g1 b2 g2 b3 g3) (hk_4_9 c0 g0 b1 g1 b2 g2 b3 g3), ?_⟩
    constructor
    · intro z
      have := zn_inj (a := 32 * (32 * (32 * (y0) + y1) + y2) + y3) (b := 3) (by omega) (by omega) z
      omega
    · intro z
      have := z.1
      omega
  | 5, hpe, h5, hy =>
    obtain ⟨y0, b0, g0⟩ := hy (p + 0) (by omega) (by omega)
    have a1 := hsR_s (by omega) a0 b0 g0 (by omega)
    obtain ⟨y1, b1, g1⟩ := hy (p + 1) (by omega) (by omega)
    have a2 := hsR_s (by omega) a1 b1 g1 (by omega)
    obtain ⟨y2, b2, g2⟩ := hy (p + 2) (by omega) (by omega)
    have a3 := hsR_s (by omega) a2 b2 g2 (by omega)
    obtain ⟨y3, b3, g3⟩ := hy (p + 3) (by omega) (by omega)
    have a4 := hsR_s (by omega) a3 b3 g3 (by omega)
    obtain ⟨y4, b4, g4⟩ := hy (p + 4) (by omega) (by omega)
    have a5 := hsR_s (by omega) a4 b4 g4 (by omega)
    have c0 : β p = nI (96 + y0) := b0
    have aN : hsR β p 5 = nI (32 * (32 * (32 * (32 * (y0) + y1) + y2) + y3) + y4) := a5.trans (congrArg nI (by omega))
    rw [aN]
    refine ⟨kk_rel (hk_5_0 c0 g0 b1 g1 b2 g2 b3 g3 b4 g4) (hk_5_1 c0 g0 b1 g1 b2 g2 b3 g3 b4 g4) (hk_5_2 c0 g0 b1 g1 b2 g2 b3 g3 b4 g4) (hk_5_3 c0 g0 b1 g1 b2 g2 b3 g3 b4 g4) (hk_5_4 c0 g0 b1 g1 b2 g2 b3 g3 b4 g4) (hk_5_5 c0 g0 b1 g1 b2 g2 b3 g3 b4 g4) (hk_5_6 c0 g0 b1 g1 b2 g2 b3 g3 b4 g4) (hk_5_7 c0 g0 b1 g1 b2 g2 b3 g3 b4 g4) (hk_5_8 c0 g0 b1 g1 b2 g2 b3 g3 b4 g4) (hk_5_9 c0 g0 b1 g1 b2 g2 b3 g3 b4 g4), ?_⟩
    constructor
    · intro z
      have := zn_inj (a := 32 * (32 * (32 * (32 * (y0) + y1) + y2) + y3) + y4) (b := 3) (by omega) (by omega) z
      omega
    · intro z
      have := z.1
      omega
  | m + 6, _, h5, _ => omega
