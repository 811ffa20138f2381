
/-! lines: bytes. -/
def BT (β : Nat → Int32) (L : Nat) : Prop := (∀ i, i < L → inN (β i) 0 255) ∧ (∀ i, L ≤ i → β i = -1) ∧ L ≤ 200
def TP (M : zM) (β : Nat → Int32) (L : Nat) : Prop := M 26 = .inr (9, [.ref 27, .int (nI L)]) ∧ (∃ f, M 27 = .inl (1, 200, .inl f) ∧ ∀ i, i < L → f i &&& 255 = β i) ∧ BT β L
def RT (ρ : mS) (β : Nat → Int32) (L : Nat) : Prop := ρ 12 6 = nI L ∧ (∀ i, i < L → ρ 3 i = β i) ∧ BT β L
section
variable {M : zM} {β : Nat → Int32} {L : Nat} {d n w k : Nat} {x : Int32}
theorem c_at (h : TP M β L) (hx : x = nI k) (hk : k ≤ 1000) : zCall d 68 [.ref 26, .int x] n w M (some (.int (β k))) n w M := by
  subst hx
  intro Q hQ
  obtain ⟨h26, ⟨f, h27, hf⟩, b1, b2, b3⟩ := h
  have e0 : ¬ nI k < 0 := nI_pos (by omega)
  show zR ztb _ kX9_at 1 0 [some (.ref 26), some (.int (nI k))] [] _ _ _ _
  by_cases q : k < L
  · have e : nI k < nI L := zI_ylt q (by omega)
    repeat (first | ((with_reducible refine zR.stored ?_); dsimp only [zsto, zclr, zset, zget, zc2, cond_false, cond_true]) | ((with_reducible refine zR.atLit ?_); first | refine zR.step rfl ?_ | refine zR.getf rfl (h26) rfl ?_ | (refine zR.bald rfl h27 (Or.inl rfl) (i := k) rfl (by omega) (by omega) ?_)) | rw [zcc1] | rw [zcc2] | rw [zcc3] | rw [zcc4] | rw [zn1 (e0)] | rw [zn2 (e0)] | rw [zn3 (e0)] | rw [zn4 (e0)] | rw [zb1 (e)] | rw [zb2 (e)] | rw [zb3 (e)] | rw [zb4 (e)] | rw [hf k q])
    exact zR.ret rfl rfl hQ
  · have e : ¬ nI k < nI L := zI_nlt (by omega) (by omega)
    rw [b2 k (by omega)] at hQ
    repeat (first | ((with_reducible refine zR.stored ?_); dsimp only [zsto, zclr, zset, zget, zc2, cond_false, cond_true]) | ((with_reducible refine zR.atLit ?_); first | refine zR.step rfl ?_ | refine zR.getf rfl (h26) rfl ?_) | rw [zcc1] | rw [zcc2] | rw [zcc3] | rw [zcc4] | rw [zn1 (e0)] | rw [zn2 (e0)] | rw [zn3 (e0)] | rw [zn4 (e0)] | rw [zn1 (e)] | rw [zn2 (e)] | rw [zn3 (e)] | rw [zn4 (e)])
    exact zR.ret rfl rfl hQ
theorem c_hasDigit (h : TP M β L) (hx : x = nI k) (hk : k ≤ 1000) : zCall (d + 1) 69 [.ref 26, .int x] n w M (some (.int (inI (β k) 48 57))) n w M := by
  intro Q hQ
  show zR ztb _ kX9_hasDigit 2 0 [some (.ref 26), some (.int x)] [] _ _ _ _
  repeat (first | ((with_reducible refine zR.stored ?_); dsimp only [zsto, zclr, zset, zget, zc2, cond_false, cond_true]) | ((with_reducible refine zR.atLit ?_); first | refine zR.step rfl ?_ | refine zR.cv rfl rfl rfl h.1 rfl rfl (zCalP.of (c_at h hx hk) ?_) | refine zR.cs rfl rfl rfl rfl rfl (zCalP.of (c_isWithin _ _ _) ?_)) | rw [zcc1] | rw [zcc2] | rw [zcc3] | rw [zcc4])
  exact zR.retZ rfl (inI_01 _ _ _) hQ
theorem c_hasLetter (h : TP M β L) (hx : x = nI k) (hk : k ≤ 1000) : zCall (d + 1) 70 [.ref 26, .int x] n w M (some (.int (inI (β k) 97 122))) n w M := by
  intro Q hQ
  show zR ztb _ kX9_hasLetter 2 0 [some (.ref 26), some (.int x)] [] _ _ _ _
  repeat (first | ((with_reducible refine zR.stored ?_); dsimp only [zsto, zclr, zset, zget, zc2, cond_false, cond_true]) | ((with_reducible refine zR.atLit ?_); first | refine zR.step rfl ?_ | refine zR.cv rfl rfl rfl h.1 rfl rfl (zCalP.of (c_at h hx hk) ?_) | refine zR.cs rfl rfl rfl rfl rfl (zCalP.of (c_isWithin _ _ _) ?_)) | rw [zcc1] | rw [zcc2] | rw [zcc3] | rw [zcc4])
  exact zR.retZ rfl (inI_01 _ _ _) hQ
theorem c_isLetter : zCall (d + 1) 150 [.int x] n w M (some (.int (inI x 97 122))) n w M := by
  intro Q hQ
  show zR ztb _ kX12_isLetter 2 0 [some (.int x)] [] _ _ _ _
  repeat (first | ((with_reducible refine zR.stored ?_); dsimp only [zsto, zclr, zset, zget, zc2, cond_false, cond_true]) | ((with_reducible refine zR.atLit ?_); first | refine zR.step rfl ?_ | refine zR.cs rfl rfl rfl rfl rfl (zCalP.of (c_in _ _ _) ?_)) | rw [zcc1] | rw [zcc2] | rw [zcc3] | rw [zcc4])
  exact zR.retZ rfl (inI_01 _ _ _) hQ
theorem c_isDigit : zCall (d + 1) 151 [.int x] n w M (some (.int (inI x 48 57))) n w M := by
  intro Q hQ
  show zR ztb _ kX12_isDigit 2 0 [some (.int x)] [] _ _ _ _
  repeat (first | ((with_reducible refine zR.stored ?_); dsimp only [zsto, zclr, zset, zget, zc2, cond_false, cond_true]) | ((with_reducible refine zR.atLit ?_); first | refine zR.step rfl ?_ | refine zR.cs rfl rfl rfl rfl rfl (zCalP.of (c_in _ _ _) ?_)) | rw [zcc1] | rw [zcc2] | rw [zcc3] | rw [zcc4])
  exact zR.retZ rfl (inI_01 _ _ _) hQ
theorem c_byteAt {ρ : mS} (hR : Rf M ρ) (h : RT ρ β L) (hk : k ≤ 1000) : zCall d 149 [.ref 287, .int (nI k)] n w M (some (.int (β k))) n w M := by
  intro Q hQ
  obtain ⟨h6, hf, b1, b2, b3⟩ := h
  show zR ztb _ kX12_byteAt 1 0 [some (.ref 287), some (.int (nI k))] [] _ _ _ _
  by_cases q : k < L
  · have e : nI k < nI L := zI_ylt q (by omega)
    rw [← hf k q] at hQ
    repeat (first | ((with_reducible refine zR.stored ?_); dsimp only [zsto, zclr, zset, zget, zc2, cond_false, cond_true]) | ((with_reducible refine zR.atLit ?_); first | refine zR.step rfl ?_ | (refine zR.getf rfl hR.1 rfl ?_; rw [h6]) | refine zR.getf rfl (hR.1) rfl ?_ | refine zR.ilR3 hR rfl (i := k) rfl (by omega) ?_) | rw [zcc1] | rw [zcc2] | rw [zcc3] | rw [zcc4] | rw [zb1 (e)] | rw [zb2 (e)] | rw [zb3 (e)] | rw [zb4 (e)])
    exact zR.ret rfl rfl hQ
  · have e : ¬ nI k < nI L := zI_nlt (by omega) (by omega)
    rw [b2 k (by omega)] at hQ
    repeat (first | ((with_reducible refine zR.stored ?_); dsimp only [zsto, zclr, zset, zget, zc2, cond_false, cond_true]) | ((with_reducible refine zR.atLit ?_); first | refine zR.step rfl ?_ | (refine zR.getf rfl hR.1 rfl ?_; rw [h6]) | refine zR.getf rfl (hR.1) rfl ?_) | rw [zcc1] | rw [zcc2] | rw [zcc3] | rw [zcc4] | rw [zn1 (e)] | rw [zn2 (e)] | rw [zn3 (e)] | rw [zn4 (e)])
    exact zR.ret rfl rfl hQ
end
/-! runs of bytes of one sort -/
def isLt (x : Int32) : Bool := decide (inI x 97 122 = 1)
def isDg (x : Int32) : Bool := decide (inI x 48 57 = 1)
def isBl (x : Int32) : Bool := decide (x = 32)
def runF (P : Int32 → Bool) (β : Nat → Int32) : Nat → Nat → Nat
  | 0, p => p
  | t + 1, p => if P (β p) = true then runF P β t (p + 1) else p
theorem run_le {P : Int32 → Bool} {β : Nat → Int32} : ∀ t p, p ≤ runF P β t p ∧ runF P β t p ≤ p + t
  | 0, p => ⟨Nat.le_refl _, Nat.le_refl _⟩
  | t + 1, p => by
    rw [runF]
    by_cases q : P (β p) = true
    · rw [if_pos q]
      have := run_le (P := P) (β := β) t (p + 1)
      omega
    · rw [if_neg q]
      omega
theorem run_all {P : Int32 → Bool} {β : Nat → Int32} : ∀ t p q, p ≤ q → q < runF P β t p → P (β q) = true
  | 0, p, q, h1, h2 => absurd h2 (by rw [runF]; omega)
  | t + 1, p, q, h1, h2 => by
    rw [runF] at h2
    by_cases z : P (β p) = true
    · rw [if_pos z] at h2
      by_cases e : q = p
      · subst e; exact z
      · exact run_all t (p + 1) q (by omega) h2
    · rw [if_neg z] at h2
      omega
theorem run_stop {P : Int32 → Bool} {β : Nat → Int32} : ∀ t p, P (β (p + t)) = false → P (β (runF P β t p)) = false
  | 0, p, h => h
  | t + 1, p, h => by
    rw [runF]
    by_cases z : P (β p) = true
    · rw [if_pos z]
      exact run_stop t (p + 1) (by rw [show p + 1 + t = p + (t + 1) by omega]; exact h)
    · rw [if_neg z]
      cases e : P (β p) with
      | true => exact absurd e z
      | false => rfl
theorem isLt_iff {x : Int32} : isLt x = true ↔ inI x 97 122 = 1 := decide_eq_true_iff
theorem inI_ne {a b c : Int32} (h : ¬ inI a b c = 1) : inI a b c = 0 := (inI_01 a b c).resolve_right h
/-! words -/
def wds : List (List Int32) := [[103, 105, 118, 101], [98, 97, 114], [119, 104, 101, 110], [97, 110, 100], [111, 114], [110, 111, 116], [115, 116, 111, 99, 107], [104, 97, 100], [119, 101, 101, 107], [115, 105, 122, 101]]
def mtB (β : Nat → Int32) : Nat → List Int32 → Bool
  | _, [] => true
  | p, b :: l => decide (β p = b) && mtB β (p + 1) l
def wdB (β : Nat → Int32) (p e : Nat) (w : List Int32) : Bool := decide (e = p + w.length) && mtB β p w
theorem len_0 {M : zM} {d n w : Nat} (h1 : M 3 = .inr (13, [.ref 4, .int 0])) (h2 : ∃ f, M 4 = .inl (8, 4, .inl f)) : zCall (d + 1) 224 [.ref 3] n w M (some (.int 4)) n w M := by
  intro Q hQ
  obtain ⟨f, h2⟩ := h2
  show zR ztb _ kJ0_length_8abf5 1 0 [some (.ref 3)] [] _ _ _ _
  repeat (first | ((with_reducible refine zR.stored ?_); dsimp only [zsto, zclr, zset, zget, zc2, cond_false, cond_true]) | ((with_reducible refine zR.atLit ?_); first | refine zR.step rfl ?_ | refine zR.getf rfl (h1) rfl ?_ | refine zR.alen rfl h2 ?_) | rw [zcc1] | rw [zcc2] | rw [zcc3] | rw [zcc4])
  refine zR.cv rfl rfl rfl h1 rfl rfl ?_
  show zR ztb _ kJ0_coder_7d493 _ 0 [some (.ref 3)] [] _ _ _ _
  repeat (first | ((with_reducible refine zR.stored ?_); dsimp only [zsto, zclr, zset, zget, zc2, cond_false, cond_true]) | ((with_reducible refine zR.atLit ?_); first | refine zR.step rfl ?_ | refine zR.getf rfl (h1) rfl ?_) | rw [zcc1] | rw [zcc2] | rw [zcc3] | rw [zcc4] | rw [zb1 (by decide)] | rw [zb2 (by decide)] | rw [zb3 (by decide)] | rw [zb4 (by decide)] | rw [zn1 (by decide)] | rw [zn2 (by decide)] | rw [zn3 (by decide)] | rw [zn4 (by decide)] | rw [ze1 (by decide)] | rw [ze2 (by decide)] | rw [zd1 (by decide)] | rw [zd2 (by decide)] | rw [zswy (by decide)] | rw [zswn (by decide)] | rw [zsw0])
  refine zR.ret rfl rfl ?_
  repeat (first | ((with_reducible refine zR.stored ?_); dsimp only [zsto, zclr, zset, zget, zc2, cond_false, cond_true]) | ((with_reducible refine zR.atLit ?_); first | refine zR.step rfl ?_) | rw [zcc1] | rw [zcc2] | rw [zcc3] | rw [zcc4])
  refine zR.ret rfl rfl ?_
  exact hQ
theorem len_1 {M : zM} {d n w : Nat} (h1 : M 5 = .inr (13, [.ref 6, .int 0])) (h2 : ∃ f, M 6 = .inl (8, 3, .inl f)) : zCall (d + 1) 224 [.ref 5] n w M (some (.int 3)) n w M := by
  intro Q hQ
  obtain ⟨f, h2⟩ := h2
  show zR ztb _ kJ0_length_8abf5 1 0 [some (.ref 5)] [] _ _ _ _
  repeat (first | ((with_reducible refine zR.stored ?_); dsimp only [zsto, zclr, zset, zget, zc2, cond_false, cond_true]) | ((with_reducible refine zR.atLit ?_); first | refine zR.step rfl ?_ | refine zR.getf rfl (h1) rfl ?_ | refine zR.alen rfl h2 ?_) | rw [zcc1] | rw [zcc2] | rw [zcc3] | rw [zcc4])
  refine zR.cv rfl rfl rfl h1 rfl rfl ?_
  show zR ztb _ kJ0_coder_7d493 _ 0 [some (.ref 5)] [] _ _ _ _
  repeat (first | ((with_reducible refine zR.stored ?_); dsimp only [zsto, zclr, zset, zget, zc2, cond_false, cond_true]) | ((with_reducible refine zR.atLit ?_); first | refine zR.step rfl ?_ | refine zR.getf rfl (h1) rfl ?_) | rw [zcc1] | rw [zcc2] | rw [zcc3] | rw [zcc4] | rw [zb1 (by decide)] | rw [zb2 (by decide)] | rw [zb3 (by decide)] | rw [zb4 (by decide)] | rw [zn1 (by decide)] | rw [zn2 (by decide)] | rw [zn3 (by decide)] | rw [zn4 (by decide)] | rw [ze1 (by decide)] | rw [ze2 (by decide)] | rw [zd1 (by decide)] | rw [zd2 (by decide)] | rw [zswy (by decide)] | rw [zswn (by decide)] | rw [zsw0])
  refine zR.ret rfl rfl ?_
  repeat (first | ((with_reducible refine zR.stored ?_); dsimp only [zsto, zclr, zset, zget, zc2, cond_false, cond_true]) | ((with_reducible refine zR.atLit ?_); first | refine zR.step rfl ?_) | rw [zcc1] | rw [zcc2] | rw [zcc3] | rw [zcc4])
  refine zR.ret rfl rfl ?_
  exact hQ
theorem len_2 {M : zM} {d n w : Nat} (h1 : M 7 = .inr (13, [.ref 8, .int 0])) (h2 : ∃ f, M 8 = .inl (8, 4, .inl f)) : zCall (d + 1) 224 [.ref 7] n w M (some (.int 4)) n w M := by
  intro Q hQ
  obtain ⟨f, h2⟩ := h2
  show zR ztb _ kJ0_length_8abf5 1 0 [some (.ref 7)] [] _ _ _ _
  repeat (first | ((with_reducible refine zR.stored ?_); dsimp only [zsto, zclr, zset, zget, zc2, cond_false, cond_true]) | ((with_reducible refine zR.atLit ?_); first | refine zR.step rfl ?_ | refine zR.getf rfl (h1) rfl ?_ | refine zR.alen rfl h2 ?_) | rw [zcc1] | rw [zcc2] | rw [zcc3] | rw [zcc4])
  refine zR.cv rfl rfl rfl h1 rfl rfl ?_
  show zR ztb _ kJ0_coder_7d493 _ 0 [some (.ref 7)] [] _ _ _ _
  repeat (first | ((with_reducible refine zR.stored ?_); dsimp only [zsto, zclr, zset, zget, zc2, cond_false, cond_true]) | ((with_reducible refine zR.atLit ?_); first | refine zR.step rfl ?_ | refine zR.getf rfl (h1) rfl ?_) | rw [zcc1] | rw [zcc2] | rw [zcc3] | rw [zcc4] | rw [zb1 (by decide)] | rw [zb2 (by decide)] | rw [zb3 (by decide)] | rw [zb4 (by decide)] | rw [zn1 (by decide)] | rw [zn2 (by decide)] | rw [zn3 (by decide)] | rw [zn4 (by decide)] | rw [ze1 (by decide)] | rw [ze2 (by decide)] | rw [zd1 (by decide)] | rw [zd2 (by decide)] | rw [zswy (by decide)] | rw [zswn (by decide)] | rw [zsw0])
  refine zR.ret rfl rfl ?_
  repeat (first | ((with_reducible refine zR.stored ?_); dsimp only [zsto, zclr, zset, zget, zc2, cond_false, cond_true]) | ((with_reducible refine zR.atLit ?_); first | refine zR.step rfl ?_) | rw [zcc1] | rw [zcc2] | rw [zcc3] | rw [zcc4])
  refine zR.ret rfl rfl ?_
  exact hQ
theorem len_3 {M : zM} {d n w : Nat} (h1 : M 9 = .inr (13, [.ref 10, .int 0])) (h2 : ∃ f, M 10 = .inl (8, 3, .inl f)) : zCall (d + 1) 224 [.ref 9] n w M (some (.int 3)) n w M := by
  intro Q hQ
  obtain ⟨f, h2⟩ := h2
  show zR ztb _ kJ0_length_8abf5 1 0 [some (.ref 9)] [] _ _ _ _
  repeat (first | ((with_reducible refine zR.stored ?_); dsimp only [zsto, zclr, zset, zget, zc2, cond_false, cond_true]) | ((with_reducible refine zR.atLit ?_); first | refine zR.step rfl ?_ | refine zR.getf rfl (h1) rfl ?_ | refine zR.alen rfl h2 ?_) | rw [zcc1] | rw [zcc2] | rw [zcc3] | rw [zcc4])
  refine zR.cv rfl rfl rfl h1 rfl rfl ?_
  show zR ztb _ kJ0_coder_7d493 _ 0 [some (.ref 9)] [] _ _ _ _
  repeat (first | ((with_reducible refine zR.stored ?_); dsimp only [zsto, zclr, zset, zget, zc2, cond_false, cond_true]) | ((with_reducible refine zR.atLit ?_); first | refine zR.step rfl ?_ | refine zR.getf rfl (h1) rfl ?_) | rw [zcc1] | rw [zcc2] | rw [zcc3] | rw [zcc4] | rw [zb1 (by decide)] | rw [zb2 (by decide)] | rw [zb3 (by decide)] | rw [zb4 (by decide)] | rw [zn1 (by decide)] | rw [zn2 (by decide)] | rw [zn3 (by decide)] | rw [zn4 (by decide)] | rw [ze1 (by decide)] | rw [ze2 (by decide)] | rw [zd1 (by decide)] | rw [zd2 (by decide)] | rw [zswy (by decide)] | rw [zswn (by decide)] | rw [zsw0])
  refine zR.ret rfl rfl ?_
  repeat (first | ((with_reducible refine zR.stored ?_); dsimp only [zsto, zclr, zset, zget, zc2, cond_false, cond_true]) | ((with_reducible refine zR.atLit ?_); first | refine zR.step rfl ?_) | rw [zcc1] | rw [zcc2] | rw [zcc3] | rw [zcc4])
  refine zR.ret rfl rfl ?_
  exact hQ
theorem len_4 {M : zM} {d n w : Nat} (h1 : M 11 = .inr (13, [.ref 12, .int 0])) (h2 : ∃ f, M 12 = .inl (8, 2, .inl f)) : zCall (d + 1) 224 [.ref 11] n w M (some (.int 2)) n w M := by
  intro Q hQ
  obtain ⟨f, h2⟩ := h2
  show zR ztb _ kJ0_length_8abf5 1 0 [some (.ref 11)] [] _ _ _ _
  repeat (first | ((with_reducible refine zR.stored ?_); dsimp only [zsto, zclr, zset, zget, zc2, cond_false, cond_true]) | ((with_reducible refine zR.atLit ?_); first | refine zR.step rfl ?_ | refine zR.getf rfl (h1) rfl ?_ | refine zR.alen rfl h2 ?_) | rw [zcc1] | rw [zcc2] | rw [zcc3] | rw [zcc4])
  refine zR.cv rfl rfl rfl h1 rfl rfl ?_
  show zR ztb _ kJ0_coder_7d493 _ 0 [some (.ref 11)] [] _ _ _ _
  repeat (first | ((with_reducible refine zR.stored ?_); dsimp only [zsto, zclr, zset, zget, zc2, cond_false, cond_true]) | ((with_reducible refine zR.atLit ?_); first | refine zR.step rfl ?_ | refine zR.getf rfl (h1) rfl ?_) | rw [zcc1] | rw [zcc2] | rw [zcc3] | rw [zcc4] | rw [zb1 (by decide)] | rw [zb2 (by decide)] | rw [zb3 (by decide)] | rw [zb4 (by decide)] | rw [zn1 (by decide)] | rw [zn2 (by decide)] | rw [zn3 (by decide)] | rw [zn4 (by decide)] | rw [ze1 (by decide)] | rw [ze2 (by decide)] | rw [zd1 (by decide)] | rw [zd2 (by decide)] | rw [zswy (by decide)] | rw [zswn (by decide)] | rw [zsw0])
  refine zR.ret rfl rfl ?_
  repeat (first | ((with_reducible refine zR.stored ?_); dsimp only [zsto, zclr, zset, zget, zc2, cond_false, cond_true]) | ((with_reducible refine zR.atLit ?_); first | refine zR.step rfl ?_) | rw [zcc1] | rw [zcc2] | rw [zcc3] | rw [zcc4])
  refine zR.ret rfl rfl ?_
  exact hQ
theorem len_5 {M : zM} {d n w : Nat} (h1 : M 13 = .inr (13, [.ref 14, .int 0])) (h2 : ∃ f, M 14 = .inl (8, 3, .inl f)) : zCall (d + 1) 224 [.ref 13] n w M (some (.int 3)) n w M := by
  intro Q hQ
  obtain ⟨f, h2⟩ := h2
  show zR ztb _ kJ0_length_8abf5 1 0 [some (.ref 13)] [] _ _ _ _
  repeat (first | ((with_reducible refine zR.stored ?_); dsimp only [zsto, zclr, zset, zget, zc2, cond_false, cond_true]) | ((with_reducible refine zR.atLit ?_); first | refine zR.step rfl ?_ | refine zR.getf rfl (h1) rfl ?_ | refine zR.alen rfl h2 ?_) | rw [zcc1] | rw [zcc2] | rw [zcc3] | rw [zcc4])
  refine zR.cv rfl rfl rfl h1 rfl rfl ?_
  show zR ztb _ kJ0_coder_7d493 _ 0 [some (.ref 13)] [] _ _ _ _
  repeat (first | ((with_reducible refine zR.stored ?_); dsimp only [zsto, zclr, zset, zget, zc2, cond_false, cond_true]) | ((with_reducible refine zR.atLit ?_); first | refine zR.step rfl ?_ | refine zR.getf rfl (h1) rfl ?_) | rw [zcc1] | rw [zcc2] | rw [zcc3] | rw [zcc4] | rw [zb1 (by decide)] | rw [zb2 (by decide)] | rw [zb3 (by decide)] | rw [zb4 (by decide)] | rw [zn1 (by decide)] | rw [zn2 (by decide)] | rw [zn3 (by decide)] | rw [zn4 (by decide)] | rw [ze1 (by decide)] | rw [ze2 (by decide)] | rw [zd1 (by decide)] | rw [zd2 (by decide)] | rw [zswy (by decide)] | rw [zswn (by decide)] | rw [zsw0])
  refine zR.ret rfl rfl ?_
  repeat (first | ((with_reducible refine zR.stored ?_); dsimp only [zsto, zclr, zset, zget, zc2, cond_false, cond_true]) | ((with_reducible refine zR.atLit ?_); first | refine zR.step rfl ?_) | rw [zcc1] | rw [zcc2] | rw [zcc3] | rw [zcc4])
  refine zR.ret rfl rfl ?_
  exact hQ
theorem len_6 {M : zM} {d n w : Nat} (h1 : M 15 = .inr (13, [.ref 16, .int 0])) (h2 : ∃ f, M 16 = .inl (8, 5, .inl f)) : zCall (d + 1) 224 [.ref 15] n w M (some (.int 5)) n w M := by
  intro Q hQ
  obtain ⟨f, h2⟩ := h2
  show zR ztb _ kJ0_length_8abf5 1 0 [some (.ref 15)] [] _ _ _ _
  repeat (first | ((with_reducible refine zR.stored ?_); dsimp only [zsto, zclr, zset, zget, zc2, cond_false, cond_true]) | ((with_reducible refine zR.atLit ?_); first | refine zR.step rfl ?_ | refine zR.getf rfl (h1) rfl ?_ | refine zR.alen rfl h2 ?_) | rw [zcc1] | rw [zcc2] | rw [zcc3] | rw [zcc4])
  refine zR.cv rfl rfl rfl h1 rfl rfl ?_
  show zR ztb _ kJ0_coder_7d493 _ 0 [some (.ref 15)] [] _ _ _ _
  repeat (first | ((with_reducible refine zR.stored ?_); dsimp only [zsto, zclr, zset, zget, zc2, cond_false, cond_true]) | ((with_reducible refine zR.atLit ?_); first | refine zR.step rfl ?_ | refine zR.getf rfl (h1) rfl ?_) | rw [zcc1] | rw [zcc2] | rw [zcc3] | rw [zcc4] | rw [zb1 (by decide)] | rw [zb2 (by decide)] | rw [zb3 (by decide)] | rw [zb4 (by decide)] | rw [zn1 (by decide)] | rw [zn2 (by decide)] | rw [zn3 (by decide)] | rw [zn4 (by decide)] | rw [ze1 (by decide)] | rw [ze2 (by decide)] | rw [zd1 (by decide)] | rw [zd2 (by decide)] | rw [zswy (by decide)] | rw [zswn (by decide)] | rw [zsw0])
  refine zR.ret rfl rfl ?_
  repeat (first | ((with_reducible refine zR.stored ?_); dsimp only [zsto, zclr, zset, zget, zc2, cond_false, cond_true]) | ((with_reducible refine zR.atLit ?_); first | refine zR.step rfl ?_) | rw [zcc1] | rw [zcc2] | rw [zcc3] | rw [zcc4])
  refine zR.ret rfl rfl ?_
  exact hQ
theorem len_7 {M : zM} {d n w : Nat} (h1 : M 17 = .inr (13, [.ref 18, .int 0])) (h2 : ∃ f, M 18 = .inl (8, 3, .inl f)) : zCall (d + 1) 224 [.ref 17] n w M (some (.int 3)) n w M := by
  intro Q hQ
  obtain ⟨f, h2⟩ := h2
  show zR ztb _ kJ0_length_8abf5 1 0 [some (.ref 17)] [] _ _ _ _
  repeat (first | ((with_reducible refine zR.stored ?_); dsimp only [zsto, zclr, zset, zget, zc2, cond_false, cond_true]) | ((with_reducible refine zR.atLit ?_); first | refine zR.step rfl ?_ | refine zR.getf rfl (h1) rfl ?_ | refine zR.alen rfl h2 ?_) | rw [zcc1] | rw [zcc2] | rw [zcc3] | rw [zcc4])
  refine zR.cv rfl rfl rfl h1 rfl rfl ?_
  show zR ztb _ kJ0_coder_7d493 _ 0 [some (.ref 17)] [] _ _ _ _
  repeat (first | ((with_reducible refine zR.stored ?_); dsimp only [zsto, zclr, zset, zget, zc2, cond_false, cond_true]) | ((with_reducible refine zR.atLit ?_); first | refine zR.step rfl ?_ | refine zR.getf rfl (h1) rfl ?_) | rw [zcc1] | rw [zcc2] | rw [zcc3] | rw [zcc4] | rw [zb1 (by decide)] | rw [zb2 (by decide)] | rw [zb3 (by decide)] | rw [zb4 (by decide)] | rw [zn1 (by decide)] | rw [zn2 (by decide)] | rw [zn3 (by decide)] | rw [zn4 (by decide)] | rw [ze1 (by decide)] | rw [ze2 (by decide)] | rw [zd1 (by decide)] | rw [zd2 (by decide)] | rw [zswy (by decide)] | rw [zswn (by decide)] | rw [zsw0])
  refine zR.ret rfl rfl ?_
  repeat (first | ((with_reducible refine zR.stored ?_); dsimp only [zsto, zclr, zset, zget, zc2, cond_false, cond_true]) | ((with_reducible refine zR.atLit ?_); first | refine zR.step rfl ?_) | rw [zcc1] | rw [zcc2] | rw [zcc3] | rw [zcc4])
  refine zR.ret rfl rfl ?_
  exact hQ
theorem len_8 {M : zM} {d n w : Nat} (h1 : M 19 = .inr (13, [.ref 20, .int 0])) (h2 : ∃ f, M 20 = .inl (8, 4, .inl f)) : zCall (d + 1) 224 [.ref 19] n w M (some (.int 4)) n w M := by
  intro Q hQ
  obtain ⟨f, h2⟩ := h2
  show zR ztb _ kJ0_length_8abf5 1 0 [some (.ref 19)] [] _ _ _ _
  repeat (first | ((with_reducible refine zR.stored ?_); dsimp only [zsto, zclr, zset, zget, zc2, cond_false, cond_true]) | ((with_reducible refine zR.atLit ?_); first | refine zR.step rfl ?_ | refine zR.getf rfl (h1) rfl ?_ | refine zR.alen rfl h2 ?_) | rw [zcc1] | rw [zcc2] | rw [zcc3] | rw [zcc4])
  refine zR.cv rfl rfl rfl h1 rfl rfl ?_
  show zR ztb _ kJ0_coder_7d493 _ 0 [some (.ref 19)] [] _ _ _ _
  repeat (first | ((with_reducible refine zR.stored ?_); dsimp only [zsto, zclr, zset, zget, zc2, cond_false, cond_true]) | ((with_reducible refine zR.atLit ?_); first | refine zR.step rfl ?_ | refine zR.getf rfl (h1) rfl ?_) | rw [zcc1] | rw [zcc2] | rw [zcc3] | rw [zcc4] | rw [zb1 (by decide)] | rw [zb2 (by decide)] | rw [zb3 (by decide)] | rw [zb4 (by decide)] | rw [zn1 (by decide)] | rw [zn2 (by decide)] | rw [zn3 (by decide)] | rw [zn4 (by decide)] | rw [ze1 (by decide)] | rw [ze2 (by decide)] | rw [zd1 (by decide)] | rw [zd2 (by decide)] | rw [zswy (by decide)] | rw [zswn (by decide)] | rw [zsw0])
  refine zR.ret rfl rfl ?_
  repeat (first | ((with_reducible refine zR.stored ?_); dsimp only [zsto, zclr, zset, zget, zc2, cond_false, cond_true]) | ((with_reducible refine zR.atLit ?_); first | refine zR.step rfl ?_) | rw [zcc1] | rw [zcc2] | rw [zcc3] | rw [zcc4])
  refine zR.ret rfl rfl ?_
  exact hQ
theorem len_9 {M : zM} {d n w : Nat} (h1 : M 21 = .inr (13, [.ref 22, .int 0])) (h2 : ∃ f, M 22 = .inl (8, 4, .inl f)) : zCall (d + 1) 224 [.ref 21] n w M (some (.int 4)) n w M := by
  intro Q hQ
  obtain ⟨f, h2⟩ := h2
  show zR ztb _ kJ0_length_8abf5 1 0 [some (.ref 21)] [] _ _ _ _
  repeat (first | ((with_reducible refine zR.stored ?_); dsimp only [zsto, zclr, zset, zget, zc2, cond_false, cond_true]) | ((with_reducible refine zR.atLit ?_); first | refine zR.step rfl ?_ | refine zR.getf rfl (h1) rfl ?_ | refine zR.alen rfl h2 ?_) | rw [zcc1] | rw [zcc2] | rw [zcc3] | rw [zcc4])
  refine zR.cv rfl rfl rfl h1 rfl rfl ?_
  show zR ztb _ kJ0_coder_7d493 _ 0 [some (.ref 21)] [] _ _ _ _
  repeat (first | ((with_reducible refine zR.stored ?_); dsimp only [zsto, zclr, zset, zget, zc2, cond_false, cond_true]) | ((with_reducible refine zR.atLit ?_); first | refine zR.step rfl ?_ | refine zR.getf rfl (h1) rfl ?_) | rw [zcc1] | rw [zcc2] | rw [zcc3] | rw [zcc4] | rw [zb1 (by decide)] | rw [zb2 (by decide)] | rw [zb3 (by decide)] | rw [zb4 (by decide)] | rw [zn1 (by decide)] | rw [zn2 (by decide)] | rw [zn3 (by decide)] | rw [zn4 (by decide)] | rw [ze1 (by decide)] | rw [ze2 (by decide)] | rw [zd1 (by decide)] | rw [zd2 (by decide)] | rw [zswy (by decide)] | rw [zswn (by decide)] | rw [zsw0])
  refine zR.ret rfl rfl ?_
  repeat (first | ((with_reducible refine zR.stored ?_); dsimp only [zsto, zclr, zset, zget, zc2, cond_false, cond_true]) | ((with_reducible refine zR.atLit ?_); first | refine zR.step rfl ?_) | rw [zcc1] | rw [zcc2] | rw [zcc3] | rw [zcc4])
  refine zR.ret rfl rfl ?_
  exact hQ
