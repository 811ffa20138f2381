
/-! lines: the reference's lines, all of it. -/
section
variable {M : zM} {σ : mS} {β : Nat → Int32} {L m c : Nat} {d n w : Nat}
abbrev xL (β : Nat → Int32) (L : Nat) : gRes × List gLn := pAll (kdF β L) (vaF β L) 20 ((true, 0, []), [])
theorem len_all {K V : Nat → Int32} : ∀ (f : Nat) (x : gRes × List gLn), (pAll K V f x).2.length ≤ x.2.length + f
  | 0, x => Nat.le_refl _
  | f + 1, x => by
    rw [pAll]
    by_cases q : x.1.1 = true ∧ ¬ K x.1.2.1 = 0
    · rw [if_pos q]
      have := len_all (K := K) (V := V) f (pLn K V x.1.2.1 x.1.2.2, x.2 ++ [(K x.1.2.1, V (x.1.2.1 + 1), (pLn K V x.1.2.1 x.1.2.2).2.2.length)])
      have e : (x.2 ++ [(K x.1.2.1, V (x.1.2.1 + 1), (pLn K V x.1.2.1 x.1.2.2).2.2.length)]).length = x.2.length + 1 := by rw [List.length_append]; rfl
      rw [e] at this
      omega
    · rw [if_neg q]
      omega
theorem gd_all {K V : Nat → Int32} {S : Nat → Nat} (hT : TE K S m) : ∀ (f : Nat) (x : gRes × List gLn), GD S m 0 [] x.1 → GD S m 0 [] (pAll K V f x).1
  | 0, x, h => h
  | f + 1, x, h => by
    rw [pAll]
    by_cases q : x.1.1 = true ∧ ¬ K x.1.2.1 = 0
    · rw [if_pos q]
      exact gd_all hT f _ (h.tr (GD.ln (V := V) (l := x.1.2.2) hT h.2.1))
    · rw [if_neg q]
      exact h
end
