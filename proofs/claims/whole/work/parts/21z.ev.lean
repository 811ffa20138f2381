
/-! lines: what the tokens keep to. -/
theorem key_short {β : Nat → Int32} {p e : Nat} (h : e < p + 2) : keyK β p e = 1 := by
  unfold keyK
  rw [if_neg (by rw [wdB_n (show ¬ e = p + 4 by omega)]; decide), if_neg (by rw [wdB_n (show ¬ e = p + 3 by omega)]; decide), if_neg (by rw [wdB_n (show ¬ e = p + 4 by omega)]; decide), if_neg (by rw [wdB_n (show ¬ e = p + 3 by omega)]; decide), if_neg (by rw [wdB_n (show ¬ e = p + 2 by omega)]; decide), if_neg (by rw [wdB_n (show ¬ e = p + 3 by omega)]; decide), if_neg (by rw [wdB_n (show ¬ e = p + 5 by omega)]; decide), if_neg (by rw [wdB_n (show ¬ e = p + 3 by omega)]; decide), if_neg (by rw [wdB_n (show ¬ e = p + 4 by omega)]; decide), if_neg (by rw [wdB_n (show ¬ e = p + 4 by omega)]; decide)]
section
variable {M : zM} {β : Nat → Int32} {L m p : Nat}
theorem tk_key (hp : p ≤ L) {k : Nat} (hk : (tkF β L p).1 = nI k) (h1 : 10 ≤ k) (h2 : k ≤ 19) : p + 2 ≤ (tkF β L p).2.2 := by
  have nk : ∀ x : Nat, x < 10 → ¬ (tkF β L p).1 = nI x := fun x hx z => by
    rw [hk] at z
    have := zn_inj (by omega) (by omega) z
    omega
  unfold tkF at *
  by_cases q1 : isLt (β p) = true
  · rw [if_pos q1] at *
    by_cases q2 : crP β L p
    · rw [if_pos q2] at *
      exact absurd rfl (nk 3 (by omega))
    · rw [if_neg q2] at *
      show p + 2 ≤ leF β L p
      by_cases z : p + 2 ≤ leF β L p
      · exact z
      · exact absurd (key_short (by omega)) (nk 1 (by omega))
  · rw [if_neg q1] at *
    by_cases q2 : isDg (β p) = true
    · rw [if_pos q2] at *
      by_cases q3 : 3 < dgF β L p - p
      · exact absurd (show (if 3 < dgF β L p - p then (1 : Int32) else 2) = nI 1 by rw [if_pos q3]; rfl) (nk 1 (by omega))
      · exact absurd (show (if 3 < dgF β L p - p then (1 : Int32) else 2) = nI 2 by rw [if_neg q3]; rfl) (nk 2 (by omega))
    · rw [if_neg q2] at *
      exfalso
      have hs : (sgK (β p) = 0 ∨ sgK (β p) = 6 ∨ sgK (β p) = 7 ∨ sgK (β p) = 8 ∨ sgK (β p) = 4 ∨ sgK (β p) = 5 ∨ sgK (β p) = 1) := by
        unfold sgK
        repeat' split
        all_goals first | exact Or.inl rfl | exact Or.inr (Or.inl rfl) | exact Or.inr (Or.inr (Or.inl rfl)) | exact Or.inr (Or.inr (Or.inr (Or.inl rfl))) | exact Or.inr (Or.inr (Or.inr (Or.inr (Or.inl rfl)))) | exact Or.inr (Or.inr (Or.inr (Or.inr (Or.inr (Or.inl rfl))))) | exact Or.inr (Or.inr (Or.inr (Or.inr (Or.inr (Or.inr rfl)))))
      rcases hs with z | z | z | z | z | z | z
      · exact nk 0 (by omega) z
      · exact nk 6 (by omega) z
      · exact nk 7 (by omega) z
      · exact nk 8 (by omega) z
      · exact nk 4 (by omega) z
      · exact nk 5 (by omega) z
      · exact nk 1 (by omega) z
theorem TE.of (hB : BT β L) (hT : TKS M β L m) : TE (kdF β L) (stF β L) m ∧ (∀ q, q ≤ m → psF β L q ≤ L) := by
  obtain ⟨f2, f3, f4, -, -, h1, h2, h3⟩ := hT
  have hp : ∀ q, q ≤ m → psF β L q ≤ L := fun q hq => (ps_le hB q (fun t ht => h2 t (by omega))).2
  have hs : ∀ q, q ≤ m → stF β L q ≤ L := fun q hq => (sk_le (β := β) (hp q hq)).2
  have ad : ∀ q, q < m → psF β L (q + 1) ≤ stF β L (q + 1) := fun q hq => (sk_le (β := β) (hp (q + 1) (by omega))).1
  refine ⟨⟨h1, h2, h3, fun q hq => ?_, fun q hq hk => ?_, fun q hq => ?_⟩, hp⟩
  · have := tk_adv hB (hs q (by omega)) (h2 q hq).1 (h2 q hq).2
    have a := ad q hq
    have e : psF β L (q + 1) = (tkF β L (stF β L q)).2.2 := rfl
    omega
  · obtain ⟨k, k1, k2, k3⟩ := hk
    have := tk_key (hs q (by omega)) k3 k1 k2
    have a := ad q hq
    have e : psF β L (q + 1) = (tkF β L (stF β L q)).2.2 := rfl
    omega
  · have := hs q hq
    have := hB.2.2
    omega
end
