
/-! lines: the crop of a token is a digit. -/
section
variable {M : zM} {β : Nat → Int32} {L m p : Nat}
theorem key_n3 {e : Nat} : ¬ keyK β p e = 3 := by
  unfold keyK
  repeat' split
  all_goals decide
theorem sgK_n3 {x : Int32} : ¬ sgK x = 3 := by
  unfold sgK
  repeat' split
  all_goals decide
theorem va_dg {q : Nat} (h : kdF β L q = 3) : ∃ x, x < 10 ∧ vaF β L q = nI x := by
  unfold kdF at h
  unfold vaF
  generalize stF β L q = p at *
  unfold tkF at *
  by_cases q1 : isLt (β p) = true
  · rw [if_pos q1] at *
    by_cases q2 : crP β L p
    · rw [if_pos q2] at *
      have hd := isDg_y q2.2.2
      rcases inI_nat (β (leF β L p)) 48 57 (by omega) (by omega) with ⟨i, a, b, e, -⟩ | ⟨-, z⟩
      · refine ⟨i - 48, by omega, ?_⟩
        show β (leF β L p) - 48 = nI (i - 48)
        have e2 : nI i = nI (i - 48) + nI 48 := by
          rw [zn_add, show i - 48 + 48 = i by omega]
        rw [e, e2]
        exact Int32.add_sub_cancel _ _
      · have z' : inI (β (leF β L p)) 48 57 = 0 := z
        rw [hd] at z'
        exact absurd z' (by decide)
    · rw [if_neg q2] at *
      exact absurd h key_n3
  · rw [if_neg q1] at *
    by_cases q2 : isDg (β p) = true
    · rw [if_pos q2] at *
      exfalso
      have h' : (if 3 < dgF β L p - p then (1 : Int32) else 2) = 3 := h
      by_cases q3 : 3 < dgF β L p - p
      · rw [if_pos q3] at h'
        exact absurd h' (by decide)
      · rw [if_neg q3] at h'
        exact absurd h' (by decide)
    · rw [if_neg q2] at *
      exact absurd h sgK_n3
theorem EV.of {σ : mS} {c : Nat} (hR : RT σ β L) (hT : TKS M β L m) (hc : σ 0 2 = nI c) (h8 : c ≤ 8) : EV σ β L m c := by
  obtain ⟨a, b⟩ := TE.of hR.2.2 hT
  exact ⟨a, fun q h => va_dg h, hc, h8, hR, b⟩
end
