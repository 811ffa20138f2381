
/-! lines: the reference's lines, joined. -/
section
variable {M : zM} {σ : mS} {β : Nat → Int32} {L m c : Nat} {d n w : Nat}
theorem c_linesR (hE : EV σ β L m c) (hR : Rf M σ) : zCalP (d + 28) 168 [.ref 287] n w M (fun v n' w' M' => n = n' ∧ w = w' ∧ (((xL β L).1.1 = true ∧ kdF β L (xL β L).1.2.1 = 0 ∧ (fkP (kdF β L) (vaF β L) (stF β L) (nI c) (m + 1)) = (0, -1) ∧ ∃ l8 l9, R8 l8 (xL β L).2 ∧ CL l9 (xL β L).1.2.2 ∧ YesL M σ (xL β L).2.length (xL β L).1.2.2.length l8 l9 v M') ∨ ((xL β L).1.1 = true ∧ kdF β L (xL β L).1.2.1 = 0 ∧ (fkP (kdF β L) (vaF β L) (stF β L) (nI c) (m + 1)).1 = 2 ∧ NoL M σ 2 (fkP (kdF β L) (vaF β L) (stF β L) (nI c) (m + 1)).2 v M') ∨ (¬ ((xL β L).1.1 = true ∧ kdF β L (xL β L).1.2.1 = 0) ∧ NoL M σ 1 (nI (stF β L (xL β L).1.2.1)) v M'))) := by
  have g := gd_all (V := vaF β L) hE.1 20 ((true, 0, []), []) ⟨Nat.le_refl _, Nat.zero_le _, Nat.le_refl _, Nat.le_refl _⟩
  have hl := len_all (K := kdF β L) (V := vaF β L) 20 ((true, 0, []), [])
  change GD (stF β L) m 0 [] (xL β L).1 at g
  change (xL β L).2.length ≤ 0 + 20 at hl
  show zR ztb _ kX12_lines 1 0 [some (.ref 287), none] [] _ _ _ _
  refine ll_start hE hR (fun k _ => rfl) (fun M1 h => ?_)
  change FS M σ β L c (xL β L) M1 at h
  generalize xL β L = x at *
  obtain ⟨g1, g2, g3, g4⟩ := g
  have h200 := hE.1.2.2.2.2.2 _ g2
  rcases h with ⟨ok, k0, l8, h, h8, -⟩ | ⟨hn, l8, lm, h⟩
  · have em := hE.1.end_ g2 k0
    have k0' := k0
    rw [em] at k0'
    have ef := fk_end (V := vaF β L) (S := stF β L) (cc := nI c) k0'
    obtain ⟨hS, ⟨-, -, at_, tk, va, l9, hV, ha, hC, hR⟩ | ⟨hn, -⟩⟩ := h
    · rw [em, ← ef] at hR
      rcases fk_or (V := vaF β L) (cc := nI c) hE.1 (m + 1) (Nat.le_refl _) with z | ⟨z, -⟩
      · rw [z] at hR
        refine zR.mono (ll_yes (by omega) (by have : 2 * x.1.2.2.length + stF β L 0 ≤ 2 * 0 + stF β L x.1.2.1 := g4; omega) hR hS) (fun v n1 w1 M2 hv => ?_)
        exact ⟨hv.1, hv.2.1, Or.inl ⟨ok, k0, z, l8, l9, h8, hC, hv.2.2⟩⟩
      · rw [z] at hR
        refine zR.mono (ll_no hR hS (by decide)) (fun v n1 w1 M2 hv => ?_)
        exact ⟨hv.1, hv.2.1, Or.inr (Or.inl ⟨ok, k0, z, hv.2.2⟩)⟩
    · exact absurd ⟨ok, fun y => by rw [k0] at y; exact absurd y (by decide)⟩ hn
  · obtain ⟨hS, ⟨a, -⟩ | ⟨-, k, hk, at_, va, bg, l9, hR⟩⟩ := h
    · exact absurd (show false = true from a) (by decide)
    · refine zR.mono (ll_no hR hS (by decide)) (fun v n1 w1 M2 hv => ?_)
      exact ⟨hv.1, hv.2.1, Or.inr (Or.inr ⟨hn, hv.2.2⟩)⟩
end
