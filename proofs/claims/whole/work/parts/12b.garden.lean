/-! A NEW GARDEN. -/
def prow (b s i : Nat) : Nat → Option Nat := fun k => if k < i then some (b + s * k) else none
theorem prow_succ (b s i : Nat) : zuf (prow b s i) i (some (b + s * i)) = prow b s (i + 1) := by
  funext k
  unfold zuf prow
  by_cases h : k = i
  · subst h
    rw [if_pos rfl, if_pos (by omega)]
  · rw [if_neg h]
    by_cases h2 : k < i
    · rw [if_pos h2, if_pos (by omega)]
    · rw [if_neg h2, if_neg (by omega)]
def bed0 : Nat → Int32 := fun k => if k = 1 ∨ k = 6 then -1 else 0
theorem bed_loop {d g la : Nat} {M0 : zM} {Q : Option Value → Nat → Nat → zM → Prop} {G : zC} (hG : G = .inr (2, gob g la 0 0 0 20)) : ∀ (t i : Nat) (M : zM) (w : Nat), i + t = 8 → M g = G → M (g + 2) = .inl (4, 8, .inr (prow (g + 18) 1 i)) → (∀ j, j < i → M (g + 18 + j) = .inr (0, bof none bed0)) → (∀ k, k ≠ g + 2 → k < g + 18 ∨ g + 26 ≤ k → M k = M0 k) →
    (∀ (M' : zM) (w' : Nat), M' g = G → M' (g + 2) = .inl (4, 8, .inr (prow (g + 18) 1 8)) → (∀ j, j < 8 → M' (g + 18 + j) = .inr (0, bof none bed0)) → (∀ k, k ≠ g + 2 → k < g + 18 ∨ g + 26 ≤ k → M' k = M0 k) → w' = w + 9 * t → zR ztb (d + 2) kX2_init 0 153 [some (.ref g), some (.ref la), some (.int (nI 8))] [] (g + 26) w' M' Q) →
    zR ztb (d + 2) kX2_init 0 125 [some (.ref g), some (.ref la), some (.int (nI i))] [] (g + 18 + i) w M Q
  | 0, i, M, w, hit, h1, h2, h3, h4, kk => by
    have hi8 : i = 8 := by omega
    subst hi8
    rw [hG] at h1
    refine zR.step rfl ?_
    refine zR.step rfl ?_
    refine zR.getf rfl h1 rfl ?_
    refine zR.alen rfl h2 ?_
    refine zR.step rfl ?_
    exact kk M w (by rw [h1, hG]) h2 h3 h4 rfl
  | t + 1, i, M, w, hit, h1, h2, h3, h4, kk => by
    have h1' := h1
    rw [hG] at h1
    refine zR.step rfl ?_
    refine zR.step rfl ?_
    refine zR.getf rfl h1 rfl ?_
    refine zR.alen rfl h2 ?_
    refine zR.step rfl ?_
    refine zR.ite (fun _ => ?_) (fun h => ?_)
    · refine zR.step rfl ?_
      refine zR.getf rfl h1 rfl ?_
      repeat (refine zR.step rfl ?_)
      refine zR.ci rfl rfl rfl rfl rfl (zCalP.of (c_Bed_init (zup_self _ _ _)) ?_)
      rw [zup_up]
      refine zR.aast rfl ((zup_ne _ _ (by omega)).trans h2) (zup_self _ _ _) (Or.inr (Or.inl rfl)) rfl rfl (by omega) (by omega) ?_
      iterate 2 (refine zR.step rfl ?_)
      rw [show g + 18 + i = g + 18 + 1 * i by omega, prow_succ, show g + 18 + 1 * i = g + 18 + i by omega]
      have ih := bed_loop (d := d) (M0 := M0) (Q := Q) hG t (i + 1) (zup (zup M (g + 18 + i) (.inr (0, bof none bed0))) (g + 2) (.inl (4, 8, .inr (prow (g + 18) 1 (i + 1))))) (w + 9) (by omega)
        (by rw [zup_ne _ _ (by omega), zup_ne _ _ (by omega)]; exact h1') (zup_self _ _ _)
        (fun j hj => by
          rw [zup_ne _ _ (by omega)]
          by_cases hji : j = i
          · rw [hji, zup_self]
          · rw [zup_ne _ _ (by omega)]
            exact h3 j (by omega))
        (fun k hk1 hk2 => by
          rw [zup_ne _ _ hk1, zup_ne _ _ (by omega)]
          exact h4 k hk1 hk2)
        (fun M' w' a1 a2 a3 a4 a5 => kk M' w' a1 a2 a3 a4 (by omega))
      rw [show nI (i + 1) = nI i + 1 from (zn_add i 1).symm] at ih
      exact ih
    · exact absurd (nI_lt (by omega) (by omega)) h
theorem house_loop {d g la : Nat} {M0 : zM} {Q : Option Value → Nat → Nat → zM → Prop} {G : zC} (hG : G = .inr (2, gob g la 0 0 0 20)) : ∀ (t i : Nat) (M : zM) (w : Nat), i + t = 10 → M g = G → M (g + 3) = .inl (5, 10, .inr (prow (g + 26) 5 i)) → (∀ j, j < i → M (g + 26 + 5 * j) = .inr (3, hof (g + 26 + 5 * j) (fun _ => 0)) ∧ M (g + 27 + 5 * j) = .inl (0, 8, .inl (fun _ => 0)) ∧ M (g + 28 + 5 * j) = .inl (0, 6, .inl (fun _ => 0)) ∧ M (g + 29 + 5 * j) = .inl (0, 6, .inl (fun _ => 0)) ∧ M (g + 30 + 5 * j) = .inl (0, 6, .inl (fun _ => 0))) → (∀ k, k ≠ g + 3 → k < g + 26 ∨ g + 76 ≤ k → M k = M0 k) →
    (∀ (M' : zM) (w' : Nat), M' g = G → M' (g + 3) = .inl (5, 10, .inr (prow (g + 26) 5 10)) → (∀ j, j < 10 → M' (g + 26 + 5 * j) = .inr (3, hof (g + 26 + 5 * j) (fun _ => 0)) ∧ M' (g + 27 + 5 * j) = .inl (0, 8, .inl (fun _ => 0)) ∧ M' (g + 28 + 5 * j) = .inl (0, 6, .inl (fun _ => 0)) ∧ M' (g + 29 + 5 * j) = .inl (0, 6, .inl (fun _ => 0)) ∧ M' (g + 30 + 5 * j) = .inl (0, 6, .inl (fun _ => 0))) → (∀ k, k ≠ g + 3 → k < g + 26 ∨ g + 76 ≤ k → M' k = M0 k) → w' = w + 37 * t → zR ztb (d + 2) kX2_init 0 183 [some (.ref g), some (.ref la), some (.int (nI 10))] [] (g + 76) w' M' Q) →
    zR ztb (d + 2) kX2_init 0 155 [some (.ref g), some (.ref la), some (.int (nI i))] [] (g + 26 + 5 * i) w M Q
  | 0, i, M, w, hit, h1, h2, h3, h4, kk => by
    have hi8 : i = 10 := by omega
    subst hi8
    rw [hG] at h1
    refine zR.step rfl ?_
    refine zR.step rfl ?_
    refine zR.getf rfl h1 rfl ?_
    refine zR.alen rfl h2 ?_
    refine zR.step rfl ?_
    exact kk M w (by rw [h1, hG]) h2 h3 h4 rfl
  | t + 1, i, M, w, hit, h1, h2, h3, h4, kk => by
    have h1' := h1
    rw [hG] at h1
    refine zR.step rfl ?_
    refine zR.step rfl ?_
    refine zR.getf rfl h1 rfl ?_
    refine zR.alen rfl h2 ?_
    refine zR.step rfl ?_
    refine zR.ite (fun _ => ?_) (fun h => ?_)
    · refine zR.step rfl ?_
      refine zR.getf rfl h1 rfl ?_
      repeat (refine zR.step rfl ?_)
      refine zR.ci rfl rfl rfl rfl rfl (zR.mono (c_House_init (zup_self _ _ _) rfl) (fun v n1 w1 M1 hv => ?_))
      obtain ⟨rfl, rfl, rfl, b1, b2, b3, b4, b5, b6⟩ := hv
      have e2 : M1 (g + 3) = .inl (5, 10, .inr (prow (g + 26) 5 i)) := by rw [b6 _ (by omega), zup_ne _ _ (by omega)]; exact h2
      refine zR.aast rfl e2 b1 (Or.inr (Or.inr (Or.inl rfl))) rfl rfl (by omega) (by omega) ?_
      iterate 2 (refine zR.step rfl ?_)
      rw [prow_succ]
      have ih := house_loop (d := d) (M0 := M0) (Q := Q) hG t (i + 1) (zup M1 (g + 3) (.inl (5, 10, .inr (prow (g + 26) 5 (i + 1))))) (w + 11 + 26) (by omega)
        (by rw [zup_ne _ _ (by omega), b6 _ (by omega), zup_ne _ _ (by omega)]; exact h1') (zup_self _ _ _)
        (fun j hj => by
          by_cases hji : j = i
          · subst hji
            refine ⟨by rw [zup_ne _ _ (by omega)]; exact b1, ?_, ?_, ?_, ?_⟩
            · rw [zup_ne _ _ (by omega), show g + 27 + 5 * j = g + 26 + 5 * j + 1 by omega]; exact b2
            · rw [zup_ne _ _ (by omega), show g + 28 + 5 * j = g + 26 + 5 * j + 2 by omega]; exact b3
            · rw [zup_ne _ _ (by omega), show g + 29 + 5 * j = g + 26 + 5 * j + 3 by omega]; exact b4
            · rw [zup_ne _ _ (by omega), show g + 30 + 5 * j = g + 26 + 5 * j + 4 by omega]; exact b5
          · obtain ⟨q1, q2, q3, q4, q5⟩ := h3 j (by omega)
            refine ⟨?_, ?_, ?_, ?_, ?_⟩
            · rw [zup_ne _ _ (by omega), b6 _ (by omega), zup_ne _ _ (by omega)]; exact q1
            · rw [zup_ne _ _ (by omega), b6 _ (by omega), zup_ne _ _ (by omega)]; exact q2
            · rw [zup_ne _ _ (by omega), b6 _ (by omega), zup_ne _ _ (by omega)]; exact q3
            · rw [zup_ne _ _ (by omega), b6 _ (by omega), zup_ne _ _ (by omega)]; exact q4
            · rw [zup_ne _ _ (by omega), b6 _ (by omega), zup_ne _ _ (by omega)]; exact q5)
        (fun k hk1 hk2 => by
          rw [zup_ne _ _ hk1, b6 _ (by omega), zup_ne _ _ (by omega)]
          exact h4 k hk1 hk2)
        (fun M' w' a1 a2 a3 a4 a5 => kk M' w' a1 a2 a3 a4 (by omega))
      rw [show nI (i + 1) = nI i + 1 from (zn_add i 1).symm, show g + 26 + 5 * (i + 1) = g + 26 + 5 * i + 1 + 4 by omega] at ih
      exact ih
    · exact absurd (nI_lt (by omega) (by omega)) h
