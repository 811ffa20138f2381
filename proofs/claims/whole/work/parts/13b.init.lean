
/-! THE LAW'S BEGINNING: what holds between two calls holds at first. -/
theorem Rc.same {M M' : zM} {t : mS} {tr : Option Nat} (h : Rc M t tr) (hs : ∀ k, 32 ≤ k → k < 40 → M' k = M k) : Rc M' t tr := ⟨by rw [hs _ (by omega) (by omega)]; exact h.1, fun j hj => by rw [hs _ (by omega) (by omega)]; exact h.2 j hj⟩
theorem Tc.same {M M' : zM} {t : mS} {tr : Option Nat} (h : Tc M t tr) (hs : ∀ k, (25 ≤ k ∧ k < 40) ∨ (276 ≤ k ∧ k < 287) → M' k = M k) : Tc M' t tr := by
  obtain ⟨h0, h1, h2, h3, h4, h5, h6, h7, h8, h9⟩ := h
  refine ⟨by rw [hs _ (by omega)]; exact h0, by rw [hs _ (by omega)]; exact h1, by rw [hs _ (by omega)]; exact h2, by rw [hs _ (by omega)]; exact h3, fun j hj => by rw [hs _ (by omega)]; exact h4 j hj, h5.same (fun k a b => hs k (by omega)), by rw [hs _ (by omega)]; exact h6, by rw [hs _ (by omega)]; exact h7, by rw [hs _ (by omega)]; exact h8, fun i hi => ?_⟩
  obtain ⟨a1, a2⟩ := h9 i hi
  exact ⟨by rw [hs _ (by omega)]; exact a1, by rw [hs _ (by omega)]; exact a2⟩
theorem inN_0 {b : Nat} : inN 0 0 b := ⟨0, rfl, Nat.le_refl _, Nat.zero_le _⟩
theorem s0_z {i : Nat} (h : i ≠ 1) (h2 : ¬ (150 ≤ i ∧ i < 230 ∧ (i % 10 = 0 ∨ i % 10 = 1 ∨ i % 10 = 6))) : s0 i = 0 := by
  unfold s0
  rw [if_neg h, if_neg h2]
theorem s0_n {i : Nat} (h2 : 150 ≤ i ∧ i < 230 ∧ (i % 10 = 0 ∨ i % 10 = 1 ∨ i % 10 = 6)) : s0 i = -1 := by
  unfold s0
  rw [if_neg (by omega), if_pos h2]
theorem PZ.cg {c c' : mS} (h : PZ c) (hc : ∀ j, 20 ≤ j → j < 40 → c' j = c j) : PZ c' := ⟨fun b hb => by rw [hc _ (by omega) (by omega)]; exact h.1 b hb, fun q hq => by rw [hc _ (by omega) (by omega)]; exact h.2 q hq⟩
theorem gr_init {M : zM} {r : mS} (hL : Lc M 40 0 0 r) : GR M 300 gc0 (fun _ => none) (fun _ => none) 40 s0 := by
  refine ⟨0, 0, 0, 0, 0, ⟨rfl, by omega, rfl, by omega, rfl, by omega, rfl, by omega, rfl, by omega, rfl, rfl, rfl, rfl, rfl, fun h _ _ k _ _ => s0_z (by omega) (by omega), fun b hb => Or.inl (by rw [gc0_b hb]; rfl), fun h hh => Or.inl (by rw [gc0_z (by omega) (by omega)])⟩, ⟨fun i hi => by omega, fun _ _ _ => rfl⟩, fun b hb => ?_, fun l hl => by omega, fun i hi => ?_, fun h hh => by omega, fun j hj => ?_, 0, r, fun _ => 0, hL, by omega, Or.inl rfl, by omega, by omega, rfl, fun _ _ => Nat.le_refl _, fun l hl => by omega, fun k hk => by omega⟩
  · refine ⟨Or.inl ⟨s0_n (by omega), rfl, s0_n (by omega), s0_z (by omega) (by omega), s0_z (by omega) (by omega), s0_z (by omega) (by omega)⟩, fun k h1 h2 => ?_, Or.inl (s0_z (by omega) (by omega)), Or.inl (s0_n (by omega)), ?_⟩
    · rw [gc0_b hb]
      unfold bed0
      by_cases h : k = 1 ∨ k = 6
      · rw [if_pos h, s0_n (by omega)]
      · rw [if_neg h, s0_z (by omega) (by omega)]
    · rw [s0_z (by omega) (by omega)]; decide
  · rw [gc0_z (by omega) (by omega), gc0_z (by omega) (by omega), gc0_z (by omega) (by omega), gc0_z (by omega) (by omega), gc0_z (by omega) (by omega), s0_z (by omega) (by omega), s0_z (by omega) (by omega), s0_z (by omega) (by omega), s0_z (by omega) (by omega)]
    exact ⟨rfl, rfl, rfl, rfl, rfl⟩
  · rw [gc0_z (by omega) (by omega), s0_z (by omega) (by omega)]
    exact ⟨rfl, Or.inr inN_0⟩
theorem tr_init : TR t0 σ0 := by
  refine ⟨rfl, Or.inl rfl, rfl, inN_0, rfl, rfl, ⟨0, rfl, by omega, fun i hi => by omega⟩, rfl, rfl, rfl, ⟨0, rfl, by omega, fun i hi => by omega⟩, fun i hi => ?_⟩
  have e5 : σ0 5 i = 0 := rfl
  have e4 : σ0 4 i = -1 := by
    show (if i < 4 then (-1 : Int32) else 0) = -1
    rw [if_pos hi]
  have e6 : ∀ j, σ0 6 j = 0 := fun j => rfl
  have a1 : t0 (20 + i) 0 = -1 := by
    unfold t0
    rw [if_neg (by omega), if_pos (by omega)]
  have a2 : t0 (20 + i) 1 = 0 := by
    unfold t0
    rw [if_neg (by omega), if_neg (by omega)]
  refine ⟨by rw [a1, e4], by rw [a2, e5], Or.inl e4, by rw [e5]; exact inN_0, fun j hj => ?_⟩
  have a3 : t0 (30 + i) j = 0 := by
    unfold t0
    rw [if_neg (by omega), if_neg (by omega)]
  rw [a3, e6]
  exact ⟨rfl, Or.inr ⟨by decide, by decide⟩⟩
theorem law_run {L : Nat} {xs : Nat → Int32} (hL : L ≤ 2560) (ho : opsOK (Inv L xs)) : zR ztb 1000 kL_law 2 0 [some (.ref 0), none, none, none] [] 25 0 (zX L xs) (fun v n w M => v = some (.int 1) ∧ n ≤ 700000 ∧ w ≤ 6700000) := by
  iterate 2 (refine zR.step rfl ?_)
  refine zR.ci rfl rfl rfl rfl rfl (zR.mono (c_GB_init (d := 995) (zup_self _ _ _)) (fun v n1 w1 M1 hv => ?_))
  obtain ⟨rfl, rfl, hw1, hT, hG0, hG1, hG2, ⟨r, hLc⟩, fA⟩ := hv
  iterate 3 (refine zR.step rfl ?_)
  refine zR.ci rfl rfl rfl rfl rfl (zR.mono (c_MD_init (d := 998) (zup_self _ _ _)) (fun v n2 w2 M2 hv => ?_))
  obtain ⟨rfl, rfl, hw2, hR, hS⟩ := hv
  iterate 3 (refine zR.step rfl ?_)
  have fr : ∀ k, k < 287 → M2 k = M1 k := fun k hk => by rw [hS k (by omega), zup_ne _ _ (by omega)]
  have hI : Inv L xs M2 σ0 300 w2 := ⟨t0, none, gc0, gc0, gc0, _, _, _, _, _, _, 40, 40, 40, hR, ⟨hT.same (fun k hk => fr k (by omega)), hG0.same (fun k a b => fr k (by omega)), hG1.same (fun k a b => fr k (by omega)), hG2.same (fun k a b => fr k (by omega))⟩, gr_init (hLc.same (fun k a b => fr k (by omega))), fun h => absurd h (by decide), tr_init, fun k hk => by rw [fr k (by omega), fA k (by omega), zup_ne _ _ (by omega)], by omega⟩
  refine zR.mono (law_loop (xs := xs) (Inv L xs) hL (fun M σ n w h => ?_) ho 512 0 M2 σ0 300 w2 (by omega) (by omega) hI) (fun v n' w' M' q => ⟨q.1, by omega, by omega⟩)
  obtain ⟨t, tr, c0, c1, c2, k0, k1, k2, b0, b1, b2, l0, l1, l2, -, ⟨h1, -⟩, -, -, -, h5, -⟩ := h
  exact ⟨by rw [h5 0 (by omega)]; rfl, _, h1.1⟩
