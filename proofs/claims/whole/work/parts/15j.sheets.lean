
/-! SHEETS. -/
def fillF (f : Nat → Int32) (x : Int32) (m : Nat) : Nat → Int32 := fun i => if i < m then x else f i
theorem fillF_s (f : Nat → Int32) (x : Int32) (m : Nat) : zuf (fillF f x m) m x = fillF f x (m + 1) := by
  funext k
  by_cases e : k = m
  · subst e
    rw [zuf_self]
    exact (if_pos (by omega)).symm
  · rw [zuf_ne _ _ e]
    unfold fillF
    by_cases h : k < m
    · rw [if_pos h, if_pos (by omega)]
    · rw [if_neg h, if_neg (by omega)]
theorem fillF_0 (f : Nat → Int32) (x : Int32) : fillF f x 0 = f := by
  funext k
  exact if_neg (by omega)
theorem fill_loop {M : zM} {d n w a len : Nat} {f : Nat → Int32} {x : Int32} {Q : Option Value → Nat → Nat → zM → Prop} (hl : len ≤ 100000) (hQ : Q none n w (zup M a (.inl (0, len, .inl (fillF f x len))))) : ∀ (t i : Nat), i + t = len → zR ztb d kJ7_fill_53178 0 5 [some (.ref a), some (.int x), some (.int (nI i)), some (.int (nI len))] [] n w (zup M a (.inl (0, len, .inl (fillF f x i)))) Q
  | 0, i, h => by
    have e2 : i = len := by omega
    subst e2
    have e : ¬ nI i < nI i := zI_nlt (by omega) (by omega)
    repeat (first | rw [zcc1] | rw [zcc2] | rw [zcc3] | rw [zcc4] | rw [zn1 (e)] | rw [zn2 (e)] | rw [zn3 (e)] | rw [zn4 (e)] | refine zR.step rfl ?_)
    exact zR.ret rfl rfl hQ
  | t + 1, i, h => by
    have e : nI i < nI len := zI_ylt (by omega) (by omega)
    have ih := fill_loop (d := d) (w := w) hl hQ t (i + 1) (by omega)
    iterate 2 refine zR.step rfl ?_
    repeat (first | rw [zcc1] | rw [zcc2] | rw [zcc3] | rw [zcc4] | rw [zb1 (e)] | rw [zb2 (e)] | rw [zb3 (e)] | rw [zb4 (e)] | refine zR.step rfl ?_)
    refine zR.iast rfl (zup_self _ _ _) (i := i) rfl (by omega) hl ?_
    rw [zup_up, fillF_s]
    repeat (first | with_reducible refine zR.hold (pc := 5) ?_ | rw [zcc1] | rw [zcc2] | rw [zcc3] | rw [zcc4] | refine zR.step rfl ?_)
    rw [← zI_s] at ih
    exact ⟨trivial, ih⟩
theorem c_fill {M : zM} {d n w a len : Nat} {f : Nat → Int32} (x : Int32) (hM : M a = .inl (0, len, .inl f)) (hl : len ≤ 100000) : zCall d 231 [.ref a, .int x] n w M none n w (zup M a (.inl (0, len, .inl (fillF f x len)))) := by
  intro Q hQ
  show zR ztb _ kJ7_fill_53178 0 0 [some (.ref a), some (.int x), none, none] [] _ _ _ _
  have := fill_loop (d := d) (w := w) (n := n) (f := f) hl hQ len 0 (by omega)
  rw [fillF_0, show zup M a (.inl (0, len, .inl f)) = M by funext k; by_cases e : k = a; (subst e; rw [zup_self, hM]); (rw [zup_ne _ _ e])] at this
  repeat (first | with_reducible refine zR.hold (pc := 5) ?_ | rw [zcc1] | rw [zcc2] | rw [zcc3] | rw [zcc4] | refine zR.step rfl ?_ | refine zR.alen rfl hM ?_)
  exact ⟨trivial, this⟩
theorem Tc.num {M : zM} {t : mS} {tr : Option Nat} (h : Tc M t tr) {i : Nat} (hi : i < 4) (f : Nat → Int32) : Tc (zup M (280 + 2 * i) (.inl (0, 40, .inl f))) (zuf t (30 + i) f) tr := by
  have h0 : zuf t (30 + i) f 0 = t 0 := zuf_ne _ _ (by omega)
  obtain ⟨h1, h2, h3, h4, h5, h6, h7, h8, h9, h10⟩ := h
  refine ⟨?_, ?_, ?_, ?_, fun j hj => ?_, ⟨?_, fun j hj => ?_⟩, ?_, ?_, ?_, fun j hj => ?_⟩
  · rw [zup_ne _ _ (by omega)]; unfold tob; rw [h0]; exact h1
  · rw [zup_ne _ _ (by omega), h0]; exact h2
  · rw [zup_ne _ _ (by omega), zuf_ne _ _ (by omega)]; exact h3
  · rw [zup_ne _ _ (by omega), h0]; exact h4
  · rw [zup_ne _ _ (by omega), zuf_ne _ _ (by omega)]; exact h5 j hj
  · rw [zup_ne _ _ (by omega)]; unfold rob; rw [h0]; exact h6.1
  · rw [zup_ne _ _ (by omega), zuf_ne _ _ (by omega)]; exact h6.2 j hj
  · rw [zup_ne _ _ (by omega), h0]; exact h7
  · rw [zup_ne _ _ (by omega), zuf_ne _ _ (by omega)]; exact h8
  · rw [zup_ne _ _ (by omega)]; exact h9
  · obtain ⟨a1, a2⟩ := h10 j hj
    rw [zup_ne _ _ (by omega), zuf_ne _ _ (show 20 + j ≠ 30 + i by omega)]
    refine ⟨a1, ?_⟩
    by_cases e : j = i
    · subst e
      rw [zup_self, zuf_self]
    · rw [zup_ne _ _ (by omega), zuf_ne _ _ (by omega)]
      exact a2
theorem Tc.hd {M : zM} {t : mS} {tr : Option Nat} (h : Tc M t tr) {i : Nat} (hi : i < 4) (x : Nat → Int32) : Tc (zup M (279 + 2 * i) (.inr (8, [.int (x 0), .int (x 1), .ref (280 + 2 * i)]))) (zuf t (20 + i) x) tr := by
  have h0 : zuf t (20 + i) x 0 = t 0 := zuf_ne _ _ (by omega)
  obtain ⟨h1, h2, h3, h4, h5, h6, h7, h8, h9, h10⟩ := h
  refine ⟨?_, ?_, ?_, ?_, fun j hj => ?_, ⟨?_, fun j hj => ?_⟩, ?_, ?_, ?_, fun j hj => ?_⟩
  · rw [zup_ne _ _ (by omega)]; unfold tob; rw [h0]; exact h1
  · rw [zup_ne _ _ (by omega), h0]; exact h2
  · rw [zup_ne _ _ (by omega), zuf_ne _ _ (by omega)]; exact h3
  · rw [zup_ne _ _ (by omega), h0]; exact h4
  · rw [zup_ne _ _ (by omega), zuf_ne _ _ (by omega)]; exact h5 j hj
  · rw [zup_ne _ _ (by omega)]; unfold rob; rw [h0]; exact h6.1
  · rw [zup_ne _ _ (by omega), zuf_ne _ _ (by omega)]; exact h6.2 j hj
  · rw [zup_ne _ _ (by omega), h0]; exact h7
  · rw [zup_ne _ _ (by omega), zuf_ne _ _ (by omega)]; exact h8
  · rw [zup_ne _ _ (by omega)]; exact h9
  · obtain ⟨a1, a2⟩ := h10 j hj
    by_cases e : j = i
    · subst e
      rw [zup_self, zuf_self, zup_ne _ _ (by omega), zuf_ne _ _ (by omega)]
      exact ⟨rfl, a2⟩
    · rw [zup_ne _ _ (by omega), zuf_ne _ _ (by omega), zup_ne _ _ (by omega), zuf_ne _ _ (by omega)]
      exact ⟨a1, a2⟩
theorem TR.sh {t σ : mS} (h : TR t σ) {i : Nat} (hi : i < 4) {x f y4 y5 y6 : Nat → Int32} (h4 : ∀ j, j ≠ i → y4 j = σ 4 j) (h5 : ∀ j, j ≠ i → y5 j = σ 5 j) (h6 : ∀ j, ¬ (40 * i ≤ j ∧ j < 40 * i + 40) → y6 j = σ 6 j) (hn : x 0 = y4 i ∧ x 1 = y5 i ∧ (y4 i = -1 ∨ inN (y4 i) 0 2) ∧ inN (y5 i) 0 40 ∧ ∀ j, j < 40 → f j = cvt (y6 (40 * i + j)) ∧ ((y6 (40 * i + j) = 100000 ∧ y4 i = 2) ∨ (-1000 ≤ (y6 (40 * i + j)).toInt ∧ (y6 (40 * i + j)).toInt ≤ 1000))) : TR (zuf (zuf t (20 + i) x) (30 + i) f) (zuf (zuf (zuf σ 4 y4) 5 y5) 6 y6) := by
  obtain ⟨g1, g2, g3, g4, g5, g6, g7, g8, g9, g10, g11, g12⟩ := h
  have t0 : zuf (zuf t (20 + i) x) (30 + i) f 0 = t 0 := by rw [zuf_ne _ _ (by omega), zuf_ne _ _ (by omega)]
  have t1 : zuf (zuf t (20 + i) x) (30 + i) f 1 = t 1 := by rw [zuf_ne _ _ (by omega), zuf_ne _ _ (by omega)]
  have t2 : zuf (zuf t (20 + i) x) (30 + i) f 12 = t 12 := by rw [zuf_ne _ _ (by omega), zuf_ne _ _ (by omega)]
  unfold TR
  rw [t0, t1, t2]
  refine ⟨g1, g2, g3, g4, g5, g6, g7, g8, g9, g10, g11, fun j hj => ?_⟩
  have s4 : zuf (zuf (zuf σ 4 y4) 5 y5) 6 y6 4 = y4 := rfl
  have s5 : zuf (zuf (zuf σ 4 y4) 5 y5) 6 y6 5 = y5 := rfl
  have s6 : zuf (zuf (zuf σ 4 y4) 5 y5) 6 y6 6 = y6 := rfl
  rw [s4, s5, s6]
  by_cases e : j = i
  · subst e
    rw [zuf_ne _ _ (show 20 + j ≠ 30 + j by omega), zuf_self, zuf_self]
    exact hn
  · rw [zuf_ne _ _ (show 20 + j ≠ 30 + i by omega), zuf_ne _ _ (show 20 + j ≠ 20 + i by omega), zuf_ne _ _ (show 30 + j ≠ 30 + i by omega), zuf_ne _ _ (show 30 + j ≠ 20 + i by omega), h4 j e, h5 j e]
    obtain ⟨z1, z2, z3, z4, z5⟩ := g12 j hj
    refine ⟨z1, z2, z3, z4, fun k hk => ?_⟩
    rw [h6 _ (by omega)]
    exact z5 k hk
/-- a change of a sheet -/
theorem inv_top {L : Nat} {xs : Nat → Int32} {M M1 M2 : zM} {σ σ' : mS} {n w : Nat} {x : Int32} {t' : mS} {tr : Option Nat} {c0 c1 c2 : mS} {k0 k1 k2 b0 b1 b2 : Nat → Option Nat} {l0 l1 l2 : Nat} (hT : Tc M1 t' tr) (hG0 : Gc M 48 c0 k0 b0 l0) (hG1 : Gc M 124 c1 k1 b1 l1) (hG2 : Gc M 200 c2 k2 b2 l2) (hg : GR M n c0 k0 b0 l0 (σ 0)) (hk : σ 12 3 = 1 → GR M n c1 k1 b1 l1 (σ 1)) (h0 : σ' 0 = σ 0) (h1 : σ' 1 = σ 1) (h12 : σ' 12 3 = σ 12 3) (ht : TR t' σ') (hx : ∀ k, k < 25 → M k = zX L xs k) (hn : 300 ≤ n) (hF : ∀ k, k < 25 ∨ (40 ≤ k ∧ k < 276) ∨ 300 ≤ k → M1 k = M k) (hR : Rf M2 (sst σ' x)) (hS : Sm (zup M1 25 (.inr (11, tob (tst t' x)))) M2) : Inv L xs M2 (sst σ' x) n w :=
  inv_fin (M1 := M1) ⟨hT, hG0.same (fun k a b => hF k (by omega)), hG1.same (fun k a b => hF k (by omega)), hG2.same (fun k a b => hF k (by omega))⟩ (by rw [h0]; exact hg.mv (fun k a b => hF k (by omega)) (Nat.le_refl _)) (fun h => by rw [h1]; exact (hk (by rw [← h12]; exact h)).mv (fun k a b => hF k (by omega)) (Nat.le_refl _)) ht (fun k hk => by rw [hF k (by omega)]; exact hx k hk) hn hR hS
