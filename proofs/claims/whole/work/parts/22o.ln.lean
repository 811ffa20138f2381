
/-! lines: small facts for the pair. -/
theorem an255 (x : Int32) : inN (x &&& 255) 0 255 := by
  have h : (x &&& 255).toBitVec.toNat ≤ 255 := by
    rw [Int32.toBitVec_and, BitVec.toNat_and]
    exact Nat.le_trans Nat.and_le_right (by decide)
  have e : (x &&& 255).toInt = ((x &&& 255).toBitVec.toNat : Int) := by
    show (x &&& 255).toBitVec.toInt = _
    exact BitVec.toInt_eq_toNat_of_lt (by omega)
  exact ⟨(x &&& 255).toInt.toNat, zI_of (by omega), Nat.zero_le _, by omega⟩
/-- what stays of the class's numbers when lines are read -/
def TF (t t' : mS) (fk fp : Int32) : Prop := t' 0 0 = t 0 0 ∧ t' 0 1 = t 0 1 ∧ t' 0 2 = t 0 2 ∧ t' 0 3 = 0 ∧ t' 0 8 = fk ∧ t' 0 9 = fp ∧ t' 0 12 = t 0 12 ∧ t' 12 = t 12 ∧ ∀ i, i < 4 → t' (20 + i) = t (20 + i) ∧ t' (30 + i) = t (30 + i)
theorem tL_f {t : mS} {sz a5 a6 a7 a8 a9 a10 a11 : Int32} {f2 f3 f4 : Nat → Int32} {g : Nat → Nat → Int32} : TF t (tL t sz a5 a6 a7 a8 a9 a10 a11 f2 f3 f4 g) a8 a9 := by
  refine ⟨rfl, rfl, rfl, rfl, rfl, rfl, rfl, rfl, fun i hi => ⟨?_, ?_⟩⟩
  · unfold tL
    rw [if_neg (by omega), if_neg (by omega), if_neg (by omega), if_neg (by omega), if_neg (by omega)]
  · unfold tL
    rw [if_neg (by omega), if_neg (by omega), if_neg (by omega), if_neg (by omega), if_neg (by omega)]
theorem TR.ln {t t' σ ρ : mS} {fk fp : Int32} (h : TR t σ) (hF : TF t t' fk fp) (h3 : ρ 12 3 = σ 12 3) (h4 : ρ 12 4 = σ 12 4) (h12 : ρ 12 12 = σ 12 12) (h6 : ρ 12 6 = 0) (h7 : ρ 12 7 = fk) (h8 : ρ 12 8 = fp) (h14 : ρ 12 14 = σ 12 14) (q4 : ρ 4 = σ 4) (q5 : ρ 5 = σ 5) (q6 : ρ 6 = σ 6) (q7 : ρ 7 = σ 7) : TR t' ρ := by
  obtain ⟨r1, r2, r3, r4, r5, r6, -, r8, r9, r10, r11, r12⟩ := h
  obtain ⟨f0, f1, f2, f3, f8, f9, f12, g12, fi⟩ := hF
  refine ⟨by rw [f0, h3]; exact r1, by rw [h3]; exact r2, by rw [f1, h4]; exact r3, by rw [h4]; exact r4, by rw [f2, h12]; exact r5, by rw [f3, h6], ⟨0, h6, Nat.zero_le _, fun i hi => absurd hi (Nat.not_lt_zero _)⟩, by rw [f8, h7], by rw [f9, h8], by rw [f12, h14]; exact r10, by rw [g12, h14, q7]; exact r11, fun i hi => ?_⟩
  rw [(fi i hi).1, (fi i hi).2, q4, q5, q6]
  exact r12 i hi
theorem Gc.upLa {M : zM} {g : Nat} {c : mS} {kp bt : Nat → Option Nat} {la : Nat} (h : Gc M g c kp bt la) (la' : Nat) : Gc (zup M g (.inr (2, gob g la' (c 0 0) (c 0 1) (c 0 2) (c 0 3)))) g c kp bt la' := by
  obtain ⟨h0, h1, h2, h3, h4, h5, h6, h7, h8, h9, h10⟩ := h
  refine ⟨zup_self _ _ _, by rw [zup_ne _ _ (by omega)]; exact h1, by rw [zup_ne _ _ (by omega)]; exact h2, by rw [zup_ne _ _ (by omega)]; exact h3, by rw [zup_ne _ _ (by omega)]; exact h4, fun j hj => ?_, by rw [zup_ne _ _ (by omega)]; exact h6, fun j hj => ?_, by rw [zup_ne _ _ (by omega)]; exact h8, fun i hi => ?_, fun i hi => ?_⟩
  · rw [zup_ne _ _ (by omega)]; exact h5 j hj
  · rw [zup_ne _ _ (by omega)]; exact h7 j hj
  · rw [zup_ne _ _ (by omega)]; exact h9 i hi
  · rw [zup_ne _ _ (by omega), zup_ne _ _ (by omega), zup_ne _ _ (by omega), zup_ne _ _ (by omega), zup_ne _ _ (by omega)]
    exact h10 i hi
theorem GR.ln {M M' : zM} {n n' N : Nat} {c : mS} {kp bt : Nat → Option Nat} {la la' : Nat} {s y : Nat → Int32} (h : GR M n c kp bt la s) (hF : ∀ k, (40 ≤ k ∧ k < 48) ∨ 300 ≤ k → k < n → M' k = M k) (hn : n ≤ n') (h5 : y 5 = nI N) (hN : N ≤ 20) (hy : ∀ k, k ≠ 5 → k < 2100 → y k = s k) (hX : ∀ nc, s 2 = nI nc → nc ≤ 8 → PX M' n' la' y nc N) : GR M' n' c kp bt la' y := by
  obtain ⟨nc, nh, nl, lm, wk, ⟨N1, N2, N3, N4, N5, N6, N7, N8, N9, N10, N11, N12, N13, N14, N15, N16, N17⟩, k2, k3, k4, k5, k6, k7, -⟩ := h.mv hF hn
  refine ⟨nc, nh, nl, N, wk, ⟨?_, N2, ?_, N4, ?_, N6, h5, hN, ?_, N10, ?_, ?_, ?_, ?_, ?_, fun q a b k a2 b2 => ?_, N17⟩, k2.cg N2 (fun i hi => hy i (by omega) (by omega)), k3.cg N2 (fun i hi => hy i (by omega) (by omega)) (fun b hb => rfl), k4.cg N6 (fun i hi => hy i (by omega) (by omega)) (fun b hb => rfl), k5.cg N6 (fun i hi => hy i (by omega) (by omega)) (fun b hb => rfl), k6.cg N4 (fun i hi => hy i (by omega) (by omega)) (fun b hb => rfl), k7.cg (fun i hi => hy i (by omega) (by omega)) rfl, hX nc N1 N2⟩
  · rw [hy 2 (by omega) (by omega)]; exact N1
  · rw [hy 4 (by omega) (by omega)]; exact N3
  · rw [hy 3 (by omega) (by omega)]; exact N5
  · rw [hy 0 (by omega) (by omega)]; exact N9
  · rw [hy 2 (by omega) (by omega)]; exact N11
  · rw [hy 4 (by omega) (by omega)]; exact N12
  · rw [hy 0 (by omega) (by omega)]; exact N13
  · rw [hy 1 (by omega) (by omega)]; exact N14
  · rw [hy 3 (by omega) (by omega)]; exact N15
  · rw [hy _ (by omega) (by omega)]; exact N16 q a b k a2 b2
