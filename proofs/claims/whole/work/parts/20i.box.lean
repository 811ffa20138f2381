
/-! A WEEK: house after house. -/
theorem PHi.up {c : mS} {s : Nat → Int32} {wk q : Nat} (h : PHi c s wk q) : PHi c s (wk + 1) q := by
  obtain ⟨q1, q2, q3, q4, q5, ⟨k, k1, k2, k3⟩, q7, q8⟩ := h
  exact ⟨q1, fun j hj => ⟨(q2 j hj).1, (q2 j hj).2.imp id (fun ⟨x, a, b⟩ => ⟨x, a, by omega⟩)⟩, q3, q4, q5, ⟨k, k1, k2, by omega⟩, q7, q8⟩
def GH (D : Nat → Prop) (M : zM) (n : Nat) (c : mS) (kp bt : Nat → Option Nat) (la : Nat) (s : Nat → Int32) (nc nh nl lm wk : Nat) : Prop := PN c s nc nh nl lm wk ∧ PC M n kp s nc ∧ PB M n c bt s nc ∧ PL c s nc nl wk ∧ PS c s nl ∧ (∀ q, q < nh → PHi c s (wk + 1) q ∧ (D q → PHi c s wk q)) ∧ PW c s ∧ PX M n la s nc lm
def clr (s : Nat → Int32) (h : Nat) : Nat → (Nat → Int32)
  | 0 => s
  | p + 1 => zuf (clr s h p) (1700 + 40 * h + 16 + 3 * p) (-1)
theorem clr_ne {s : Nat → Int32} {h k : Nat} : ∀ p, (∀ r, r < p → k ≠ 1716 + 40 * h + 3 * r) → clr s h p k = s k
  | 0, _ => rfl
  | p + 1, z => by
    have := z p (by omega)
    rw [clr, zuf_ne _ _ (by omega)]
    exact clr_ne p (fun r hr => z r (by omega))
theorem clr_at {s : Nat → Int32} {h r : Nat} : ∀ p, r < p → clr s h p (1716 + 40 * h + 3 * r) = -1
  | 0, z => absurd z (by omega)
  | p + 1, z => by
    rw [clr]
    by_cases e : r = p
    · subst e
      rw [show 1700 + 40 * h + 16 + 3 * r = 1716 + 40 * h + 3 * r by omega, zuf_self]
    · rw [zuf_ne _ _ (by omega)]
      exact clr_at p (by omega)
/-- the row when a box is begun -/
def bx0 (s : Nat → Int32) (h : Nat) : Nat → Int32 := clr (zuf (zuf s (1700 + 40 * h + 6) 1) (1700 + 40 * h + 5) (s (1700 + 40 * h + 5) + 1)) h 6
section
variable {D : Nat → Prop} {M : zM} {n : Nat} {c : mS} {kp bt : Nat → Option Nat} {la : Nat} {s : Nat → Int32} {h : Nat} {nc nh nl lm wk : Nat}
theorem GH.away (hB : GH D M n c kp bt la s nc nh nl lm wk) (hh : h < nh) : GH (fun q => D q ∧ q ≠ h) M n (zuf c (30 + h) (zuf (c (30 + h)) 6 0)) kp bt la (zuf s (1700 + 40 * h + 6) 0) nc nh nl lm wk := by
  obtain ⟨hN, hC, hPB, hL, hS, hHs, hW, hX⟩ := hB
  have g1 : nc ≤ 8 := hN.2.1
  have g2 : nh ≤ 10 := hN.2.2.2.1
  have g3 : nl ≤ 240 := hN.2.2.2.2.2.1
  have g4 : lm ≤ 20 := hN.2.2.2.2.2.2.2.1
  have hy : ∀ k, k ≠ 1706 + 40 * h → zuf s (1700 + 40 * h + 6) 0 k = s k := fun k a1 => zuf_ne _ _ (by omega)
  have hy6 : zuf s (1700 + 40 * h + 6) 0 (1706 + 40 * h) = 0 := by rw [show 1706 + 40 * h = 1700 + 40 * h + 6 by omega, zuf_self]
  have hc : ∀ j, j ≠ 30 + h → zuf c (30 + h) (zuf (c (30 + h)) 6 0) j = c j := fun j a => zuf_ne _ _ a
  refine ⟨hN.cg2 (fun k hk => hy k (by omega)) (fun q a b k a2 b2 => hy _ (by omega)) (hc 0 (by omega)) (fun b hb => by rw [hc _ (by omega)]) (fun q hq => ?_), hC.cg g1 (fun k hk => hy k (by omega)), hPB.cg g1 (fun k hk => hy k (by omega)) (fun b hb => hc _ (by omega)), hL.cg g3 (fun k hk => hy k (by omega)) (fun j hj => hc _ (by omega)), hS.cg g3 (fun k hk => hy k (by omega)) (fun j hj => hc _ (by omega)), fun q hq => ?_, hW.cg (fun k hk => hy k (by omega)) (hc 7 (by omega)), hX.cg g4 (fun k hk => hy k (by omega))⟩
  · by_cases e : q = h
    · subst e
      rw [zuf_self, zuf_self]
      exact Or.inr (Or.inl rfl)
    · rw [hc _ (by omega)]
      exact Or.inl rfl
  · by_cases e : q = h
    · subst e
      refine ⟨?_, fun z => absurd rfl z.2⟩
      obtain ⟨q1, q2, q3, q4, q5, q6, q7, q8⟩ := (hHs q hq).1
      unfold PHi
      rw [zuf_self, hc (40 + q) (by omega), hy (1700 + 40 * q) (by omega), hy (1701 + 40 * q) (by omega), hy (1702 + 40 * q) (by omega), hy (1703 + 40 * q) (by omega), hy6]
      refine ⟨fun k hk => ?_, fun j hj => by rw [hy _ (by omega)]; exact q2 j hj, q3, q4, q5, q6, Or.inl rfl, fun z => absurd z (by decide)⟩
      by_cases e6 : k = 6
      · subst e6
        rw [zuf_self, zuf_self]
      · rw [zuf_ne _ _ e6, hy _ (by omega)]
        exact q1 k hk
    · have cg : ∀ w, PHi c s w q → PHi (zuf c (30 + h) (zuf (c (30 + h)) 6 0)) (zuf s (1700 + 40 * h + 6) 0) w q := fun w z => z.cg2 (fun k hk => hy _ (by omega)) (hc _ (by omega)) (hc _ (by omega)) (hc _ (by omega)) (hc _ (by omega)) (hc _ (by omega))
      exact ⟨cg _ (hHs q hq).1, fun z => cg _ ((hHs q hq).2 z.1)⟩
theorem bx0_ne {k : Nat} (hk : k ≠ 1705 + 40 * h) (h6 : k ≠ 1706 + 40 * h) (hp : ∀ r, r < 6 → k ≠ 1716 + 40 * h + 3 * r) : bx0 s h k = s k := by
  unfold bx0
  rw [clr_ne 6 hp, zuf_ne _ _ (by omega), zuf_ne _ _ (by omega)]
theorem bx0_5 : bx0 s h (1705 + 40 * h) = s (1705 + 40 * h) + 1 := by
  unfold bx0
  rw [clr_ne 6 (fun r hr => by omega), show 1700 + 40 * h + 5 = 1705 + 40 * h by omega, zuf_self]
theorem bx0_6 : bx0 s h (1706 + 40 * h) = 1 := by
  unfold bx0
  rw [clr_ne 6 (fun r hr => by omega), zuf_ne _ _ (by omega), show 1700 + 40 * h + 6 = 1706 + 40 * h by omega, zuf_self]
theorem GH.start (hB : GH D M n c kp bt la s nc nh nl lm wk) (hh : h < nh) (hD : D h) : GB D M n (zuf c (30 + h) (zuf (zuf (c (30 + h)) 6 1) 5 (c (30 + h) 5 + 1))) kp bt la (bx0 (zuf s (1700 + 40 * h + 6) 0) h) h 0 0 nc nh nl lm wk := by
  obtain ⟨hN, hC, hPB, hL, hS, hHs, hW, hX⟩ := hB
  have g1 : nc ≤ 8 := hN.2.1
  have g2 : nh ≤ 10 := hN.2.2.2.1
  have g3 : nl ≤ 240 := hN.2.2.2.2.2.1
  have g4 : lm ≤ 20 := hN.2.2.2.2.2.2.2.1
  have g5 : wk ≤ 30 := hN.2.2.2.2.2.2.2.2.2.1
  have hy : ∀ k, k ≠ 1705 + 40 * h → k ≠ 1706 + 40 * h → (∀ r, r < 6 → k ≠ 1716 + 40 * h + 3 * r) → bx0 (zuf s (1700 + 40 * h + 6) 0) h k = s k := fun k a1 a2 a3 => by rw [bx0_ne a1 a2 a3, zuf_ne _ _ (by omega)]
  have hc : ∀ j, j ≠ 30 + h → zuf c (30 + h) (zuf (zuf (c (30 + h)) 6 1) 5 (c (30 + h) 5 + 1)) j = c j := fun j a => zuf_ne _ _ a
  refine ⟨hN.cg2 (fun k hk => hy k (by omega) (by omega) (fun r hr => by omega)) (fun q a b k a2 b2 => hy _ (by omega) (by omega) (fun r hr => by omega)) (hc 0 (by omega)) (fun b hb => by rw [hc _ (by omega)]) (fun q hq => ?_), hC.cg g1 (fun k hk => hy k (by omega) (by omega) (fun r hr => by omega)), hPB.cg g1 (fun k hk => hy k (by omega) (by omega) (fun r hr => by omega)) (fun b hb => hc _ (by omega)), hL.cg g3 (fun k hk => hy k (by omega) (by omega) (fun r hr => by omega)) (fun j hj => hc _ (by omega)), hS.cg g3 (fun k hk => hy k (by omega) (by omega) (fun r hr => by omega)) (fun j hj => hc _ (by omega)), hh, fun q hq hne => ?_, ?_, hW.cg (fun k hk => hy k (by omega) (by omega) (fun r hr => by omega)) (hc 7 (by omega)), hX.cg g4 (fun k hk => hy k (by omega) (by omega) (fun r hr => by omega))⟩
  · by_cases e : q = h
    · subst e
      rw [zuf_self, zuf_ne _ _ (by omega), zuf_self]
      exact Or.inr (Or.inr rfl)
    · rw [hc _ (by omega)]
      exact Or.inl rfl
  · have cg : ∀ w, PHi c s w q → PHi (zuf c (30 + h) (zuf (zuf (c (30 + h)) 6 1) 5 (c (30 + h) 5 + 1))) (bx0 (zuf s (1700 + 40 * h + 6) 0) h) w q := fun w z => z.cg2 (fun k hk => hy _ (by omega) (by omega) (fun r hr => by omega)) (hc _ (by omega)) (hc _ (by omega)) (hc _ (by omega)) (hc _ (by omega)) (hc _ (by omega))
    exact ⟨cg _ (hHs q hq).1, fun z => cg _ ((hHs q hq).2 z)⟩
  · obtain ⟨q1, q2, q3, q4, q5, q6, q7, q8⟩ := (hHs h hh).2 hD
    unfold PM
    rw [zuf_self, hc (40 + h) (by omega), hy (1700 + 40 * h) (by omega) (by omega) (fun r hr => by omega), hy (1700 + 40 * h + 4) (by omega) (by omega) (fun r hr => by omega), hy (1701 + 40 * h) (by omega) (by omega) (fun r hr => by omega), hy (1702 + 40 * h) (by omega) (by omega) (fun r hr => by omega), hy (1703 + 40 * h) (by omega) (by omega) (fun r hr => by omega), bx0_6]
    refine ⟨fun k hk h4 => ?_, ?_, fun j hj => ?_, q3, q4, q5, q6, rfl, fun r hr => absurd hr (by omega), fun j hj => ?_, fun r h1 h2 => clr_at 6 h2⟩
    · by_cases e6 : k = 6
      · subst e6
        rw [zuf_ne _ _ (by omega), zuf_self, show 1700 + 40 * h + 6 = 1706 + 40 * h by omega, bx0_6]
      · by_cases e5 : k = 5
        · subst e5
          rw [zuf_self, show 1700 + 40 * h + 5 = 1705 + 40 * h by omega, bx0_5, zuf_ne _ _ (by omega), q1 5 (by omega), show 1700 + 40 * h + 5 = 1705 + 40 * h by omega]
        · rw [zuf_ne _ _ e5, zuf_ne _ _ e6, hy _ (by omega) (by omega) (fun r hr => by omega)]
          exact q1 k hk
    · rw [zuf_ne _ _ (by omega), zuf_ne _ _ (by omega), Int32.add_zero]
      exact q1 4 (by omega)
    · rw [hy _ (by omega) (by omega) (fun r hr => by omega)]
      exact ⟨(q2 j hj).1, (q2 j hj).2.imp id (fun ⟨x, a, b⟩ => ⟨x, a, by omega⟩)⟩
    · rw [hy _ (by omega) (by omega) (fun r hr => by omega)]
      constructor
      · intro z
        rcases (q2 j hj).2 with y | ⟨x, y1, y2⟩
        · exact absurd (y.symm.trans z) (fun z => zI_m1 (by omega) z.symm)
        · have := zn_inj (a := x) (b := wk) (by omega) (by omega) (y1.symm.trans z)
          omega
      · rintro ⟨r, y1, -⟩
        omega
theorem GB.fin {sz : Nat} {hl : Int32} (hB : GB D M n c kp bt la s h sz hl nc nh nl lm wk) (hz : s (1700 + 40 * h) = nI sz) (hz6 : sz ≤ 6) : GH (fun q => D q ∧ q ≠ h) M n c kp bt la (zuf s (1700 + 40 * h + 4) (s (1700 + 40 * h + 4) + hl)) nc nh nl lm wk := by
  obtain ⟨hN, hC, hPB, hL, hS, hh, hHs, ⟨m1, m2, m3, m4, m5, m6, m7, m8, m9, m10, m11⟩, hW, hX⟩ := hB
  have g1 : nc ≤ 8 := hN.2.1
  have g2 : nh ≤ 10 := hN.2.2.2.1
  have g3 : nl ≤ 240 := hN.2.2.2.2.2.1
  have g4 : lm ≤ 20 := hN.2.2.2.2.2.2.2.1
  have hy : ∀ k, k ≠ 1704 + 40 * h → zuf s (1700 + 40 * h + 4) (s (1700 + 40 * h + 4) + hl) k = s k := fun k a1 => zuf_ne _ _ (by omega)
  refine ⟨hN.cg2 (fun k hk => hy k (by omega)) (fun q a b k a2 b2 => hy _ (by omega)) rfl (fun b hb => rfl) (fun q hq => Or.inl rfl), hC.cg g1 (fun k hk => hy k (by omega)), hPB.cg g1 (fun k hk => hy k (by omega)) (fun b hb => rfl), hL.cg g3 (fun k hk => hy k (by omega)) (fun j hj => rfl), hS.cg g3 (fun k hk => hy k (by omega)) (fun j hj => rfl), fun q hq => ?_, hW.cg (fun k hk => hy k (by omega)) rfl, hX.cg g4 (fun k hk => hy k (by omega))⟩
  by_cases e : q = h
  · subst e
    refine ⟨?_, fun z => absurd rfl z.2⟩
    unfold PHi
    rw [hy (1700 + 40 * q) (by omega), hy (1701 + 40 * q) (by omega), hy (1702 + 40 * q) (by omega), hy (1703 + 40 * q) (by omega), hy (1706 + 40 * q) (by omega)]
    refine ⟨fun k hk => ?_, fun j hj => by rw [hy _ (by omega)]; exact ⟨(m3 j hj).1, (m3 j hj).2.imp id (fun ⟨x, a, b⟩ => ⟨x, a, by omega⟩)⟩, m4, m5, m6, ?_, Or.inr m8, fun _ p hp hlt => ?_⟩
    · by_cases e4 : k = 4
      · subst e4
        rw [zuf_self]
        exact m2
      · rw [hy _ (by omega)]
        exact m1 k hk e4
    · obtain ⟨k, k1, k2, k3⟩ := m7
      exact ⟨k, k1, k2, by omega⟩
    · rw [hz] at hlt
      have := (zn_lt (a := p) (b := sz) (by omega) (by omega)).mp hlt
      rw [hy _ (by omega), hy _ (by omega), hy _ (by omega)]
      exact m9 p this
  · have cg : ∀ w, PHi c s w q → PHi c (zuf s (1700 + 40 * h + 4) (s (1700 + 40 * h + 4) + hl)) w q := fun w z => z.cg2 (fun k hk => hy _ (by omega)) rfl rfl rfl rfl rfl
    exact ⟨cg _ (hHs q hq e).1, fun z => cg _ ((hHs q hq e).2 z.1)⟩
end
theorem rem40 : ∀ a : Fin 41, ∀ b : Fin 11, b.val ≠ 0 → nI a.val - nI a.val / nI b.val * nI b.val = nI (a.val % b.val) := by decide +kernel
theorem and1_or (x : Int32) : x &&& 1 = 0 ∨ x &&& 1 = 1 := by
  have h : (x &&& 1).toBitVec.toNat = x.toBitVec.toNat % 2 := by
    rw [Int32.toBitVec_and, BitVec.toNat_and]
    exact Nat.and_one_is_mod _
  rcases Nat.mod_two_eq_zero_or_one x.toBitVec.toNat with z | z
  · left
    apply Int32.toBitVec_inj.mp
    apply BitVec.eq_of_toNat_eq
    rw [h, z]
    rfl
  · right
    apply Int32.toBitVec_inj.mp
    apply BitVec.eq_of_toNat_eq
    rw [h, z]
    rfl
