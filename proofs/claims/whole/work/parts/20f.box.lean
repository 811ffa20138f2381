
/-! A WEEK: what holds goes on from place to place. -/
theorem PN.cg2 {c c' : mS} {s s' : Nat → Int32} {nc nh nl lm wk : Nat} (h : PN c s nc nh nl lm wk) (hs : ∀ k, k < 6 → s' k = s k) (hh : ∀ q, nh ≤ q → q < 10 → ∀ k, 2 ≤ k → k < 7 → s' (1700 + 40 * q + k) = s (1700 + 40 * q + k)) (hc : c' 0 = c 0) (h1 : ∀ b, b < 8 → c' (20 + b) 8 = c (20 + b) 8) (h2 : ∀ q, q < 10 → c' (30 + q) 6 = c (30 + q) 6 ∨ c' (30 + q) 6 = 0 ∨ c' (30 + q) 6 = 1) : PN c' s' nc nh nl lm wk := by
  unfold PN at h ⊢
  rw [hs 0 (by omega), hs 1 (by omega), hs 2 (by omega), hs 3 (by omega), hs 4 (by omega), hs 5 (by omega), hc]
  obtain ⟨N1, N2, N3, N4, N5, N6, N7, N8, N9, N10, N11, N12, N13, N14, N15, N16, N17⟩ := h
  refine ⟨N1, N2, N3, N4, N5, N6, N7, N8, N9, N10, N11, N12, N13, N14, N15, fun q a b k a2 b2 => by rw [hh q a b k a2 b2]; exact N16 q a b k a2 b2, fun b hb => by rw [h1 b hb]; exact N17.1 b hb, fun q hq => ?_⟩
  rcases h2 q hq with z | z
  · rw [z]; exact N17.2 q hq
  · exact z
theorem PHi.cg2 {c c' : mS} {s s' : Nat → Int32} {wk q : Nat} (h : PHi c s wk q) (hs : ∀ k, k < 40 → s' (1700 + 40 * q + k) = s (1700 + 40 * q + k)) (h3 : c' (30 + q) = c (30 + q)) (h4 : c' (40 + q) = c (40 + q)) (h5 : c' (50 + q) = c (50 + q)) (h6 : c' (60 + q) = c (60 + q)) (h7 : c' (70 + q) = c (70 + q)) : PHi c' s' wk q := by
  have e : ∀ k j, k = 1700 + 40 * q + j → j < 40 → s' k = s k := fun k j h1 h2 => by rw [h1]; exact hs j h2
  obtain ⟨q1, q2, q3, q4, q5, q6, q7, q8⟩ := h
  unfold PHi
  rw [h3, h4, h5, h6, h7, e (1700 + 40 * q) 0 (by omega) (by omega), e (1701 + 40 * q) 1 (by omega) (by omega), e (1702 + 40 * q) 2 (by omega) (by omega), e (1703 + 40 * q) 3 (by omega) (by omega), e (1706 + 40 * q) 6 (by omega) (by omega)]
  refine ⟨fun k hk => by rw [hs k (by omega)]; exact q1 k hk, fun j hj => by rw [e (1708 + 40 * q + j) (8 + j) (by omega) (by omega)]; exact q2 j hj, q3, q4, q5, q6, q7, fun z p h1 h2 => ?_⟩
  rw [e (1716 + 40 * q + 3 * p) (16 + 3 * p) (by omega) (by omega), e (1717 + 40 * q + 3 * p) (17 + 3 * p) (by omega) (by omega), e (1718 + 40 * q + 3 * p) (18 + 3 * p) (by omega) (by omega)]
  exact q8 z p h1 h2
section
variable {D : Nat → Prop} {M : zM} {n : Nat} {c : mS} {kp bt : Nat → Option Nat} {la : Nat} {s : Nat → Int32} {h p : Nat} {hl : Int32} {nc nh nl lm wk : Nat}
theorem GB.hole (hB : GB D M n c kp bt la s h p hl nc nh nl lm wk) (hp : p < 6) : GB D M n (clN c h p) kp bt la (plN s h p) h (p + 1) (hl + 1) nc nh nl lm wk := by
  obtain ⟨hN, hC, hPB, hL, hS, hh, hHs, ⟨m1, m2, m3, m4, m5, m6, m7, m8, m9, m10, m11⟩, hW, hX⟩ := hB
  have g1 : nc ≤ 8 := hN.2.1
  have g2 : nh ≤ 10 := hN.2.2.2.1
  have g3 : nl ≤ 240 := hN.2.2.2.2.2.1
  have g4 : lm ≤ 20 := hN.2.2.2.2.2.2.2.1
  have hy : ∀ k, k ≠ 1717 + 40 * h + 3 * p → k ≠ 1718 + 40 * h + 3 * p → plN s h p k = s k := fun k a1 a2 => by rw [plN_at, if_neg (by omega), if_neg (by omega)]
  have hy1 : plN s h p (1717 + 40 * h + 3 * p) = -2 := by rw [plN_at, if_neg (by omega), if_pos (by omega)]
  have hy2 : plN s h p (1718 + 40 * h + 3 * p) = -1 := by rw [plN_at, if_pos (by omega)]
  have hc : ∀ j, j ≠ 13 → j ≠ 30 + h → j ≠ 50 + h → j ≠ 60 + h → j ≠ 70 + h → clN c h p j = c j := fun j a1 a2 a3 a4 a5 => by
    unfold clN
    rw [zuf_ne _ _ a1, zuf_ne _ _ a2, zuf_ne _ _ a5, zuf_ne _ _ a4, zuf_ne _ _ a3]
  have c3 : clN c h p (30 + h) = zuf (c (30 + h)) 4 (c (30 + h) 4 + 1) := by
    unfold clN
    rw [zuf_ne _ _ (by omega), zuf_self]
  have c5 : clN c h p (50 + h) = zuf (c (50 + h)) p (-1) := by
    unfold clN
    rw [zuf_ne _ _ (by omega), zuf_ne _ _ (by omega), zuf_ne _ _ (by omega), zuf_ne _ _ (by omega), zuf_self]
  have c6 : clN c h p (60 + h) = zuf (c (60 + h)) p (-2) := by
    unfold clN
    rw [zuf_ne _ _ (by omega), zuf_ne _ _ (by omega), zuf_ne _ _ (by omega), zuf_self]
  have c7 : clN c h p (70 + h) = zuf (c (70 + h)) p (-1) := by
    unfold clN
    rw [zuf_ne _ _ (by omega), zuf_ne _ _ (by omega), zuf_self]
  refine ⟨hN.cg2 (fun k hk => hy k (by omega) (by omega)) (fun q a b k a2 b2 => hy _ (by omega) (by omega)) (hc 0 (by omega) (by omega) (by omega) (by omega) (by omega)) (fun b hb => by rw [hc _ (by omega) (by omega) (by omega) (by omega) (by omega)]) (fun q hq => Or.inl ?_), hC.cg g1 (fun k hk => hy k (by omega) (by omega)), hPB.cg g1 (fun k hk => hy k (by omega) (by omega)) (fun b hb => hc _ (by omega) (by omega) (by omega) (by omega) (by omega)), hL.cg g3 (fun k hk => hy k (by omega) (by omega)) (fun j hj => hc _ (by omega) (by omega) (by omega) (by omega) (by omega)), hS.cg g3 (fun k hk => hy k (by omega) (by omega)) (fun j hj => hc _ (by omega) (by omega) (by omega) (by omega) (by omega)), hh, fun q hq hne => ?_, ?_, hW.cg (fun k hk => hy k (by omega) (by omega)) (hc 7 (by omega) (by omega) (by omega) (by omega) (by omega)), hX.cg g4 (fun k hk => hy k (by omega) (by omega))⟩
  · by_cases e : q = h
    · subst e
      rw [c3, zuf_ne _ _ (by omega)]
    · rw [hc _ (by omega) (by omega) (by omega) (by omega) (by omega)]
  · have cg : ∀ w, PHi c s w q → PHi (clN c h p) (plN s h p) w q := fun w z => z.cg2 (fun k hk => hy _ (by omega) (by omega)) (hc _ (by omega) (by omega) (by omega) (by omega) (by omega)) (hc _ (by omega) (by omega) (by omega) (by omega) (by omega)) (hc _ (by omega) (by omega) (by omega) (by omega) (by omega)) (hc _ (by omega) (by omega) (by omega) (by omega) (by omega)) (hc _ (by omega) (by omega) (by omega) (by omega) (by omega))
    exact ⟨cg _ (hHs q hq hne).1, fun d => cg _ ((hHs q hq hne).2 d)⟩
  · unfold PM
    rw [c3, c5, c6, c7, hc (40 + h) (by omega) (by omega) (by omega) (by omega) (by omega), hy (1700 + 40 * h) (by omega) (by omega), hy (1700 + 40 * h + 4) (by omega) (by omega), hy (1701 + 40 * h) (by omega) (by omega), hy (1702 + 40 * h) (by omega) (by omega), hy (1703 + 40 * h) (by omega) (by omega), hy (1706 + 40 * h) (by omega) (by omega)]
    refine ⟨fun k hk h4 => by rw [zuf_ne _ _ h4, hy _ (by omega) (by omega)]; exact m1 k hk h4, by rw [zuf_self, m2, Int32.add_assoc], fun q hq => by rw [hy _ (by omega) (by omega)]; exact m3 q hq, m4, m5, m6, ?_, m8, fun r hr => ?_, fun q hq => ?_, fun r h1 h2 => by rw [hy _ (by omega) (by omega)]; exact m11 r (by omega) h2⟩
    · obtain ⟨k, z1, z2, z3⟩ := m7
      exact ⟨k, z1, z2, by omega⟩
    · rw [hy (1716 + 40 * h + 3 * r) (by omega) (by omega)]
      by_cases e : r = p
      · subst e
        rw [zuf_self, zuf_self, zuf_self, hy1, hy2, m11 r (by omega) hp]
        exact ⟨rfl, rfl, rfl⟩
      · rw [zuf_ne _ _ e, zuf_ne _ _ e, zuf_ne _ _ e, hy _ (by omega) (by omega), hy _ (by omega) (by omega)]
        exact m9 r (by omega)
    · rw [hy _ (by omega) (by omega), m10 q hq]
      constructor
      · rintro ⟨r, y1, y2⟩
        exact ⟨r, by omega, by rw [hy _ (by omega) (by omega)]; exact y2⟩
      · rintro ⟨r, y1, y2⟩
        rw [hy _ (by omega) (by omega)] at y2
        by_cases e : r = p
        · subst e
          rw [m11 r (by omega) hp] at y2
          exact absurd y2.symm (zI_m1 (by omega))
        · exact ⟨r, by omega, y2⟩
theorem GB.fill {q l : Nat} {r : Int32} (hB : GB D M n c kp bt la s h p hl nc nh nl lm wk) (hp : p < 6) (hq : q < nc) (hf : fl s q nl = some l) : GB D M n (clY c h p q r l (s (50 + 10 * q + 5))) kp bt la (plY s h p q r l) h (p + 1) hl nc nh nl lm wk := by
  obtain ⟨hN, hC, hPB, hL, hS, hh, hHs, ⟨m1, m2, m3, m4, m5, m6, m7, m8, m9, m10, m11⟩, hW, hX⟩ := hB
  have g1 : nc ≤ 8 := hN.2.1
  have g2 : nh ≤ 10 := hN.2.2.2.1
  have g3 : nl ≤ 240 := hN.2.2.2.2.2.1
  have g4 : lm ≤ 20 := hN.2.2.2.2.2.2.2.1
  have hwk : s 0 = nI wk := hN.2.2.2.2.2.2.2.2.1
  have hwk30 : wk ≤ 30 := hN.2.2.2.2.2.2.2.2.2.1
  have hc02 : c 0 2 = s 0 := hN.2.2.2.2.2.2.2.2.2.2.2.2.1
  obtain ⟨l1, ⟨l2, l3⟩, l4⟩ := fl_spec _ _ hf
  have at_ := fun k => plY_at (s := s) (h := h) (p := p) (q := q) (l := l) (r := r) (by omega) hp (by omega) (by omega) k
  have hy : ∀ k, k ≠ 58 + 10 * q → k ≠ 1703 + 40 * h → k ≠ 1708 + 40 * h + q → k ≠ 1716 + 40 * h + 3 * p → k ≠ 1717 + 40 * h + 3 * p → k ≠ 1718 + 40 * h + 3 * p → k ≠ 255 + 6 * l → plY s h p q r l k = s k := fun k a1 a2 a3 a4 a5 a6 a7 => by rw [at_, if_neg (by omega), if_neg (by omega), if_neg (by omega), if_neg (by omega), if_neg (by omega), if_neg (by omega), if_neg (by omega)]
  have y58 : plY s h p q r l (58 + 10 * q) = s (58 + 10 * q) + 1 := by rw [at_, if_pos (by omega), show 50 + 10 * q + 8 = 58 + 10 * q by omega]
  have y3 : plY s h p q r l (1703 + 40 * h) = s (1703 + 40 * h) + s (50 + 10 * q + 5) := by rw [at_, if_neg (by omega), if_pos (by omega), show 1700 + 40 * h + 3 = 1703 + 40 * h by omega]
  have y8 : plY s h p q r l (1708 + 40 * h + q) = s 0 := by rw [at_, if_neg (by omega), if_neg (by omega), if_pos (by omega)]
  have y18 : plY s h p q r l (1718 + 40 * h + 3 * p) = nI l := by rw [at_, if_neg (by omega), if_neg (by omega), if_neg (by omega), if_pos (by omega)]
  have y16 : plY s h p q r l (1716 + 40 * h + 3 * p) = nI q := by rw [at_, if_neg (by omega), if_neg (by omega), if_neg (by omega), if_neg (by omega), if_pos (by omega)]
  have yl : plY s h p q r l (255 + 6 * l) = s (255 + 6 * l) - 1 := by rw [at_, if_neg (by omega), if_neg (by omega), if_neg (by omega), if_neg (by omega), if_neg (by omega), if_pos (by omega), show 250 + 6 * l + 5 = 255 + 6 * l by omega]
  have y17 : plY s h p q r l (1717 + 40 * h + 3 * p) = r := by rw [at_, if_neg (by omega), if_neg (by omega), if_neg (by omega), if_neg (by omega), if_neg (by omega), if_neg (by omega), if_pos (by omega)]
  generalize hwv : s (50 + 10 * q + 5) = wv at *
  have hc : ∀ j, j ≠ 8 → j ≠ 11 → j ≠ 40 + h → j ≠ 30 + h → j ≠ 13 → j ≠ 6 → j ≠ 50 + h → j ≠ 60 + h → j ≠ 70 + h → clY c h p q r l wv j = c j := fun j a1 a2 a3 a4 a5 a6 a7 a8 a9 => by
    unfold clY
    rw [zuf_ne _ _ a9, zuf_ne _ _ a8, zuf_ne _ _ a7, zuf_ne _ _ a6, zuf_ne _ _ a5, zuf_ne _ _ a4, zuf_ne _ _ a3, zuf_ne _ _ a2, zuf_ne _ _ a1]
  have e0 : clY c h p q r l wv 8 = zuf (c 8) q (c 8 q - 1) := by
    unfold clY
    rw [zuf_ne _ _ (by omega), zuf_ne _ _ (by omega), zuf_ne _ _ (by omega), zuf_ne _ _ (by omega), zuf_ne _ _ (by omega), zuf_ne _ _ (by omega), zuf_ne _ _ (by omega), zuf_ne _ _ (by omega), zuf_self]
  have e1 : clY c h p q r l wv 11 = zuf (c 11) q (c 11 q + 1) := by
    unfold clY
    rw [zuf_ne _ _ (by omega), zuf_ne _ _ (by omega), zuf_ne _ _ (by omega), zuf_ne _ _ (by omega), zuf_ne _ _ (by omega), zuf_ne _ _ (by omega), zuf_ne _ _ (by omega), zuf_self]
  have e2 : clY c h p q r l wv (40 + h) = zuf (c (40 + h)) q (c 0 2) := by
    unfold clY
    rw [zuf_ne _ _ (by omega), zuf_ne _ _ (by omega), zuf_ne _ _ (by omega), zuf_ne _ _ (by omega), zuf_ne _ _ (by omega), zuf_ne _ _ (by omega), zuf_self]
  have e3 : clY c h p q r l wv (30 + h) = zuf (c (30 + h)) 3 (c (30 + h) 3 + wv) := by
    unfold clY
    rw [zuf_ne _ _ (by omega), zuf_ne _ _ (by omega), zuf_ne _ _ (by omega), zuf_ne _ _ (by omega), zuf_ne _ _ (by omega), zuf_self]
  have e5 : clY c h p q r l wv 6 = zuf (c 6) l (c 6 l - 1) := by
    unfold clY
    rw [zuf_ne _ _ (by omega), zuf_ne _ _ (by omega), zuf_ne _ _ (by omega), zuf_self]
  have e6 : clY c h p q r l wv (50 + h) = zuf (c (50 + h)) p (nI q) := by
    unfold clY
    rw [zuf_ne _ _ (by omega), zuf_ne _ _ (by omega), zuf_self]
  have e7 : clY c h p q r l wv (60 + h) = zuf (c (60 + h)) p r := by
    unfold clY
    rw [zuf_ne _ _ (by omega), zuf_self]
  have e8 : clY c h p q r l wv (70 + h) = zuf (c (70 + h)) p (nI l) := by
    unfold clY
    rw [zuf_self]
  have hO : ∀ j, j < 8 ∨ (14 ≤ j ∧ j < 30) → j ≠ 6 → clY c h p q r l wv j = c j := fun j h1 h2 => hc j (by omega) (by omega) (by omega) (by omega) (by omega) h2 (by omega) (by omega) (by omega)
  refine ⟨hN.cg2 (fun k hk => hy k (by omega) (by omega) (by omega) (by omega) (by omega) (by omega) (by omega)) (fun q' a b k a2 b2 => hy _ (by omega) (by omega) (by omega) (by omega) (by omega) (by omega) (by omega)) (hO 0 (by omega) (by omega)) (fun b hb => by rw [hO _ (by omega) (by omega)]) (fun q' hq' => Or.inl ?_), hC.cg g1 (fun k hk => hy k (by omega) (by omega) (by omega) (by omega) (by omega) (by omega) (by omega)), hPB.cg g1 (fun k hk => hy k (by omega) (by omega) (by omega) (by omega) (by omega) (by omega) (by omega)) (fun b hb => hO _ (by omega) (by omega)), fun q' hq' => ?_, fun q' hq' => ?_, hh, fun q' hq' hne => ?_, ?_, hW.cg (fun k hk => hy k (by omega) (by omega) (by omega) (by omega) (by omega) (by omega) (by omega)) (hO 7 (by omega) (by omega)), hX.cg g4 (fun k hk => hy k (by omega) (by omega) (by omega) (by omega) (by omega) (by omega) (by omega))⟩
  · by_cases e : q' = h
    · subst e
      rw [e3, zuf_ne _ _ (by omega)]
    · rw [hc _ (by omega) (by omega) (by omega) (by omega) (by omega) (by omega) (by omega) (by omega) (by omega)]
  · obtain ⟨z1, z2, z3, z4⟩ := hL q' hq'
    rw [hy (250 + 6 * q') (by omega) (by omega) (by omega) (by omega) (by omega) (by omega) (by omega), hy (253 + 6 * q') (by omega) (by omega) (by omega) (by omega) (by omega) (by omega) (by omega)]
    refine ⟨fun j hj => ?_, z2, ?_, z4⟩
    · by_cases ej : j = 5
      · subst ej
        show clY c h p q r l wv 6 q' = _
        rw [e5]
        by_cases e : q' = l
        · subst e
          rw [zuf_self, show 250 + 6 * q' + 5 = 255 + 6 * q' by omega, yl]
          have := z1 5 (by omega)
          rw [show 250 + 6 * q' + 5 = 255 + 6 * q' by omega] at this
          rw [← this]
        · rw [zuf_ne _ _ e, hy _ (by omega) (by omega) (by omega) (by omega) (by omega) (by omega) (by omega)]
          exact z1 5 (by omega)
      · rw [hO _ (by omega) (by omega), hy _ (by omega) (by omega) (by omega) (by omega) (by omega) (by omega) (by omega)]
        exact z1 j hj
    · by_cases e : q' = l
      · subst e
        rw [yl]
        rw [Int32.lt_iff_toInt_lt, show (0 : Int32).toInt = 0 by decide] at l3
        rw [Int32.toInt_sub, show (1 : Int32).toInt = 1 by decide, Int.bmod_eq_of_le (by omega) (by omega)]
        omega
      · rw [hy _ (by omega) (by omega) (by omega) (by omega) (by omega) (by omega) (by omega)]
        exact z3
  · obtain ⟨z1, z2, z3, z4, z5⟩ := hS q' hq'
    have s1 : ∀ x, x < nl → plY s h p q r l (250 + 6 * x) = s (250 + 6 * x) := fun x hx => hy _ (by omega) (by omega) (by omega) (by omega) (by omega) (by omega) (by omega)
    have s2 : ∀ x, x < nl → x ≠ l → plY s h p q r l (255 + 6 * x) = s (255 + 6 * x) := fun x hx hxl => hy _ (by omega) (by omega) (by omega) (by omega) (by omega) (by omega) (by omega)
    rw [e0, e1, hc 9 (by omega) (by omega) (by omega) (by omega) (by omega) (by omega) (by omega) (by omega) (by omega), hc 10 (by omega) (by omega) (by omega) (by omega) (by omega) (by omega) (by omega) (by omega) (by omega), hc 12 (by omega) (by omega) (by omega) (by omega) (by omega) (by omega) (by omega) (by omega) (by omega), hy (56 + 10 * q') (by omega) (by omega) (by omega) (by omega) (by omega) (by omega) (by omega), hy (57 + 10 * q') (by omega) (by omega) (by omega) (by omega) (by omega) (by omega) (by omega), hy (59 + 10 * q') (by omega) (by omega) (by omega) (by omega) (by omega) (by omega) (by omega)]
    by_cases e : q' = q
    · subst e
      rw [zuf_self, zuf_self, stock_dec yl l2 nl l1 s1 s2, y58, ← z1, ← z4]
      exact ⟨rfl, z2, z3, rfl, z5⟩
    · rw [zuf_ne _ _ e, zuf_ne _ _ e, stock_oth (by rw [l2]; exact fun z => e (zn_inj (by omega) (by omega) z.symm)) nl s1 s2, hy (58 + 10 * q') (by omega) (by omega) (by omega) (by omega) (by omega) (by omega) (by omega)]
      exact ⟨z1, z2, z3, z4, z5⟩
  · have cg : ∀ w, PHi c s w q' → PHi (clY c h p q r l wv) (plY s h p q r l) w q' := fun w z => z.cg2 (fun k hk => hy _ (by omega) (by omega) (by omega) (by omega) (by omega) (by omega) (by omega)) (hc _ (by omega) (by omega) (by omega) (by omega) (by omega) (by omega) (by omega) (by omega) (by omega)) (hc _ (by omega) (by omega) (by omega) (by omega) (by omega) (by omega) (by omega) (by omega) (by omega)) (hc _ (by omega) (by omega) (by omega) (by omega) (by omega) (by omega) (by omega) (by omega) (by omega)) (hc _ (by omega) (by omega) (by omega) (by omega) (by omega) (by omega) (by omega) (by omega) (by omega)) (hc _ (by omega) (by omega) (by omega) (by omega) (by omega) (by omega) (by omega) (by omega) (by omega))
    exact ⟨cg _ (hHs q' hq' hne).1, fun d => cg _ ((hHs q' hq' hne).2 d)⟩
  · have hwN : ∃ k, wv = nI k ∧ k ≤ 9 := by
      obtain ⟨-, -, -, -, -, -, k, k1, -, k2⟩ := hC.1 q hq
      exact ⟨k, by rw [← hwv, show 50 + 10 * q + 5 = 55 + 10 * q by omega, k1], k2⟩
    unfold PM
    rw [e3, e6, e7, e8, e2, hy (1700 + 40 * h) (by omega) (by omega) (by omega) (by omega) (by omega) (by omega) (by omega), hy (1700 + 40 * h + 4) (by omega) (by omega) (by omega) (by omega) (by omega) (by omega) (by omega), hy (1701 + 40 * h) (by omega) (by omega) (by omega) (by omega) (by omega) (by omega) (by omega), hy (1702 + 40 * h) (by omega) (by omega) (by omega) (by omega) (by omega) (by omega) (by omega), hy (1706 + 40 * h) (by omega) (by omega) (by omega) (by omega) (by omega) (by omega) (by omega), y3]
    refine ⟨fun k hk h4 => ?_, by rw [zuf_ne _ _ (by omega)]; exact m2, fun q' hq' => ?_, m4, m5, m6, ?_, m8, fun x hx => ?_, fun q' hq' => ?_, fun x h1 h2 => by rw [hy _ (by omega) (by omega) (by omega) (by omega) (by omega) (by omega) (by omega)]; exact m11 x (by omega) h2⟩
    · by_cases e : k = 3
      · subst e
        rw [zuf_self, show 1700 + 40 * h + 3 = 1703 + 40 * h by omega, y3, m1 3 (by omega) (by omega), show 1700 + 40 * h + 3 = 1703 + 40 * h by omega]
      · rw [zuf_ne _ _ e, hy _ (by omega) (by omega) (by omega) (by omega) (by omega) (by omega) (by omega)]
        exact m1 k hk h4
    · by_cases e : q' = q
      · subst e
        rw [zuf_self, y8, hc02]
        exact ⟨rfl, Or.inr ⟨wk, hwk, Nat.le_refl _⟩⟩
      · rw [zuf_ne _ _ e, hy _ (by omega) (by omega) (by omega) (by omega) (by omega) (by omega) (by omega)]
        exact m3 q' hq'
    · obtain ⟨k, z1, z2, z3⟩ := m7
      obtain ⟨k', w1, w2⟩ := hwN
      exact ⟨k + k', by rw [z1, w1, zn_add], by omega, by omega⟩
    · by_cases e : x = p
      · subst e
        rw [zuf_self, zuf_self, zuf_self, y16, y17, y18]
        exact ⟨rfl, rfl, rfl⟩
      · rw [zuf_ne _ _ e, zuf_ne _ _ e, zuf_ne _ _ e, hy _ (by omega) (by omega) (by omega) (by omega) (by omega) (by omega) (by omega), hy _ (by omega) (by omega) (by omega) (by omega) (by omega) (by omega) (by omega), hy _ (by omega) (by omega) (by omega) (by omega) (by omega) (by omega) (by omega)]
        exact m9 x (by omega)
    · by_cases e : q' = q
      · subst e
        rw [y8]
        exact ⟨fun _ => ⟨p, by omega, y16⟩, fun _ => hwk⟩
      · rw [hy _ (by omega) (by omega) (by omega) (by omega) (by omega) (by omega) (by omega), m10 q' hq']
        constructor
        · rintro ⟨x, y1, y2⟩
          exact ⟨x, by omega, by rw [hy _ (by omega) (by omega) (by omega) (by omega) (by omega) (by omega) (by omega)]; exact y2⟩
        · rintro ⟨x, y1, y2⟩
          by_cases ex : x = p
          · subst ex
            rw [y16] at y2
            exact absurd (zn_inj (by omega) (by omega) y2).symm e
          · rw [hy _ (by omega) (by omega) (by omega) (by omega) (by omega) (by omega) (by omega)] at y2
            exact ⟨x, by omega, y2⟩
end
