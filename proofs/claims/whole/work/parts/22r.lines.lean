
/-! lines. -/
theorem lines_tp {M : zM} {t σ : mS} {tr : Option Nat} {tp : Nat} (hT : Tc M t tr) (r6 : t 0 3 = σ 12 6) (r7 : σ 12 6 = nI tp) (r7b : tp ≤ 200) (r7c : ∀ i, i < tp → t 1 i &&& 255 = σ 3 i) : ∃ β, RT σ β tp ∧ TP M β tp := by
  have hB : BT (fun i => if i < tp then σ 3 i else -1) tp := ⟨fun i hi => by
    dsimp only
    rw [if_pos hi, ← r7c i hi]
    exact an255 _, fun i hi => if_neg (by omega), r7b⟩
  refine ⟨fun i => if i < tp then σ 3 i else -1, ⟨r7, fun i hi => (if_pos hi).symm, hB⟩, ?_, ⟨t 1, hT.2.2.1, fun i hi => (r7c i hi).trans (if_pos hi).symm⟩, hB⟩
  rw [← r7, ← r6]
  exact hT.2.1
theorem o_lines {L : Nat} {xs : Nat → Int32} : op_lines (Inv L xs) := by
  intro  M σ n w hI
  have hI' := hI
  obtain ⟨t, tr, c0, c1, c2, k0, k1, k2, b0, b1, b2, l0, l1, l2, hR, ⟨hT, hG0, hG1, hG2⟩, hg, hk, ht, hx, hn⟩ := hI
  have h25 := hT.1
  have hg' := hg
  obtain ⟨nc, nh, nl, lm, wk, hN, ⟨hC, hCn⟩, hB, hL, hSt, hH, hW, hX⟩ := hg'
  obtain ⟨N1, N2, N3, N4, N5, N6, N7, N8, N9, N10, N11, N12, N13, N14, N15, N16, N17⟩ := hN
  have ht' := ht
  obtain ⟨-, -, -, -, -, r6, ⟨tp, r7, r7b, r7c⟩, -⟩ := ht'
  obtain ⟨β, hRT, hTP⟩ := lines_tp hT r6 r7 r7b r7c
  refine zR.mono (c_linesC (d := 973) hT hG0 (SW.of hx) hTP hRT N1 N2 (N11.trans N1) hn) (fun v n1 w1 M1 hv => ?_)
  obtain ⟨m, hE, hv⟩ := hv
  rcases hv with ⟨ok, kz, z, hN20, hC100, rfl, rfl, hw, t', MA, r, ⟨rfl, hT', hG', hTF, hF⟩, hLc, hl, hs⟩ | ⟨ok, kz, z, rfl, rfl, rfl, t', MA, rfl, hT', hG', hTF, hF⟩ | ⟨hno, rfl, rfl, rfl, t', MA, rfl, hT', hG', hTF, hF⟩
  · have hR1 : Rf (zup MA 25 (.inr (11, tob (tst t' 0)))) σ := Rf.out ⟨by rw [hF _ (by omega) (by omega)]; exact hR.1, fun j hj => by rw [hF _ (by omega) (by omega)]; exact hR.2 j hj⟩ (by omega)
    refine ⟨_, rfl, ⟨_, hR1.1⟩, by rw [zup_ne _ _ (by omega), hF _ (by omega) (by omega)], zR.mono (c_linesR (d := 971) hE hR1) (fun v n2 w2 M2 hv => ?_)⟩
    obtain ⟨rfl, rfl, hv⟩ := hv
    rcases hv with ⟨-, -, -, l8, l9, q8, q9, rfl, hS2, at_, tk, va, bg, nt, y, y', cy, cy', hR2⟩ | ⟨-, -, z2, -⟩ | ⟨no, -⟩
    · have hA := ((AL.all (V := vaF β tp) hE.1 20 ((true, 0, []), []) (Nat.zero_le _) (fun _ => ⟨rfl, fun s hs => absurd hs List.not_mem_nil, fun k hk => absurd hk (Nat.not_lt_zero _)⟩)).2 ok)
      have y5 : y' 5 = nI (xL β tp).2.length := by rw [cy'.2 5 (by omega), cy.2 5 (by omega), zuf_self]
      have yk : ∀ k, k ≠ 5 → k < 2100 → y' k = σ 0 k := fun k a b => by rw [cy'.2 k (by omega), cy.2 k (by omega), zuf_ne _ _ a]
      have s8 : ∀ q, q < 4 * (xL β tp).2.length → y' (2100 + q) = l8 q := fun q hq => by rw [cy'.2 _ (by omega), cy.1 _ (by omega) (by omega), show 2100 + q - 2100 = q by omega]
      have s9 : ∀ q, q < 4 * (xL β tp).1.2.2.length → y' (2200 + q) = l9 q := fun q hq => by rw [cy'.1 _ (by omega) (by omega), show 2200 + q - 2200 = q by omega]
      have hV : ∀ q, q ≤ m → kdF β tp q = 3 → ∃ i, i < nc ∧ vaF β tp q = nI i := fun q h1 h2 => by
        obtain ⟨i, h3, h4⟩ := hE.2.1 q h2
        have h5 := fk_0 (K := kdF β tp) (V := vaF β tp) (S := stF β tp) (cc := nI nc) (m + 1) (congrArg Prod.fst z) q (by omega) h2
        rw [h4] at h5
        exact ⟨i, (zn_lt (by omega) (by omega)).mp h5, h4⟩
      have hX : PX MA (n + 8) n y' nc (xL β tp).2.length := PX.new hLc (by omega) (by omega) (Nat.le_refl _) hC100 rfl rfl hl hs hA q8 q9 s8 s9 hV
      refine ⟨rfl, by omega, by omega, _, inv_fin (M1 := MA) ⟨hT', hG', hG1.same (fun k a b => hF k (by omega) (by omega)), hG2.same (fun k a b => hF k (by omega) (by omega))⟩ ?_ ?_ ?_ (fun k hk => by rw [hF k (by omega) (by omega)]; exact hx k hk) (by omega) hR2 hS2⟩
      · exact hg.ln (fun k a b => hF k (by omega) b) (by omega) y5 hN20 yk (fun nc' h1 h2 => by
          have : nc' = nc := zn_inj (by omega) (by omega) (h1.symm.trans N1)
          rw [this]
          exact hX)
      · exact fun h => (hk h).mv (fun k a b => hF k (by omega) b) (by omega)
      · exact ht.ln hTF rfl rfl rfl rfl rfl rfl rfl rfl rfl rfl rfl
    · rw [z] at z2
      exact absurd z2 (by decide)
    · exact absurd ⟨ok, kz⟩ no
  · have hR1 : Rf (zup MA 25 (.inr (11, tob (tst t' 3)))) σ := Rf.out ⟨by rw [hF _ (by omega) (by omega)]; exact hR.1, fun j hj => by rw [hF _ (by omega) (by omega)]; exact hR.2 j hj⟩ (by omega)
    refine ⟨_, rfl, ⟨_, hR1.1⟩, by rw [zup_ne _ _ (by omega), hF _ (by omega) (by omega)], zR.mono (c_linesR (d := 971) hE hR1) (fun v n2 w2 M2 hv => ?_)⟩
    obtain ⟨rfl, rfl, hv⟩ := hv
    rcases hv with ⟨-, -, z2, -⟩ | ⟨-, -, -, rfl, hS2, at_, tk, va, bg, nt, lm', cd, l8, l9, hR2⟩ | ⟨no, -⟩
    · rw [z2] at z
      exact absurd z (by decide)
    · refine ⟨rfl, by omega, by omega, _, inv_fin (M1 := MA) ⟨hT', hG', hG1.same (fun k a b => hF k (by omega) (by omega)), hG2.same (fun k a b => hF k (by omega) (by omega))⟩ ?_ ?_ ?_ (fun k hk => by rw [hF k (by omega) (by omega)]; exact hx k hk) hn hR2 hS2⟩
      · exact hg.mv (fun k a b => hF k (by omega) b) (Nat.le_refl _)
      · exact fun h => (hk h).mv (fun k a b => hF k (by omega) b) (Nat.le_refl _)
      · exact ht.ln hTF rfl rfl rfl rfl rfl rfl rfl rfl rfl rfl rfl
    · exact absurd ⟨ok, kz⟩ no
  · have hR1 : Rf (zup MA 25 (.inr (11, tob (tst t' 3)))) σ := Rf.out ⟨by rw [hF _ (by omega) (by omega)]; exact hR.1, fun j hj => by rw [hF _ (by omega) (by omega)]; exact hR.2 j hj⟩ (by omega)
    refine ⟨_, rfl, ⟨_, hR1.1⟩, by rw [zup_ne _ _ (by omega), hF _ (by omega) (by omega)], zR.mono (c_linesR (d := 971) hE hR1) (fun v n2 w2 M2 hv => ?_)⟩
    obtain ⟨rfl, rfl, hv⟩ := hv
    rcases hv with ⟨ok, kz, -⟩ | ⟨ok, kz, -⟩ | ⟨-, rfl, hS2, at_, tk, va, bg, nt, lm', cd, l8, l9, hR2⟩
    · exact absurd ⟨ok, kz⟩ hno
    · exact absurd ⟨ok, kz⟩ hno
    · refine ⟨rfl, by omega, by omega, _, inv_fin (M1 := MA) ⟨hT', hG', hG1.same (fun k a b => hF k (by omega) (by omega)), hG2.same (fun k a b => hF k (by omega) (by omega))⟩ ?_ ?_ ?_ (fun k hk => by rw [hF k (by omega) (by omega)]; exact hx k hk) hn hR2 hS2⟩
      · exact hg.mv (fun k a b => hF k (by omega) b) (Nat.le_refl _)
      · exact fun h => (hk h).mv (fun k a b => hF k (by omega) b) (Nat.le_refl _)
      · exact ht.ln hTF rfl rfl rfl rfl rfl rfl rfl rfl rfl rfl rfl
