
/-! lines: the reference's readLine. -/
section
variable {M0 M : zM} {σ : mS} {β : Nat → Int32} {L m c : Nat} {l8 : Nat → Int32} {i : Nat} {l : List gStp} {d n w ln : Nat}
/-- what a line leaves in its row -/
def L8 (β : Nat → Int32) (L i ln : Nat) (l : List gStp) (r : gRes) (l8 l8' : Nat → Int32) : Prop := (∀ q, q < 4 * ln → l8' q = l8 q) ∧ (r.1 = true ∧ ¬ kdF β L r.2.1 = 1 → l8' (4 * ln) = (if kdF β L i = 10 then 1 else 0) ∧ l8' (4 * ln + 1) = vaF β L (i + 1) ∧ l8' (4 * ln + 2) = nI l.length ∧ l8' (4 * ln + 3) = nI r.2.2.length)
theorem c_readLineS (hE : EV σ β L m c) (hln : ln < 20) (h : GS M0 σ β L c (nI 0) (nI ln) l8 i l (true, i, l) M) (hi : i ≤ m) (hl : 2 * l.length ≤ stF β L i) : zCalP (d + 27) 167 [.ref 287] n w M (fun v n' w' M' => v = none ∧ n = n' ∧ w = w' ∧ ∃ l8', GS M0 σ β L c (nI 0) (nI (ln + 1)) l8' i l (pLn (kdF β L) (vaF β L) i l) M' ∧ L8 β L i ln l (pLn (kdF β L) (vaF β L) i l) l8 l8') := by
  have hz : (4 : Int32) * nI ln = nI (4 * ln) := by simp only [zn_lit, zn_mul]
  obtain ⟨fk, fp, at_, tk, va, bg, cd, l9, hR⟩ := h.ex
  have fK := fun d n w => c_isKeyS (d := d) (n := n) (w := w) h (k := 0) (by omega)
  show zR ztb _ kX12_readLine 0 0 [some (.ref 287), none] [] _ _ _ _
  repeat (first | ((with_reducible refine zR.stored ?_); dsimp only [zsto, zclr, zset, zget, zc2, cond_false, cond_true]) | ((with_reducible refine zR.atLit ?_); first | refine zR.step rfl ?_ | refine zR.getf rfl hR.po rfl ?_) | rw [zcc1] | rw [zcc2] | rw [zcc3] | rw [zcc4])
  rw [hz]
  -- a verb
  have vb : ∀ (M2 : zM) (y : Int32), (kdF β L i = 10 ∨ kdF β L i = 11) → y = (if kdF β L i = 10 then 1 else 0) → i + 1 ≤ m → stF β L i ≤ stF β L (i + 1) → GS M0 σ β L c (nI 0) (nI ln) (zuf l8 (4 * ln) y) i l (true, i + 1, l) M2 → zR ztb (d + 27) kX12_readLine 0 51 [some (.ref 287), some (.int (nI (4 * ln)))] [] n w M2 (fun v n' w' M' => v = none ∧ n = n' ∧ w = w' ∧ ∃ l8', GS M0 σ β L c (nI 0) (nI (ln + 1)) l8' i l (pLn (kdF β L) (vaF β L) i l) M' ∧ L8 β L i ln l (pLn (kdF β L) (vaF β L) i l) l8 l8') := by
    intro M2 y hv hy hi1 hs h2
    have ep : pLn (kdF β L) (vaF β L) i l = (if true = true ∧ kdF β L (i + 1) = 3 then pSm (kdF β L) (pWh (kdF β L) (vaF β L) (i + 1 + 1) l) else (false, i + 1, l)) := by
      unfold pLn
      rw [if_pos hv]
      by_cases q3 : kdF β L (i + 1) = 3
      · rw [if_pos q3, if_pos ⟨rfl, q3⟩]
      · rw [if_neg q3, if_neg (fun z => q3 z.2)]
    rw [ep]
    refine zR.mono (rn_t1 hE hln h2 ⟨by show i ≤ i + 1; omega, hi1, hs, by show 2 * l.length + stF β L i ≤ 2 * l.length + stF β L (i + 1); omega⟩ hl) (fun v n1 w1 M3 hv => ?_)
    obtain ⟨rfl, rfl, rfl, l8', h4, hq, hc⟩ := hv
    refine ⟨rfl, rfl, rfl, l8', h4, fun q hq' => by rw [hq q (by omega), zuf_ne _ _ (by omega)], fun hv => ?_⟩
    by_cases q3 : kdF β L (i + 1) = 3
    · rw [if_pos (show true = true ∧ kdF β L (i + 1) = 3 from ⟨rfl, q3⟩)] at hv ⊢
      exact ⟨by rw [hq _ (by omega), zuf_self]; exact hy, hc ⟨rfl, q3⟩ hv⟩
    · rw [if_neg (fun z => q3 z.2)] at hv
      exact absurd (show false = true from hv.1) (by decide)
  by_cases q10 : kdF β L i = 10
  · have hk := hE.1.key (k := 10) hi q10 (by omega) (by omega)
    rw [if_pos (show (true, i, l).1 = true ∧ kdF β L (true, i, l).2.1 = nI (10 + 0) from ⟨rfl, q10⟩)] at fK
    repeat (first | ((with_reducible refine zR.stored ?_); dsimp only [zsto, zclr, zset, zget, zc2, cond_false, cond_true]) | ((with_reducible refine zR.atLit ?_); first | refine zR.step rfl ?_ | refine zR.cv rfl rfl rfl hR.1 rfl rfl (zCalP.of (fK _ _ _) ?_)) | rw [zcc1] | rw [zcc2] | rw [zcc3] | rw [zcc4] | rw [zb1 (by decide)] | rw [zb2 (by decide)] | rw [zb3 (by decide)] | rw [zb4 (by decide)] | rw [zn1 (by decide)] | rw [zn2 (by decide)] | rw [zn3 (by decide)] | rw [zn4 (by decide)] | rw [ze1 (by decide)] | rw [ze2 (by decide)] | rw [zd1 (by decide)] | rw [zd2 (by decide)] | rw [zswy (by decide)] | rw [zswn (by decide)] | rw [zsw0])
    refine GS.st8 h rfl (i := 4 * ln) rfl (by omega) (fun M1 h1 => ?_)
    have fK1 := fun d n w => c_isKeyS (d := d) (n := n) (w := w) h1 (k := 0) (by omega)
    rw [if_pos (show (true, i, l).1 = true ∧ kdF β L (true, i, l).2.1 = nI (10 + 0) from ⟨rfl, q10⟩)] at fK1
    obtain ⟨y, hy⟩ := h1.h287
    repeat (first | ((with_reducible refine zR.stored ?_); dsimp only [zsto, zclr, zset, zget, zc2, cond_false, cond_true]) | ((with_reducible refine zR.atLit ?_); first | refine zR.step rfl ?_ | refine zR.cv rfl rfl rfl hy rfl rfl (zCalP.of (fK1 _ _ _) ?_)) | rw [zcc1] | rw [zcc2] | rw [zcc3] | rw [zcc4] | rw [zb1 (by decide)] | rw [zb2 (by decide)] | rw [zb3 (by decide)] | rw [zb4 (by decide)] | rw [zn1 (by decide)] | rw [zn2 (by decide)] | rw [zn3 (by decide)] | rw [zn4 (by decide)] | rw [ze1 (by decide)] | rw [ze2 (by decide)] | rw [zd1 (by decide)] | rw [zd2 (by decide)] | rw [zswy (by decide)] | rw [zswn (by decide)] | rw [zsw0])
    refine zR.cv rfl rfl rfl hy rfl rfl (zR.mono (c_need1 (d := d + 22) hE h1 rfl (by show ¬ kdF β L i = 0; rw [q10]; decide) (by show ¬ kdF β L i = 1; rw [q10]; decide) (by show ¬ kdF β L i = 3; rw [q10]; decide) ⟨hk.1, by show stF β L i ≤ stF β L (i + 1); omega⟩ (Nat.le_refl _)) (fun v n1 w1 M2 hv => ?_))
    obtain ⟨rfl, rfl, rfl, h2⟩ := hv
    exact vb M2 1 (Or.inl q10) (by rw [if_pos q10]) hk.1 (by omega) h2
  · rw [if_neg (show ¬ ((true, i, l).1 = true ∧ kdF β L (true, i, l).2.1 = nI (10 + 0)) from fun z => q10 z.2)] at fK
    repeat (first | ((with_reducible refine zR.stored ?_); dsimp only [zsto, zclr, zset, zget, zc2, cond_false, cond_true]) | ((with_reducible refine zR.atLit ?_); first | refine zR.step rfl ?_ | refine zR.cv rfl rfl rfl hR.1 rfl rfl (zCalP.of (fK _ _ _) ?_)) | rw [zcc1] | rw [zcc2] | rw [zcc3] | rw [zcc4] | rw [zb1 (by decide)] | rw [zb2 (by decide)] | rw [zb3 (by decide)] | rw [zb4 (by decide)] | rw [zn1 (by decide)] | rw [zn2 (by decide)] | rw [zn3 (by decide)] | rw [zn4 (by decide)] | rw [ze1 (by decide)] | rw [ze2 (by decide)] | rw [zd1 (by decide)] | rw [zd2 (by decide)] | rw [zswy (by decide)] | rw [zswn (by decide)] | rw [zsw0])
    refine GS.st8 h rfl (i := 4 * ln) rfl (by omega) (fun M1 h1 => ?_)
    have fK1 := fun d n w => c_isKeyS (d := d) (n := n) (w := w) h1 (k := 0) (by omega)
    rw [if_neg (show ¬ ((true, i, l).1 = true ∧ kdF β L (true, i, l).2.1 = nI (10 + 0)) from fun z => q10 z.2)] at fK1
    have fK2 := fun d n w => c_isKeyS (d := d) (n := n) (w := w) h1 (k := 1) (by omega)
    obtain ⟨y, hy⟩ := h1.h287
    by_cases q11 : kdF β L i = 11
    · have hk := hE.1.key (k := 11) hi q11 (by omega) (by omega)
      rw [if_pos (show (true, i, l).1 = true ∧ kdF β L (true, i, l).2.1 = nI (10 + 1) from ⟨rfl, q11⟩)] at fK2
      repeat (first | ((with_reducible refine zR.stored ?_); dsimp only [zsto, zclr, zset, zget, zc2, cond_false, cond_true]) | ((with_reducible refine zR.atLit ?_); first | refine zR.step rfl ?_ | refine zR.cv rfl rfl rfl hy rfl rfl (zCalP.of (fK1 _ _ _) ?_) | refine zR.cv rfl rfl rfl hy rfl rfl (zCalP.of (fK2 _ _ _) ?_)) | rw [zcc1] | rw [zcc2] | rw [zcc3] | rw [zcc4] | rw [zb1 (by decide)] | rw [zb2 (by decide)] | rw [zb3 (by decide)] | rw [zb4 (by decide)] | rw [zn1 (by decide)] | rw [zn2 (by decide)] | rw [zn3 (by decide)] | rw [zn4 (by decide)] | rw [ze1 (by decide)] | rw [ze2 (by decide)] | rw [zd1 (by decide)] | rw [zd2 (by decide)] | rw [zswy (by decide)] | rw [zswn (by decide)] | rw [zsw0])
      refine zR.cv rfl rfl rfl hy rfl rfl (zR.mono (c_need1 (d := d + 22) hE h1 rfl (by show ¬ kdF β L i = 0; rw [q11]; decide) (by show ¬ kdF β L i = 1; rw [q11]; decide) (by show ¬ kdF β L i = 3; rw [q11]; decide) ⟨hk.1, by show stF β L i ≤ stF β L (i + 1); omega⟩ (Nat.le_refl _)) (fun v n1 w1 M2 hv => ?_))
      obtain ⟨rfl, rfl, rfl, h2⟩ := hv
      exact vb M2 0 (Or.inr q11) (by rw [if_neg q10]) hk.1 (by omega) h2
    · rw [if_neg (show ¬ ((true, i, l).1 = true ∧ kdF β L (true, i, l).2.1 = nI (10 + 1)) from fun z => q11 z.2)] at fK2
      repeat (first | ((with_reducible refine zR.stored ?_); dsimp only [zsto, zclr, zset, zget, zc2, cond_false, cond_true]) | ((with_reducible refine zR.atLit ?_); first | refine zR.step rfl ?_ | refine zR.cv rfl rfl rfl hy rfl rfl (zCalP.of (fK1 _ _ _) ?_) | refine zR.cv rfl rfl rfl hy rfl rfl (zCalP.of (fK2 _ _ _) ?_)) | rw [zcc1] | rw [zcc2] | rw [zcc3] | rw [zcc4] | rw [zb1 (by decide)] | rw [zb2 (by decide)] | rw [zb3 (by decide)] | rw [zb4 (by decide)] | rw [zn1 (by decide)] | rw [zn2 (by decide)] | rw [zn3 (by decide)] | rw [zn4 (by decide)] | rw [ze1 (by decide)] | rw [ze2 (by decide)] | rw [zd1 (by decide)] | rw [zd2 (by decide)] | rw [zswy (by decide)] | rw [zswn (by decide)] | rw [zsw0])
      refine zR.cv rfl rfl rfl hy rfl rfl (zR.mono (c_need0 (d := d + 22) hE h1 hi (Nat.le_refl _)) (fun v n1 w1 M2 hv => ?_))
      obtain ⟨rfl, rfl, rfl, h2⟩ := hv
      have ep : pLn (kdF β L) (vaF β L) i l = (false, i, l) := by
        unfold pLn
        rw [if_neg (fun z => z.elim q10 q11)]
      rw [ep]
      refine zR.mono (rn_t1 hE hln h2 ⟨Nat.le_refl _, hi, Nat.le_refl _, Nat.le_refl _⟩ hl) (fun v n1 w1 M3 hv => ?_)
      obtain ⟨rfl, rfl, rfl, l8', h4, hq, hc⟩ := hv
      rw [if_neg (fun z => absurd z.1 (by decide))] at h4
      exact ⟨rfl, rfl, rfl, l8', h4, fun q hq' => by rw [hq q (by omega), zuf_ne _ _ (by omega)], fun hv => absurd (show false = true from hv.1) (by decide)⟩
end
