
/-! lines: the reference reads a line, all of it. -/
section
variable {M0 M : zM} {σ : mS} {β : Nat → Int32} {L m c : Nat} {l8 : Nat → Int32} {i0 : Nat} {l0 : List gStp} {r : gRes} {d n w ln : Nat}
/-- behind the crop -/
theorem rn_t2 (hE : EV σ β L m c) (hln : ln < 20) {b : Bool} {j : Nat} {l : List gStp} (h : GS M0 σ β L c (nI 0) (nI ln) l8 i0 l0 (b, j, l) M) (hg : GD (stF β L) m i0 l0 (b, j, l)) (hl : 2 * l0.length ≤ stF β L i0) : zR ztb (d + 27) kX12_readLine 0 75 [some (.ref 287), some (.int (nI (4 * ln)))] [] n w M (fun v n' w' M' => v = none ∧ n = n' ∧ w = w' ∧ ∃ x, GS M0 σ β L c (nI 0) (nI (ln + 1)) (zuf l8 (4 * ln + 3) x) i0 l0 (pSm (kdF β L) (if b = true then pWh (kdF β L) (vaF β L) j l else (false, j, l))) M' ∧ ((pSm (kdF β L) (if b = true then pWh (kdF β L) (vaF β L) j l else (false, j, l))).1 = true ∧ ¬ kdF β L (pSm (kdF β L) (if b = true then pWh (kdF β L) (vaF β L) j l else (false, j, l))).2.1 = 1 → x = nI (pSm (kdF β L) (if b = true then pWh (kdF β L) (vaF β L) j l else (false, j, l))).2.2.length)) := by
  have fK := fun d n w => c_isKeyS (d := d) (n := n) (w := w) h (k := 2) (by omega)
  obtain ⟨y, hy⟩ := h.h287
  obtain ⟨g1, g2, g3, g4⟩ := hg
  dsimp only at g1 g2 g3 g4
  by_cases q : b = true ∧ kdF β L j = 12
  · obtain ⟨rfl, q12⟩ := q
    rw [if_pos (show (true, j, l).1 = true ∧ kdF β L (true, j, l).2.1 = nI (10 + 2) from ⟨rfl, q12⟩)] at fK
    have hk := hE.1.key (k := 12) g2 q12 (by omega) (by omega)
    have hG := GD.not (K := kdF β L) (V := vaF β L) (S := stF β L) (m := m) hE.1 6
    have hO : GQ M0 σ β L m c (d + 26) 163 (nI 0) (pOr (kdF β L) (pNot (kdF β L) (vaF β L) 6)) := c_orS hE (D := d + 20) (c_andS hE (D := d + 19) (c_notS hE 6 0 (d + 18) (by omega) (by omega)) hG) (GD.and hE.1 hG)
    rw [if_pos rfl]
    unfold pWh
    rw [if_pos q12]
    repeat (first | ((with_reducible refine zR.stored ?_); dsimp only [zsto, zclr, zset, zget, zc2, cond_false, cond_true]) | ((with_reducible refine zR.atLit ?_); first | refine zR.step rfl ?_ | refine zR.cv rfl rfl rfl hy rfl rfl (zCalP.of (fK _ _ _) ?_)) | rw [zcc1] | rw [zcc2] | rw [zcc3] | rw [zcc4] | rw [zb1 (by decide)] | rw [zb2 (by decide)] | rw [zb3 (by decide)] | rw [zb4 (by decide)] | rw [zn1 (by decide)] | rw [zn2 (by decide)] | rw [zn3 (by decide)] | rw [zn4 (by decide)] | rw [ze1 (by decide)] | rw [ze2 (by decide)] | rw [zd1 (by decide)] | rw [zd2 (by decide)] | rw [zswy (by decide)] | rw [zswn (by decide)] | rw [zsw0])
    refine zR.cv rfl rfl rfl hy rfl rfl (zR.mono (c_nextS (d := d + 23) hE h rfl (by show ¬ kdF β L j = 0; rw [q12]; decide) (by show ¬ kdF β L j = 1; rw [q12]; decide) (by show ¬ kdF β L j = 3; rw [q12]; decide) hk.1) (fun v n1 w1 M2 hv => ?_))
    obtain ⟨rfl, rfl, rfl, h2⟩ := hv
    repeat (first | ((with_reducible refine zR.stored ?_); dsimp only [zsto, zclr, zset, zget, zc2, cond_false, cond_true]) | ((with_reducible refine zR.atLit ?_); first | refine zR.step rfl ?_) | rw [zcc1] | rw [zcc2] | rw [zcc3] | rw [zcc4])
    refine zR.cs rfl rfl rfl rfl rfl (zR.mono (hO M2 _ _ _ _ _ _ hk.1 (by show 2 * l.length ≤ stF β L (j + 1); omega) h2) (fun v n1 w1 M3 hv => ?_))
    obtain ⟨rfl, rfl, rfl, h3⟩ := hv
    have go := GD.or hE.1 hG (j + 1) l hk.1
    exact rn_t3 (d := d + 22) hE hln (h3.to (by show 2 * l.length + stF β L i0 ≤ 2 * l0.length + stF β L (j + 1); omega)) (by obtain ⟨a1, a2, a3, a4⟩ := go; exact ⟨by omega, a2, by omega, by omega⟩)
  · rw [if_neg (show ¬ ((b, j, l).1 = true ∧ kdF β L (b, j, l).2.1 = nI (10 + 2)) from q)] at fK
    have e : (if b = true then pWh (kdF β L) (vaF β L) j l else (false, j, l)) = (b, j, l) := by
      cases b with
      | false => rw [if_neg (by decide)]
      | true =>
        unfold pWh
        rw [if_pos rfl, if_neg (fun z => q ⟨rfl, z⟩)]
    rw [e]
    repeat (first | with_reducible refine zR.hold (pc := 91) ?_ | ((with_reducible refine zR.stored ?_); dsimp only [zsto, zclr, zset, zget, zc2, cond_false, cond_true]) | ((with_reducible refine zR.atLit ?_); first | refine zR.step rfl ?_ | refine zR.cv rfl rfl rfl hy rfl rfl (zCalP.of (fK _ _ _) ?_)) | rw [zcc1] | rw [zcc2] | rw [zcc3] | rw [zcc4] | rw [zb1 (by decide)] | rw [zb2 (by decide)] | rw [zb3 (by decide)] | rw [zb4 (by decide)] | rw [zn1 (by decide)] | rw [zn2 (by decide)] | rw [zn3 (by decide)] | rw [zn4 (by decide)] | rw [ze1 (by decide)] | rw [ze2 (by decide)] | rw [zd1 (by decide)] | rw [zd2 (by decide)] | rw [zswy (by decide)] | rw [zswn (by decide)] | rw [zsw0])
    exact ⟨trivial, rn_t3 (d := d + 22) hE hln h ⟨g1, g2, g3, g4⟩⟩
/-- behind the verb -/
theorem rn_t1 (hE : EV σ β L m c) (hln : ln < 20) {b : Bool} {j : Nat} {l : List gStp} (h : GS M0 σ β L c (nI 0) (nI ln) l8 i0 l0 (b, j, l) M) (hg : GD (stF β L) m i0 l0 (b, j, l)) (hl : 2 * l0.length ≤ stF β L i0) : zR ztb (d + 27) kX12_readLine 0 51 [some (.ref 287), some (.int (nI (4 * ln)))] [] n w M (fun v n' w' M' => v = none ∧ n = n' ∧ w = w' ∧ ∃ l8', GS M0 σ β L c (nI 0) (nI (ln + 1)) l8' i0 l0 (if b = true ∧ kdF β L j = 3 then pSm (kdF β L) (pWh (kdF β L) (vaF β L) (j + 1) l) else (false, j, l)) M' ∧ (∀ q, q < 4 * ln + 1 → l8' q = l8 q) ∧ (b = true ∧ kdF β L j = 3 → (pSm (kdF β L) (pWh (kdF β L) (vaF β L) (j + 1) l)).1 = true ∧ ¬ kdF β L (pSm (kdF β L) (pWh (kdF β L) (vaF β L) (j + 1) l)).2.1 = 1 → l8' (4 * ln + 1) = vaF β L j ∧ l8' (4 * ln + 2) = nI l.length ∧ l8' (4 * ln + 3) = nI (pSm (kdF β L) (pWh (kdF β L) (vaF β L) (j + 1) l)).2.2.length)) := by
  obtain ⟨fk, fp, at_, tk, va, bg, cd, l9, hR⟩ := h.ex
  obtain ⟨g1, g2, g3, g4⟩ := hg
  dsimp only at g1 g2 g3 g4
  repeat (first | ((with_reducible refine zR.stored ?_); dsimp only [zsto, zclr, zset, zget, zc2, cond_false, cond_true]) | ((with_reducible refine zR.atLit ?_); first | refine zR.step rfl ?_ | refine zR.getf rfl hR.po rfl ?_) | rw [zcc1] | rw [zcc2] | rw [zcc3] | rw [zcc4])
  refine zR.cv rfl rfl rfl hR.1 rfl rfl (zR.mono (c_cropS (d := d + 22) hE h g2 g4) (fun v n1 w1 M1 hv => ?_))
  obtain ⟨rfl, rfl, rfl, h1⟩ := hv
  dsimp only at h1 ⊢
  refine GS.st8 h1 rfl (i := 4 * ln + 1) (by first | with_reducible rfl | (simp only [zn_lit, zn_add, zn_mul] <;> exact congrArg nI (by omega)) | rfl) (by omega) (fun M2 h2 => ?_)
  obtain ⟨fk, fp, at_, tk, va, bg, cd, l9, hR, hcd⟩ := h2.exl
  repeat (first | ((with_reducible refine zR.stored ?_); dsimp only [zsto, zclr, zset, zget, zc2, cond_false, cond_true]) | ((with_reducible refine zR.atLit ?_); first | refine zR.step rfl ?_ | refine zR.getf rfl hR.po rfl ?_) | rw [zcc1] | rw [zcc2] | rw [zcc3] | rw [zcc4])
  refine GS.st8 h2 rfl (i := 4 * ln + 2) (by first | with_reducible rfl | (simp only [zn_lit, zn_add, zn_mul] <;> exact congrArg nI (by omega)) | rfl) (by omega) (fun M3 h3 => ?_)
  by_cases q : b = true ∧ kdF β L j = 3
  · rw [if_pos q, if_pos q] at h3
    rw [if_pos q] at hcd ⊢
    have hk := hE.1.oth (k := 3) g2 q.2 (by omega) (by omega)
    refine zR.mono (rn_t2 hE hln h3 ⟨by show i0 ≤ j + 1; omega, hk.1, by show stF β L i0 ≤ stF β L (j + 1); omega, by show 2 * l.length + stF β L i0 ≤ 2 * l0.length + stF β L (j + 1); omega⟩ hl) (fun v n1 w1 M4 hv => ?_)
    obtain ⟨rfl, rfl, rfl, x, h4, hx⟩ := hv
    rw [if_pos rfl] at h4 hx
    refine ⟨rfl, rfl, rfl, _, h4, fun p hp => by rw [zuf_ne _ _ (by omega), zuf_ne _ _ (by omega), zuf_ne _ _ (by omega)], fun _ hv => ⟨?_, ?_, ?_⟩⟩
    · rw [zuf_ne _ _ (by omega), zuf_ne _ _ (by omega), zuf_self]
    · rw [zuf_ne _ _ (by omega), zuf_self]
      refine hcd ⟨rfl, fun z => ?_⟩
      have z' : kdF β L (j + 1) = 1 := z
      have e : pSm (kdF β L) (pWh (kdF β L) (vaF β L) (j + 1) l) = (false, j + 1, l) := by
        unfold pWh pSm
        rw [if_neg (show ¬ kdF β L (j + 1) = 12 by rw [z']; decide)]
        dsimp only
        rw [if_pos rfl, if_neg (show ¬ kdF β L (j + 1) = 8 by rw [z']; decide)]
      rw [e] at hv
      exact absurd (show false = true from hv.1) (by decide)
    · rw [zuf_self]
      exact hx hv
  · rw [if_neg q, if_neg q] at h3
    rw [if_neg q] at hcd ⊢
    refine zR.mono (rn_t2 hE hln h3 ⟨g1, g2, g3, g4⟩ hl) (fun v n1 w1 M4 hv => ?_)
    obtain ⟨rfl, rfl, rfl, x, h4, hx⟩ := hv
    have e : pSm (kdF β L) (if false = true then pWh (kdF β L) (vaF β L) j l else (false, j, l)) = (false, j, l) := by
      rw [if_neg (by decide)]
      unfold pSm
      rw [if_neg (fun z => absurd (show false = true from z) (by decide))]
    rw [e] at h4
    exact ⟨rfl, rfl, rfl, _, h4, fun p hp => by rw [zuf_ne _ _ (by omega), zuf_ne _ _ (by omega), zuf_ne _ _ (by omega)], fun z => absurd z q⟩
end
