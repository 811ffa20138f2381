
/-! lines: the reference's reader: not. -/
section
variable {M0 : zM} {σ : mS} {β : Nat → Int32} {L m c : Nat}
/-- the end of not -/
theorem nt_end {M : zM} {i : Nat} {l : List gStp} {r : gRes} {lm : Int32} {l8 : Nat → Int32} {e D n w : Nat} (h : GS M0 σ β L c (nI (e + 1)) lm l8 i l r M) : zR ztb D kX12_not 0 85 [some (.ref 287)] [] n w M (fun v n' w' M' => v = none ∧ n = n' ∧ w = w' ∧ GS M0 σ β L c (nI e) lm l8 i l r M') := by
  obtain ⟨fk, fp, at_, tk, va, bg, cd, l9, hR⟩ := h.ex
  repeat (first | ((with_reducible refine zR.stored ?_); dsimp only [zsto, zclr, zset, zget, zc2, cond_false, cond_true]) | ((with_reducible refine zR.atLit ?_); first | refine zR.step rfl ?_ | refine zR.getf rfl hR.po rfl ?_) | rw [zcc1] | rw [zcc2] | rw [zcc3] | rw [zcc4])
  rw [show nI (e + 1) - 1 = nI e by rw [← zI_s]; exact Int32.add_sub_cancel _ _]
  refine GS.put19 h rfl (fun M1 h1 => ?_)
  repeat (first | ((with_reducible refine zR.stored ?_); dsimp only [zsto, zclr, zset, zget, zc2, cond_false, cond_true]) | ((with_reducible refine zR.atLit ?_); first | refine zR.step rfl ?_) | rw [zcc1] | rw [zcc2] | rw [zcc3] | rw [zcc4])
  exact zR.ret rfl rfl ⟨rfl, rfl, rfl, h1⟩
theorem c_notS (hE : EV σ β L m c) : ∀ (dl e D : Nat), dl + e = 6 → 3 * dl ≤ D → GQ M0 σ β L m c (D + 6) 165 (nI e) (pNot (kdF β L) (vaF β L) dl)
  | 0, e, D, he, hD => by
    intro M i l lm l8 n w hi hl h
    have e6 : nI e = 6 := by rw [show e = 6 by omega]; rfl
    rw [pNot]
    show zR ztb _ kX12_not 0 0 [some (.ref 287)] [] _ _ _ _
    -- behind the refusal
    have tl : ∀ M1, GS M0 σ β L c (nI e) lm l8 i l (false, i, l) M1 → zR ztb (D + 6) kX12_not 0 13 [some (.ref 287)] [] n w M1 (fun v n' w' M' => v = none ∧ n = n' ∧ w = w' ∧ GS M0 σ β L c (nI e) lm l8 i l (false, i, l) M') := by
      intro M1 h1
      obtain ⟨fk, fp, at_, tk, va, bg, cd, l9, hR⟩ := h1.ex
      repeat (first | ((with_reducible refine zR.stored ?_); dsimp only [zsto, zclr, zset, zget, zc2, cond_false, cond_true]) | ((with_reducible refine zR.atLit ?_); first | refine zR.step rfl ?_ | refine zR.getf rfl hR.po rfl ?_) | rw [zcc1] | rw [zcc2] | rw [zcc3] | rw [zcc4])
      rw [zI_s]
      refine GS.put19 h1 rfl (fun M2 h2 => ?_)
      have fK := fun d n w => c_isKeyS (d := d) (n := n) (w := w) h2 (k := 5) (by omega)
      have f6 := fun d n w => c_isSign_6 (d := d) (n := n) (w := w) h2
      rw [if_neg (fun z => absurd (show false = true from z.1) (by decide))] at fK f6
      obtain ⟨x, hx⟩ := h2.h287
      repeat (first | ((with_reducible refine zR.stored ?_); dsimp only [zsto, zclr, zset, zget, zc2, cond_false, cond_true]) | ((with_reducible refine zR.atLit ?_); first | refine zR.step rfl ?_ | refine zR.cv rfl rfl rfl hx rfl rfl (zCalP.of (fK _ _ _) ?_) | refine zR.cv rfl rfl rfl hx rfl rfl (zCalP.of (f6 _ _ _) ?_)) | rw [zcc1] | rw [zcc2] | rw [zcc3] | rw [zcc4] | rw [zb1 (by decide)] | rw [zb2 (by decide)] | rw [zb3 (by decide)] | rw [zb4 (by decide)] | rw [zn1 (by decide)] | rw [zn2 (by decide)] | rw [zn3 (by decide)] | rw [zn4 (by decide)] | rw [ze1 (by decide)] | rw [ze2 (by decide)] | rw [zd1 (by decide)] | rw [zd2 (by decide)] | rw [zswy (by decide)] | rw [zswn (by decide)] | rw [zsw0])
      refine zR.cv rfl rfl rfl hx rfl rfl (zR.mono (c_compared_d (d := D) hE h2 hi (Nat.le_refl _)) (fun v n1 w1 M3 hv => ?_))
      obtain ⟨rfl, rfl, rfl, h3⟩ := hv
      exact nt_end h3
    have h' := h
    obtain ⟨hS, ⟨-, -, at_, tk, va, l9, hV, ha, hC, hR⟩ | ⟨hn, k, hk, at_, va, bg, l9, hR⟩⟩ := h
    · repeat (first | ((with_reducible refine zR.stored ?_); dsimp only [zsto, zclr, zset, zget, zc2, cond_false, cond_true]) | ((with_reducible refine zR.atLit ?_); first | refine zR.step rfl ?_ | refine zR.getf rfl hR.po rfl ?_) | rw [zcc1] | rw [zcc2] | rw [zcc3] | rw [zcc4] | rw [ze1 (e6)] | rw [ze2 (e6)])
      refine zR.cv rfl rfl rfl hR.1 rfl rfl (zR.mono (c_cannot_l hR hS (fk_n1 hE (by show i ≤ m + 1; omega))) (fun v n1 w1 M1 hv => ?_))
      obtain ⟨rfl, rfl, rfl, hS1, hR1⟩ := hv
      exact tl M1 ⟨hS1, Or.inr ⟨fun z => absurd (show false = true from z.1) (by decide), _, Nat.le_refl _, _, _, _, _, hR1⟩⟩
    · repeat (first | ((with_reducible refine zR.stored ?_); dsimp only [zsto, zclr, zset, zget, zc2, cond_false, cond_true]) | ((with_reducible refine zR.atLit ?_); first | refine zR.step rfl ?_ | refine zR.getf rfl hR.po rfl ?_) | rw [zcc1] | rw [zcc2] | rw [zcc3] | rw [zcc4] | rw [ze1 (e6)] | rw [ze2 (e6)])
      refine zR.cv rfl rfl rfl hR.1 rfl rfl (zR.mono (c_cannot_d hR hS) (fun v n1 w1 M1 hv => ?_))
      obtain ⟨rfl, rfl, rfl, hS1, hR1⟩ := hv
      exact tl M1 ⟨hS1, Or.inr ⟨fun z => absurd (show false = true from z.1) (by decide), _, hk, _, _, _, _, hR1⟩⟩
  | dl + 1, e, 0, he, hD => absurd hD (by omega)
  | dl + 1, e, 1, he, hD => absurd hD (by omega)
  | dl + 1, e, 2, he, hD => absurd hD (by omega)
  | dl + 1, e, D + 3, he, hD => by
    have hN := c_notS hE dl (e + 1) (D + 2) (by omega) (by omega)
    have hg := GD.not (K := kdF β L) (V := vaF β L) (S := stF β L) (m := m) hE.1 dl
    have hO : GQ M0 σ β L m c (D + 8) 163 (nI (e + 1)) (pOr (kdF β L) (pNot (kdF β L) (vaF β L) dl)) := c_orS hE (D := D + 2) (c_andS hE (D := D + 1) (c_notS hE dl (e + 1) D (by omega) (by omega)) hg) (GD.and hE.1 hg)
    intro M i l lm l8 n w hi hl h
    have e6 : ¬ nI e = 6 := fun z => by have := zn_inj (b := 6) (by omega) (by omega) z; omega
    rw [pNot]
    dsimp only
    show zR ztb _ kX12_not 0 0 [some (.ref 287)] [] _ _ _ _
    obtain ⟨fk, fp, at_, tk, va, bg, cd, l9, hR⟩ := h.ex
    repeat (first | ((with_reducible refine zR.stored ?_); dsimp only [zsto, zclr, zset, zget, zc2, cond_false, cond_true]) | ((with_reducible refine zR.atLit ?_); first | refine zR.step rfl ?_ | refine zR.getf rfl hR.po rfl ?_) | rw [zcc1] | rw [zcc2] | rw [zcc3] | rw [zcc4] | rw [zd1 (e6)] | rw [zd2 (e6)])
    rw [zI_s]
    refine GS.put19 h rfl (fun M1 h1 => ?_)
    have fK := fun d n w => c_isKeyS (d := d) (n := n) (w := w) h1 (k := 5) (by omega)
    have f6 := fun d n w => c_isSign_6 (d := d) (n := n) (w := w) h1
    obtain ⟨x, hx⟩ := h1.h287
    by_cases q15 : kdF β L i = 15
    · rw [if_pos q15]
      rw [if_pos (show (true, i, l).1 = true ∧ kdF β L (true, i, l).2.1 = nI (10 + 5) from ⟨rfl, q15⟩)] at fK
      have hk := hE.1.key (k := 15) hi q15 (by omega) (by omega)
      repeat (first | ((with_reducible refine zR.stored ?_); dsimp only [zsto, zclr, zset, zget, zc2, cond_false, cond_true]) | ((with_reducible refine zR.atLit ?_); first | refine zR.step rfl ?_ | refine zR.cv rfl rfl rfl hx rfl rfl (zCalP.of (fK _ _ _) ?_)) | rw [zcc1] | rw [zcc2] | rw [zcc3] | rw [zcc4] | rw [zb1 (by decide)] | rw [zb2 (by decide)] | rw [zb3 (by decide)] | rw [zb4 (by decide)] | rw [zn1 (by decide)] | rw [zn2 (by decide)] | rw [zn3 (by decide)] | rw [zn4 (by decide)] | rw [ze1 (by decide)] | rw [ze2 (by decide)] | rw [zd1 (by decide)] | rw [zd2 (by decide)] | rw [zswy (by decide)] | rw [zswn (by decide)] | rw [zsw0])
      refine zR.cv rfl rfl rfl hx rfl rfl (zR.mono (c_nextS (d := D + 5) hE h1 rfl (by show ¬ kdF β L i = 0; rw [q15]; decide) (by show ¬ kdF β L i = 1; rw [q15]; decide) (by show ¬ kdF β L i = 3; rw [q15]; decide) hk.1) (fun v n1 w1 M2 hv => ?_))
      obtain ⟨rfl, rfl, rfl, h2⟩ := hv
      repeat (first | ((with_reducible refine zR.stored ?_); dsimp only [zsto, zclr, zset, zget, zc2, cond_false, cond_true]) | ((with_reducible refine zR.atLit ?_); first | refine zR.step rfl ?_) | rw [zcc1] | rw [zcc2] | rw [zcc3] | rw [zcc4])
      refine zR.cs rfl rfl rfl rfl rfl (zR.mono (hN M2 _ _ _ _ _ _ hk.1 (by show 2 * l.length ≤ stF β L (i + 1); omega) h2) (fun v n1 w1 M3 hv => ?_))
      obtain ⟨rfl, rfl, rfl, h3⟩ := hv
      obtain ⟨y, hy⟩ := h3.h287
      repeat (first | ((with_reducible refine zR.stored ?_); dsimp only [zsto, zclr, zset, zget, zc2, cond_false, cond_true]) | ((with_reducible refine zR.atLit ?_); first | refine zR.step rfl ?_) | rw [zcc1] | rw [zcc2] | rw [zcc3] | rw [zcc4])
      refine zR.cv rfl rfl rfl hy rfl rfl (zR.mono (c_putS (op := 15) (cd := 10) hE h3 hk.2 hl (hg (i + 1) l hk.1) rfl) (fun v n1 w1 M4 hv => ?_))
      obtain ⟨rfl, rfl, rfl, h4⟩ := hv
      repeat (first | with_reducible refine zR.hold (pc := 85) ?_ | ((with_reducible refine zR.stored ?_); dsimp only [zsto, zclr, zset, zget, zc2, cond_false, cond_true]) | ((with_reducible refine zR.atLit ?_); first | refine zR.step rfl ?_) | rw [zcc1] | rw [zcc2] | rw [zcc3] | rw [zcc4])
      exact ⟨trivial, nt_end h4⟩
    · rw [if_neg q15]
      rw [if_neg (show ¬ ((true, i, l).1 = true ∧ kdF β L (true, i, l).2.1 = nI (10 + 5)) from fun z => q15 z.2)] at fK
      by_cases q6 : kdF β L i = 6
      · rw [if_pos q6]
        rw [if_pos (show (true, i, l).1 = true ∧ kdF β L (true, i, l).2.1 = 6 from ⟨rfl, q6⟩)] at f6
        have hk := hE.1.oth (k := 6) hi q6 (by omega) (by omega)
        repeat (first | ((with_reducible refine zR.stored ?_); dsimp only [zsto, zclr, zset, zget, zc2, cond_false, cond_true]) | ((with_reducible refine zR.atLit ?_); first | refine zR.step rfl ?_ | refine zR.cv rfl rfl rfl hx rfl rfl (zCalP.of (fK _ _ _) ?_) | refine zR.cv rfl rfl rfl hx rfl rfl (zCalP.of (f6 _ _ _) ?_)) | rw [zcc1] | rw [zcc2] | rw [zcc3] | rw [zcc4] | rw [zb1 (by decide)] | rw [zb2 (by decide)] | rw [zb3 (by decide)] | rw [zb4 (by decide)] | rw [zn1 (by decide)] | rw [zn2 (by decide)] | rw [zn3 (by decide)] | rw [zn4 (by decide)] | rw [ze1 (by decide)] | rw [ze2 (by decide)] | rw [zd1 (by decide)] | rw [zd2 (by decide)] | rw [zswy (by decide)] | rw [zswn (by decide)] | rw [zsw0])
        refine zR.cv rfl rfl rfl hx rfl rfl (zR.mono (c_nextS (d := D + 5) hE h1 rfl (by show ¬ kdF β L i = 0; rw [q6]; decide) (by show ¬ kdF β L i = 1; rw [q6]; decide) (by show ¬ kdF β L i = 3; rw [q6]; decide) hk.1) (fun v n1 w1 M2 hv => ?_))
        obtain ⟨rfl, rfl, rfl, h2⟩ := hv
        repeat (first | ((with_reducible refine zR.stored ?_); dsimp only [zsto, zclr, zset, zget, zc2, cond_false, cond_true]) | ((with_reducible refine zR.atLit ?_); first | refine zR.step rfl ?_) | rw [zcc1] | rw [zcc2] | rw [zcc3] | rw [zcc4])
        refine zR.cs rfl rfl rfl rfl rfl (zR.mono (hO M2 _ _ _ _ _ _ hk.1 (by show 2 * l.length ≤ stF β L (i + 1); omega) h2) (fun v n1 w1 M3 hv => ?_))
        obtain ⟨rfl, rfl, rfl, h3⟩ := hv
        have go := GD.or hE.1 hg (i + 1) l hk.1
        dsimp only at h3
        generalize pOr (kdF β L) (pNot (kdF β L) (vaF β L) dl) (i + 1) l = r at h3 go ⊢
        obtain ⟨y, hy⟩ := h3.h287
        have f7 := fun d n w => c_isSign_7 (d := d) (n := n) (w := w) h3
        repeat (first | ((with_reducible refine zR.stored ?_); dsimp only [zsto, zclr, zset, zget, zc2, cond_false, cond_true]) | ((with_reducible refine zR.atLit ?_); first | refine zR.step rfl ?_ | refine zR.cv rfl rfl rfl hy rfl rfl (zCalP.of (f7 _ _ _) ?_)) | rw [zcc1] | rw [zcc2] | rw [zcc3] | rw [zcc4])
        obtain ⟨g1, g2, g3, g4⟩ := go
        refine zR.cv rfl rfl rfl hy rfl rfl (zR.mono (c_needS (d := D + 4) (P := kdF β L r.2.1 = 7) hE h3 (fun z => ⟨by rw [z]; decide, by rw [z]; decide, by rw [z]; decide, hE.1.oth (k := 7) g2 z (by omega) (by omega)⟩) g2 g4) (fun v n1 w1 M4 hv => ?_))
        obtain ⟨rfl, rfl, rfl, h4⟩ := hv
        have ec : (if r.1 = true ∧ kdF β L r.2.1 = 7 then (true, r.2.1 + 1, r.2.2) else (false, r.2.1, r.2.2)) = pCl (kdF β L) r := by
          unfold pCl
          obtain ⟨b, j, l'⟩ := r
          cases b with
          | false => rw [if_neg (fun z => absurd (show false = true from z.1) (by decide)), if_neg (fun z => absurd (show false = true from z) (by decide))]
          | true =>
            by_cases q7 : kdF β L j = 7
            · rw [if_pos ⟨rfl, q7⟩, if_pos rfl, if_pos q7]
            · rw [if_neg (fun z => q7 z.2), if_pos rfl, if_neg q7]
        rw [ec] at h4
        repeat (first | with_reducible refine zR.hold (pc := 85) ?_ | ((with_reducible refine zR.stored ?_); dsimp only [zsto, zclr, zset, zget, zc2, cond_false, cond_true]) | ((with_reducible refine zR.atLit ?_); first | refine zR.step rfl ?_) | rw [zcc1] | rw [zcc2] | rw [zcc3] | rw [zcc4])
        exact ⟨trivial, nt_end (h4.wk hk.2)⟩
      · rw [if_neg q6]
        rw [if_neg (show ¬ ((true, i, l).1 = true ∧ kdF β L (true, i, l).2.1 = 6) from fun z => q6 z.2)] at f6
        repeat (first | ((with_reducible refine zR.stored ?_); dsimp only [zsto, zclr, zset, zget, zc2, cond_false, cond_true]) | ((with_reducible refine zR.atLit ?_); first | refine zR.step rfl ?_ | refine zR.cv rfl rfl rfl hx rfl rfl (zCalP.of (fK _ _ _) ?_) | refine zR.cv rfl rfl rfl hx rfl rfl (zCalP.of (f6 _ _ _) ?_)) | rw [zcc1] | rw [zcc2] | rw [zcc3] | rw [zcc4] | rw [zb1 (by decide)] | rw [zb2 (by decide)] | rw [zb3 (by decide)] | rw [zb4 (by decide)] | rw [zn1 (by decide)] | rw [zn2 (by decide)] | rw [zn3 (by decide)] | rw [zn4 (by decide)] | rw [ze1 (by decide)] | rw [ze2 (by decide)] | rw [zd1 (by decide)] | rw [zd2 (by decide)] | rw [zswy (by decide)] | rw [zswn (by decide)] | rw [zsw0])
        refine zR.cv rfl rfl rfl hx rfl rfl (zR.mono (c_compared (d := D + 3) hE M1 i l _ _ _ _ hi hl h1) (fun v n1 w1 M2 hv => ?_))
        obtain ⟨rfl, rfl, rfl, h2⟩ := hv
        exact nt_end h2
end
