
/-! lines: the reference's reader: and, or, not. -/
section
variable {M0 M : zM} {σ : mS} {β : Nat → Int32} {L m c : Nat} {lm : Int32} {l8 : Nat → Int32} {i0 : Nat} {l0 : List gStp} {r : gRes}
theorem GS.put19 {d : Nat} {k : Nat → zI} {rt pc : Nat} {Lc : zL} {st : List Value} {n w : Nat} {Q : Option Value → Nat → Nat → zM → Prop} {z nx li : Nat} {v0 : Value} {sw : List (Int32 × Nat)} {nt x : Int32} (h : GS M0 σ β L c nt lm l8 i0 l0 r M) (hk : k pc = (.putfield z, nx, 12, 19, 0, li, v0, sw)) (hc : ∀ M', GS M0 σ β L c x lm l8 i0 l0 r M' → zR ztb d k rt nx Lc st n w M' Q) : zR ztb d k rt pc Lc (.int x :: .ref 287 :: st) n w M Q := by
  obtain ⟨hS, ⟨hr, h1, at_, tk, va, l9, hV, ha, hC, hR⟩ | ⟨hn, q, hq, at_, va, bg, l9, hR⟩⟩ := h
  · exact zR.pt19 hR hS hk (fun M' hR hS => hc M' ⟨hS, Or.inl ⟨hr, h1, at_, tk, va, l9, hV, ha, hC, hR⟩⟩)
  · exact zR.pt19 hR hS hk (fun M' hR hS => hc M' ⟨hS, Or.inr ⟨hn, q, hq, at_, va, bg, l9, hR⟩⟩)
end
section
variable {M0 : zM} {σ : mS} {β : Nat → Int32} {L m c : Nat} {nt : Int32}
theorem rlp_and (hE : EV σ β L m c) {q : Nat → List gStp → gRes} {D : Nat} (hq : GQ M0 σ β L m c (D + 5) 165 nt q) (hg : ∀ i l, i ≤ m → GD (stF β L) m i l (q i l)) {i0 : Nat} {l0 : List gStp} {lm : Int32} {l8 : Nat → Int32} {n w : Nat} (hl : 2 * l0.length ≤ stF β L i0) : ∀ (f : Nat) (M : zM) (r : gRes), m ≤ r.2.1 + f → GS M0 σ β L c nt lm l8 i0 l0 r M → GD (stF β L) m i0 l0 r → zR ztb (D + 6) kX12_and 0 4 [some (.ref 287)] [] n w M (fun v n' w' M' => v = none ∧ n = n' ∧ w = w' ∧ GS M0 σ β L c nt lm l8 i0 l0 (pLp (kdF β L) 13 q f r) M')
  | 0, M, r, hf, h, hd => by
    obtain ⟨fk, fp, at_, tk, va, bg, cd, l9, hR⟩ := h.ex
    have nk : ¬ (r.1 = true ∧ kdF β L r.2.1 = nI (10 + 3)) := by
      rintro ⟨-, z⟩
      have := (hE.1.key (k := 13) hd.2.1 z (by omega) (by omega)).1
      omega
    have fK := fun d n w => c_isKeyS (d := d) (n := n) (w := w) h (k := 3) (by omega)
    rw [if_neg nk] at fK
    rw [pLp]
    repeat (first | ((with_reducible refine zR.stored ?_); dsimp only [zsto, zclr, zset, zget, zc2, cond_false, cond_true]) | ((with_reducible refine zR.atLit ?_); first | refine zR.step rfl ?_ | refine zR.cv rfl rfl rfl hR.1 rfl rfl (zCalP.of (fK _ _ _) ?_)) | rw [zcc1] | rw [zcc2] | rw [zcc3] | rw [zcc4] | rw [zb1 (by decide)] | rw [zb2 (by decide)] | rw [zb3 (by decide)] | rw [zb4 (by decide)] | rw [zn1 (by decide)] | rw [zn2 (by decide)] | rw [zn3 (by decide)] | rw [zn4 (by decide)] | rw [ze1 (by decide)] | rw [ze2 (by decide)] | rw [zd1 (by decide)] | rw [zd2 (by decide)] | rw [zswy (by decide)] | rw [zswn (by decide)] | rw [zsw0])
    exact zR.ret rfl rfl ⟨rfl, rfl, rfl, h⟩
  | f + 1, M, r, hf, h, hd => by
    obtain ⟨fk, fp, at_, tk, va, bg, cd, l9, hR⟩ := h.ex
    have fK := fun d n w => c_isKeyS (d := d) (n := n) (w := w) h (k := 3) (by omega)
    rw [pLp]
    refine zR.step rfl ?_
    by_cases k : r.1 = true ∧ kdF β L r.2.1 = 13
    · rw [if_pos k]
      rw [if_pos (show r.1 = true ∧ kdF β L r.2.1 = nI (10 + 3) from k)] at fK
      have hk := hE.1.key (k := 13) hd.2.1 k.2 (by omega) (by omega)
      have g1 := hg (r.2.1 + 1) r.2.2 hk.1
      have gs := GD.st (key := 13) hk g1
      have hl2 : 2 * r.2.2.length ≤ stF β L r.2.1 := by have := hd.2.2.2; omega
      repeat (first | ((with_reducible refine zR.stored ?_); dsimp only [zsto, zclr, zset, zget, zc2, cond_false, cond_true]) | ((with_reducible refine zR.atLit ?_); first | refine zR.step rfl ?_ | refine zR.cv rfl rfl rfl hR.1 rfl rfl (zCalP.of (fK _ _ _) ?_)) | rw [zcc1] | rw [zcc2] | rw [zcc3] | rw [zcc4] | rw [zb1 (by decide)] | rw [zb2 (by decide)] | rw [zb3 (by decide)] | rw [zb4 (by decide)] | rw [zn1 (by decide)] | rw [zn2 (by decide)] | rw [zn3 (by decide)] | rw [zn4 (by decide)] | rw [ze1 (by decide)] | rw [ze2 (by decide)] | rw [zd1 (by decide)] | rw [zd2 (by decide)] | rw [zswy (by decide)] | rw [zswn (by decide)] | rw [zsw0])
      refine zR.cv rfl rfl rfl hR.1 rfl rfl (zR.mono (c_nextS (d := D + 2) hE h k.1 (by rw [k.2]; decide) (by rw [k.2]; decide) (by rw [k.2]; decide) hk.1) (fun v n1 w1 M1 hv => ?_))
      obtain ⟨rfl, rfl, rfl, hG1⟩ := hv
      repeat (first | ((with_reducible refine zR.stored ?_); dsimp only [zsto, zclr, zset, zget, zc2, cond_false, cond_true]) | ((with_reducible refine zR.atLit ?_); first | refine zR.step rfl ?_) | rw [zcc1] | rw [zcc2] | rw [zcc3] | rw [zcc4])
      refine zR.cs rfl rfl rfl rfl rfl (zR.mono (hq M1 _ _ _ _ _ _ hk.1 (by omega) hG1) (fun v n1 w1 M2 hv => ?_))
      obtain ⟨rfl, rfl, rfl, hG2⟩ := hv
      obtain ⟨x, hx⟩ := hG2.h287
      repeat (first | ((with_reducible refine zR.stored ?_); dsimp only [zsto, zclr, zset, zget, zc2, cond_false, cond_true]) | ((with_reducible refine zR.atLit ?_); first | refine zR.step rfl ?_) | rw [zcc1] | rw [zcc2] | rw [zcc3] | rw [zcc4])
      refine zR.cv rfl rfl rfl hx rfl rfl (zR.mono (c_putS (op := 13) (cd := 11) hE hG2 hk.2 hl2 g1 rfl) (fun v n1 w1 M3 hv => ?_))
      obtain ⟨rfl, rfl, rfl, hG3⟩ := hv
      repeat (first | with_reducible refine zR.hold (pc := 4) ?_ | ((with_reducible refine zR.stored ?_); dsimp only [zsto, zclr, zset, zget, zc2, cond_false, cond_true]) | ((with_reducible refine zR.atLit ?_); first | refine zR.step rfl ?_) | rw [zcc1] | rw [zcc2] | rw [zcc3] | rw [zcc4])
      exact ⟨trivial, rlp_and hE hq hg hl f M3 _ (by have := gs.1; have := g1.1; show m ≤ (q (r.2.1 + 1) r.2.2).2.1 + f; omega) (hG3.tr hd) (hd.tr gs)⟩
    · rw [if_neg k]
      rw [if_neg (show ¬ (r.1 = true ∧ kdF β L r.2.1 = nI (10 + 3)) from k)] at fK
      repeat (first | ((with_reducible refine zR.stored ?_); dsimp only [zsto, zclr, zset, zget, zc2, cond_false, cond_true]) | ((with_reducible refine zR.atLit ?_); first | refine zR.step rfl ?_ | refine zR.cv rfl rfl rfl hR.1 rfl rfl (zCalP.of (fK _ _ _) ?_)) | rw [zcc1] | rw [zcc2] | rw [zcc3] | rw [zcc4] | rw [zb1 (by decide)] | rw [zb2 (by decide)] | rw [zb3 (by decide)] | rw [zb4 (by decide)] | rw [zn1 (by decide)] | rw [zn2 (by decide)] | rw [zn3 (by decide)] | rw [zn4 (by decide)] | rw [ze1 (by decide)] | rw [ze2 (by decide)] | rw [zd1 (by decide)] | rw [zd2 (by decide)] | rw [zswy (by decide)] | rw [zswn (by decide)] | rw [zsw0])
      exact zR.ret rfl rfl ⟨rfl, rfl, rfl, h⟩
theorem c_andS (hE : EV σ β L m c) {q : Nat → List gStp → gRes} {D : Nat} (hq : GQ M0 σ β L m c (D + 5) 165 nt q) (hg : ∀ i l, i ≤ m → GD (stF β L) m i l (q i l)) : GQ M0 σ β L m c (D + 6) 164 nt (fun i l => pLp (kdF β L) 13 q 200 (q i l)) := by
  intro M i l lm l8 n w hi hl h
  show zR ztb _ kX12_and 0 0 [some (.ref 287)] [] _ _ _ _
  repeat (first | ((with_reducible refine zR.stored ?_); dsimp only [zsto, zclr, zset, zget, zc2, cond_false, cond_true]) | ((with_reducible refine zR.atLit ?_); first | refine zR.step rfl ?_) | rw [zcc1] | rw [zcc2] | rw [zcc3] | rw [zcc4])
  refine zR.cs rfl rfl rfl rfl rfl (zR.mono (hq M _ _ _ _ _ _ hi hl h) (fun v n1 w1 M1 hv => ?_))
  obtain ⟨rfl, rfl, rfl, hG⟩ := hv
  have := hE.1.2.2.1
  exact rlp_and hE hq hg hl 200 M1 _ (by omega) hG (hg i l hi)
theorem rlp_or (hE : EV σ β L m c) {q : Nat → List gStp → gRes} {D : Nat} (hq : GQ M0 σ β L m c (D + 5) 164 nt q) (hg : ∀ i l, i ≤ m → GD (stF β L) m i l (q i l)) {i0 : Nat} {l0 : List gStp} {lm : Int32} {l8 : Nat → Int32} {n w : Nat} (hl : 2 * l0.length ≤ stF β L i0) : ∀ (f : Nat) (M : zM) (r : gRes), m ≤ r.2.1 + f → GS M0 σ β L c nt lm l8 i0 l0 r M → GD (stF β L) m i0 l0 r → zR ztb (D + 6) kX12_or 0 4 [some (.ref 287)] [] n w M (fun v n' w' M' => v = none ∧ n = n' ∧ w = w' ∧ GS M0 σ β L c nt lm l8 i0 l0 (pLp (kdF β L) 14 q f r) M')
  | 0, M, r, hf, h, hd => by
    obtain ⟨fk, fp, at_, tk, va, bg, cd, l9, hR⟩ := h.ex
    have nk : ¬ (r.1 = true ∧ kdF β L r.2.1 = nI (10 + 4)) := by
      rintro ⟨-, z⟩
      have := (hE.1.key (k := 14) hd.2.1 z (by omega) (by omega)).1
      omega
    have fK := fun d n w => c_isKeyS (d := d) (n := n) (w := w) h (k := 4) (by omega)
    rw [if_neg nk] at fK
    rw [pLp]
    repeat (first | ((with_reducible refine zR.stored ?_); dsimp only [zsto, zclr, zset, zget, zc2, cond_false, cond_true]) | ((with_reducible refine zR.atLit ?_); first | refine zR.step rfl ?_ | refine zR.cv rfl rfl rfl hR.1 rfl rfl (zCalP.of (fK _ _ _) ?_)) | rw [zcc1] | rw [zcc2] | rw [zcc3] | rw [zcc4] | rw [zb1 (by decide)] | rw [zb2 (by decide)] | rw [zb3 (by decide)] | rw [zb4 (by decide)] | rw [zn1 (by decide)] | rw [zn2 (by decide)] | rw [zn3 (by decide)] | rw [zn4 (by decide)] | rw [ze1 (by decide)] | rw [ze2 (by decide)] | rw [zd1 (by decide)] | rw [zd2 (by decide)] | rw [zswy (by decide)] | rw [zswn (by decide)] | rw [zsw0])
    exact zR.ret rfl rfl ⟨rfl, rfl, rfl, h⟩
  | f + 1, M, r, hf, h, hd => by
    obtain ⟨fk, fp, at_, tk, va, bg, cd, l9, hR⟩ := h.ex
    have fK := fun d n w => c_isKeyS (d := d) (n := n) (w := w) h (k := 4) (by omega)
    rw [pLp]
    refine zR.step rfl ?_
    by_cases k : r.1 = true ∧ kdF β L r.2.1 = 14
    · rw [if_pos k]
      rw [if_pos (show r.1 = true ∧ kdF β L r.2.1 = nI (10 + 4) from k)] at fK
      have hk := hE.1.key (k := 14) hd.2.1 k.2 (by omega) (by omega)
      have g1 := hg (r.2.1 + 1) r.2.2 hk.1
      have gs := GD.st (key := 14) hk g1
      have hl2 : 2 * r.2.2.length ≤ stF β L r.2.1 := by have := hd.2.2.2; omega
      repeat (first | ((with_reducible refine zR.stored ?_); dsimp only [zsto, zclr, zset, zget, zc2, cond_false, cond_true]) | ((with_reducible refine zR.atLit ?_); first | refine zR.step rfl ?_ | refine zR.cv rfl rfl rfl hR.1 rfl rfl (zCalP.of (fK _ _ _) ?_)) | rw [zcc1] | rw [zcc2] | rw [zcc3] | rw [zcc4] | rw [zb1 (by decide)] | rw [zb2 (by decide)] | rw [zb3 (by decide)] | rw [zb4 (by decide)] | rw [zn1 (by decide)] | rw [zn2 (by decide)] | rw [zn3 (by decide)] | rw [zn4 (by decide)] | rw [ze1 (by decide)] | rw [ze2 (by decide)] | rw [zd1 (by decide)] | rw [zd2 (by decide)] | rw [zswy (by decide)] | rw [zswn (by decide)] | rw [zsw0])
      refine zR.cv rfl rfl rfl hR.1 rfl rfl (zR.mono (c_nextS (d := D + 2) hE h k.1 (by rw [k.2]; decide) (by rw [k.2]; decide) (by rw [k.2]; decide) hk.1) (fun v n1 w1 M1 hv => ?_))
      obtain ⟨rfl, rfl, rfl, hG1⟩ := hv
      repeat (first | ((with_reducible refine zR.stored ?_); dsimp only [zsto, zclr, zset, zget, zc2, cond_false, cond_true]) | ((with_reducible refine zR.atLit ?_); first | refine zR.step rfl ?_) | rw [zcc1] | rw [zcc2] | rw [zcc3] | rw [zcc4])
      refine zR.cs rfl rfl rfl rfl rfl (zR.mono (hq M1 _ _ _ _ _ _ hk.1 (by omega) hG1) (fun v n1 w1 M2 hv => ?_))
      obtain ⟨rfl, rfl, rfl, hG2⟩ := hv
      obtain ⟨x, hx⟩ := hG2.h287
      repeat (first | ((with_reducible refine zR.stored ?_); dsimp only [zsto, zclr, zset, zget, zc2, cond_false, cond_true]) | ((with_reducible refine zR.atLit ?_); first | refine zR.step rfl ?_) | rw [zcc1] | rw [zcc2] | rw [zcc3] | rw [zcc4])
      refine zR.cv rfl rfl rfl hx rfl rfl (zR.mono (c_putS (op := 14) (cd := 12) hE hG2 hk.2 hl2 g1 rfl) (fun v n1 w1 M3 hv => ?_))
      obtain ⟨rfl, rfl, rfl, hG3⟩ := hv
      repeat (first | with_reducible refine zR.hold (pc := 4) ?_ | ((with_reducible refine zR.stored ?_); dsimp only [zsto, zclr, zset, zget, zc2, cond_false, cond_true]) | ((with_reducible refine zR.atLit ?_); first | refine zR.step rfl ?_) | rw [zcc1] | rw [zcc2] | rw [zcc3] | rw [zcc4])
      exact ⟨trivial, rlp_or hE hq hg hl f M3 _ (by have := gs.1; have := g1.1; show m ≤ (q (r.2.1 + 1) r.2.2).2.1 + f; omega) (hG3.tr hd) (hd.tr gs)⟩
    · rw [if_neg k]
      rw [if_neg (show ¬ (r.1 = true ∧ kdF β L r.2.1 = nI (10 + 4)) from k)] at fK
      repeat (first | ((with_reducible refine zR.stored ?_); dsimp only [zsto, zclr, zset, zget, zc2, cond_false, cond_true]) | ((with_reducible refine zR.atLit ?_); first | refine zR.step rfl ?_ | refine zR.cv rfl rfl rfl hR.1 rfl rfl (zCalP.of (fK _ _ _) ?_)) | rw [zcc1] | rw [zcc2] | rw [zcc3] | rw [zcc4] | rw [zb1 (by decide)] | rw [zb2 (by decide)] | rw [zb3 (by decide)] | rw [zb4 (by decide)] | rw [zn1 (by decide)] | rw [zn2 (by decide)] | rw [zn3 (by decide)] | rw [zn4 (by decide)] | rw [ze1 (by decide)] | rw [ze2 (by decide)] | rw [zd1 (by decide)] | rw [zd2 (by decide)] | rw [zswy (by decide)] | rw [zswn (by decide)] | rw [zsw0])
      exact zR.ret rfl rfl ⟨rfl, rfl, rfl, h⟩
theorem c_orS (hE : EV σ β L m c) {q : Nat → List gStp → gRes} {D : Nat} (hq : GQ M0 σ β L m c (D + 5) 164 nt q) (hg : ∀ i l, i ≤ m → GD (stF β L) m i l (q i l)) : GQ M0 σ β L m c (D + 6) 163 nt (fun i l => pLp (kdF β L) 14 q 200 (q i l)) := by
  intro M i l lm l8 n w hi hl h
  show zR ztb _ kX12_or 0 0 [some (.ref 287)] [] _ _ _ _
  repeat (first | ((with_reducible refine zR.stored ?_); dsimp only [zsto, zclr, zset, zget, zc2, cond_false, cond_true]) | ((with_reducible refine zR.atLit ?_); first | refine zR.step rfl ?_) | rw [zcc1] | rw [zcc2] | rw [zcc3] | rw [zcc4])
  refine zR.cs rfl rfl rfl rfl rfl (zR.mono (hq M _ _ _ _ _ _ hi hl h) (fun v n1 w1 M1 hv => ?_))
  obtain ⟨rfl, rfl, rfl, hG⟩ := hv
  have := hE.1.2.2.1
  exact rlp_or hE hq hg hl 200 M1 _ (by omega) hG (hg i l hi)
end
