
/-! lines: the reference reads a line. -/
section
variable {M0 M : zM} {σ : mS} {β : Nat → Int32} {L m c : Nat} {nt lm : Int32} {l8 : Nat → Int32} {i0 : Nat} {l0 : List gStp} {r : gRes}
theorem GS.put20 {d : Nat} {k : Nat → zI} {rt pc : Nat} {Lc : zL} {st : List Value} {n w : Nat} {Q : Option Value → Nat → Nat → zM → Prop} {z nx li : Nat} {v0 : Value} {sw : List (Int32 × Nat)} {x : Int32} (h : GS M0 σ β L c nt lm l8 i0 l0 r M) (hk : k pc = (.putfield z, nx, 12, 20, 0, li, v0, sw)) (hc : ∀ M', GS M0 σ β L c nt x l8 i0 l0 r M' → zR ztb d k rt nx Lc st n w M' Q) : zR ztb d k rt pc Lc (.int x :: .ref 287 :: st) n w M Q := by
  obtain ⟨hS, ⟨hr, h1, at_, tk, va, l9, hV, ha, hC, hR⟩ | ⟨hn, q, hq, at_, va, bg, l9, hR⟩⟩ := h
  · exact zR.pt20 hR hS hk (fun M' hR hS => hc M' ⟨hS, Or.inl ⟨hr, h1, at_, tk, va, l9, hV, ha, hC, hR⟩⟩)
  · exact zR.pt20 hR hS hk (fun M' hR hS => hc M' ⟨hS, Or.inr ⟨hn, q, hq, at_, va, bg, l9, hR⟩⟩)
theorem GS.st8 {d : Nat} {k : Nat → zI} {rt pc : Nat} {Lc : zL} {st : List Value} {n w : Nat} {Q : Option Value → Nat → Nat → zM → Prop} {nx r1 r2 r3 li i : Nat} {v0 : Value} {sw : List (Int32 × Nat)} {x jj : Int32} (h : GS M0 σ β L c nt lm l8 i0 l0 r M) (hk : k pc = (.iastore, nx, r1, r2, r3, li, v0, sw)) (hj : jj = nI i) (hi : i < 80) (hc : ∀ M', GS M0 σ β L c nt lm (zuf l8 i x) i0 l0 r M' → zR ztb d k rt nx Lc st n w M' Q) : zR ztb d k rt pc Lc (.int x :: .int jj :: .ref 296 :: st) n w M Q := by
  obtain ⟨hS, ⟨hr, h1, at_, tk, va, l9, hV, ha, hC, hR⟩ | ⟨hn, q, hq, at_, va, bg, l9, hR⟩⟩ := h
  · exact zR.p8 hR hS hk hj hi (fun M' hR hS => hc M' ⟨hS, Or.inl ⟨hr, h1, at_, tk, va, l9, hV, ha, hC, hR⟩⟩)
  · exact zR.p8 hR hS hk hj hi (fun M' hR hS => hc M' ⟨hS, Or.inr ⟨hn, q, hq, at_, va, bg, l9, hR⟩⟩)
theorem GS.exl (h : GS M0 σ β L c nt lm l8 i0 l0 r M) : ∃ fk fp at_ tk va bg cd l9, Rf M (pst σ fk fp at_ tk va bg nt lm cd l8 l9) ∧ (r.1 = true ∧ ¬ kdF β L r.2.1 = 1 → cd = nI r.2.2.length) := by
  obtain ⟨_, ⟨-, -, _, _, _, _, -, -, -, hR⟩ | ⟨hn, _, -, _, _, _, _, hR⟩⟩ := h
  · exact ⟨_, _, _, _, _, _, _, _, hR, fun _ => rfl⟩
  · exact ⟨_, _, _, _, _, _, _, _, hR, fun z => absurd z hn⟩
end
section
variable {M0 M : zM} {σ : mS} {β : Nat → Int32} {L m c : Nat} {nt : Int32} {l8 : Nat → Int32} {i0 : Nat} {l0 : List gStp} {r : gRes} {d n w ln : Nat}
theorem pSm_eq : (if r.1 = true ∧ kdF β L r.2.1 = 8 then (true, r.2.1 + 1, r.2.2) else (false, r.2.1, r.2.2)) = pSm (kdF β L) r := by
  unfold pSm
  obtain ⟨b, j, l'⟩ := r
  cases b with
  | false => rw [if_neg (fun z => absurd (show false = true from z.1) (by decide)), if_neg (fun z => absurd (show false = true from z) (by decide))]
  | true =>
    by_cases q7 : kdF β L j = 8
    · rw [if_pos ⟨rfl, q7⟩, if_pos rfl, if_pos q7]
    · rw [if_neg (fun z => q7 z.2), if_pos rfl, if_neg q7]
/-- the end of a line -/
theorem rn_t3 (hE : EV σ β L m c) (hln : ln < 20) (h : GS M0 σ β L c nt (nI ln) l8 i0 l0 r M) (hg : GD (stF β L) m i0 l0 r) : zR ztb (d + 5) kX12_readLine 0 91 [some (.ref 287), some (.int (nI (4 * ln)))] [] n w M (fun v n' w' M' => v = none ∧ n = n' ∧ w = w' ∧ ∃ x, GS M0 σ β L c nt (nI (ln + 1)) (zuf l8 (4 * ln + 3) x) i0 l0 (pSm (kdF β L) r) M' ∧ ((pSm (kdF β L) r).1 = true ∧ ¬ kdF β L (pSm (kdF β L) r).2.1 = 1 → x = nI (pSm (kdF β L) r).2.2.length)) := by
  obtain ⟨g1, g2, g3, g4⟩ := hg
  obtain ⟨y, hy⟩ := h.h287
  have f8 := fun d n w => c_isSign_8 (d := d) (n := n) (w := w) h
  repeat (first | ((with_reducible refine zR.stored ?_); dsimp only [zsto, zclr, zset, zget, zc2, cond_false, cond_true]) | ((with_reducible refine zR.atLit ?_); first | refine zR.step rfl ?_ | refine zR.cv rfl rfl rfl hy rfl rfl (zCalP.of (f8 _ _ _) ?_)) | rw [zcc1] | rw [zcc2] | rw [zcc3] | rw [zcc4])
  refine zR.cv rfl rfl rfl hy rfl rfl (zR.mono (c_needS (d := d) (P := kdF β L r.2.1 = 8) hE h (fun z => ⟨by rw [z]; decide, by rw [z]; decide, by rw [z]; decide, hE.1.oth (k := 8) g2 z (by omega) (by omega)⟩) g2 g4) (fun v n1 w1 M4 hv => ?_))
  obtain ⟨rfl, rfl, rfl, h4⟩ := hv
  rw [pSm_eq] at h4
  obtain ⟨fk, fp, at_, tk, va, bg, cd, l9, hR, hcd⟩ := h4.exl
  repeat (first | ((with_reducible refine zR.stored ?_); dsimp only [zsto, zclr, zset, zget, zc2, cond_false, cond_true]) | ((with_reducible refine zR.atLit ?_); first | refine zR.step rfl ?_ | refine zR.getf rfl hR.po rfl ?_) | rw [zcc1] | rw [zcc2] | rw [zcc3] | rw [zcc4])
  refine GS.st8 h4 rfl (i := 4 * ln + 3) (by first | with_reducible rfl | (simp only [zn_lit, zn_add, zn_mul] <;> exact congrArg nI (by omega)) | rfl) (by omega) (fun M5 h5 => ?_)
  obtain ⟨fk, fp, at_, tk, va, bg, cd', l9, hR⟩ := h5.ex
  repeat (first | ((with_reducible refine zR.stored ?_); dsimp only [zsto, zclr, zset, zget, zc2, cond_false, cond_true]) | ((with_reducible refine zR.atLit ?_); first | refine zR.step rfl ?_ | refine zR.getf rfl hR.po rfl ?_) | rw [zcc1] | rw [zcc2] | rw [zcc3] | rw [zcc4])
  rw [zI_s]
  refine GS.put20 h5 rfl (fun M6 h6 => ?_)
  repeat (first | ((with_reducible refine zR.stored ?_); dsimp only [zsto, zclr, zset, zget, zc2, cond_false, cond_true]) | ((with_reducible refine zR.atLit ?_); first | refine zR.step rfl ?_) | rw [zcc1] | rw [zcc2] | rw [zcc3] | rw [zcc4])
  exact zR.ret rfl rfl ⟨rfl, rfl, rfl, cd, h6, hcd⟩
end
