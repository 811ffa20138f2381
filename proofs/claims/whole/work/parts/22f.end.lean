
/-! lines: the reference's own numbers, the rest. -/
section
variable {d : Nat} {k : Nat → zI} {rt pc : Nat} {L : zL} {st : List Value} {n w : Nat} {M M0 : zM} {Q : Option Value → Nat → Nat → zM → Prop} {z nx r1 r2 r3 li i : Nat} {v0 : Value} {sw : List (Int32 × Nat)} {σ : mS} {fk fp at_ tk va bg nt lm cd x jj : Int32} {l8 l9 : Nat → Int32}
theorem oF_6 {o : Nat → Int32} : zuf (oF o fk fp at_ tk va bg nt lm cd) 6 x = oF (zuf o 6 x) fk fp at_ tk va bg nt lm cd := by
  funext q
  unfold oF zuf
  repeat' split
  all_goals first | rfl | (exfalso; omega)
theorem zR.pt6 (hR : Rf M (pst σ fk fp at_ tk va bg nt lm cd l8 l9)) (hS : Sm M0 M) (hk : k pc = (.putfield z, nx, 12, 6, 0, li, v0, sw)) (h : ∀ M', Rf M' (pst (zuf σ 12 (zuf (σ 12) 6 x)) fk fp at_ tk va bg nt lm cd l8 l9) → Sm M0 M' → zR ztb d k rt nx L st n w M' Q) : zR ztb d k rt pc L (.int x :: .ref 287 :: st) n w M Q := by
  refine zR.putR hR hS hk rfl rfl rfl (fun M' h1 h2 => h M' ?_ h2)
  have e : zuf (pst σ fk fp at_ tk va bg nt lm cd l8 l9) 12 (zuf (pst σ fk fp at_ tk va bg nt lm cd l8 l9 12) 6 x) = pst (zuf σ 12 (zuf (σ 12) 6 x)) fk fp at_ tk va bg nt lm cd l8 l9 := by
    unfold pst
    rw [zuf_ne _ _ (show 12 ≠ 9 by omega), zuf_ne _ _ (show 12 ≠ 8 by omega), zuf_self, zuf_self, oF_6, zuf_cm _ _ _ (show 9 ≠ 12 by omega), zuf_cm _ _ _ (show 8 ≠ 12 by omega), zuf_uf, zuf_uf]
  rw [e] at h1
  exact h1
theorem zR.p0 (hR : Rf M (pst σ fk fp at_ tk va bg nt lm cd l8 l9)) (hS : Sm M0 M) (hk : k pc = (.iastore, nx, r1, r2, r3, li, v0, sw)) (hj : jj = nI i) (hi : i < 2700) (h : ∀ M', Rf M' (pst (zuf σ 0 (zuf (σ 0) i x)) fk fp at_ tk va bg nt lm cd l8 l9) → Sm M0 M' → zR ztb d k rt nx L st n w M' Q) : zR ztb d k rt pc L (.int x :: .int jj :: .ref 288 :: st) n w M Q := by
  refine zR.isR0 hR hS hk hj hi (fun M' h1 h2 => h M' ?_ h2)
  have e : zuf (pst σ fk fp at_ tk va bg nt lm cd l8 l9) 0 (zuf (pst σ fk fp at_ tk va bg nt lm cd l8 l9 0) i x) = pst (zuf σ 0 (zuf (σ 0) i x)) fk fp at_ tk va bg nt lm cd l8 l9 := by
    unfold pst
    rw [zuf_ne _ _ (show 0 ≠ 9 by omega), zuf_ne _ _ (show 0 ≠ 8 by omega), zuf_ne _ _ (show 0 ≠ 12 by omega), zuf_ne _ _ (show 12 ≠ 0 by omega), zuf_cm _ _ _ (show 9 ≠ 0 by omega), zuf_cm _ _ _ (show 8 ≠ 0 by omega), zuf_cm _ _ _ (show 12 ≠ 0 by omega)]
  rw [e] at h1
  exact h1
end
