
/-! lines: the reference's end. -/
section
variable {M M0 : zM} {σ : mS} {β : Nat → Int32} {L m c : Nat} {d n w : Nat} {x : gRes × List gLn}
/-- what a refusal leaves: fault kind and place -/
def NoL (M0 : zM) (σ : mS) (fk fp : Int32) (v : Option Value) (M' : zM) : Prop := v = some (.int (-1)) ∧ Sm M0 M' ∧ ∃ at_ tk va bg nt lm cd l8 l9, Rf M' (zuf (pst (zuf σ 12 (zuf (σ 12) 6 0)) fk fp at_ tk va bg nt lm cd l8 l9) 12 (zuf (pst (zuf σ 12 (zuf (σ 12) 6 0)) fk fp at_ tk va bg nt lm cd l8 l9 12) 12 3))
theorem Sm.tr' {A B C : zM} (h : Sm A B) (h' : Sm B C) : Sm A C := fun k hk => (h' k hk).trans (h k hk)
theorem ll_no {fk fp at_ tk va bg nt lm cd : Int32} {l8 l9 : Nat → Int32} (hR : Rf M (pst σ fk fp at_ tk va bg nt lm cd l8 l9)) (hS : Sm M0 M) (hf : ¬ fk = 0) : zR ztb (d + 28) kX12_lines 1 72 [some (.ref 287), none] [] n w M (fun v n' w' M' => n = n' ∧ w = w' ∧ NoL M0 σ fk fp v M') := by
  repeat (first | ((with_reducible refine zR.stored ?_); dsimp only [zsto, zclr, zset, zget, zc2, cond_false, cond_true]) | ((with_reducible refine zR.atLit ?_); first | refine zR.step rfl ?_) | rw [zcc1] | rw [zcc2] | rw [zcc3] | rw [zcc4])
  refine zR.pt6 hR hS rfl (fun M1 hR hS => ?_)
  repeat (first | ((with_reducible refine zR.stored ?_); dsimp only [zsto, zclr, zset, zget, zc2, cond_false, cond_true]) | ((with_reducible refine zR.atLit ?_); first | refine zR.step rfl ?_ | refine zR.getf rfl hR.po rfl ?_) | rw [zcc1] | rw [zcc2] | rw [zcc3] | rw [zcc4] | rw [zd1 (hf)] | rw [zd2 (hf)])
  refine zR.cv rfl rfl rfl hR.1 rfl rfl (zR.mono (c_refused hR 3) (fun v n1 w1 M2 hv => ?_))
  obtain ⟨rfl, rfl, rfl, hR2, hS2⟩ := hv
  repeat (first | ((with_reducible refine zR.stored ?_); dsimp only [zsto, zclr, zset, zget, zc2, cond_false, cond_true]) | ((with_reducible refine zR.atLit ?_); first | refine zR.step rfl ?_) | rw [zcc1] | rw [zcc2] | rw [zcc3] | rw [zcc4])
  exact zR.ret rfl rfl ⟨rfl, rfl, rfl, hS.tr' hS2, at_, tk, va, bg, nt, lm, cd, l8, l9, hR2⟩
end
