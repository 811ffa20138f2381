
/-! lines: the reference takes the lines. -/
section
variable {M M0 : zM} {σ : mS} {d n w N C : Nat}
/-- what taking them leaves: y is the new row -/
def YesL (M0 : zM) (σ : mS) (N C : Nat) (l8 l9 : Nat → Int32) (v : Option Value) (M' : zM) : Prop := v = some (.int (nI N)) ∧ Sm M0 M' ∧ ∃ at_ tk va bg nt y y', CPY (zuf (σ 0) 5 (nI N)) y l8 2100 0 (4 * N) ∧ CPY y y' l9 2200 0 (4 * C) ∧ Rf M' (zuf (pst (zuf (zuf σ 12 (zuf (σ 12) 6 0)) 0 y') 0 (-1) at_ tk va bg nt (nI N) (nI C) l8 l9) 12 (zuf (pst (zuf (zuf σ 12 (zuf (σ 12) 6 0)) 0 y') 0 (-1) at_ tk va bg nt (nI N) (nI C) l8 l9 12) 12 0))
theorem ll_yes {at_ tk va bg nt : Int32} {l8 l9 : Nat → Int32} (hN : 4 * N ≤ 80) (hC : 4 * C ≤ 400) (hR : Rf M (pst σ 0 (-1) at_ tk va bg nt (nI N) (nI C) l8 l9)) (hS : Sm M0 M) : zR ztb (d + 28) kX12_lines 1 72 [some (.ref 287), none] [] n w M (fun v n' w' M' => n = n' ∧ w = w' ∧ YesL M0 σ N C l8 l9 v M') := by
  repeat (first | ((with_reducible refine zR.stored ?_); dsimp only [zsto, zclr, zset, zget, zc2, cond_false, cond_true]) | ((with_reducible refine zR.atLit ?_); first | refine zR.step rfl ?_) | rw [zcc1] | rw [zcc2] | rw [zcc3] | rw [zcc4])
  refine zR.pt6 hR hS rfl (fun M1 hR hS => ?_)
  repeat (first | ((with_reducible refine zR.stored ?_); dsimp only [zsto, zclr, zset, zget, zc2, cond_false, cond_true]) | ((with_reducible refine zR.atLit ?_); first | refine zR.step rfl ?_ | refine zR.getf rfl hR.po rfl ?_) | rw [zcc1] | rw [zcc2] | rw [zcc3] | rw [zcc4] | rw [zb1 (by decide)] | rw [zb2 (by decide)] | rw [zb3 (by decide)] | rw [zb4 (by decide)] | rw [zn1 (by decide)] | rw [zn2 (by decide)] | rw [zn3 (by decide)] | rw [zn4 (by decide)] | rw [ze1 (by decide)] | rw [ze2 (by decide)] | rw [zd1 (by decide)] | rw [zd2 (by decide)] | rw [zswy (by decide)] | rw [zswn (by decide)] | rw [zsw0])
  refine zR.p0 hR hS rfl (i := 5) rfl (by omega) (fun M2 hR hS => ?_)
  repeat (first | with_reducible refine zR.hold (pc := 102) ?_ | ((with_reducible refine zR.stored ?_); dsimp only [zsto, zclr, zset, zget, zc2, cond_false, cond_true]) | ((with_reducible refine zR.atLit ?_); first | refine zR.step rfl ?_) | rw [zcc1] | rw [zcc2] | rw [zcc3] | rw [zcc4])
  refine ⟨trivial, cp_ln (d := d + 28) hN (4 * N) 0 M2 _ (by omega) hR hS (fun M3 y hy hR hS t => ?_)⟩
  repeat (first | with_reducible refine zR.hold (pc := 136) ?_ | ((with_reducible refine zR.stored ?_); dsimp only [zsto, zclr, zset, zget, zc2, cond_false, cond_true]) | ((with_reducible refine zR.atLit ?_); first | refine zR.step rfl ?_) | rw [zcc1] | rw [zcc2] | rw [zcc3] | rw [zcc4])
  refine ⟨trivial, cp_cd (d := d + 28) hC (4 * C) 0 M3 _ (by omega) hR hS (fun M4 y' hy' hR hS t' => ?_)⟩
  rw [zuf_uf, zuf_uf] at hR
  rw [zuf_self] at hy hy'
  repeat (first | ((with_reducible refine zR.stored ?_); dsimp only [zsto, zclr, zset, zget, zc2, cond_false, cond_true]) | ((with_reducible refine zR.atLit ?_); first | refine zR.step rfl ?_ | refine zR.getf rfl hR.po rfl ?_) | rw [zcc1] | rw [zcc2] | rw [zcc3] | rw [zcc4])
  refine zR.cv rfl rfl rfl hR.1 rfl rfl (zR.mono (c_done hR _) (fun v n1 w1 M5 hv => ?_))
  obtain ⟨rfl, rfl, rfl, hR5, hS5⟩ := hv
  repeat (first | ((with_reducible refine zR.stored ?_); dsimp only [zsto, zclr, zset, zget, zc2, cond_false, cond_true]) | ((with_reducible refine zR.atLit ?_); first | refine zR.step rfl ?_) | rw [zcc1] | rw [zcc2] | rw [zcc3] | rw [zcc4])
  exact zR.ret rfl rfl ⟨rfl, rfl, rfl, hS.tr' hS5, at_, tk, va, bg, nt, y, y', hy, hy', hR5⟩
end
