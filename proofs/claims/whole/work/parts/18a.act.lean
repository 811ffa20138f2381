
/-! act: the trace. -/
theorem c_ran {M M0 : zM} {σ : mS} {d n w tz : Nat} (hR : Rf M σ) (hS : Sm M0 M) (h14 : σ 12 14 = nI tz) (hz : tz < 50) (x : Int32) : zCalP d 203 [.ref 287, .int x] n w M (fun v n' w' M' => v = none ∧ n = n' ∧ w = w' ∧ Sm M0 M' ∧ ∃ ρ, Rf M' ρ ∧ (∀ j, j ≠ 7 → j ≠ 12 → ρ j = σ j) ∧ ρ 7 = zuf (σ 7) tz x ∧ ρ 12 = zuf (σ 12) 14 (nI (tz + 1))) := by
  have e : nI tz < 50 := zI_ylt (b := 50) (by omega) (by omega)
  show zR ztb _ kX12_ran 0 0 [some (.ref 287), some (.int x)] [] _ _ _ _
  repeat (first | ((with_reducible refine zR.stored ?_); dsimp only [zsto, zclr, zset, zget, zc2, cond_false, cond_true]) | ((with_reducible refine zR.atLit ?_); first | refine zR.step rfl ?_ | (refine zR.getf rfl hR.1 rfl ?_; rw [h14]) | refine zR.getf rfl (hR.1) rfl ?_) | rw [zcc1] | rw [zcc2] | rw [zcc3] | rw [zcc4] | rw [zb1 (e)] | rw [zb2 (e)] | rw [zb3 (e)] | rw [zb4 (e)])
  refine zR.isR7 hR hS rfl (i := tz) rfl (by omega) (fun M1 hR1 hS1 => ?_)
  repeat (first | ((with_reducible refine zR.stored ?_); dsimp only [zsto, zclr, zset, zget, zc2, cond_false, cond_true]) | ((with_reducible refine zR.atLit ?_); first | refine zR.step rfl ?_ | (refine zR.getf rfl hR1.1 rfl ?_; rw [show zuf σ 7 (zuf (σ 7) tz x) 12 14 = nI tz from h14])) | rw [zcc1] | rw [zcc2] | rw [zcc3] | rw [zcc4])
  refine zR.putR hR1 hS1 rfl rfl rfl rfl (fun M2 hR2 hS2 => ?_)
  repeat (first | ((with_reducible refine zR.stored ?_); dsimp only [zsto, zclr, zset, zget, zc2, cond_false, cond_true]) | ((with_reducible refine zR.atLit ?_); first | refine zR.step rfl ?_) | rw [zcc1] | rw [zcc2] | rw [zcc3] | rw [zcc4])
  refine zR.ret rfl rfl ⟨rfl, rfl, rfl, hS2, _, hR2, fun j h1 h2 => by rw [zuf_ne _ _ h2, zuf_ne _ _ h1], rfl, ?_⟩
  rw [zuf_self, zI_s]
  rfl
theorem c_note {M : zM} {d n w tz : Nat} {f : Nat → Int32} (h1 : M 276 = .inr (7, [.ref 277, .int (nI tz)])) (h2 : M 277 = .inl (0, 50, .inl f)) (hz : tz < 50) (x : Int32) : zCall d 62 [.ref 276, .int x] n w M none n w (zup (zup M 277 (.inl (0, 50, .inl (zuf f tz x)))) 276 (.inr (7, [.ref 277, .int (nI (tz + 1))]))) := by
  intro Q hQ
  have e : nI tz < 50 := zI_ylt (b := 50) (by omega) (by omega)
  have h1' : zup M 277 (.inl (0, 50, .inl (zuf f tz x))) 276 = .inr (7, [.ref 277, .int (nI tz)]) := by rw [zup_ne _ _ (by omega)]; exact h1
  rw [← zI_s] at hQ
  show zR ztb _ kX7_note 0 0 [some (.ref 276), some (.int x)] [] _ _ _ _
  repeat (first | ((with_reducible refine zR.stored ?_); dsimp only [zsto, zclr, zset, zget, zc2, cond_false, cond_true]) | ((with_reducible refine zR.atLit ?_); first | refine zR.step rfl ?_ | refine zR.getf rfl (h1) rfl ?_) | rw [zcc1] | rw [zcc2] | rw [zcc3] | rw [zcc4] | rw [zb1 (e)] | rw [zb2 (e)] | rw [zb3 (e)] | rw [zb4 (e)])
  refine zR.iast rfl h2 (i := tz) rfl (by omega) (by decide) ?_
  repeat (first | ((with_reducible refine zR.stored ?_); dsimp only [zsto, zclr, zset, zget, zc2, cond_false, cond_true]) | ((with_reducible refine zR.atLit ?_); first | refine zR.step rfl ?_ | refine zR.getf rfl (h1') rfl ?_) | rw [zcc1] | rw [zcc2] | rw [zcc3] | rw [zcc4])
  refine zR.putf rfl h1' rfl rfl ?_
  repeat (first | ((with_reducible refine zR.stored ?_); dsimp only [zsto, zclr, zset, zget, zc2, cond_false, cond_true]) | ((with_reducible refine zR.atLit ?_); first | refine zR.step rfl ?_) | rw [zcc1] | rw [zcc2] | rw [zcc3] | rw [zcc4])
  exact zR.ret rfl rfl hQ
