
/-! lines: the reference copies its lines and its code. -/
def CPY (y y' g : Nat → Int32) (b i n : Nat) : Prop := (∀ q, b + i ≤ q → q < b + n → y' q = g (q - b)) ∧ ∀ q, (q < b + i ∨ b + n ≤ q) → y' q = y q
section
variable {d : Nat} {k : Nat → zI} {rt pc : Nat} {L : zL} {st : List Value} {n w : Nat} {M M0 : zM} {Q : Option Value → Nat → Nat → zM → Prop} {nx r1 r2 r3 li i : Nat} {v0 : Value} {sw : List (Int32 × Nat)} {σ : mS} {fk fp at_ tk va bg nt lm cd jj : Int32} {l8 l9 : Nat → Int32}
theorem zR.il8 (hR : Rf M (pst σ fk fp at_ tk va bg nt lm cd l8 l9)) (hk : k pc = (.iaload, nx, r1, r2, r3, li, v0, sw)) (hj : jj = nI i) (hi : i < 80) (h : zR ztb d k rt nx L (.int (l8 i) :: st) n w M Q) : zR ztb d k rt pc L (.int jj :: .ref 296 :: st) n w M Q := zR.ilR8 hR hk hj hi h
theorem zR.il9 (hR : Rf M (pst σ fk fp at_ tk va bg nt lm cd l8 l9)) (hk : k pc = (.iaload, nx, r1, r2, r3, li, v0, sw)) (hj : jj = nI i) (hi : i < 400) (h : zR ztb d k rt nx L (.int (l9 i) :: st) n w M Q) : zR ztb d k rt pc L (.int jj :: .ref 297 :: st) n w M Q := zR.ilR9 hR hk hj hi h
end
section
variable {d n w : Nat} {M0 : zM} {Q : Option Value → Nat → Nat → zM → Prop} {fk fp at_ tk va bg nt lm cd : Int32} {l8 l9 : Nat → Int32}
theorem cp_ln {N : Nat} (hN : 4 * N ≤ 80) : ∀ (f i : Nat) (M : zM) (σ : mS), i + f = 4 * N → Rf M (pst σ fk fp at_ tk va bg nt (nI N) cd l8 l9) → Sm M0 M → (∀ M' y', CPY (σ 0) y' l8 2100 i (4 * N) → Rf M' (pst (zuf σ 0 y') fk fp at_ tk va bg nt (nI N) cd l8 l9) → Sm M0 M' → ∀ t, zR ztb d kX12_lines 1 134 [some (.ref 287), some (.int t)] [] n w M' Q) → zR ztb d kX12_lines 1 102 [some (.ref 287), some (.int (nI i))] [] n w M Q
  | 0, i, M, σ, hf, hR, hS, hc => by
    have e : ¬ nI i < 4 * nI N := by
      rw [show (4 : Int32) * nI N = nI (4 * N) by simp only [zn_lit, zn_mul]]
      exact zI_nlt (by omega) (by omega)
    have := hc M (σ 0) ⟨fun q a b => by omega, fun q _ => rfl⟩ (by rw [zuf_id rfl]; exact hR) hS (nI i)
    repeat (first | with_reducible refine zR.hold (pc := 134) ?_ | ((with_reducible refine zR.stored ?_); dsimp only [zsto, zclr, zset, zget, zc2, cond_false, cond_true]) | ((with_reducible refine zR.atLit ?_); first | refine zR.step rfl ?_ | refine zR.getf rfl hR.po rfl ?_) | rw [zcc1] | rw [zcc2] | rw [zcc3] | rw [zcc4] | rw [zn1 (e)] | rw [zn2 (e)] | rw [zn3 (e)] | rw [zn4 (e)])
    exact ⟨trivial, this⟩
  | f + 1, i, M, σ, hf, hR, hS, hc => by
    have e : nI i < 4 * nI N := by
      rw [show (4 : Int32) * nI N = nI (4 * N) by simp only [zn_lit, zn_mul]]
      exact zI_ylt (by omega) (by omega)
    refine zR.step rfl ?_
    repeat (first | ((with_reducible refine zR.stored ?_); dsimp only [zsto, zclr, zset, zget, zc2, cond_false, cond_true]) | ((with_reducible refine zR.atLit ?_); first | refine zR.step rfl ?_ | refine zR.getf rfl hR.po rfl ?_ | refine zR.il8 hR rfl (i := i) rfl (by omega) ?_) | rw [zcc1] | rw [zcc2] | rw [zcc3] | rw [zcc4] | rw [zb1 (e)] | rw [zb2 (e)] | rw [zb3 (e)] | rw [zb4 (e)])
    refine zR.p0 hR hS rfl (i := 2100 + i) (by first | with_reducible rfl | (simp only [zn_lit, zn_add, zn_mul] <;> exact congrArg nI (by omega)) | rfl) (by omega) (fun M1 hR hS => ?_)
    have ih := cp_ln hN f (i + 1) M1 _ (by omega) hR hS (fun M' y' hy hR' hS' => hc M' y' ⟨fun q a b => ?_, fun q a => ?_⟩ (by rw [zuf_uf] at hR'; exact hR') hS')
    · rw [← zI_s] at ih
      repeat (first | with_reducible refine zR.hold (pc := 102) ?_ | ((with_reducible refine zR.stored ?_); dsimp only [zsto, zclr, zset, zget, zc2, cond_false, cond_true]) | ((with_reducible refine zR.atLit ?_); first | refine zR.step rfl ?_) | rw [zcc1] | rw [zcc2] | rw [zcc3] | rw [zcc4])
      exact ⟨trivial, ih⟩
    · by_cases z : q = 2100 + i
      · subst z
        rw [hy.2 _ (Or.inl (by omega)), zuf_self, zuf_self, show 2100 + i - 2100 = i by omega]
      · exact hy.1 q (by omega) b
    · rw [hy.2 q (by omega), zuf_self, zuf_ne _ _ (by omega)]
theorem cp_cd {N : Nat} (hN : 4 * N ≤ 400) : ∀ (f i : Nat) (M : zM) (σ : mS), i + f = 4 * N → Rf M (pst σ fk fp at_ tk va bg nt lm (nI N) l8 l9) → Sm M0 M → (∀ M' y', CPY (σ 0) y' l9 2200 i (4 * N) → Rf M' (pst (zuf σ 0 y') fk fp at_ tk va bg nt lm (nI N) l8 l9) → Sm M0 M' → ∀ t, zR ztb d kX12_lines 1 168 [some (.ref 287), some (.int t)] [] n w M' Q) → zR ztb d kX12_lines 1 136 [some (.ref 287), some (.int (nI i))] [] n w M Q
  | 0, i, M, σ, hf, hR, hS, hc => by
    have e : ¬ nI i < 4 * nI N := by
      rw [show (4 : Int32) * nI N = nI (4 * N) by simp only [zn_lit, zn_mul]]
      exact zI_nlt (by omega) (by omega)
    have := hc M (σ 0) ⟨fun q a b => by omega, fun q _ => rfl⟩ (by rw [zuf_id rfl]; exact hR) hS (nI i)
    repeat (first | with_reducible refine zR.hold (pc := 168) ?_ | ((with_reducible refine zR.stored ?_); dsimp only [zsto, zclr, zset, zget, zc2, cond_false, cond_true]) | ((with_reducible refine zR.atLit ?_); first | refine zR.step rfl ?_ | refine zR.getf rfl hR.po rfl ?_) | rw [zcc1] | rw [zcc2] | rw [zcc3] | rw [zcc4] | rw [zn1 (e)] | rw [zn2 (e)] | rw [zn3 (e)] | rw [zn4 (e)])
    exact ⟨trivial, this⟩
  | f + 1, i, M, σ, hf, hR, hS, hc => by
    have e : nI i < 4 * nI N := by
      rw [show (4 : Int32) * nI N = nI (4 * N) by simp only [zn_lit, zn_mul]]
      exact zI_ylt (by omega) (by omega)
    refine zR.step rfl ?_
    repeat (first | ((with_reducible refine zR.stored ?_); dsimp only [zsto, zclr, zset, zget, zc2, cond_false, cond_true]) | ((with_reducible refine zR.atLit ?_); first | refine zR.step rfl ?_ | refine zR.getf rfl hR.po rfl ?_ | refine zR.il9 hR rfl (i := i) rfl (by omega) ?_) | rw [zcc1] | rw [zcc2] | rw [zcc3] | rw [zcc4] | rw [zb1 (e)] | rw [zb2 (e)] | rw [zb3 (e)] | rw [zb4 (e)])
    refine zR.p0 hR hS rfl (i := 2200 + i) (by first | with_reducible rfl | (simp only [zn_lit, zn_add, zn_mul] <;> exact congrArg nI (by omega)) | rfl) (by omega) (fun M1 hR hS => ?_)
    have ih := cp_cd hN f (i + 1) M1 _ (by omega) hR hS (fun M' y' hy hR' hS' => hc M' y' ⟨fun q a b => ?_, fun q a => ?_⟩ (by rw [zuf_uf] at hR'; exact hR') hS')
    · rw [← zI_s] at ih
      repeat (first | with_reducible refine zR.hold (pc := 136) ?_ | ((with_reducible refine zR.stored ?_); dsimp only [zsto, zclr, zset, zget, zc2, cond_false, cond_true]) | ((with_reducible refine zR.atLit ?_); first | refine zR.step rfl ?_) | rw [zcc1] | rw [zcc2] | rw [zcc3] | rw [zcc4])
      exact ⟨trivial, ih⟩
    · by_cases z : q = 2200 + i
      · subst z
        rw [hy.2 _ (Or.inl (by omega)), zuf_self, zuf_self, show 2200 + i - 2200 = i by omega]
      · exact hy.1 q (by omega) b
    · rw [hy.2 q (by omega), zuf_self, zuf_ne _ _ (by omega)]
end
