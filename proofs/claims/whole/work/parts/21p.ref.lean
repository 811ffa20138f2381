
/-! lines: the reference's reader, its small methods. -/
section
variable {d : Nat} {k : Nat → zI} {rt pc : Nat} {L : zL} {st : List Value} {n w : Nat} {M M0 : zM} {Q : Option Value → Nat → Nat → zM → Prop} {nx r1 r2 r3 li : Nat} {v0 : Value} {sw : List (Int32 × Nat)} {σ : mS} {fk fp at_ tk va bg nt lm cd x jj : Int32} {l8 l9 : Nat → Int32} {i : Nat}
theorem zR.p9 (hR : Rf M (pst σ fk fp at_ tk va bg nt lm cd l8 l9)) (hS : Sm M0 M) (hk : k pc = (.iastore, nx, r1, r2, r3, li, v0, sw)) (hj : jj = nI i) (hi : i < 400) (h : ∀ M', Rf M' (pst σ fk fp at_ tk va bg nt lm cd l8 (zuf l9 i x)) → Sm M0 M' → zR ztb d k rt nx L st n w M' Q) : zR ztb d k rt pc L (.int x :: .int jj :: .ref 297 :: st) n w M Q := by
  refine zR.isR9 hR hS hk hj hi (fun M' h1 h2 => h M' ?_ h2)
  have e : zuf (pst σ fk fp at_ tk va bg nt lm cd l8 l9) 9 (zuf (pst σ fk fp at_ tk va bg nt lm cd l8 l9 9) i x) = pst σ fk fp at_ tk va bg nt lm cd l8 (zuf l9 i x) := by
    unfold pst
    rw [zuf_self, zuf_uf]
  rw [e] at h1
  exact h1
theorem zR.p8 (hR : Rf M (pst σ fk fp at_ tk va bg nt lm cd l8 l9)) (hS : Sm M0 M) (hk : k pc = (.iastore, nx, r1, r2, r3, li, v0, sw)) (hj : jj = nI i) (hi : i < 80) (h : ∀ M', Rf M' (pst σ fk fp at_ tk va bg nt lm cd (zuf l8 i x) l9) → Sm M0 M' → zR ztb d k rt nx L st n w M' Q) : zR ztb d k rt pc L (.int x :: .int jj :: .ref 296 :: st) n w M Q := by
  refine zR.isR8 hR hS hk hj hi (fun M' h1 h2 => h M' ?_ h2)
  have e : zuf (pst σ fk fp at_ tk va bg nt lm cd l8 l9) 8 (zuf (pst σ fk fp at_ tk va bg nt lm cd l8 l9 8) i x) = pst σ fk fp at_ tk va bg nt lm cd (zuf l8 i x) l9 := by
    unfold pst
    rw [zuf_ne _ _ (show 8 ≠ 9 by omega), zuf_self, zuf_cm _ _ _ (show 9 ≠ 8 by omega), zuf_uf]
  rw [e] at h1
  exact h1
end
theorem c_put {M M0 : zM} {σ : mS} {d n w k : Nat} {fk fp at_ tk va bg nt lm : Int32} {l8 l9 : Nat → Int32} (hR : Rf M (pst σ fk fp at_ tk va bg nt lm (nI k) l8 l9)) (hS : Sm M0 M) (hk : k < 100) (x0 x1 x2 x3 : Int32) : zCalP d 162 [.ref 287, .int x0, .int x1, .int x2, .int x3] n w M (fun v n' w' M' => v = none ∧ n = n' ∧ w = w' ∧ Sm M0 M' ∧ Rf M' (pst σ fk fp at_ tk va bg nt lm (nI (k + 1)) l8 (zuf (zuf (zuf (zuf l9 (4 * k) x0) (4 * k + 1) x1) (4 * k + 2) x2) (4 * k + 3) x3))) := by
  show zR ztb _ kX12_put 0 0 [some (.ref 287), some (.int x0), some (.int x1), some (.int x2), some (.int x3)] [] _ _ _ _
  repeat (first | ((with_reducible refine zR.stored ?_); dsimp only [zsto, zclr, zset, zget, zc2, cond_false, cond_true]) | ((with_reducible refine zR.atLit ?_); first | refine zR.step rfl ?_ | refine zR.getf rfl hR.po rfl ?_) | rw [zcc1] | rw [zcc2] | rw [zcc3] | rw [zcc4])
  refine zR.p9 hR hS rfl (i := 4 * k) (by first | with_reducible rfl | (simp only [zn_lit, zn_add, zn_mul] <;> exact congrArg nI (by omega)) | rfl) (by omega) (fun M1 hR hS => ?_)
  repeat (first | ((with_reducible refine zR.stored ?_); dsimp only [zsto, zclr, zset, zget, zc2, cond_false, cond_true]) | ((with_reducible refine zR.atLit ?_); first | refine zR.step rfl ?_ | refine zR.getf rfl hR.po rfl ?_) | rw [zcc1] | rw [zcc2] | rw [zcc3] | rw [zcc4])
  refine zR.p9 hR hS rfl (i := 4 * k + 1) (by first | with_reducible rfl | (simp only [zn_lit, zn_add, zn_mul] <;> exact congrArg nI (by omega)) | rfl) (by omega) (fun M2 hR hS => ?_)
  repeat (first | ((with_reducible refine zR.stored ?_); dsimp only [zsto, zclr, zset, zget, zc2, cond_false, cond_true]) | ((with_reducible refine zR.atLit ?_); first | refine zR.step rfl ?_ | refine zR.getf rfl hR.po rfl ?_) | rw [zcc1] | rw [zcc2] | rw [zcc3] | rw [zcc4])
  refine zR.p9 hR hS rfl (i := 4 * k + 2) (by first | with_reducible rfl | (simp only [zn_lit, zn_add, zn_mul] <;> exact congrArg nI (by omega)) | rfl) (by omega) (fun M3 hR hS => ?_)
  repeat (first | ((with_reducible refine zR.stored ?_); dsimp only [zsto, zclr, zset, zget, zc2, cond_false, cond_true]) | ((with_reducible refine zR.atLit ?_); first | refine zR.step rfl ?_ | refine zR.getf rfl hR.po rfl ?_) | rw [zcc1] | rw [zcc2] | rw [zcc3] | rw [zcc4])
  refine zR.p9 hR hS rfl (i := 4 * k + 3) (by first | with_reducible rfl | (simp only [zn_lit, zn_add, zn_mul] <;> exact congrArg nI (by omega)) | rfl) (by omega) (fun M4 hR hS => ?_)
  repeat (first | ((with_reducible refine zR.stored ?_); dsimp only [zsto, zclr, zset, zget, zc2, cond_false, cond_true]) | ((with_reducible refine zR.atLit ?_); first | refine zR.step rfl ?_ | refine zR.getf rfl hR.po rfl ?_) | rw [zcc1] | rw [zcc2] | rw [zcc3] | rw [zcc4])
  rw [zI_s]
  refine zR.pt22 hR hS rfl (fun M5 hR hS => ?_)
  repeat (first | ((with_reducible refine zR.stored ?_); dsimp only [zsto, zclr, zset, zget, zc2, cond_false, cond_true]) | ((with_reducible refine zR.atLit ?_); first | refine zR.step rfl ?_) | rw [zcc1] | rw [zcc2] | rw [zcc3] | rw [zcc4])
  exact zR.ret rfl rfl ⟨rfl, rfl, rfl, hS, hR⟩
section
variable {M0 M : zM} {σ : mS} {β : Nat → Int32} {L m c i : Nat} {nt lm : Int32} {l8 : Nat → Int32} {i0 : Nat} {l0 l : List gStp} {r : gRes} {d n w : Nat}
theorem c_isSign_4 (h : GS M0 σ β L c nt lm l8 i0 l0 r M) : zCall d 159 [.ref 287, .int 60] n w M (some (.int (if r.1 = true ∧ kdF β L r.2.1 = 4 then 1 else 0))) n w M := by
  intro Q hQ
  obtain ⟨hS, ⟨hr, h1, at_, tk, va, l9, hV, -, -, hR⟩ | ⟨hn, q, -, at_, va, bg, l9, hR⟩⟩ := h
  · rcases hV with ⟨z, rfl⟩ | ⟨z, rfl, rfl⟩ | ⟨z, rfl, rfl⟩ | ⟨z, rfl, rfl⟩ | ⟨z, rfl, rfl⟩ | ⟨z, rfl, rfl⟩ | ⟨z, rfl, rfl⟩ | ⟨z, rfl, rfl⟩ | ⟨i, hi, z, rfl, rfl⟩
    · rw [if_neg (fun y => by rw [z] at y; exact absurd y.2 (by decide))] at hQ
      show zR ztb _ kX12_isSign 2 0 [some (.ref 287), some (.int 60)] [] _ _ _ _
      repeat (first | ((with_reducible refine zR.stored ?_); dsimp only [zsto, zclr, zset, zget, zc2, cond_false, cond_true]) | ((with_reducible refine zR.atLit ?_); first | refine zR.step rfl ?_ | refine zR.getf rfl hR.po rfl ?_) | rw [zcc1] | rw [zcc2] | rw [zcc3] | rw [zcc4] | rw [zb1 (by decide)] | rw [zb2 (by decide)] | rw [zb3 (by decide)] | rw [zb4 (by decide)] | rw [zn1 (by decide)] | rw [zn2 (by decide)] | rw [zn3 (by decide)] | rw [zn4 (by decide)] | rw [ze1 (by decide)] | rw [ze2 (by decide)] | rw [zd1 (by decide)] | rw [zd2 (by decide)] | rw [zswy (by decide)] | rw [zswn (by decide)] | rw [zsw0])
      exact zR.ret rfl rfl hQ
    · rw [if_neg (fun y => by rw [z] at y; exact absurd y.2 (by decide))] at hQ
      show zR ztb _ kX12_isSign 2 0 [some (.ref 287), some (.int 60)] [] _ _ _ _
      repeat (first | ((with_reducible refine zR.stored ?_); dsimp only [zsto, zclr, zset, zget, zc2, cond_false, cond_true]) | ((with_reducible refine zR.atLit ?_); first | refine zR.step rfl ?_ | refine zR.getf rfl hR.po rfl ?_) | rw [zcc1] | rw [zcc2] | rw [zcc3] | rw [zcc4] | rw [zb1 (by decide)] | rw [zb2 (by decide)] | rw [zb3 (by decide)] | rw [zb4 (by decide)] | rw [zn1 (by decide)] | rw [zn2 (by decide)] | rw [zn3 (by decide)] | rw [zn4 (by decide)] | rw [ze1 (by decide)] | rw [ze2 (by decide)] | rw [zd1 (by decide)] | rw [zd2 (by decide)] | rw [zswy (by decide)] | rw [zswn (by decide)] | rw [zsw0])
      exact zR.ret rfl rfl hQ
    · rw [if_neg (fun y => by rw [z] at y; exact absurd y.2 (by decide))] at hQ
      show zR ztb _ kX12_isSign 2 0 [some (.ref 287), some (.int 60)] [] _ _ _ _
      repeat (first | ((with_reducible refine zR.stored ?_); dsimp only [zsto, zclr, zset, zget, zc2, cond_false, cond_true]) | ((with_reducible refine zR.atLit ?_); first | refine zR.step rfl ?_ | refine zR.getf rfl hR.po rfl ?_) | rw [zcc1] | rw [zcc2] | rw [zcc3] | rw [zcc4] | rw [zb1 (by decide)] | rw [zb2 (by decide)] | rw [zb3 (by decide)] | rw [zb4 (by decide)] | rw [zn1 (by decide)] | rw [zn2 (by decide)] | rw [zn3 (by decide)] | rw [zn4 (by decide)] | rw [ze1 (by decide)] | rw [ze2 (by decide)] | rw [zd1 (by decide)] | rw [zd2 (by decide)] | rw [zswy (by decide)] | rw [zswn (by decide)] | rw [zsw0])
      exact zR.ret rfl rfl hQ
    · rw [if_pos ⟨hr, z⟩] at hQ
      show zR ztb _ kX12_isSign 2 0 [some (.ref 287), some (.int 60)] [] _ _ _ _
      repeat (first | ((with_reducible refine zR.stored ?_); dsimp only [zsto, zclr, zset, zget, zc2, cond_false, cond_true]) | ((with_reducible refine zR.atLit ?_); first | refine zR.step rfl ?_ | refine zR.getf rfl hR.po rfl ?_) | rw [zcc1] | rw [zcc2] | rw [zcc3] | rw [zcc4] | rw [zb1 (by decide)] | rw [zb2 (by decide)] | rw [zb3 (by decide)] | rw [zb4 (by decide)] | rw [zn1 (by decide)] | rw [zn2 (by decide)] | rw [zn3 (by decide)] | rw [zn4 (by decide)] | rw [ze1 (by decide)] | rw [ze2 (by decide)] | rw [zd1 (by decide)] | rw [zd2 (by decide)] | rw [zswy (by decide)] | rw [zswn (by decide)] | rw [zsw0])
      exact zR.ret rfl rfl hQ
    · rw [if_neg (fun y => by rw [z] at y; exact absurd y.2 (by decide))] at hQ
      show zR ztb _ kX12_isSign 2 0 [some (.ref 287), some (.int 60)] [] _ _ _ _
      repeat (first | ((with_reducible refine zR.stored ?_); dsimp only [zsto, zclr, zset, zget, zc2, cond_false, cond_true]) | ((with_reducible refine zR.atLit ?_); first | refine zR.step rfl ?_ | refine zR.getf rfl hR.po rfl ?_) | rw [zcc1] | rw [zcc2] | rw [zcc3] | rw [zcc4] | rw [zb1 (by decide)] | rw [zb2 (by decide)] | rw [zb3 (by decide)] | rw [zb4 (by decide)] | rw [zn1 (by decide)] | rw [zn2 (by decide)] | rw [zn3 (by decide)] | rw [zn4 (by decide)] | rw [ze1 (by decide)] | rw [ze2 (by decide)] | rw [zd1 (by decide)] | rw [zd2 (by decide)] | rw [zswy (by decide)] | rw [zswn (by decide)] | rw [zsw0])
      exact zR.ret rfl rfl hQ
    · rw [if_neg (fun y => by rw [z] at y; exact absurd y.2 (by decide))] at hQ
      show zR ztb _ kX12_isSign 2 0 [some (.ref 287), some (.int 60)] [] _ _ _ _
      repeat (first | ((with_reducible refine zR.stored ?_); dsimp only [zsto, zclr, zset, zget, zc2, cond_false, cond_true]) | ((with_reducible refine zR.atLit ?_); first | refine zR.step rfl ?_ | refine zR.getf rfl hR.po rfl ?_) | rw [zcc1] | rw [zcc2] | rw [zcc3] | rw [zcc4] | rw [zb1 (by decide)] | rw [zb2 (by decide)] | rw [zb3 (by decide)] | rw [zb4 (by decide)] | rw [zn1 (by decide)] | rw [zn2 (by decide)] | rw [zn3 (by decide)] | rw [zn4 (by decide)] | rw [ze1 (by decide)] | rw [ze2 (by decide)] | rw [zd1 (by decide)] | rw [zd2 (by decide)] | rw [zswy (by decide)] | rw [zswn (by decide)] | rw [zsw0])
      exact zR.ret rfl rfl hQ
    · rw [if_neg (fun y => by rw [z] at y; exact absurd y.2 (by decide))] at hQ
      show zR ztb _ kX12_isSign 2 0 [some (.ref 287), some (.int 60)] [] _ _ _ _
      repeat (first | ((with_reducible refine zR.stored ?_); dsimp only [zsto, zclr, zset, zget, zc2, cond_false, cond_true]) | ((with_reducible refine zR.atLit ?_); first | refine zR.step rfl ?_ | refine zR.getf rfl hR.po rfl ?_) | rw [zcc1] | rw [zcc2] | rw [zcc3] | rw [zcc4] | rw [zb1 (by decide)] | rw [zb2 (by decide)] | rw [zb3 (by decide)] | rw [zb4 (by decide)] | rw [zn1 (by decide)] | rw [zn2 (by decide)] | rw [zn3 (by decide)] | rw [zn4 (by decide)] | rw [ze1 (by decide)] | rw [ze2 (by decide)] | rw [zd1 (by decide)] | rw [zd2 (by decide)] | rw [zswy (by decide)] | rw [zswn (by decide)] | rw [zsw0])
      exact zR.ret rfl rfl hQ
    · rw [if_neg (fun y => by rw [z] at y; exact absurd y.2 (by decide))] at hQ
      show zR ztb _ kX12_isSign 2 0 [some (.ref 287), some (.int 60)] [] _ _ _ _
      repeat (first | ((with_reducible refine zR.stored ?_); dsimp only [zsto, zclr, zset, zget, zc2, cond_false, cond_true]) | ((with_reducible refine zR.atLit ?_); first | refine zR.step rfl ?_ | refine zR.getf rfl hR.po rfl ?_) | rw [zcc1] | rw [zcc2] | rw [zcc3] | rw [zcc4] | rw [zb1 (by decide)] | rw [zb2 (by decide)] | rw [zb3 (by decide)] | rw [zb4 (by decide)] | rw [zn1 (by decide)] | rw [zn2 (by decide)] | rw [zn3 (by decide)] | rw [zn4 (by decide)] | rw [ze1 (by decide)] | rw [ze2 (by decide)] | rw [zd1 (by decide)] | rw [zd2 (by decide)] | rw [zswy (by decide)] | rw [zswn (by decide)] | rw [zsw0])
      exact zR.ret rfl rfl hQ
    · rw [if_neg (fun y => by rw [z] at y; have := zn_inj (b := 4) (by omega) (by omega) y.2; omega)] at hQ
      show zR ztb _ kX12_isSign 2 0 [some (.ref 287), some (.int 60)] [] _ _ _ _
      repeat (first | ((with_reducible refine zR.stored ?_); dsimp only [zsto, zclr, zset, zget, zc2, cond_false, cond_true]) | ((with_reducible refine zR.atLit ?_); first | refine zR.step rfl ?_ | refine zR.getf rfl hR.po rfl ?_) | rw [zcc1] | rw [zcc2] | rw [zcc3] | rw [zcc4] | rw [zb1 (by decide)] | rw [zb2 (by decide)] | rw [zb3 (by decide)] | rw [zb4 (by decide)] | rw [zn1 (by decide)] | rw [zn2 (by decide)] | rw [zn3 (by decide)] | rw [zn4 (by decide)] | rw [ze1 (by decide)] | rw [ze2 (by decide)] | rw [zd1 (by decide)] | rw [zd2 (by decide)] | rw [zswy (by decide)] | rw [zswn (by decide)] | rw [zsw0])
      exact zR.ret rfl rfl hQ
  · rw [if_neg (fun z => hn ⟨z.1, fun y => by rw [z.2] at y; exact absurd y (by decide)⟩)] at hQ
    show zR ztb _ kX12_isSign 2 0 [some (.ref 287), some (.int 60)] [] _ _ _ _
    repeat (first | ((with_reducible refine zR.stored ?_); dsimp only [zsto, zclr, zset, zget, zc2, cond_false, cond_true]) | ((with_reducible refine zR.atLit ?_); first | refine zR.step rfl ?_ | refine zR.getf rfl hR.po rfl ?_) | rw [zcc1] | rw [zcc2] | rw [zcc3] | rw [zcc4] | rw [zb1 (by decide)] | rw [zb2 (by decide)] | rw [zb3 (by decide)] | rw [zb4 (by decide)] | rw [zn1 (by decide)] | rw [zn2 (by decide)] | rw [zn3 (by decide)] | rw [zn4 (by decide)] | rw [ze1 (by decide)] | rw [ze2 (by decide)] | rw [zd1 (by decide)] | rw [zd2 (by decide)] | rw [zswy (by decide)] | rw [zswn (by decide)] | rw [zsw0])
    exact zR.ret rfl rfl hQ
theorem c_isSign_5 (h : GS M0 σ β L c nt lm l8 i0 l0 r M) : zCall d 159 [.ref 287, .int 61] n w M (some (.int (if r.1 = true ∧ kdF β L r.2.1 = 5 then 1 else 0))) n w M := by
  intro Q hQ
  obtain ⟨hS, ⟨hr, h1, at_, tk, va, l9, hV, -, -, hR⟩ | ⟨hn, q, -, at_, va, bg, l9, hR⟩⟩ := h
  · rcases hV with ⟨z, rfl⟩ | ⟨z, rfl, rfl⟩ | ⟨z, rfl, rfl⟩ | ⟨z, rfl, rfl⟩ | ⟨z, rfl, rfl⟩ | ⟨z, rfl, rfl⟩ | ⟨z, rfl, rfl⟩ | ⟨z, rfl, rfl⟩ | ⟨i, hi, z, rfl, rfl⟩
    · rw [if_neg (fun y => by rw [z] at y; exact absurd y.2 (by decide))] at hQ
      show zR ztb _ kX12_isSign 2 0 [some (.ref 287), some (.int 61)] [] _ _ _ _
      repeat (first | ((with_reducible refine zR.stored ?_); dsimp only [zsto, zclr, zset, zget, zc2, cond_false, cond_true]) | ((with_reducible refine zR.atLit ?_); first | refine zR.step rfl ?_ | refine zR.getf rfl hR.po rfl ?_) | rw [zcc1] | rw [zcc2] | rw [zcc3] | rw [zcc4] | rw [zb1 (by decide)] | rw [zb2 (by decide)] | rw [zb3 (by decide)] | rw [zb4 (by decide)] | rw [zn1 (by decide)] | rw [zn2 (by decide)] | rw [zn3 (by decide)] | rw [zn4 (by decide)] | rw [ze1 (by decide)] | rw [ze2 (by decide)] | rw [zd1 (by decide)] | rw [zd2 (by decide)] | rw [zswy (by decide)] | rw [zswn (by decide)] | rw [zsw0])
      exact zR.ret rfl rfl hQ
    · rw [if_neg (fun y => by rw [z] at y; exact absurd y.2 (by decide))] at hQ
      show zR ztb _ kX12_isSign 2 0 [some (.ref 287), some (.int 61)] [] _ _ _ _
      repeat (first | ((with_reducible refine zR.stored ?_); dsimp only [zsto, zclr, zset, zget, zc2, cond_false, cond_true]) | ((with_reducible refine zR.atLit ?_); first | refine zR.step rfl ?_ | refine zR.getf rfl hR.po rfl ?_) | rw [zcc1] | rw [zcc2] | rw [zcc3] | rw [zcc4] | rw [zb1 (by decide)] | rw [zb2 (by decide)] | rw [zb3 (by decide)] | rw [zb4 (by decide)] | rw [zn1 (by decide)] | rw [zn2 (by decide)] | rw [zn3 (by decide)] | rw [zn4 (by decide)] | rw [ze1 (by decide)] | rw [ze2 (by decide)] | rw [zd1 (by decide)] | rw [zd2 (by decide)] | rw [zswy (by decide)] | rw [zswn (by decide)] | rw [zsw0])
      exact zR.ret rfl rfl hQ
    · rw [if_neg (fun y => by rw [z] at y; exact absurd y.2 (by decide))] at hQ
      show zR ztb _ kX12_isSign 2 0 [some (.ref 287), some (.int 61)] [] _ _ _ _
      repeat (first | ((with_reducible refine zR.stored ?_); dsimp only [zsto, zclr, zset, zget, zc2, cond_false, cond_true]) | ((with_reducible refine zR.atLit ?_); first | refine zR.step rfl ?_ | refine zR.getf rfl hR.po rfl ?_) | rw [zcc1] | rw [zcc2] | rw [zcc3] | rw [zcc4] | rw [zb1 (by decide)] | rw [zb2 (by decide)] | rw [zb3 (by decide)] | rw [zb4 (by decide)] | rw [zn1 (by decide)] | rw [zn2 (by decide)] | rw [zn3 (by decide)] | rw [zn4 (by decide)] | rw [ze1 (by decide)] | rw [ze2 (by decide)] | rw [zd1 (by decide)] | rw [zd2 (by decide)] | rw [zswy (by decide)] | rw [zswn (by decide)] | rw [zsw0])
      exact zR.ret rfl rfl hQ
    · rw [if_neg (fun y => by rw [z] at y; exact absurd y.2 (by decide))] at hQ
      show zR ztb _ kX12_isSign 2 0 [some (.ref 287), some (.int 61)] [] _ _ _ _
      repeat (first | ((with_reducible refine zR.stored ?_); dsimp only [zsto, zclr, zset, zget, zc2, cond_false, cond_true]) | ((with_reducible refine zR.atLit ?_); first | refine zR.step rfl ?_ | refine zR.getf rfl hR.po rfl ?_) | rw [zcc1] | rw [zcc2] | rw [zcc3] | rw [zcc4] | rw [zb1 (by decide)] | rw [zb2 (by decide)] | rw [zb3 (by decide)] | rw [zb4 (by decide)] | rw [zn1 (by decide)] | rw [zn2 (by decide)] | rw [zn3 (by decide)] | rw [zn4 (by decide)] | rw [ze1 (by decide)] | rw [ze2 (by decide)] | rw [zd1 (by decide)] | rw [zd2 (by decide)] | rw [zswy (by decide)] | rw [zswn (by decide)] | rw [zsw0])
      exact zR.ret rfl rfl hQ
    · rw [if_pos ⟨hr, z⟩] at hQ
      show zR ztb _ kX12_isSign 2 0 [some (.ref 287), some (.int 61)] [] _ _ _ _
      repeat (first | ((with_reducible refine zR.stored ?_); dsimp only [zsto, zclr, zset, zget, zc2, cond_false, cond_true]) | ((with_reducible refine zR.atLit ?_); first | refine zR.step rfl ?_ | refine zR.getf rfl hR.po rfl ?_) | rw [zcc1] | rw [zcc2] | rw [zcc3] | rw [zcc4] | rw [zb1 (by decide)] | rw [zb2 (by decide)] | rw [zb3 (by decide)] | rw [zb4 (by decide)] | rw [zn1 (by decide)] | rw [zn2 (by decide)] | rw [zn3 (by decide)] | rw [zn4 (by decide)] | rw [ze1 (by decide)] | rw [ze2 (by decide)] | rw [zd1 (by decide)] | rw [zd2 (by decide)] | rw [zswy (by decide)] | rw [zswn (by decide)] | rw [zsw0])
      exact zR.ret rfl rfl hQ
    · rw [if_neg (fun y => by rw [z] at y; exact absurd y.2 (by decide))] at hQ
      show zR ztb _ kX12_isSign 2 0 [some (.ref 287), some (.int 61)] [] _ _ _ _
      repeat (first | ((with_reducible refine zR.stored ?_); dsimp only [zsto, zclr, zset, zget, zc2, cond_false, cond_true]) | ((with_reducible refine zR.atLit ?_); first | refine zR.step rfl ?_ | refine zR.getf rfl hR.po rfl ?_) | rw [zcc1] | rw [zcc2] | rw [zcc3] | rw [zcc4] | rw [zb1 (by decide)] | rw [zb2 (by decide)] | rw [zb3 (by decide)] | rw [zb4 (by decide)] | rw [zn1 (by decide)] | rw [zn2 (by decide)] | rw [zn3 (by decide)] | rw [zn4 (by decide)] | rw [ze1 (by decide)] | rw [ze2 (by decide)] | rw [zd1 (by decide)] | rw [zd2 (by decide)] | rw [zswy (by decide)] | rw [zswn (by decide)] | rw [zsw0])
      exact zR.ret rfl rfl hQ
    · rw [if_neg (fun y => by rw [z] at y; exact absurd y.2 (by decide))] at hQ
      show zR ztb _ kX12_isSign 2 0 [some (.ref 287), some (.int 61)] [] _ _ _ _
      repeat (first | ((with_reducible refine zR.stored ?_); dsimp only [zsto, zclr, zset, zget, zc2, cond_false, cond_true]) | ((with_reducible refine zR.atLit ?_); first | refine zR.step rfl ?_ | refine zR.getf rfl hR.po rfl ?_) | rw [zcc1] | rw [zcc2] | rw [zcc3] | rw [zcc4] | rw [zb1 (by decide)] | rw [zb2 (by decide)] | rw [zb3 (by decide)] | rw [zb4 (by decide)] | rw [zn1 (by decide)] | rw [zn2 (by decide)] | rw [zn3 (by decide)] | rw [zn4 (by decide)] | rw [ze1 (by decide)] | rw [ze2 (by decide)] | rw [zd1 (by decide)] | rw [zd2 (by decide)] | rw [zswy (by decide)] | rw [zswn (by decide)] | rw [zsw0])
      exact zR.ret rfl rfl hQ
    · rw [if_neg (fun y => by rw [z] at y; exact absurd y.2 (by decide))] at hQ
      show zR ztb _ kX12_isSign 2 0 [some (.ref 287), some (.int 61)] [] _ _ _ _
      repeat (first | ((with_reducible refine zR.stored ?_); dsimp only [zsto, zclr, zset, zget, zc2, cond_false, cond_true]) | ((with_reducible refine zR.atLit ?_); first | refine zR.step rfl ?_ | refine zR.getf rfl hR.po rfl ?_) | rw [zcc1] | rw [zcc2] | rw [zcc3] | rw [zcc4] | rw [zb1 (by decide)] | rw [zb2 (by decide)] | rw [zb3 (by decide)] | rw [zb4 (by decide)] | rw [zn1 (by decide)] | rw [zn2 (by decide)] | rw [zn3 (by decide)] | rw [zn4 (by decide)] | rw [ze1 (by decide)] | rw [ze2 (by decide)] | rw [zd1 (by decide)] | rw [zd2 (by decide)] | rw [zswy (by decide)] | rw [zswn (by decide)] | rw [zsw0])
      exact zR.ret rfl rfl hQ
    · rw [if_neg (fun y => by rw [z] at y; have := zn_inj (b := 5) (by omega) (by omega) y.2; omega)] at hQ
      show zR ztb _ kX12_isSign 2 0 [some (.ref 287), some (.int 61)] [] _ _ _ _
      repeat (first | ((with_reducible refine zR.stored ?_); dsimp only [zsto, zclr, zset, zget, zc2, cond_false, cond_true]) | ((with_reducible refine zR.atLit ?_); first | refine zR.step rfl ?_ | refine zR.getf rfl hR.po rfl ?_) | rw [zcc1] | rw [zcc2] | rw [zcc3] | rw [zcc4] | rw [zb1 (by decide)] | rw [zb2 (by decide)] | rw [zb3 (by decide)] | rw [zb4 (by decide)] | rw [zn1 (by decide)] | rw [zn2 (by decide)] | rw [zn3 (by decide)] | rw [zn4 (by decide)] | rw [ze1 (by decide)] | rw [ze2 (by decide)] | rw [zd1 (by decide)] | rw [zd2 (by decide)] | rw [zswy (by decide)] | rw [zswn (by decide)] | rw [zsw0])
      exact zR.ret rfl rfl hQ
  · rw [if_neg (fun z => hn ⟨z.1, fun y => by rw [z.2] at y; exact absurd y (by decide)⟩)] at hQ
    show zR ztb _ kX12_isSign 2 0 [some (.ref 287), some (.int 61)] [] _ _ _ _
    repeat (first | ((with_reducible refine zR.stored ?_); dsimp only [zsto, zclr, zset, zget, zc2, cond_false, cond_true]) | ((with_reducible refine zR.atLit ?_); first | refine zR.step rfl ?_ | refine zR.getf rfl hR.po rfl ?_) | rw [zcc1] | rw [zcc2] | rw [zcc3] | rw [zcc4] | rw [zb1 (by decide)] | rw [zb2 (by decide)] | rw [zb3 (by decide)] | rw [zb4 (by decide)] | rw [zn1 (by decide)] | rw [zn2 (by decide)] | rw [zn3 (by decide)] | rw [zn4 (by decide)] | rw [ze1 (by decide)] | rw [ze2 (by decide)] | rw [zd1 (by decide)] | rw [zd2 (by decide)] | rw [zswy (by decide)] | rw [zswn (by decide)] | rw [zsw0])
    exact zR.ret rfl rfl hQ
theorem c_isSign_6 (h : GS M0 σ β L c nt lm l8 i0 l0 r M) : zCall d 159 [.ref 287, .int 40] n w M (some (.int (if r.1 = true ∧ kdF β L r.2.1 = 6 then 1 else 0))) n w M := by
  intro Q hQ
  obtain ⟨hS, ⟨hr, h1, at_, tk, va, l9, hV, -, -, hR⟩ | ⟨hn, q, -, at_, va, bg, l9, hR⟩⟩ := h
  · rcases hV with ⟨z, rfl⟩ | ⟨z, rfl, rfl⟩ | ⟨z, rfl, rfl⟩ | ⟨z, rfl, rfl⟩ | ⟨z, rfl, rfl⟩ | ⟨z, rfl, rfl⟩ | ⟨z, rfl, rfl⟩ | ⟨z, rfl, rfl⟩ | ⟨i, hi, z, rfl, rfl⟩
    · rw [if_neg (fun y => by rw [z] at y; exact absurd y.2 (by decide))] at hQ
      show zR ztb _ kX12_isSign 2 0 [some (.ref 287), some (.int 40)] [] _ _ _ _
      repeat (first | ((with_reducible refine zR.stored ?_); dsimp only [zsto, zclr, zset, zget, zc2, cond_false, cond_true]) | ((with_reducible refine zR.atLit ?_); first | refine zR.step rfl ?_ | refine zR.getf rfl hR.po rfl ?_) | rw [zcc1] | rw [zcc2] | rw [zcc3] | rw [zcc4] | rw [zb1 (by decide)] | rw [zb2 (by decide)] | rw [zb3 (by decide)] | rw [zb4 (by decide)] | rw [zn1 (by decide)] | rw [zn2 (by decide)] | rw [zn3 (by decide)] | rw [zn4 (by decide)] | rw [ze1 (by decide)] | rw [ze2 (by decide)] | rw [zd1 (by decide)] | rw [zd2 (by decide)] | rw [zswy (by decide)] | rw [zswn (by decide)] | rw [zsw0])
      exact zR.ret rfl rfl hQ
    · rw [if_neg (fun y => by rw [z] at y; exact absurd y.2 (by decide))] at hQ
      show zR ztb _ kX12_isSign 2 0 [some (.ref 287), some (.int 40)] [] _ _ _ _
      repeat (first | ((with_reducible refine zR.stored ?_); dsimp only [zsto, zclr, zset, zget, zc2, cond_false, cond_true]) | ((with_reducible refine zR.atLit ?_); first | refine zR.step rfl ?_ | refine zR.getf rfl hR.po rfl ?_) | rw [zcc1] | rw [zcc2] | rw [zcc3] | rw [zcc4] | rw [zb1 (by decide)] | rw [zb2 (by decide)] | rw [zb3 (by decide)] | rw [zb4 (by decide)] | rw [zn1 (by decide)] | rw [zn2 (by decide)] | rw [zn3 (by decide)] | rw [zn4 (by decide)] | rw [ze1 (by decide)] | rw [ze2 (by decide)] | rw [zd1 (by decide)] | rw [zd2 (by decide)] | rw [zswy (by decide)] | rw [zswn (by decide)] | rw [zsw0])
      exact zR.ret rfl rfl hQ
    · rw [if_neg (fun y => by rw [z] at y; exact absurd y.2 (by decide))] at hQ
      show zR ztb _ kX12_isSign 2 0 [some (.ref 287), some (.int 40)] [] _ _ _ _
      repeat (first | ((with_reducible refine zR.stored ?_); dsimp only [zsto, zclr, zset, zget, zc2, cond_false, cond_true]) | ((with_reducible refine zR.atLit ?_); first | refine zR.step rfl ?_ | refine zR.getf rfl hR.po rfl ?_) | rw [zcc1] | rw [zcc2] | rw [zcc3] | rw [zcc4] | rw [zb1 (by decide)] | rw [zb2 (by decide)] | rw [zb3 (by decide)] | rw [zb4 (by decide)] | rw [zn1 (by decide)] | rw [zn2 (by decide)] | rw [zn3 (by decide)] | rw [zn4 (by decide)] | rw [ze1 (by decide)] | rw [ze2 (by decide)] | rw [zd1 (by decide)] | rw [zd2 (by decide)] | rw [zswy (by decide)] | rw [zswn (by decide)] | rw [zsw0])
      exact zR.ret rfl rfl hQ
    · rw [if_neg (fun y => by rw [z] at y; exact absurd y.2 (by decide))] at hQ
      show zR ztb _ kX12_isSign 2 0 [some (.ref 287), some (.int 40)] [] _ _ _ _
      repeat (first | ((with_reducible refine zR.stored ?_); dsimp only [zsto, zclr, zset, zget, zc2, cond_false, cond_true]) | ((with_reducible refine zR.atLit ?_); first | refine zR.step rfl ?_ | refine zR.getf rfl hR.po rfl ?_) | rw [zcc1] | rw [zcc2] | rw [zcc3] | rw [zcc4] | rw [zb1 (by decide)] | rw [zb2 (by decide)] | rw [zb3 (by decide)] | rw [zb4 (by decide)] | rw [zn1 (by decide)] | rw [zn2 (by decide)] | rw [zn3 (by decide)] | rw [zn4 (by decide)] | rw [ze1 (by decide)] | rw [ze2 (by decide)] | rw [zd1 (by decide)] | rw [zd2 (by decide)] | rw [zswy (by decide)] | rw [zswn (by decide)] | rw [zsw0])
      exact zR.ret rfl rfl hQ
    · rw [if_neg (fun y => by rw [z] at y; exact absurd y.2 (by decide))] at hQ
      show zR ztb _ kX12_isSign 2 0 [some (.ref 287), some (.int 40)] [] _ _ _ _
      repeat (first | ((with_reducible refine zR.stored ?_); dsimp only [zsto, zclr, zset, zget, zc2, cond_false, cond_true]) | ((with_reducible refine zR.atLit ?_); first | refine zR.step rfl ?_ | refine zR.getf rfl hR.po rfl ?_) | rw [zcc1] | rw [zcc2] | rw [zcc3] | rw [zcc4] | rw [zb1 (by decide)] | rw [zb2 (by decide)] | rw [zb3 (by decide)] | rw [zb4 (by decide)] | rw [zn1 (by decide)] | rw [zn2 (by decide)] | rw [zn3 (by decide)] | rw [zn4 (by decide)] | rw [ze1 (by decide)] | rw [ze2 (by decide)] | rw [zd1 (by decide)] | rw [zd2 (by decide)] | rw [zswy (by decide)] | rw [zswn (by decide)] | rw [zsw0])
      exact zR.ret rfl rfl hQ
    · rw [if_pos ⟨hr, z⟩] at hQ
      show zR ztb _ kX12_isSign 2 0 [some (.ref 287), some (.int 40)] [] _ _ _ _
      repeat (first | ((with_reducible refine zR.stored ?_); dsimp only [zsto, zclr, zset, zget, zc2, cond_false, cond_true]) | ((with_reducible refine zR.atLit ?_); first | refine zR.step rfl ?_ | refine zR.getf rfl hR.po rfl ?_) | rw [zcc1] | rw [zcc2] | rw [zcc3] | rw [zcc4] | rw [zb1 (by decide)] | rw [zb2 (by decide)] | rw [zb3 (by decide)] | rw [zb4 (by decide)] | rw [zn1 (by decide)] | rw [zn2 (by decide)] | rw [zn3 (by decide)] | rw [zn4 (by decide)] | rw [ze1 (by decide)] | rw [ze2 (by decide)] | rw [zd1 (by decide)] | rw [zd2 (by decide)] | rw [zswy (by decide)] | rw [zswn (by decide)] | rw [zsw0])
      exact zR.ret rfl rfl hQ
    · rw [if_neg (fun y => by rw [z] at y; exact absurd y.2 (by decide))] at hQ
      show zR ztb _ kX12_isSign 2 0 [some (.ref 287), some (.int 40)] [] _ _ _ _
      repeat (first | ((with_reducible refine zR.stored ?_); dsimp only [zsto, zclr, zset, zget, zc2, cond_false, cond_true]) | ((with_reducible refine zR.atLit ?_); first | refine zR.step rfl ?_ | refine zR.getf rfl hR.po rfl ?_) | rw [zcc1] | rw [zcc2] | rw [zcc3] | rw [zcc4] | rw [zb1 (by decide)] | rw [zb2 (by decide)] | rw [zb3 (by decide)] | rw [zb4 (by decide)] | rw [zn1 (by decide)] | rw [zn2 (by decide)] | rw [zn3 (by decide)] | rw [zn4 (by decide)] | rw [ze1 (by decide)] | rw [ze2 (by decide)] | rw [zd1 (by decide)] | rw [zd2 (by decide)] | rw [zswy (by decide)] | rw [zswn (by decide)] | rw [zsw0])
      exact zR.ret rfl rfl hQ
    · rw [if_neg (fun y => by rw [z] at y; exact absurd y.2 (by decide))] at hQ
      show zR ztb _ kX12_isSign 2 0 [some (.ref 287), some (.int 40)] [] _ _ _ _
      repeat (first | ((with_reducible refine zR.stored ?_); dsimp only [zsto, zclr, zset, zget, zc2, cond_false, cond_true]) | ((with_reducible refine zR.atLit ?_); first | refine zR.step rfl ?_ | refine zR.getf rfl hR.po rfl ?_) | rw [zcc1] | rw [zcc2] | rw [zcc3] | rw [zcc4] | rw [zb1 (by decide)] | rw [zb2 (by decide)] | rw [zb3 (by decide)] | rw [zb4 (by decide)] | rw [zn1 (by decide)] | rw [zn2 (by decide)] | rw [zn3 (by decide)] | rw [zn4 (by decide)] | rw [ze1 (by decide)] | rw [ze2 (by decide)] | rw [zd1 (by decide)] | rw [zd2 (by decide)] | rw [zswy (by decide)] | rw [zswn (by decide)] | rw [zsw0])
      exact zR.ret rfl rfl hQ
    · rw [if_neg (fun y => by rw [z] at y; have := zn_inj (b := 6) (by omega) (by omega) y.2; omega)] at hQ
      show zR ztb _ kX12_isSign 2 0 [some (.ref 287), some (.int 40)] [] _ _ _ _
      repeat (first | ((with_reducible refine zR.stored ?_); dsimp only [zsto, zclr, zset, zget, zc2, cond_false, cond_true]) | ((with_reducible refine zR.atLit ?_); first | refine zR.step rfl ?_ | refine zR.getf rfl hR.po rfl ?_) | rw [zcc1] | rw [zcc2] | rw [zcc3] | rw [zcc4] | rw [zb1 (by decide)] | rw [zb2 (by decide)] | rw [zb3 (by decide)] | rw [zb4 (by decide)] | rw [zn1 (by decide)] | rw [zn2 (by decide)] | rw [zn3 (by decide)] | rw [zn4 (by decide)] | rw [ze1 (by decide)] | rw [ze2 (by decide)] | rw [zd1 (by decide)] | rw [zd2 (by decide)] | rw [zswy (by decide)] | rw [zswn (by decide)] | rw [zsw0])
      exact zR.ret rfl rfl hQ
  · rw [if_neg (fun z => hn ⟨z.1, fun y => by rw [z.2] at y; exact absurd y (by decide)⟩)] at hQ
    show zR ztb _ kX12_isSign 2 0 [some (.ref 287), some (.int 40)] [] _ _ _ _
    repeat (first | ((with_reducible refine zR.stored ?_); dsimp only [zsto, zclr, zset, zget, zc2, cond_false, cond_true]) | ((with_reducible refine zR.atLit ?_); first | refine zR.step rfl ?_ | refine zR.getf rfl hR.po rfl ?_) | rw [zcc1] | rw [zcc2] | rw [zcc3] | rw [zcc4] | rw [zb1 (by decide)] | rw [zb2 (by decide)] | rw [zb3 (by decide)] | rw [zb4 (by decide)] | rw [zn1 (by decide)] | rw [zn2 (by decide)] | rw [zn3 (by decide)] | rw [zn4 (by decide)] | rw [ze1 (by decide)] | rw [ze2 (by decide)] | rw [zd1 (by decide)] | rw [zd2 (by decide)] | rw [zswy (by decide)] | rw [zswn (by decide)] | rw [zsw0])
    exact zR.ret rfl rfl hQ
theorem c_isSign_7 (h : GS M0 σ β L c nt lm l8 i0 l0 r M) : zCall d 159 [.ref 287, .int 41] n w M (some (.int (if r.1 = true ∧ kdF β L r.2.1 = 7 then 1 else 0))) n w M := by
  intro Q hQ
  obtain ⟨hS, ⟨hr, h1, at_, tk, va, l9, hV, -, -, hR⟩ | ⟨hn, q, -, at_, va, bg, l9, hR⟩⟩ := h
  · rcases hV with ⟨z, rfl⟩ | ⟨z, rfl, rfl⟩ | ⟨z, rfl, rfl⟩ | ⟨z, rfl, rfl⟩ | ⟨z, rfl, rfl⟩ | ⟨z, rfl, rfl⟩ | ⟨z, rfl, rfl⟩ | ⟨z, rfl, rfl⟩ | ⟨i, hi, z, rfl, rfl⟩
    · rw [if_neg (fun y => by rw [z] at y; exact absurd y.2 (by decide))] at hQ
      show zR ztb _ kX12_isSign 2 0 [some (.ref 287), some (.int 41)] [] _ _ _ _
      repeat (first | ((with_reducible refine zR.stored ?_); dsimp only [zsto, zclr, zset, zget, zc2, cond_false, cond_true]) | ((with_reducible refine zR.atLit ?_); first | refine zR.step rfl ?_ | refine zR.getf rfl hR.po rfl ?_) | rw [zcc1] | rw [zcc2] | rw [zcc3] | rw [zcc4] | rw [zb1 (by decide)] | rw [zb2 (by decide)] | rw [zb3 (by decide)] | rw [zb4 (by decide)] | rw [zn1 (by decide)] | rw [zn2 (by decide)] | rw [zn3 (by decide)] | rw [zn4 (by decide)] | rw [ze1 (by decide)] | rw [ze2 (by decide)] | rw [zd1 (by decide)] | rw [zd2 (by decide)] | rw [zswy (by decide)] | rw [zswn (by decide)] | rw [zsw0])
      exact zR.ret rfl rfl hQ
    · rw [if_neg (fun y => by rw [z] at y; exact absurd y.2 (by decide))] at hQ
      show zR ztb _ kX12_isSign 2 0 [some (.ref 287), some (.int 41)] [] _ _ _ _
      repeat (first | ((with_reducible refine zR.stored ?_); dsimp only [zsto, zclr, zset, zget, zc2, cond_false, cond_true]) | ((with_reducible refine zR.atLit ?_); first | refine zR.step rfl ?_ | refine zR.getf rfl hR.po rfl ?_) | rw [zcc1] | rw [zcc2] | rw [zcc3] | rw [zcc4] | rw [zb1 (by decide)] | rw [zb2 (by decide)] | rw [zb3 (by decide)] | rw [zb4 (by decide)] | rw [zn1 (by decide)] | rw [zn2 (by decide)] | rw [zn3 (by decide)] | rw [zn4 (by decide)] | rw [ze1 (by decide)] | rw [ze2 (by decide)] | rw [zd1 (by decide)] | rw [zd2 (by decide)] | rw [zswy (by decide)] | rw [zswn (by decide)] | rw [zsw0])
      exact zR.ret rfl rfl hQ
    · rw [if_neg (fun y => by rw [z] at y; exact absurd y.2 (by decide))] at hQ
      show zR ztb _ kX12_isSign 2 0 [some (.ref 287), some (.int 41)] [] _ _ _ _
      repeat (first | ((with_reducible refine zR.stored ?_); dsimp only [zsto, zclr, zset, zget, zc2, cond_false, cond_true]) | ((with_reducible refine zR.atLit ?_); first | refine zR.step rfl ?_ | refine zR.getf rfl hR.po rfl ?_) | rw [zcc1] | rw [zcc2] | rw [zcc3] | rw [zcc4] | rw [zb1 (by decide)] | rw [zb2 (by decide)] | rw [zb3 (by decide)] | rw [zb4 (by decide)] | rw [zn1 (by decide)] | rw [zn2 (by decide)] | rw [zn3 (by decide)] | rw [zn4 (by decide)] | rw [ze1 (by decide)] | rw [ze2 (by decide)] | rw [zd1 (by decide)] | rw [zd2 (by decide)] | rw [zswy (by decide)] | rw [zswn (by decide)] | rw [zsw0])
      exact zR.ret rfl rfl hQ
    · rw [if_neg (fun y => by rw [z] at y; exact absurd y.2 (by decide))] at hQ
      show zR ztb _ kX12_isSign 2 0 [some (.ref 287), some (.int 41)] [] _ _ _ _
      repeat (first | ((with_reducible refine zR.stored ?_); dsimp only [zsto, zclr, zset, zget, zc2, cond_false, cond_true]) | ((with_reducible refine zR.atLit ?_); first | refine zR.step rfl ?_ | refine zR.getf rfl hR.po rfl ?_) | rw [zcc1] | rw [zcc2] | rw [zcc3] | rw [zcc4] | rw [zb1 (by decide)] | rw [zb2 (by decide)] | rw [zb3 (by decide)] | rw [zb4 (by decide)] | rw [zn1 (by decide)] | rw [zn2 (by decide)] | rw [zn3 (by decide)] | rw [zn4 (by decide)] | rw [ze1 (by decide)] | rw [ze2 (by decide)] | rw [zd1 (by decide)] | rw [zd2 (by decide)] | rw [zswy (by decide)] | rw [zswn (by decide)] | rw [zsw0])
      exact zR.ret rfl rfl hQ
    · rw [if_neg (fun y => by rw [z] at y; exact absurd y.2 (by decide))] at hQ
      show zR ztb _ kX12_isSign 2 0 [some (.ref 287), some (.int 41)] [] _ _ _ _
      repeat (first | ((with_reducible refine zR.stored ?_); dsimp only [zsto, zclr, zset, zget, zc2, cond_false, cond_true]) | ((with_reducible refine zR.atLit ?_); first | refine zR.step rfl ?_ | refine zR.getf rfl hR.po rfl ?_) | rw [zcc1] | rw [zcc2] | rw [zcc3] | rw [zcc4] | rw [zb1 (by decide)] | rw [zb2 (by decide)] | rw [zb3 (by decide)] | rw [zb4 (by decide)] | rw [zn1 (by decide)] | rw [zn2 (by decide)] | rw [zn3 (by decide)] | rw [zn4 (by decide)] | rw [ze1 (by decide)] | rw [ze2 (by decide)] | rw [zd1 (by decide)] | rw [zd2 (by decide)] | rw [zswy (by decide)] | rw [zswn (by decide)] | rw [zsw0])
      exact zR.ret rfl rfl hQ
    · rw [if_neg (fun y => by rw [z] at y; exact absurd y.2 (by decide))] at hQ
      show zR ztb _ kX12_isSign 2 0 [some (.ref 287), some (.int 41)] [] _ _ _ _
      repeat (first | ((with_reducible refine zR.stored ?_); dsimp only [zsto, zclr, zset, zget, zc2, cond_false, cond_true]) | ((with_reducible refine zR.atLit ?_); first | refine zR.step rfl ?_ | refine zR.getf rfl hR.po rfl ?_) | rw [zcc1] | rw [zcc2] | rw [zcc3] | rw [zcc4] | rw [zb1 (by decide)] | rw [zb2 (by decide)] | rw [zb3 (by decide)] | rw [zb4 (by decide)] | rw [zn1 (by decide)] | rw [zn2 (by decide)] | rw [zn3 (by decide)] | rw [zn4 (by decide)] | rw [ze1 (by decide)] | rw [ze2 (by decide)] | rw [zd1 (by decide)] | rw [zd2 (by decide)] | rw [zswy (by decide)] | rw [zswn (by decide)] | rw [zsw0])
      exact zR.ret rfl rfl hQ
    · rw [if_pos ⟨hr, z⟩] at hQ
      show zR ztb _ kX12_isSign 2 0 [some (.ref 287), some (.int 41)] [] _ _ _ _
      repeat (first | ((with_reducible refine zR.stored ?_); dsimp only [zsto, zclr, zset, zget, zc2, cond_false, cond_true]) | ((with_reducible refine zR.atLit ?_); first | refine zR.step rfl ?_ | refine zR.getf rfl hR.po rfl ?_) | rw [zcc1] | rw [zcc2] | rw [zcc3] | rw [zcc4] | rw [zb1 (by decide)] | rw [zb2 (by decide)] | rw [zb3 (by decide)] | rw [zb4 (by decide)] | rw [zn1 (by decide)] | rw [zn2 (by decide)] | rw [zn3 (by decide)] | rw [zn4 (by decide)] | rw [ze1 (by decide)] | rw [ze2 (by decide)] | rw [zd1 (by decide)] | rw [zd2 (by decide)] | rw [zswy (by decide)] | rw [zswn (by decide)] | rw [zsw0])
      exact zR.ret rfl rfl hQ
    · rw [if_neg (fun y => by rw [z] at y; exact absurd y.2 (by decide))] at hQ
      show zR ztb _ kX12_isSign 2 0 [some (.ref 287), some (.int 41)] [] _ _ _ _
      repeat (first | ((with_reducible refine zR.stored ?_); dsimp only [zsto, zclr, zset, zget, zc2, cond_false, cond_true]) | ((with_reducible refine zR.atLit ?_); first | refine zR.step rfl ?_ | refine zR.getf rfl hR.po rfl ?_) | rw [zcc1] | rw [zcc2] | rw [zcc3] | rw [zcc4] | rw [zb1 (by decide)] | rw [zb2 (by decide)] | rw [zb3 (by decide)] | rw [zb4 (by decide)] | rw [zn1 (by decide)] | rw [zn2 (by decide)] | rw [zn3 (by decide)] | rw [zn4 (by decide)] | rw [ze1 (by decide)] | rw [ze2 (by decide)] | rw [zd1 (by decide)] | rw [zd2 (by decide)] | rw [zswy (by decide)] | rw [zswn (by decide)] | rw [zsw0])
      exact zR.ret rfl rfl hQ
    · rw [if_neg (fun y => by rw [z] at y; have := zn_inj (b := 7) (by omega) (by omega) y.2; omega)] at hQ
      show zR ztb _ kX12_isSign 2 0 [some (.ref 287), some (.int 41)] [] _ _ _ _
      repeat (first | ((with_reducible refine zR.stored ?_); dsimp only [zsto, zclr, zset, zget, zc2, cond_false, cond_true]) | ((with_reducible refine zR.atLit ?_); first | refine zR.step rfl ?_ | refine zR.getf rfl hR.po rfl ?_) | rw [zcc1] | rw [zcc2] | rw [zcc3] | rw [zcc4] | rw [zb1 (by decide)] | rw [zb2 (by decide)] | rw [zb3 (by decide)] | rw [zb4 (by decide)] | rw [zn1 (by decide)] | rw [zn2 (by decide)] | rw [zn3 (by decide)] | rw [zn4 (by decide)] | rw [ze1 (by decide)] | rw [ze2 (by decide)] | rw [zd1 (by decide)] | rw [zd2 (by decide)] | rw [zswy (by decide)] | rw [zswn (by decide)] | rw [zsw0])
      exact zR.ret rfl rfl hQ
  · rw [if_neg (fun z => hn ⟨z.1, fun y => by rw [z.2] at y; exact absurd y (by decide)⟩)] at hQ
    show zR ztb _ kX12_isSign 2 0 [some (.ref 287), some (.int 41)] [] _ _ _ _
    repeat (first | ((with_reducible refine zR.stored ?_); dsimp only [zsto, zclr, zset, zget, zc2, cond_false, cond_true]) | ((with_reducible refine zR.atLit ?_); first | refine zR.step rfl ?_ | refine zR.getf rfl hR.po rfl ?_) | rw [zcc1] | rw [zcc2] | rw [zcc3] | rw [zcc4] | rw [zb1 (by decide)] | rw [zb2 (by decide)] | rw [zb3 (by decide)] | rw [zb4 (by decide)] | rw [zn1 (by decide)] | rw [zn2 (by decide)] | rw [zn3 (by decide)] | rw [zn4 (by decide)] | rw [ze1 (by decide)] | rw [ze2 (by decide)] | rw [zd1 (by decide)] | rw [zd2 (by decide)] | rw [zswy (by decide)] | rw [zswn (by decide)] | rw [zsw0])
    exact zR.ret rfl rfl hQ
theorem c_isSign_8 (h : GS M0 σ β L c nt lm l8 i0 l0 r M) : zCall d 159 [.ref 287, .int 59] n w M (some (.int (if r.1 = true ∧ kdF β L r.2.1 = 8 then 1 else 0))) n w M := by
  intro Q hQ
  obtain ⟨hS, ⟨hr, h1, at_, tk, va, l9, hV, -, -, hR⟩ | ⟨hn, q, -, at_, va, bg, l9, hR⟩⟩ := h
  · rcases hV with ⟨z, rfl⟩ | ⟨z, rfl, rfl⟩ | ⟨z, rfl, rfl⟩ | ⟨z, rfl, rfl⟩ | ⟨z, rfl, rfl⟩ | ⟨z, rfl, rfl⟩ | ⟨z, rfl, rfl⟩ | ⟨z, rfl, rfl⟩ | ⟨i, hi, z, rfl, rfl⟩
    · rw [if_neg (fun y => by rw [z] at y; exact absurd y.2 (by decide))] at hQ
      show zR ztb _ kX12_isSign 2 0 [some (.ref 287), some (.int 59)] [] _ _ _ _
      repeat (first | ((with_reducible refine zR.stored ?_); dsimp only [zsto, zclr, zset, zget, zc2, cond_false, cond_true]) | ((with_reducible refine zR.atLit ?_); first | refine zR.step rfl ?_ | refine zR.getf rfl hR.po rfl ?_) | rw [zcc1] | rw [zcc2] | rw [zcc3] | rw [zcc4] | rw [zb1 (by decide)] | rw [zb2 (by decide)] | rw [zb3 (by decide)] | rw [zb4 (by decide)] | rw [zn1 (by decide)] | rw [zn2 (by decide)] | rw [zn3 (by decide)] | rw [zn4 (by decide)] | rw [ze1 (by decide)] | rw [ze2 (by decide)] | rw [zd1 (by decide)] | rw [zd2 (by decide)] | rw [zswy (by decide)] | rw [zswn (by decide)] | rw [zsw0])
      exact zR.ret rfl rfl hQ
    · rw [if_neg (fun y => by rw [z] at y; exact absurd y.2 (by decide))] at hQ
      show zR ztb _ kX12_isSign 2 0 [some (.ref 287), some (.int 59)] [] _ _ _ _
      repeat (first | ((with_reducible refine zR.stored ?_); dsimp only [zsto, zclr, zset, zget, zc2, cond_false, cond_true]) | ((with_reducible refine zR.atLit ?_); first | refine zR.step rfl ?_ | refine zR.getf rfl hR.po rfl ?_) | rw [zcc1] | rw [zcc2] | rw [zcc3] | rw [zcc4] | rw [zb1 (by decide)] | rw [zb2 (by decide)] | rw [zb3 (by decide)] | rw [zb4 (by decide)] | rw [zn1 (by decide)] | rw [zn2 (by decide)] | rw [zn3 (by decide)] | rw [zn4 (by decide)] | rw [ze1 (by decide)] | rw [ze2 (by decide)] | rw [zd1 (by decide)] | rw [zd2 (by decide)] | rw [zswy (by decide)] | rw [zswn (by decide)] | rw [zsw0])
      exact zR.ret rfl rfl hQ
    · rw [if_neg (fun y => by rw [z] at y; exact absurd y.2 (by decide))] at hQ
      show zR ztb _ kX12_isSign 2 0 [some (.ref 287), some (.int 59)] [] _ _ _ _
      repeat (first | ((with_reducible refine zR.stored ?_); dsimp only [zsto, zclr, zset, zget, zc2, cond_false, cond_true]) | ((with_reducible refine zR.atLit ?_); first | refine zR.step rfl ?_ | refine zR.getf rfl hR.po rfl ?_) | rw [zcc1] | rw [zcc2] | rw [zcc3] | rw [zcc4] | rw [zb1 (by decide)] | rw [zb2 (by decide)] | rw [zb3 (by decide)] | rw [zb4 (by decide)] | rw [zn1 (by decide)] | rw [zn2 (by decide)] | rw [zn3 (by decide)] | rw [zn4 (by decide)] | rw [ze1 (by decide)] | rw [ze2 (by decide)] | rw [zd1 (by decide)] | rw [zd2 (by decide)] | rw [zswy (by decide)] | rw [zswn (by decide)] | rw [zsw0])
      exact zR.ret rfl rfl hQ
    · rw [if_neg (fun y => by rw [z] at y; exact absurd y.2 (by decide))] at hQ
      show zR ztb _ kX12_isSign 2 0 [some (.ref 287), some (.int 59)] [] _ _ _ _
      repeat (first | ((with_reducible refine zR.stored ?_); dsimp only [zsto, zclr, zset, zget, zc2, cond_false, cond_true]) | ((with_reducible refine zR.atLit ?_); first | refine zR.step rfl ?_ | refine zR.getf rfl hR.po rfl ?_) | rw [zcc1] | rw [zcc2] | rw [zcc3] | rw [zcc4] | rw [zb1 (by decide)] | rw [zb2 (by decide)] | rw [zb3 (by decide)] | rw [zb4 (by decide)] | rw [zn1 (by decide)] | rw [zn2 (by decide)] | rw [zn3 (by decide)] | rw [zn4 (by decide)] | rw [ze1 (by decide)] | rw [ze2 (by decide)] | rw [zd1 (by decide)] | rw [zd2 (by decide)] | rw [zswy (by decide)] | rw [zswn (by decide)] | rw [zsw0])
      exact zR.ret rfl rfl hQ
    · rw [if_neg (fun y => by rw [z] at y; exact absurd y.2 (by decide))] at hQ
      show zR ztb _ kX12_isSign 2 0 [some (.ref 287), some (.int 59)] [] _ _ _ _
      repeat (first | ((with_reducible refine zR.stored ?_); dsimp only [zsto, zclr, zset, zget, zc2, cond_false, cond_true]) | ((with_reducible refine zR.atLit ?_); first | refine zR.step rfl ?_ | refine zR.getf rfl hR.po rfl ?_) | rw [zcc1] | rw [zcc2] | rw [zcc3] | rw [zcc4] | rw [zb1 (by decide)] | rw [zb2 (by decide)] | rw [zb3 (by decide)] | rw [zb4 (by decide)] | rw [zn1 (by decide)] | rw [zn2 (by decide)] | rw [zn3 (by decide)] | rw [zn4 (by decide)] | rw [ze1 (by decide)] | rw [ze2 (by decide)] | rw [zd1 (by decide)] | rw [zd2 (by decide)] | rw [zswy (by decide)] | rw [zswn (by decide)] | rw [zsw0])
      exact zR.ret rfl rfl hQ
    · rw [if_neg (fun y => by rw [z] at y; exact absurd y.2 (by decide))] at hQ
      show zR ztb _ kX12_isSign 2 0 [some (.ref 287), some (.int 59)] [] _ _ _ _
      repeat (first | ((with_reducible refine zR.stored ?_); dsimp only [zsto, zclr, zset, zget, zc2, cond_false, cond_true]) | ((with_reducible refine zR.atLit ?_); first | refine zR.step rfl ?_ | refine zR.getf rfl hR.po rfl ?_) | rw [zcc1] | rw [zcc2] | rw [zcc3] | rw [zcc4] | rw [zb1 (by decide)] | rw [zb2 (by decide)] | rw [zb3 (by decide)] | rw [zb4 (by decide)] | rw [zn1 (by decide)] | rw [zn2 (by decide)] | rw [zn3 (by decide)] | rw [zn4 (by decide)] | rw [ze1 (by decide)] | rw [ze2 (by decide)] | rw [zd1 (by decide)] | rw [zd2 (by decide)] | rw [zswy (by decide)] | rw [zswn (by decide)] | rw [zsw0])
      exact zR.ret rfl rfl hQ
    · rw [if_neg (fun y => by rw [z] at y; exact absurd y.2 (by decide))] at hQ
      show zR ztb _ kX12_isSign 2 0 [some (.ref 287), some (.int 59)] [] _ _ _ _
      repeat (first | ((with_reducible refine zR.stored ?_); dsimp only [zsto, zclr, zset, zget, zc2, cond_false, cond_true]) | ((with_reducible refine zR.atLit ?_); first | refine zR.step rfl ?_ | refine zR.getf rfl hR.po rfl ?_) | rw [zcc1] | rw [zcc2] | rw [zcc3] | rw [zcc4] | rw [zb1 (by decide)] | rw [zb2 (by decide)] | rw [zb3 (by decide)] | rw [zb4 (by decide)] | rw [zn1 (by decide)] | rw [zn2 (by decide)] | rw [zn3 (by decide)] | rw [zn4 (by decide)] | rw [ze1 (by decide)] | rw [ze2 (by decide)] | rw [zd1 (by decide)] | rw [zd2 (by decide)] | rw [zswy (by decide)] | rw [zswn (by decide)] | rw [zsw0])
      exact zR.ret rfl rfl hQ
    · rw [if_pos ⟨hr, z⟩] at hQ
      show zR ztb _ kX12_isSign 2 0 [some (.ref 287), some (.int 59)] [] _ _ _ _
      repeat (first | ((with_reducible refine zR.stored ?_); dsimp only [zsto, zclr, zset, zget, zc2, cond_false, cond_true]) | ((with_reducible refine zR.atLit ?_); first | refine zR.step rfl ?_ | refine zR.getf rfl hR.po rfl ?_) | rw [zcc1] | rw [zcc2] | rw [zcc3] | rw [zcc4] | rw [zb1 (by decide)] | rw [zb2 (by decide)] | rw [zb3 (by decide)] | rw [zb4 (by decide)] | rw [zn1 (by decide)] | rw [zn2 (by decide)] | rw [zn3 (by decide)] | rw [zn4 (by decide)] | rw [ze1 (by decide)] | rw [ze2 (by decide)] | rw [zd1 (by decide)] | rw [zd2 (by decide)] | rw [zswy (by decide)] | rw [zswn (by decide)] | rw [zsw0])
      exact zR.ret rfl rfl hQ
    · rw [if_neg (fun y => by rw [z] at y; have := zn_inj (b := 8) (by omega) (by omega) y.2; omega)] at hQ
      show zR ztb _ kX12_isSign 2 0 [some (.ref 287), some (.int 59)] [] _ _ _ _
      repeat (first | ((with_reducible refine zR.stored ?_); dsimp only [zsto, zclr, zset, zget, zc2, cond_false, cond_true]) | ((with_reducible refine zR.atLit ?_); first | refine zR.step rfl ?_ | refine zR.getf rfl hR.po rfl ?_) | rw [zcc1] | rw [zcc2] | rw [zcc3] | rw [zcc4] | rw [zb1 (by decide)] | rw [zb2 (by decide)] | rw [zb3 (by decide)] | rw [zb4 (by decide)] | rw [zn1 (by decide)] | rw [zn2 (by decide)] | rw [zn3 (by decide)] | rw [zn4 (by decide)] | rw [ze1 (by decide)] | rw [ze2 (by decide)] | rw [zd1 (by decide)] | rw [zd2 (by decide)] | rw [zswy (by decide)] | rw [zswn (by decide)] | rw [zsw0])
      exact zR.ret rfl rfl hQ
  · rw [if_neg (fun z => hn ⟨z.1, fun y => by rw [z.2] at y; exact absurd y (by decide)⟩)] at hQ
    show zR ztb _ kX12_isSign 2 0 [some (.ref 287), some (.int 59)] [] _ _ _ _
    repeat (first | ((with_reducible refine zR.stored ?_); dsimp only [zsto, zclr, zset, zget, zc2, cond_false, cond_true]) | ((with_reducible refine zR.atLit ?_); first | refine zR.step rfl ?_ | refine zR.getf rfl hR.po rfl ?_) | rw [zcc1] | rw [zcc2] | rw [zcc3] | rw [zcc4] | rw [zb1 (by decide)] | rw [zb2 (by decide)] | rw [zb3 (by decide)] | rw [zb4 (by decide)] | rw [zn1 (by decide)] | rw [zn2 (by decide)] | rw [zn3 (by decide)] | rw [zn4 (by decide)] | rw [ze1 (by decide)] | rw [ze2 (by decide)] | rw [zd1 (by decide)] | rw [zd2 (by decide)] | rw [zswy (by decide)] | rw [zswn (by decide)] | rw [zsw0])
    exact zR.ret rfl rfl hQ
end
section
variable {M0 M : zM} {σ : mS} {β : Nat → Int32} {L m c i : Nat} {nt lm : Int32} {l8 : Nat → Int32} {i0 : Nat} {l0 l : List gStp} {r : gRes} {d n w : Nat}
theorem GS.to {j : Nat} (h : GS M0 σ β L c nt lm l8 j l r M) (hb : 2 * l.length + stF β L i0 ≤ 2 * l0.length + stF β L j) : GS M0 σ β L c nt lm l8 i0 l0 r M := by
  obtain ⟨a, b | ⟨b, k, e, f⟩⟩ := h
  · exact ⟨a, Or.inl b⟩
  · exact ⟨a, Or.inr ⟨b, k, by omega, f⟩⟩
theorem nx_GS (hE : EV σ β L m c) {tk va bg : Int32} {l9 : Nat → Int32} (hi : i + 1 ≤ m) (hC : CL l9 l) (hR : Rf M (pst σ (fkP (kdF β L) (vaF β L) (stF β L) (nI c) (i + 1)).1 (fkP (kdF β L) (vaF β L) (stF β L) (nI c) (i + 1)).2 (nI (psF β L (i + 1))) tk va bg nt lm (nI l.length) l8 l9)) (hS : Sm M0 M) : zCalP (d + 3) 153 [.ref 287] n w M (fun v n' w' M' => v = none ∧ n = n' ∧ w = w' ∧ GS M0 σ β L c nt lm l8 (i + 1) l (true, i + 1, l) M') :=
  zR.mono (c_next hE.2.2.2.2.1 hR hS (fk_n1 hE (by omega)) (hE.2.2.2.2.2 _ hi)) (fun v n' w' M' hv => by
    obtain ⟨rfl, rfl, rfl, hS', at', tk', va', hK⟩ := hv
    refine ⟨rfl, rfl, rfl, hS', ?_⟩
    by_cases q : kdF β L (i + 1) = 1
    · rw [if_pos (show (tkF β L (skF β L (psF β L (i + 1)))).1 = 1 from q)] at hK
      exact Or.inr ⟨fun z => z.2 q, l.length, Nat.le_refl _, at', va', _, l9, hK⟩
    · rw [if_neg (show ¬ (tkF β L (skF β L (psF β L (i + 1)))).1 = 1 from q)] at hK
      exact Or.inl ⟨rfl, q, at', tk', va', l9, hK.1, hK.2.1, hC, hK.2.2⟩)
theorem c_nextS (hE : EV σ β L m c) (h : GS M0 σ β L c nt lm l8 i0 l0 r M) (hr : r.1 = true) (h0 : ¬ kdF β L r.2.1 = 0) (h1 : ¬ kdF β L r.2.1 = 1) (h3 : ¬ kdF β L r.2.1 = 3) (hi : r.2.1 + 1 ≤ m) : zCalP (d + 3) 153 [.ref 287] n w M (fun v n' w' M' => v = none ∧ n = n' ∧ w = w' ∧ GS M0 σ β L c nt lm l8 (r.2.1 + 1) r.2.2 (true, r.2.1 + 1, r.2.2) M') := by
  obtain ⟨hS, ⟨-, -, at_, tk, va, l9, hV, ha, hC, hR⟩ | ⟨hn, -⟩⟩ := h
  · rw [ha.resolve_left h0, ← fk_st h3] at hR
    exact nx_GS hE hi hC hR hS
  · exact absurd ⟨hr, h1⟩ hn
theorem c_needS (hE : EV σ β L m c) {P : Prop} [Decidable P] (h : GS M0 σ β L c nt lm l8 i0 l0 r M) (hP : P → ¬ kdF β L r.2.1 = 0 ∧ ¬ kdF β L r.2.1 = 1 ∧ ¬ kdF β L r.2.1 = 3 ∧ r.2.1 + 1 ≤ m ∧ stF β L r.2.1 ≤ stF β L (r.2.1 + 1)) (hi : r.2.1 ≤ m) (hb : 2 * r.2.2.length + stF β L i0 ≤ 2 * l0.length + stF β L r.2.1) : zCalP (d + 4) 160 [.ref 287, .int (if r.1 = true ∧ P then 1 else 0)] n w M (fun v n' w' M' => v = none ∧ n = n' ∧ w = w' ∧ GS M0 σ β L c nt lm l8 i0 l0 (if r.1 = true ∧ P then (true, r.2.1 + 1, r.2.2) else (false, r.2.1, r.2.2)) M') := by
  by_cases q : r.1 = true ∧ P
  · rw [if_pos q, if_pos q]
    obtain ⟨h0, h1, h3, hi1, hs⟩ := hP q.2
    show zR ztb _ kX12_need 0 0 [some (.ref 287), some (.int 1)] [] _ _ _ _
    repeat (first | ((with_reducible refine zR.stored ?_); dsimp only [zsto, zclr, zset, zget, zc2, cond_false, cond_true]) | ((with_reducible refine zR.atLit ?_); first | refine zR.step rfl ?_) | rw [zcc1] | rw [zcc2] | rw [zcc3] | rw [zcc4] | rw [zb1 (by decide)] | rw [zb2 (by decide)] | rw [zb3 (by decide)] | rw [zb4 (by decide)] | rw [zn1 (by decide)] | rw [zn2 (by decide)] | rw [zn3 (by decide)] | rw [zn4 (by decide)] | rw [ze1 (by decide)] | rw [ze2 (by decide)] | rw [zd1 (by decide)] | rw [zd2 (by decide)] | rw [zswy (by decide)] | rw [zswn (by decide)] | rw [zsw0])
    have h287 : ∃ x, M 287 = .inr (12, x) := by
      obtain ⟨_, ⟨-, -, _, _, _, _, -, -, -, hR⟩ | ⟨-, _, -, _, _, _, _, hR⟩⟩ := h
      · exact ⟨_, hR.1⟩
      · exact ⟨_, hR.1⟩
    obtain ⟨x, hx⟩ := h287
    refine zR.cv rfl rfl rfl hx rfl rfl (zR.mono (c_nextS hE h q.1 h0 h1 h3 hi1) (fun v n1 w1 M1 hv => ?_))
    obtain ⟨rfl, rfl, rfl, hG⟩ := hv
    repeat (first | ((with_reducible refine zR.stored ?_); dsimp only [zsto, zclr, zset, zget, zc2, cond_false, cond_true]) | ((with_reducible refine zR.atLit ?_); first | refine zR.step rfl ?_) | rw [zcc1] | rw [zcc2] | rw [zcc3] | rw [zcc4])
    exact zR.ret rfl rfl ⟨rfl, rfl, rfl, hG.to (by omega)⟩
  · rw [if_neg q, if_neg q]
    show zR ztb _ kX12_need 0 0 [some (.ref 287), some (.int 0)] [] _ _ _ _
    repeat (first | ((with_reducible refine zR.stored ?_); dsimp only [zsto, zclr, zset, zget, zc2, cond_false, cond_true]) | ((with_reducible refine zR.atLit ?_); first | refine zR.step rfl ?_) | rw [zcc1] | rw [zcc2] | rw [zcc3] | rw [zcc4] | rw [zb1 (by decide)] | rw [zb2 (by decide)] | rw [zb3 (by decide)] | rw [zb4 (by decide)] | rw [zn1 (by decide)] | rw [zn2 (by decide)] | rw [zn3 (by decide)] | rw [zn4 (by decide)] | rw [ze1 (by decide)] | rw [ze2 (by decide)] | rw [zd1 (by decide)] | rw [zd2 (by decide)] | rw [zswy (by decide)] | rw [zswn (by decide)] | rw [zsw0])
    obtain ⟨hS, ⟨hr, h1, at_, tk, va, l9, hV, ha, hC, hR⟩ | ⟨hn, k, hk, at_, va, bg, l9, hR⟩⟩ := h
    · refine zR.cv rfl rfl rfl hR.1 rfl rfl (zR.mono (c_cannot_l hR hS (fk_n1 hE (by omega))) (fun v n1 w1 M1 hv => ?_))
      obtain ⟨rfl, rfl, rfl, hS1, hR1⟩ := hv
      repeat (first | ((with_reducible refine zR.stored ?_); dsimp only [zsto, zclr, zset, zget, zc2, cond_false, cond_true]) | ((with_reducible refine zR.atLit ?_); first | refine zR.step rfl ?_) | rw [zcc1] | rw [zcc2] | rw [zcc3] | rw [zcc4])
      exact zR.ret rfl rfl ⟨rfl, rfl, rfl, hS1, Or.inr ⟨fun z => absurd (show false = true from z.1) (by decide), _, hb, _, _, _, _, hR1⟩⟩
    · refine zR.cv rfl rfl rfl hR.1 rfl rfl (zR.mono (c_cannot_d hR hS) (fun v n1 w1 M1 hv => ?_))
      obtain ⟨rfl, rfl, rfl, hS1, hR1⟩ := hv
      repeat (first | ((with_reducible refine zR.stored ?_); dsimp only [zsto, zclr, zset, zget, zc2, cond_false, cond_true]) | ((with_reducible refine zR.atLit ?_); first | refine zR.step rfl ?_) | rw [zcc1] | rw [zcc2] | rw [zcc3] | rw [zcc4])
      exact zR.ret rfl rfl ⟨rfl, rfl, rfl, hS1, Or.inr ⟨fun z => absurd (show false = true from z.1) (by decide), _, hk, _, _, _, _, hR1⟩⟩
end
