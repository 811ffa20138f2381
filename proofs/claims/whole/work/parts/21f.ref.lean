
/-! lines: the reference's own numbers while it reads. -/
def oF (o : Nat → Int32) (fk fp at_ tk va bg nt lm cd : Int32) : Nat → Int32 := zuf (zuf (zuf (zuf (zuf (zuf (zuf (zuf (zuf (o) 7 fk) 8 fp) 15 at_) 16 tk) 17 va) 18 bg) 19 nt) 20 lm) 22 cd
def pst (σ : mS) (fk fp at_ tk va bg nt lm cd : Int32) (l8 l9 : Nat → Int32) : mS := zuf (zuf (zuf σ 12 (oF (σ 12) fk fp at_ tk va bg nt lm cd)) 8 l8) 9 l9
theorem Rf.po {M : zM} {σ : mS} {fk fp at_ tk va bg nt lm cd : Int32} {l8 l9 : Nat → Int32} (h : Rf M (pst σ fk fp at_ tk va bg nt lm cd l8 l9)) : M 287 = .inr (12, [.ref 288, .ref 289, .ref 290, .int (σ 12 3), .int (σ 12 4), .ref 291, .int (σ 12 6), .int fk, .int fp, .ref 292, .ref 293, .ref 294, .int (σ 12 12), .ref 295, .int (σ 12 14), .int at_, .int tk, .int va, .int bg, .int nt, .int lm, .ref 296, .int cd, .ref 297, .ref 298, .ref 299, .int (σ 12 26), .int (σ 12 27), .int (σ 12 28)]) := h.1
section
variable {d : Nat} {k : Nat → zI} {rt pc : Nat} {L : zL} {st : List Value} {n w : Nat} {M M0 : zM} {Q : Option Value → Nat → Nat → zM → Prop} {z nx r1 r3 li : Nat} {v0 : Value} {sw : List (Int32 × Nat)} {σ : mS} {fk fp at_ tk va bg nt lm cd x : Int32} {l8 l9 : Nat → Int32}
theorem oF_7 {o : Nat → Int32} : zuf (oF o fk fp at_ tk va bg nt lm cd) 7 x = oF o x fp at_ tk va bg nt lm cd := by
  funext q
  unfold oF zuf
  repeat' split
  all_goals first | rfl | (exfalso; omega)
theorem zR.pt7 (hR : Rf M (pst σ fk fp at_ tk va bg nt lm cd l8 l9)) (hS : Sm M0 M) (hk : k pc = (.putfield z, nx, 12, 7, 0, li, v0, sw)) (h : ∀ M', Rf M' (pst σ x fp at_ tk va bg nt lm cd l8 l9) → Sm M0 M' → zR ztb d k rt nx L st n w M' Q) : zR ztb d k rt pc L (.int x :: .ref 287 :: st) n w M Q := by
  refine zR.putR hR hS hk rfl rfl rfl (fun M' h1 h2 => h M' ?_ h2)
  have e : zuf (pst σ fk fp at_ tk va bg nt lm cd l8 l9) 12 (zuf (pst σ fk fp at_ tk va bg nt lm cd l8 l9 12) 7 x) = pst σ x fp at_ tk va bg nt lm cd l8 l9 := by
    unfold pst
    rw [zuf_ne _ _ (show 12 ≠ 9 by omega), zuf_ne _ _ (show 12 ≠ 8 by omega), zuf_self, oF_7, zuf_cm _ _ _ (show 9 ≠ 12 by omega), zuf_cm _ _ _ (show 8 ≠ 12 by omega), zuf_uf]
  rw [e] at h1
  exact h1
theorem oF_8 {o : Nat → Int32} : zuf (oF o fk fp at_ tk va bg nt lm cd) 8 x = oF o fk x at_ tk va bg nt lm cd := by
  funext q
  unfold oF zuf
  repeat' split
  all_goals first | rfl | (exfalso; omega)
theorem zR.pt8 (hR : Rf M (pst σ fk fp at_ tk va bg nt lm cd l8 l9)) (hS : Sm M0 M) (hk : k pc = (.putfield z, nx, 12, 8, 0, li, v0, sw)) (h : ∀ M', Rf M' (pst σ fk x at_ tk va bg nt lm cd l8 l9) → Sm M0 M' → zR ztb d k rt nx L st n w M' Q) : zR ztb d k rt pc L (.int x :: .ref 287 :: st) n w M Q := by
  refine zR.putR hR hS hk rfl rfl rfl (fun M' h1 h2 => h M' ?_ h2)
  have e : zuf (pst σ fk fp at_ tk va bg nt lm cd l8 l9) 12 (zuf (pst σ fk fp at_ tk va bg nt lm cd l8 l9 12) 8 x) = pst σ fk x at_ tk va bg nt lm cd l8 l9 := by
    unfold pst
    rw [zuf_ne _ _ (show 12 ≠ 9 by omega), zuf_ne _ _ (show 12 ≠ 8 by omega), zuf_self, oF_8, zuf_cm _ _ _ (show 9 ≠ 12 by omega), zuf_cm _ _ _ (show 8 ≠ 12 by omega), zuf_uf]
  rw [e] at h1
  exact h1
theorem oF_15 {o : Nat → Int32} : zuf (oF o fk fp at_ tk va bg nt lm cd) 15 x = oF o fk fp x tk va bg nt lm cd := by
  funext q
  unfold oF zuf
  repeat' split
  all_goals first | rfl | (exfalso; omega)
theorem zR.pt15 (hR : Rf M (pst σ fk fp at_ tk va bg nt lm cd l8 l9)) (hS : Sm M0 M) (hk : k pc = (.putfield z, nx, 12, 15, 0, li, v0, sw)) (h : ∀ M', Rf M' (pst σ fk fp x tk va bg nt lm cd l8 l9) → Sm M0 M' → zR ztb d k rt nx L st n w M' Q) : zR ztb d k rt pc L (.int x :: .ref 287 :: st) n w M Q := by
  refine zR.putR hR hS hk rfl rfl rfl (fun M' h1 h2 => h M' ?_ h2)
  have e : zuf (pst σ fk fp at_ tk va bg nt lm cd l8 l9) 12 (zuf (pst σ fk fp at_ tk va bg nt lm cd l8 l9 12) 15 x) = pst σ fk fp x tk va bg nt lm cd l8 l9 := by
    unfold pst
    rw [zuf_ne _ _ (show 12 ≠ 9 by omega), zuf_ne _ _ (show 12 ≠ 8 by omega), zuf_self, oF_15, zuf_cm _ _ _ (show 9 ≠ 12 by omega), zuf_cm _ _ _ (show 8 ≠ 12 by omega), zuf_uf]
  rw [e] at h1
  exact h1
theorem oF_16 {o : Nat → Int32} : zuf (oF o fk fp at_ tk va bg nt lm cd) 16 x = oF o fk fp at_ x va bg nt lm cd := by
  funext q
  unfold oF zuf
  repeat' split
  all_goals first | rfl | (exfalso; omega)
theorem zR.pt16 (hR : Rf M (pst σ fk fp at_ tk va bg nt lm cd l8 l9)) (hS : Sm M0 M) (hk : k pc = (.putfield z, nx, 12, 16, 0, li, v0, sw)) (h : ∀ M', Rf M' (pst σ fk fp at_ x va bg nt lm cd l8 l9) → Sm M0 M' → zR ztb d k rt nx L st n w M' Q) : zR ztb d k rt pc L (.int x :: .ref 287 :: st) n w M Q := by
  refine zR.putR hR hS hk rfl rfl rfl (fun M' h1 h2 => h M' ?_ h2)
  have e : zuf (pst σ fk fp at_ tk va bg nt lm cd l8 l9) 12 (zuf (pst σ fk fp at_ tk va bg nt lm cd l8 l9 12) 16 x) = pst σ fk fp at_ x va bg nt lm cd l8 l9 := by
    unfold pst
    rw [zuf_ne _ _ (show 12 ≠ 9 by omega), zuf_ne _ _ (show 12 ≠ 8 by omega), zuf_self, oF_16, zuf_cm _ _ _ (show 9 ≠ 12 by omega), zuf_cm _ _ _ (show 8 ≠ 12 by omega), zuf_uf]
  rw [e] at h1
  exact h1
theorem oF_17 {o : Nat → Int32} : zuf (oF o fk fp at_ tk va bg nt lm cd) 17 x = oF o fk fp at_ tk x bg nt lm cd := by
  funext q
  unfold oF zuf
  repeat' split
  all_goals first | rfl | (exfalso; omega)
theorem zR.pt17 (hR : Rf M (pst σ fk fp at_ tk va bg nt lm cd l8 l9)) (hS : Sm M0 M) (hk : k pc = (.putfield z, nx, 12, 17, 0, li, v0, sw)) (h : ∀ M', Rf M' (pst σ fk fp at_ tk x bg nt lm cd l8 l9) → Sm M0 M' → zR ztb d k rt nx L st n w M' Q) : zR ztb d k rt pc L (.int x :: .ref 287 :: st) n w M Q := by
  refine zR.putR hR hS hk rfl rfl rfl (fun M' h1 h2 => h M' ?_ h2)
  have e : zuf (pst σ fk fp at_ tk va bg nt lm cd l8 l9) 12 (zuf (pst σ fk fp at_ tk va bg nt lm cd l8 l9 12) 17 x) = pst σ fk fp at_ tk x bg nt lm cd l8 l9 := by
    unfold pst
    rw [zuf_ne _ _ (show 12 ≠ 9 by omega), zuf_ne _ _ (show 12 ≠ 8 by omega), zuf_self, oF_17, zuf_cm _ _ _ (show 9 ≠ 12 by omega), zuf_cm _ _ _ (show 8 ≠ 12 by omega), zuf_uf]
  rw [e] at h1
  exact h1
theorem oF_18 {o : Nat → Int32} : zuf (oF o fk fp at_ tk va bg nt lm cd) 18 x = oF o fk fp at_ tk va x nt lm cd := by
  funext q
  unfold oF zuf
  repeat' split
  all_goals first | rfl | (exfalso; omega)
theorem zR.pt18 (hR : Rf M (pst σ fk fp at_ tk va bg nt lm cd l8 l9)) (hS : Sm M0 M) (hk : k pc = (.putfield z, nx, 12, 18, 0, li, v0, sw)) (h : ∀ M', Rf M' (pst σ fk fp at_ tk va x nt lm cd l8 l9) → Sm M0 M' → zR ztb d k rt nx L st n w M' Q) : zR ztb d k rt pc L (.int x :: .ref 287 :: st) n w M Q := by
  refine zR.putR hR hS hk rfl rfl rfl (fun M' h1 h2 => h M' ?_ h2)
  have e : zuf (pst σ fk fp at_ tk va bg nt lm cd l8 l9) 12 (zuf (pst σ fk fp at_ tk va bg nt lm cd l8 l9 12) 18 x) = pst σ fk fp at_ tk va x nt lm cd l8 l9 := by
    unfold pst
    rw [zuf_ne _ _ (show 12 ≠ 9 by omega), zuf_ne _ _ (show 12 ≠ 8 by omega), zuf_self, oF_18, zuf_cm _ _ _ (show 9 ≠ 12 by omega), zuf_cm _ _ _ (show 8 ≠ 12 by omega), zuf_uf]
  rw [e] at h1
  exact h1
theorem oF_19 {o : Nat → Int32} : zuf (oF o fk fp at_ tk va bg nt lm cd) 19 x = oF o fk fp at_ tk va bg x lm cd := by
  funext q
  unfold oF zuf
  repeat' split
  all_goals first | rfl | (exfalso; omega)
theorem zR.pt19 (hR : Rf M (pst σ fk fp at_ tk va bg nt lm cd l8 l9)) (hS : Sm M0 M) (hk : k pc = (.putfield z, nx, 12, 19, 0, li, v0, sw)) (h : ∀ M', Rf M' (pst σ fk fp at_ tk va bg x lm cd l8 l9) → Sm M0 M' → zR ztb d k rt nx L st n w M' Q) : zR ztb d k rt pc L (.int x :: .ref 287 :: st) n w M Q := by
  refine zR.putR hR hS hk rfl rfl rfl (fun M' h1 h2 => h M' ?_ h2)
  have e : zuf (pst σ fk fp at_ tk va bg nt lm cd l8 l9) 12 (zuf (pst σ fk fp at_ tk va bg nt lm cd l8 l9 12) 19 x) = pst σ fk fp at_ tk va bg x lm cd l8 l9 := by
    unfold pst
    rw [zuf_ne _ _ (show 12 ≠ 9 by omega), zuf_ne _ _ (show 12 ≠ 8 by omega), zuf_self, oF_19, zuf_cm _ _ _ (show 9 ≠ 12 by omega), zuf_cm _ _ _ (show 8 ≠ 12 by omega), zuf_uf]
  rw [e] at h1
  exact h1
theorem oF_20 {o : Nat → Int32} : zuf (oF o fk fp at_ tk va bg nt lm cd) 20 x = oF o fk fp at_ tk va bg nt x cd := by
  funext q
  unfold oF zuf
  repeat' split
  all_goals first | rfl | (exfalso; omega)
theorem zR.pt20 (hR : Rf M (pst σ fk fp at_ tk va bg nt lm cd l8 l9)) (hS : Sm M0 M) (hk : k pc = (.putfield z, nx, 12, 20, 0, li, v0, sw)) (h : ∀ M', Rf M' (pst σ fk fp at_ tk va bg nt x cd l8 l9) → Sm M0 M' → zR ztb d k rt nx L st n w M' Q) : zR ztb d k rt pc L (.int x :: .ref 287 :: st) n w M Q := by
  refine zR.putR hR hS hk rfl rfl rfl (fun M' h1 h2 => h M' ?_ h2)
  have e : zuf (pst σ fk fp at_ tk va bg nt lm cd l8 l9) 12 (zuf (pst σ fk fp at_ tk va bg nt lm cd l8 l9 12) 20 x) = pst σ fk fp at_ tk va bg nt x cd l8 l9 := by
    unfold pst
    rw [zuf_ne _ _ (show 12 ≠ 9 by omega), zuf_ne _ _ (show 12 ≠ 8 by omega), zuf_self, oF_20, zuf_cm _ _ _ (show 9 ≠ 12 by omega), zuf_cm _ _ _ (show 8 ≠ 12 by omega), zuf_uf]
  rw [e] at h1
  exact h1
theorem oF_22 {o : Nat → Int32} : zuf (oF o fk fp at_ tk va bg nt lm cd) 22 x = oF o fk fp at_ tk va bg nt lm x := by
  funext q
  unfold oF zuf
  repeat' split
  all_goals first | rfl | (exfalso; omega)
theorem zR.pt22 (hR : Rf M (pst σ fk fp at_ tk va bg nt lm cd l8 l9)) (hS : Sm M0 M) (hk : k pc = (.putfield z, nx, 12, 22, 0, li, v0, sw)) (h : ∀ M', Rf M' (pst σ fk fp at_ tk va bg nt lm x l8 l9) → Sm M0 M' → zR ztb d k rt nx L st n w M' Q) : zR ztb d k rt pc L (.int x :: .ref 287 :: st) n w M Q := by
  refine zR.putR hR hS hk rfl rfl rfl (fun M' h1 h2 => h M' ?_ h2)
  have e : zuf (pst σ fk fp at_ tk va bg nt lm cd l8 l9) 12 (zuf (pst σ fk fp at_ tk va bg nt lm cd l8 l9 12) 22 x) = pst σ fk fp at_ tk va bg nt lm x l8 l9 := by
    unfold pst
    rw [zuf_ne _ _ (show 12 ≠ 9 by omega), zuf_ne _ _ (show 12 ≠ 8 by omega), zuf_self, oF_22, zuf_cm _ _ _ (show 9 ≠ 12 by omega), zuf_cm _ _ _ (show 8 ≠ 12 by omega), zuf_uf]
  rw [e] at h1
  exact h1
end
theorem RT.p {σ : mS} {β : Nat → Int32} {L : Nat} {fk fp at_ tk va bg nt lm cd : Int32} {l8 l9 : Nat → Int32} (h : RT σ β L) : RT (pst σ fk fp at_ tk va bg nt lm cd l8 l9) β L := h
theorem c_cannot_l {M M0 : zM} {σ : mS} {d n w : Nat} {fk fp at_ tk va bg nt lm cd : Int32} {l8 l9 : Nat → Int32} (hR : Rf M (pst σ fk fp at_ tk va bg nt lm cd l8 l9)) (hS : Sm M0 M) (hf : ¬ fk = 1) : zCalP d 152 [.ref 287] n w M (fun v n' w' M' => v = none ∧ n = n' ∧ w = w' ∧ Sm M0 M' ∧ Rf M' (pst σ 1 bg at_ 0 va bg nt lm cd l8 l9)) := by
  show zR ztb _ kX12_cannot 0 0 [some (.ref 287)] [] _ _ _ _
  repeat (first | ((with_reducible refine zR.stored ?_); dsimp only [zsto, zclr, zset, zget, zc2, cond_false, cond_true]) | ((with_reducible refine zR.atLit ?_); first | refine zR.step rfl ?_ | refine zR.getf rfl hR.po rfl ?_) | rw [zcc1] | rw [zcc2] | rw [zcc3] | rw [zcc4] | rw [zd1 (hf)] | rw [zd2 (hf)])
  refine zR.pt7 hR hS rfl (fun M1 hR hS => ?_)
  repeat (first | ((with_reducible refine zR.stored ?_); dsimp only [zsto, zclr, zset, zget, zc2, cond_false, cond_true]) | ((with_reducible refine zR.atLit ?_); first | refine zR.step rfl ?_ | refine zR.getf rfl hR.po rfl ?_) | rw [zcc1] | rw [zcc2] | rw [zcc3] | rw [zcc4])
  refine zR.pt8 hR hS rfl (fun M1 hR hS => ?_)
  repeat (first | ((with_reducible refine zR.stored ?_); dsimp only [zsto, zclr, zset, zget, zc2, cond_false, cond_true]) | ((with_reducible refine zR.atLit ?_); first | refine zR.step rfl ?_) | rw [zcc1] | rw [zcc2] | rw [zcc3] | rw [zcc4])
  refine zR.pt16 hR hS rfl (fun M1 hR hS => ?_)
  repeat (first | ((with_reducible refine zR.stored ?_); dsimp only [zsto, zclr, zset, zget, zc2, cond_false, cond_true]) | ((with_reducible refine zR.atLit ?_); first | refine zR.step rfl ?_) | rw [zcc1] | rw [zcc2] | rw [zcc3] | rw [zcc4])
  exact zR.ret rfl rfl ⟨rfl, rfl, rfl, hS, hR⟩
theorem c_cannot_d {M M0 : zM} {σ : mS} {d n w : Nat} {fp at_ tk va bg nt lm cd : Int32} {l8 l9 : Nat → Int32} (hR : Rf M (pst σ 1 fp at_ tk va bg nt lm cd l8 l9)) (hS : Sm M0 M) : zCalP d 152 [.ref 287] n w M (fun v n' w' M' => v = none ∧ n = n' ∧ w = w' ∧ Sm M0 M' ∧ Rf M' (pst σ 1 fp at_ 0 va bg nt lm cd l8 l9)) := by
  show zR ztb _ kX12_cannot 0 0 [some (.ref 287)] [] _ _ _ _
  repeat (first | ((with_reducible refine zR.stored ?_); dsimp only [zsto, zclr, zset, zget, zc2, cond_false, cond_true]) | ((with_reducible refine zR.atLit ?_); first | refine zR.step rfl ?_ | refine zR.getf rfl hR.po rfl ?_) | rw [zcc1] | rw [zcc2] | rw [zcc3] | rw [zcc4] | rw [zb1 (by decide)] | rw [zb2 (by decide)] | rw [zb3 (by decide)] | rw [zb4 (by decide)] | rw [zn1 (by decide)] | rw [zn2 (by decide)] | rw [zn3 (by decide)] | rw [zn4 (by decide)] | rw [ze1 (by decide)] | rw [ze2 (by decide)] | rw [zd1 (by decide)] | rw [zd2 (by decide)] | rw [zswy (by decide)] | rw [zswn (by decide)] | rw [zsw0])
  refine zR.pt16 hR hS rfl (fun M1 hR hS => ?_)
  repeat (first | ((with_reducible refine zR.stored ?_); dsimp only [zsto, zclr, zset, zget, zc2, cond_false, cond_true]) | ((with_reducible refine zR.atLit ?_); first | refine zR.step rfl ?_) | rw [zcc1] | rw [zcc2] | rw [zcc3] | rw [zcc4])
  exact zR.ret rfl rfl ⟨rfl, rfl, rfl, hS, hR⟩
theorem c_word_0 {M : zM} {d n w : Nat} : zCall d 155 [.int 0, .int 7, .int 9, .int 22, .int 5] n w M (some (.int 239301)) n w M := by
  intro Q hQ
  show zR ztb _ kX12_word 1 0 [some (.int 0), some (.int 7), some (.int 9), some (.int 22), some (.int 5)] [] _ _ _ _
  repeat (first | ((with_reducible refine zR.stored ?_); dsimp only [zsto, zclr, zset, zget, zc2, cond_false, cond_true]) | ((with_reducible refine zR.atLit ?_); first | refine zR.step rfl ?_) | rw [zcc1] | rw [zcc2] | rw [zcc3] | rw [zcc4])
  exact zR.ret rfl rfl hQ
theorem c_word_1 {M : zM} {d n w : Nat} : zCall d 155 [.int 0, .int 0, .int 2, .int 1, .int 18] n w M (some (.int 2098)) n w M := by
  intro Q hQ
  show zR ztb _ kX12_word 1 0 [some (.int 0), some (.int 0), some (.int 2), some (.int 1), some (.int 18)] [] _ _ _ _
  repeat (first | ((with_reducible refine zR.stored ?_); dsimp only [zsto, zclr, zset, zget, zc2, cond_false, cond_true]) | ((with_reducible refine zR.atLit ?_); first | refine zR.step rfl ?_) | rw [zcc1] | rw [zcc2] | rw [zcc3] | rw [zcc4])
  exact zR.ret rfl rfl hQ
theorem c_word_2 {M : zM} {d n w : Nat} : zCall d 155 [.int 0, .int 23, .int 8, .int 5, .int 14] n w M (some (.int 762030)) n w M := by
  intro Q hQ
  show zR ztb _ kX12_word 1 0 [some (.int 0), some (.int 23), some (.int 8), some (.int 5), some (.int 14)] [] _ _ _ _
  repeat (first | ((with_reducible refine zR.stored ?_); dsimp only [zsto, zclr, zset, zget, zc2, cond_false, cond_true]) | ((with_reducible refine zR.atLit ?_); first | refine zR.step rfl ?_) | rw [zcc1] | rw [zcc2] | rw [zcc3] | rw [zcc4])
  exact zR.ret rfl rfl hQ
theorem c_word_3 {M : zM} {d n w : Nat} : zCall d 155 [.int 0, .int 0, .int 1, .int 14, .int 4] n w M (some (.int 1476)) n w M := by
  intro Q hQ
  show zR ztb _ kX12_word 1 0 [some (.int 0), some (.int 0), some (.int 1), some (.int 14), some (.int 4)] [] _ _ _ _
  repeat (first | ((with_reducible refine zR.stored ?_); dsimp only [zsto, zclr, zset, zget, zc2, cond_false, cond_true]) | ((with_reducible refine zR.atLit ?_); first | refine zR.step rfl ?_) | rw [zcc1] | rw [zcc2] | rw [zcc3] | rw [zcc4])
  exact zR.ret rfl rfl hQ
theorem c_word_4 {M : zM} {d n w : Nat} : zCall d 155 [.int 0, .int 0, .int 0, .int 15, .int 18] n w M (some (.int 498)) n w M := by
  intro Q hQ
  show zR ztb _ kX12_word 1 0 [some (.int 0), some (.int 0), some (.int 0), some (.int 15), some (.int 18)] [] _ _ _ _
  repeat (first | ((with_reducible refine zR.stored ?_); dsimp only [zsto, zclr, zset, zget, zc2, cond_false, cond_true]) | ((with_reducible refine zR.atLit ?_); first | refine zR.step rfl ?_) | rw [zcc1] | rw [zcc2] | rw [zcc3] | rw [zcc4])
  exact zR.ret rfl rfl hQ
theorem c_word_5 {M : zM} {d n w : Nat} : zCall d 155 [.int 0, .int 0, .int 14, .int 15, .int 20] n w M (some (.int 14836)) n w M := by
  intro Q hQ
  show zR ztb _ kX12_word 1 0 [some (.int 0), some (.int 0), some (.int 14), some (.int 15), some (.int 20)] [] _ _ _ _
  repeat (first | ((with_reducible refine zR.stored ?_); dsimp only [zsto, zclr, zset, zget, zc2, cond_false, cond_true]) | ((with_reducible refine zR.atLit ?_); first | refine zR.step rfl ?_) | rw [zcc1] | rw [zcc2] | rw [zcc3] | rw [zcc4])
  exact zR.ret rfl rfl hQ
theorem c_word_6 {M : zM} {d n w : Nat} : zCall d 155 [.int 19, .int 20, .int 15, .int 3, .int 11] n w M (some (.int 20593771)) n w M := by
  intro Q hQ
  show zR ztb _ kX12_word 1 0 [some (.int 19), some (.int 20), some (.int 15), some (.int 3), some (.int 11)] [] _ _ _ _
  repeat (first | ((with_reducible refine zR.stored ?_); dsimp only [zsto, zclr, zset, zget, zc2, cond_false, cond_true]) | ((with_reducible refine zR.atLit ?_); first | refine zR.step rfl ?_) | rw [zcc1] | rw [zcc2] | rw [zcc3] | rw [zcc4])
  exact zR.ret rfl rfl hQ
theorem c_word_7 {M : zM} {d n w : Nat} : zCall d 155 [.int 0, .int 0, .int 8, .int 1, .int 4] n w M (some (.int 8228)) n w M := by
  intro Q hQ
  show zR ztb _ kX12_word 1 0 [some (.int 0), some (.int 0), some (.int 8), some (.int 1), some (.int 4)] [] _ _ _ _
  repeat (first | ((with_reducible refine zR.stored ?_); dsimp only [zsto, zclr, zset, zget, zc2, cond_false, cond_true]) | ((with_reducible refine zR.atLit ?_); first | refine zR.step rfl ?_) | rw [zcc1] | rw [zcc2] | rw [zcc3] | rw [zcc4])
  exact zR.ret rfl rfl hQ
theorem c_word_8 {M : zM} {d n w : Nat} : zCall d 155 [.int 0, .int 23, .int 5, .int 5, .int 11] n w M (some (.int 758955)) n w M := by
  intro Q hQ
  show zR ztb _ kX12_word 1 0 [some (.int 0), some (.int 23), some (.int 5), some (.int 5), some (.int 11)] [] _ _ _ _
  repeat (first | ((with_reducible refine zR.stored ?_); dsimp only [zsto, zclr, zset, zget, zc2, cond_false, cond_true]) | ((with_reducible refine zR.atLit ?_); first | refine zR.step rfl ?_) | rw [zcc1] | rw [zcc2] | rw [zcc3] | rw [zcc4])
  exact zR.ret rfl rfl hQ
theorem c_word_9 {M : zM} {d n w : Nat} : zCall d 155 [.int 0, .int 19, .int 9, .int 26, .int 5] n w M (some (.int 632645)) n w M := by
  intro Q hQ
  show zR ztb _ kX12_word 1 0 [some (.int 0), some (.int 19), some (.int 9), some (.int 26), some (.int 5)] [] _ _ _ _
  repeat (first | ((with_reducible refine zR.stored ?_); dsimp only [zsto, zclr, zset, zget, zc2, cond_false, cond_true]) | ((with_reducible refine zR.atLit ?_); first | refine zR.step rfl ?_) | rw [zcc1] | rw [zcc2] | rw [zcc3] | rw [zcc4])
  exact zR.ret rfl rfl hQ
def kyR (w : Int32) : Int32 := if w = 239301 then 0 else if w = 2098 then 1 else if w = 762030 then 2 else if w = 1476 then 3 else if w = 498 then 4 else if w = 14836 then 5 else if w = 20593771 then 6 else if w = 8228 then 7 else if w = 758955 then 8 else if w = 632645 then 9 else -1
theorem c_keyOfR {M : zM} {d n w : Nat} (x : Int32) : zCall (d + 1) 156 [.ref 287, .int x] n w M (some (.int (kyR x))) n w M := by
  intro Q hQ
  unfold kyR at hQ
  show zR ztb _ kX12_keyOf 1 0 [some (.ref 287), some (.int x), none] [] _ _ _ _
  by_cases q0 : x = 239301
  · rw [if_pos q0] at hQ
    subst q0
    repeat (first | ((with_reducible refine zR.stored ?_); dsimp only [zsto, zclr, zset, zget, zc2, cond_false, cond_true]) | ((with_reducible refine zR.atLit ?_); first | refine zR.step rfl ?_ | refine zR.cs rfl rfl rfl rfl rfl (zCalP.of c_word_0 ?_) | refine zR.cs rfl rfl rfl rfl rfl (zCalP.of c_word_1 ?_) | refine zR.cs rfl rfl rfl rfl rfl (zCalP.of c_word_2 ?_) | refine zR.cs rfl rfl rfl rfl rfl (zCalP.of c_word_3 ?_) | refine zR.cs rfl rfl rfl rfl rfl (zCalP.of c_word_4 ?_) | refine zR.cs rfl rfl rfl rfl rfl (zCalP.of c_word_5 ?_) | refine zR.cs rfl rfl rfl rfl rfl (zCalP.of c_word_6 ?_) | refine zR.cs rfl rfl rfl rfl rfl (zCalP.of c_word_7 ?_) | refine zR.cs rfl rfl rfl rfl rfl (zCalP.of c_word_8 ?_) | refine zR.cs rfl rfl rfl rfl rfl (zCalP.of c_word_9 ?_)) | rw [zcc1] | rw [zcc2] | rw [zcc3] | rw [zcc4] | rw [zb1 (by decide)] | rw [zb2 (by decide)] | rw [zb3 (by decide)] | rw [zb4 (by decide)] | rw [zn1 (by decide)] | rw [zn2 (by decide)] | rw [zn3 (by decide)] | rw [zn4 (by decide)] | rw [ze1 (by decide)] | rw [ze2 (by decide)] | rw [zd1 (by decide)] | rw [zd2 (by decide)] | rw [zswy (by decide)] | rw [zswn (by decide)] | rw [zsw0])
    exact zR.ret rfl rfl hQ
  by_cases q1 : x = 2098
  · rw [if_neg q0, if_pos q1] at hQ
    subst q1
    repeat (first | ((with_reducible refine zR.stored ?_); dsimp only [zsto, zclr, zset, zget, zc2, cond_false, cond_true]) | ((with_reducible refine zR.atLit ?_); first | refine zR.step rfl ?_ | refine zR.cs rfl rfl rfl rfl rfl (zCalP.of c_word_0 ?_) | refine zR.cs rfl rfl rfl rfl rfl (zCalP.of c_word_1 ?_) | refine zR.cs rfl rfl rfl rfl rfl (zCalP.of c_word_2 ?_) | refine zR.cs rfl rfl rfl rfl rfl (zCalP.of c_word_3 ?_) | refine zR.cs rfl rfl rfl rfl rfl (zCalP.of c_word_4 ?_) | refine zR.cs rfl rfl rfl rfl rfl (zCalP.of c_word_5 ?_) | refine zR.cs rfl rfl rfl rfl rfl (zCalP.of c_word_6 ?_) | refine zR.cs rfl rfl rfl rfl rfl (zCalP.of c_word_7 ?_) | refine zR.cs rfl rfl rfl rfl rfl (zCalP.of c_word_8 ?_) | refine zR.cs rfl rfl rfl rfl rfl (zCalP.of c_word_9 ?_)) | rw [zcc1] | rw [zcc2] | rw [zcc3] | rw [zcc4] | rw [zb1 (by decide)] | rw [zb2 (by decide)] | rw [zb3 (by decide)] | rw [zb4 (by decide)] | rw [zn1 (by decide)] | rw [zn2 (by decide)] | rw [zn3 (by decide)] | rw [zn4 (by decide)] | rw [ze1 (by decide)] | rw [ze2 (by decide)] | rw [zd1 (by decide)] | rw [zd2 (by decide)] | rw [zswy (by decide)] | rw [zswn (by decide)] | rw [zsw0])
    exact zR.ret rfl rfl hQ
  by_cases q2 : x = 762030
  · rw [if_neg q0, if_neg q1, if_pos q2] at hQ
    subst q2
    repeat (first | ((with_reducible refine zR.stored ?_); dsimp only [zsto, zclr, zset, zget, zc2, cond_false, cond_true]) | ((with_reducible refine zR.atLit ?_); first | refine zR.step rfl ?_ | refine zR.cs rfl rfl rfl rfl rfl (zCalP.of c_word_0 ?_) | refine zR.cs rfl rfl rfl rfl rfl (zCalP.of c_word_1 ?_) | refine zR.cs rfl rfl rfl rfl rfl (zCalP.of c_word_2 ?_) | refine zR.cs rfl rfl rfl rfl rfl (zCalP.of c_word_3 ?_) | refine zR.cs rfl rfl rfl rfl rfl (zCalP.of c_word_4 ?_) | refine zR.cs rfl rfl rfl rfl rfl (zCalP.of c_word_5 ?_) | refine zR.cs rfl rfl rfl rfl rfl (zCalP.of c_word_6 ?_) | refine zR.cs rfl rfl rfl rfl rfl (zCalP.of c_word_7 ?_) | refine zR.cs rfl rfl rfl rfl rfl (zCalP.of c_word_8 ?_) | refine zR.cs rfl rfl rfl rfl rfl (zCalP.of c_word_9 ?_)) | rw [zcc1] | rw [zcc2] | rw [zcc3] | rw [zcc4] | rw [zb1 (by decide)] | rw [zb2 (by decide)] | rw [zb3 (by decide)] | rw [zb4 (by decide)] | rw [zn1 (by decide)] | rw [zn2 (by decide)] | rw [zn3 (by decide)] | rw [zn4 (by decide)] | rw [ze1 (by decide)] | rw [ze2 (by decide)] | rw [zd1 (by decide)] | rw [zd2 (by decide)] | rw [zswy (by decide)] | rw [zswn (by decide)] | rw [zsw0])
    exact zR.ret rfl rfl hQ
  by_cases q3 : x = 1476
  · rw [if_neg q0, if_neg q1, if_neg q2, if_pos q3] at hQ
    subst q3
    repeat (first | ((with_reducible refine zR.stored ?_); dsimp only [zsto, zclr, zset, zget, zc2, cond_false, cond_true]) | ((with_reducible refine zR.atLit ?_); first | refine zR.step rfl ?_ | refine zR.cs rfl rfl rfl rfl rfl (zCalP.of c_word_0 ?_) | refine zR.cs rfl rfl rfl rfl rfl (zCalP.of c_word_1 ?_) | refine zR.cs rfl rfl rfl rfl rfl (zCalP.of c_word_2 ?_) | refine zR.cs rfl rfl rfl rfl rfl (zCalP.of c_word_3 ?_) | refine zR.cs rfl rfl rfl rfl rfl (zCalP.of c_word_4 ?_) | refine zR.cs rfl rfl rfl rfl rfl (zCalP.of c_word_5 ?_) | refine zR.cs rfl rfl rfl rfl rfl (zCalP.of c_word_6 ?_) | refine zR.cs rfl rfl rfl rfl rfl (zCalP.of c_word_7 ?_) | refine zR.cs rfl rfl rfl rfl rfl (zCalP.of c_word_8 ?_) | refine zR.cs rfl rfl rfl rfl rfl (zCalP.of c_word_9 ?_)) | rw [zcc1] | rw [zcc2] | rw [zcc3] | rw [zcc4] | rw [zb1 (by decide)] | rw [zb2 (by decide)] | rw [zb3 (by decide)] | rw [zb4 (by decide)] | rw [zn1 (by decide)] | rw [zn2 (by decide)] | rw [zn3 (by decide)] | rw [zn4 (by decide)] | rw [ze1 (by decide)] | rw [ze2 (by decide)] | rw [zd1 (by decide)] | rw [zd2 (by decide)] | rw [zswy (by decide)] | rw [zswn (by decide)] | rw [zsw0])
    exact zR.ret rfl rfl hQ
  by_cases q4 : x = 498
  · rw [if_neg q0, if_neg q1, if_neg q2, if_neg q3, if_pos q4] at hQ
    subst q4
    repeat (first | ((with_reducible refine zR.stored ?_); dsimp only [zsto, zclr, zset, zget, zc2, cond_false, cond_true]) | ((with_reducible refine zR.atLit ?_); first | refine zR.step rfl ?_ | refine zR.cs rfl rfl rfl rfl rfl (zCalP.of c_word_0 ?_) | refine zR.cs rfl rfl rfl rfl rfl (zCalP.of c_word_1 ?_) | refine zR.cs rfl rfl rfl rfl rfl (zCalP.of c_word_2 ?_) | refine zR.cs rfl rfl rfl rfl rfl (zCalP.of c_word_3 ?_) | refine zR.cs rfl rfl rfl rfl rfl (zCalP.of c_word_4 ?_) | refine zR.cs rfl rfl rfl rfl rfl (zCalP.of c_word_5 ?_) | refine zR.cs rfl rfl rfl rfl rfl (zCalP.of c_word_6 ?_) | refine zR.cs rfl rfl rfl rfl rfl (zCalP.of c_word_7 ?_) | refine zR.cs rfl rfl rfl rfl rfl (zCalP.of c_word_8 ?_) | refine zR.cs rfl rfl rfl rfl rfl (zCalP.of c_word_9 ?_)) | rw [zcc1] | rw [zcc2] | rw [zcc3] | rw [zcc4] | rw [zb1 (by decide)] | rw [zb2 (by decide)] | rw [zb3 (by decide)] | rw [zb4 (by decide)] | rw [zn1 (by decide)] | rw [zn2 (by decide)] | rw [zn3 (by decide)] | rw [zn4 (by decide)] | rw [ze1 (by decide)] | rw [ze2 (by decide)] | rw [zd1 (by decide)] | rw [zd2 (by decide)] | rw [zswy (by decide)] | rw [zswn (by decide)] | rw [zsw0])
    exact zR.ret rfl rfl hQ
  by_cases q5 : x = 14836
  · rw [if_neg q0, if_neg q1, if_neg q2, if_neg q3, if_neg q4, if_pos q5] at hQ
    subst q5
    repeat (first | ((with_reducible refine zR.stored ?_); dsimp only [zsto, zclr, zset, zget, zc2, cond_false, cond_true]) | ((with_reducible refine zR.atLit ?_); first | refine zR.step rfl ?_ | refine zR.cs rfl rfl rfl rfl rfl (zCalP.of c_word_0 ?_) | refine zR.cs rfl rfl rfl rfl rfl (zCalP.of c_word_1 ?_) | refine zR.cs rfl rfl rfl rfl rfl (zCalP.of c_word_2 ?_) | refine zR.cs rfl rfl rfl rfl rfl (zCalP.of c_word_3 ?_) | refine zR.cs rfl rfl rfl rfl rfl (zCalP.of c_word_4 ?_) | refine zR.cs rfl rfl rfl rfl rfl (zCalP.of c_word_5 ?_) | refine zR.cs rfl rfl rfl rfl rfl (zCalP.of c_word_6 ?_) | refine zR.cs rfl rfl rfl rfl rfl (zCalP.of c_word_7 ?_) | refine zR.cs rfl rfl rfl rfl rfl (zCalP.of c_word_8 ?_) | refine zR.cs rfl rfl rfl rfl rfl (zCalP.of c_word_9 ?_)) | rw [zcc1] | rw [zcc2] | rw [zcc3] | rw [zcc4] | rw [zb1 (by decide)] | rw [zb2 (by decide)] | rw [zb3 (by decide)] | rw [zb4 (by decide)] | rw [zn1 (by decide)] | rw [zn2 (by decide)] | rw [zn3 (by decide)] | rw [zn4 (by decide)] | rw [ze1 (by decide)] | rw [ze2 (by decide)] | rw [zd1 (by decide)] | rw [zd2 (by decide)] | rw [zswy (by decide)] | rw [zswn (by decide)] | rw [zsw0])
    exact zR.ret rfl rfl hQ
  by_cases q6 : x = 20593771
  · rw [if_neg q0, if_neg q1, if_neg q2, if_neg q3, if_neg q4, if_neg q5, if_pos q6] at hQ
    subst q6
    repeat (first | ((with_reducible refine zR.stored ?_); dsimp only [zsto, zclr, zset, zget, zc2, cond_false, cond_true]) | ((with_reducible refine zR.atLit ?_); first | refine zR.step rfl ?_ | refine zR.cs rfl rfl rfl rfl rfl (zCalP.of c_word_0 ?_) | refine zR.cs rfl rfl rfl rfl rfl (zCalP.of c_word_1 ?_) | refine zR.cs rfl rfl rfl rfl rfl (zCalP.of c_word_2 ?_) | refine zR.cs rfl rfl rfl rfl rfl (zCalP.of c_word_3 ?_) | refine zR.cs rfl rfl rfl rfl rfl (zCalP.of c_word_4 ?_) | refine zR.cs rfl rfl rfl rfl rfl (zCalP.of c_word_5 ?_) | refine zR.cs rfl rfl rfl rfl rfl (zCalP.of c_word_6 ?_) | refine zR.cs rfl rfl rfl rfl rfl (zCalP.of c_word_7 ?_) | refine zR.cs rfl rfl rfl rfl rfl (zCalP.of c_word_8 ?_) | refine zR.cs rfl rfl rfl rfl rfl (zCalP.of c_word_9 ?_)) | rw [zcc1] | rw [zcc2] | rw [zcc3] | rw [zcc4] | rw [zb1 (by decide)] | rw [zb2 (by decide)] | rw [zb3 (by decide)] | rw [zb4 (by decide)] | rw [zn1 (by decide)] | rw [zn2 (by decide)] | rw [zn3 (by decide)] | rw [zn4 (by decide)] | rw [ze1 (by decide)] | rw [ze2 (by decide)] | rw [zd1 (by decide)] | rw [zd2 (by decide)] | rw [zswy (by decide)] | rw [zswn (by decide)] | rw [zsw0])
    exact zR.ret rfl rfl hQ
  by_cases q7 : x = 8228
  · rw [if_neg q0, if_neg q1, if_neg q2, if_neg q3, if_neg q4, if_neg q5, if_neg q6, if_pos q7] at hQ
    subst q7
    repeat (first | ((with_reducible refine zR.stored ?_); dsimp only [zsto, zclr, zset, zget, zc2, cond_false, cond_true]) | ((with_reducible refine zR.atLit ?_); first | refine zR.step rfl ?_ | refine zR.cs rfl rfl rfl rfl rfl (zCalP.of c_word_0 ?_) | refine zR.cs rfl rfl rfl rfl rfl (zCalP.of c_word_1 ?_) | refine zR.cs rfl rfl rfl rfl rfl (zCalP.of c_word_2 ?_) | refine zR.cs rfl rfl rfl rfl rfl (zCalP.of c_word_3 ?_) | refine zR.cs rfl rfl rfl rfl rfl (zCalP.of c_word_4 ?_) | refine zR.cs rfl rfl rfl rfl rfl (zCalP.of c_word_5 ?_) | refine zR.cs rfl rfl rfl rfl rfl (zCalP.of c_word_6 ?_) | refine zR.cs rfl rfl rfl rfl rfl (zCalP.of c_word_7 ?_) | refine zR.cs rfl rfl rfl rfl rfl (zCalP.of c_word_8 ?_) | refine zR.cs rfl rfl rfl rfl rfl (zCalP.of c_word_9 ?_)) | rw [zcc1] | rw [zcc2] | rw [zcc3] | rw [zcc4] | rw [zb1 (by decide)] | rw [zb2 (by decide)] | rw [zb3 (by decide)] | rw [zb4 (by decide)] | rw [zn1 (by decide)] | rw [zn2 (by decide)] | rw [zn3 (by decide)] | rw [zn4 (by decide)] | rw [ze1 (by decide)] | rw [ze2 (by decide)] | rw [zd1 (by decide)] | rw [zd2 (by decide)] | rw [zswy (by decide)] | rw [zswn (by decide)] | rw [zsw0])
    exact zR.ret rfl rfl hQ
  by_cases q8 : x = 758955
  · rw [if_neg q0, if_neg q1, if_neg q2, if_neg q3, if_neg q4, if_neg q5, if_neg q6, if_neg q7, if_pos q8] at hQ
    subst q8
    repeat (first | ((with_reducible refine zR.stored ?_); dsimp only [zsto, zclr, zset, zget, zc2, cond_false, cond_true]) | ((with_reducible refine zR.atLit ?_); first | refine zR.step rfl ?_ | refine zR.cs rfl rfl rfl rfl rfl (zCalP.of c_word_0 ?_) | refine zR.cs rfl rfl rfl rfl rfl (zCalP.of c_word_1 ?_) | refine zR.cs rfl rfl rfl rfl rfl (zCalP.of c_word_2 ?_) | refine zR.cs rfl rfl rfl rfl rfl (zCalP.of c_word_3 ?_) | refine zR.cs rfl rfl rfl rfl rfl (zCalP.of c_word_4 ?_) | refine zR.cs rfl rfl rfl rfl rfl (zCalP.of c_word_5 ?_) | refine zR.cs rfl rfl rfl rfl rfl (zCalP.of c_word_6 ?_) | refine zR.cs rfl rfl rfl rfl rfl (zCalP.of c_word_7 ?_) | refine zR.cs rfl rfl rfl rfl rfl (zCalP.of c_word_8 ?_) | refine zR.cs rfl rfl rfl rfl rfl (zCalP.of c_word_9 ?_)) | rw [zcc1] | rw [zcc2] | rw [zcc3] | rw [zcc4] | rw [zb1 (by decide)] | rw [zb2 (by decide)] | rw [zb3 (by decide)] | rw [zb4 (by decide)] | rw [zn1 (by decide)] | rw [zn2 (by decide)] | rw [zn3 (by decide)] | rw [zn4 (by decide)] | rw [ze1 (by decide)] | rw [ze2 (by decide)] | rw [zd1 (by decide)] | rw [zd2 (by decide)] | rw [zswy (by decide)] | rw [zswn (by decide)] | rw [zsw0])
    exact zR.ret rfl rfl hQ
  by_cases q9 : x = 632645
  · rw [if_neg q0, if_neg q1, if_neg q2, if_neg q3, if_neg q4, if_neg q5, if_neg q6, if_neg q7, if_neg q8, if_pos q9] at hQ
    subst q9
    repeat (first | ((with_reducible refine zR.stored ?_); dsimp only [zsto, zclr, zset, zget, zc2, cond_false, cond_true]) | ((with_reducible refine zR.atLit ?_); first | refine zR.step rfl ?_ | refine zR.cs rfl rfl rfl rfl rfl (zCalP.of c_word_0 ?_) | refine zR.cs rfl rfl rfl rfl rfl (zCalP.of c_word_1 ?_) | refine zR.cs rfl rfl rfl rfl rfl (zCalP.of c_word_2 ?_) | refine zR.cs rfl rfl rfl rfl rfl (zCalP.of c_word_3 ?_) | refine zR.cs rfl rfl rfl rfl rfl (zCalP.of c_word_4 ?_) | refine zR.cs rfl rfl rfl rfl rfl (zCalP.of c_word_5 ?_) | refine zR.cs rfl rfl rfl rfl rfl (zCalP.of c_word_6 ?_) | refine zR.cs rfl rfl rfl rfl rfl (zCalP.of c_word_7 ?_) | refine zR.cs rfl rfl rfl rfl rfl (zCalP.of c_word_8 ?_) | refine zR.cs rfl rfl rfl rfl rfl (zCalP.of c_word_9 ?_)) | rw [zcc1] | rw [zcc2] | rw [zcc3] | rw [zcc4] | rw [zb1 (by decide)] | rw [zb2 (by decide)] | rw [zb3 (by decide)] | rw [zb4 (by decide)] | rw [zn1 (by decide)] | rw [zn2 (by decide)] | rw [zn3 (by decide)] | rw [zn4 (by decide)] | rw [ze1 (by decide)] | rw [ze2 (by decide)] | rw [zd1 (by decide)] | rw [zd2 (by decide)] | rw [zswy (by decide)] | rw [zswn (by decide)] | rw [zsw0])
    exact zR.ret rfl rfl hQ
  rw [if_neg q0, if_neg q1, if_neg q2, if_neg q3, if_neg q4, if_neg q5, if_neg q6, if_neg q7, if_neg q8, if_neg q9] at hQ
  repeat (first | ((with_reducible refine zR.stored ?_); dsimp only [zsto, zclr, zset, zget, zc2, cond_false, cond_true]) | ((with_reducible refine zR.atLit ?_); first | refine zR.step rfl ?_ | refine zR.cs rfl rfl rfl rfl rfl (zCalP.of c_word_0 ?_) | refine zR.cs rfl rfl rfl rfl rfl (zCalP.of c_word_1 ?_) | refine zR.cs rfl rfl rfl rfl rfl (zCalP.of c_word_2 ?_) | refine zR.cs rfl rfl rfl rfl rfl (zCalP.of c_word_3 ?_) | refine zR.cs rfl rfl rfl rfl rfl (zCalP.of c_word_4 ?_) | refine zR.cs rfl rfl rfl rfl rfl (zCalP.of c_word_5 ?_) | refine zR.cs rfl rfl rfl rfl rfl (zCalP.of c_word_6 ?_) | refine zR.cs rfl rfl rfl rfl rfl (zCalP.of c_word_7 ?_) | refine zR.cs rfl rfl rfl rfl rfl (zCalP.of c_word_8 ?_) | refine zR.cs rfl rfl rfl rfl rfl (zCalP.of c_word_9 ?_)) | rw [zcc1] | rw [zcc2] | rw [zcc3] | rw [zcc4] | rw [zd1 (q0)] | rw [zd2 (q0)] | rw [zd1 (q1)] | rw [zd2 (q1)] | rw [zd1 (q2)] | rw [zd2 (q2)] | rw [zd1 (q3)] | rw [zd2 (q3)] | rw [zd1 (q4)] | rw [zd2 (q4)] | rw [zd1 (q5)] | rw [zd2 (q5)] | rw [zd1 (q6)] | rw [zd2 (q6)] | rw [zd1 (q7)] | rw [zd2 (q7)] | rw [zd1 (q8)] | rw [zd2 (q8)] | rw [zd1 (q9)] | rw [zd2 (q9)])
  exact zR.ret rfl rfl hQ
