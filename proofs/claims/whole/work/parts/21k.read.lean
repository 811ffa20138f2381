
/-! lines: the class reads conditions. -/
def CFr (M M' : zM) : Prop := ∀ k, k ≠ 32 → (k < 36 ∨ 40 ≤ k) → M' k = M k
theorem CFr.rf {M : zM} : CFr M M := fun _ _ _ => rfl
theorem CFr.tr {M M1 M2 : zM} (h : CFr M M1) (h' : CFr M1 M2) : CFr M M2 := fun k a b => (h' k a b).trans (h k a b)
theorem CFr.tk {M M' : zM} {K V : Nat → Int32} {m : Nat} (h : CFr M M') (hK : TKR M K V m) : TKR M' K V m := hK.mv (fun k a b => h k (by omega) (by omega))
def CQ (K V : Nat → Int32) (S : Nat → Nat) (m D y : Nat) (as : List Value) (q : Nat → List gStp → gRes) : Prop := ∀ (M : zM) (i : Nat) (l : List gStp) (n w : Nat) (fk fp lc : Int32), PCs M K V fk fp lc i l → TKR M K V m → i ≤ m → 2 * l.length ≤ S i → zCalP D y (.ref 32 :: as) n w M (fun v n' w' M' => v = some (.int (b32 (q i l).1)) ∧ n = n' ∧ w = w' ∧ PCs M' K V fk fp lc (q i l).2.1 (q i l).2.2 ∧ CFr M M')
section
variable {K V : Nat → Int32} {S : Nat → Nat} {m : Nat}
theorem acc_y {M : zM} {fk fp lc : Int32} {i : Nat} {l : List gStp} {d n w : Nat} {x : Int32} {P : Option Value → Nat → Nat → zM → Prop} (hT : TE K S m) (hP : PCs M K V fk fp lc i l) (hK : TKR M K V m) (hi : i + 1 ≤ m) (h : K i = x) (hp : ∀ M', PCs M' K V fk fp lc (i + 1) l → TKR M' K V m → CFr M M' → P (some (.int 1)) n w M') : zCalP d 44 [.ref 32, .int x] n w M P :=
  zR.mono (c_accept_y hP hK hT.2.2.1 hi h) (fun v n' w' M' hv => by
    obtain ⟨rfl, rfl, rfl, h1, h2⟩ := hv
    have fr : CFr M M' := fun k a _ => h2 k a
    exact hp M' h1 (fr.tk hK) fr)
theorem rt_cmp {M M0 : zM} {fk fp lc sj cr : Int32} {i j : Nat} {l : List gStp} {d n w : Nat} {x3 x4 : Option Value} (hT : TE K S m) (hP : PCs M K V fk fp lc j l) (hK : TKR M K V m) (hF : CFr M0 M) (hj : j ≤ m) (hl : 2 * l.length ≤ S j) : zR ztb (d + 1) kX4_readTest 2 60 [some (.ref 32), some (.int sj), some (.int cr), x3, x4] [] n w M (fun v n' w' M' => v = some (.int (b32 (pCmp K V sj cr j l).1)) ∧ n = n' ∧ w = w' ∧ PCs M' K V fk fp lc (pCmp K V sj cr j l).2.1 (pCmp K V sj cr j l).2.2 ∧ CFr M0 M') := by
  have h200 : S j ≤ 200 := hT.2.2.2.2.2 j hj
  unfold pCmp
  -- behind the sign
  have tl : ∀ (M1 : zM) (sg : Int32), K j = sg → j + 1 ≤ m → PCs M1 K V fk fp lc (j + 1) l → TKR M1 K V m → CFr M0 M1 → zR ztb (d + 1) kX4_readTest 2 83 [some (.ref 32), some (.int sj), some (.int cr), some (.int sg), x4] [] n w M1 (fun v n' w' M' => v = some (.int (b32 (if K (j + 1) = 2 then (true, j + 2, l ++ [(K j, sj, cr, V (j + 1))]) else (false, j + 1, l)).1)) ∧ n = n' ∧ w = w' ∧ PCs M' K V fk fp lc (if K (j + 1) = 2 then (true, j + 2, l ++ [(K j, sj, cr, V (j + 1))]) else (false, j + 1, l)).2.1 (if K (j + 1) = 2 then (true, j + 2, l ++ [(K j, sj, cr, V (j + 1))]) else (false, j + 1, l)).2.2 ∧ CFr M0 M') := by
    intro M1 sg hsg hj1 hP1 hK1 hF1
    have ev : (if j + 1 = 0 then 0 else V (j + 1)) = V (j + 1) := if_neg (by omega)
    have h32 := hP1.1
    rw [ev] at h32
    by_cases q : K (j + 1) = 2
    · rw [if_pos q]
      have h2 := hT.oth (k := 2) hj1 q (by omega) (by omega)
      repeat (first | ((with_reducible refine zR.stored ?_); dsimp only [zsto, zclr, zset, zget, zc2, cond_false, cond_true]) | ((with_reducible refine zR.atLit ?_); first | refine zR.step rfl ?_ | refine zR.getf rfl h32 rfl ?_) | rw [zcc1] | rw [zcc2] | rw [zcc3] | rw [zcc4])
      refine zR.cv rfl rfl rfl hP1.1 rfl rfl (acc_y hT hP1 hK1 h2.1 q (fun M2 hP2 hK2 hF2 => ?_))
      repeat (first | ((with_reducible refine zR.stored ?_); dsimp only [zsto, zclr, zset, zget, zc2, cond_false, cond_true]) | ((with_reducible refine zR.atLit ?_); first | refine zR.step rfl ?_) | rw [zcc1] | rw [zcc2] | rw [zcc3] | rw [zcc4] | rw [zb1 (by decide)] | rw [zb2 (by decide)] | rw [zb3 (by decide)] | rw [zb4 (by decide)] | rw [zn1 (by decide)] | rw [zn2 (by decide)] | rw [zn3 (by decide)] | rw [zn4 (by decide)] | rw [ze1 (by decide)] | rw [ze2 (by decide)] | rw [zd1 (by decide)] | rw [zd2 (by decide)] | rw [zswy (by decide)] | rw [zswn (by decide)] | rw [zsw0])
      refine zR.cv rfl rfl rfl hP2.1 rfl rfl (zR.mono (c_addStep hP2 (by omega) _ _ _ _) (fun v n1 w1 M3 hv => ?_))
      obtain ⟨rfl, rfl, rfl, hP3, hF3⟩ := hv
      repeat (first | ((with_reducible refine zR.stored ?_); dsimp only [zsto, zclr, zset, zget, zc2, cond_false, cond_true]) | ((with_reducible refine zR.atLit ?_); first | refine zR.step rfl ?_) | rw [zcc1] | rw [zcc2] | rw [zcc3] | rw [zcc4] | rw [zb1 (by decide)] | rw [zb2 (by decide)] | rw [zb3 (by decide)] | rw [zb4 (by decide)] | rw [zn1 (by decide)] | rw [zn2 (by decide)] | rw [zn3 (by decide)] | rw [zn4 (by decide)] | rw [ze1 (by decide)] | rw [ze2 (by decide)] | rw [zd1 (by decide)] | rw [zd2 (by decide)] | rw [zswy (by decide)] | rw [zswn (by decide)] | rw [zsw0])
      rw [hsg]
      exact zR.ret rfl rfl ⟨rfl, rfl, rfl, hP3, (hF1.tr hF2).tr hF3⟩
    · rw [if_neg q]
      repeat (first | ((with_reducible refine zR.stored ?_); dsimp only [zsto, zclr, zset, zget, zc2, cond_false, cond_true]) | ((with_reducible refine zR.atLit ?_); first | refine zR.step rfl ?_ | refine zR.getf rfl h32 rfl ?_ | refine zR.cv rfl rfl rfl hP1.1 rfl rfl (zCalP.of (c_accept_n hP1 q) ?_)) | rw [zcc1] | rw [zcc2] | rw [zcc3] | rw [zcc4] | rw [zb1 (by decide)] | rw [zb2 (by decide)] | rw [zb3 (by decide)] | rw [zb4 (by decide)] | rw [zn1 (by decide)] | rw [zn2 (by decide)] | rw [zn3 (by decide)] | rw [zn4 (by decide)] | rw [ze1 (by decide)] | rw [ze2 (by decide)] | rw [zd1 (by decide)] | rw [zd2 (by decide)] | rw [zswy (by decide)] | rw [zswn (by decide)] | rw [zsw0])
      exact zR.ret rfl rfl ⟨rfl, rfl, rfl, hP1, hF1⟩
  by_cases q4 : K j = 4
  · rw [if_pos (Or.inl q4)]
    have h1 := hT.oth (k := 4) hj q4 (by omega) (by omega)
    repeat (first | ((with_reducible refine zR.stored ?_); dsimp only [zsto, zclr, zset, zget, zc2, cond_false, cond_true]) | ((with_reducible refine zR.atLit ?_); first | refine zR.step rfl ?_ | refine zR.getf rfl hP.1 rfl ?_) | rw [zcc1] | rw [zcc2] | rw [zcc3] | rw [zcc4])
    refine zR.cv rfl rfl rfl hP.1 rfl rfl (acc_y hT hP hK h1.1 q4 (fun M1 hP1 hK1 hF1 => ?_))
    repeat (first | with_reducible refine zR.hold (pc := 83) ?_ | ((with_reducible refine zR.stored ?_); dsimp only [zsto, zclr, zset, zget, zc2, cond_false, cond_true]) | ((with_reducible refine zR.atLit ?_); first | refine zR.step rfl ?_) | rw [zcc1] | rw [zcc2] | rw [zcc3] | rw [zcc4] | rw [zb1 (by decide)] | rw [zb2 (by decide)] | rw [zb3 (by decide)] | rw [zb4 (by decide)] | rw [zn1 (by decide)] | rw [zn2 (by decide)] | rw [zn3 (by decide)] | rw [zn4 (by decide)] | rw [ze1 (by decide)] | rw [ze2 (by decide)] | rw [zd1 (by decide)] | rw [zd2 (by decide)] | rw [zswy (by decide)] | rw [zswn (by decide)] | rw [zsw0])
    exact ⟨trivial, tl M1 _ rfl h1.1 hP1 hK1 (hF.tr hF1)⟩
  · by_cases q5 : K j = 5
    · rw [if_pos (Or.inr q5)]
      have h1 := hT.oth (k := 5) hj q5 (by omega) (by omega)
      repeat (first | ((with_reducible refine zR.stored ?_); dsimp only [zsto, zclr, zset, zget, zc2, cond_false, cond_true]) | ((with_reducible refine zR.atLit ?_); first | refine zR.step rfl ?_ | refine zR.getf rfl hP.1 rfl ?_ | refine zR.cv rfl rfl rfl hP.1 rfl rfl (zCalP.of (c_accept_n hP q4) ?_)) | rw [zcc1] | rw [zcc2] | rw [zcc3] | rw [zcc4] | rw [zb1 (by decide)] | rw [zb2 (by decide)] | rw [zb3 (by decide)] | rw [zb4 (by decide)] | rw [zn1 (by decide)] | rw [zn2 (by decide)] | rw [zn3 (by decide)] | rw [zn4 (by decide)] | rw [ze1 (by decide)] | rw [ze2 (by decide)] | rw [zd1 (by decide)] | rw [zd2 (by decide)] | rw [zswy (by decide)] | rw [zswn (by decide)] | rw [zsw0])
      refine zR.cv rfl rfl rfl hP.1 rfl rfl (acc_y hT hP hK h1.1 q5 (fun M1 hP1 hK1 hF1 => ?_))
      repeat (first | with_reducible refine zR.hold (pc := 83) ?_ | ((with_reducible refine zR.stored ?_); dsimp only [zsto, zclr, zset, zget, zc2, cond_false, cond_true]) | ((with_reducible refine zR.atLit ?_); first | refine zR.step rfl ?_) | rw [zcc1] | rw [zcc2] | rw [zcc3] | rw [zcc4] | rw [zb1 (by decide)] | rw [zb2 (by decide)] | rw [zb3 (by decide)] | rw [zb4 (by decide)] | rw [zn1 (by decide)] | rw [zn2 (by decide)] | rw [zn3 (by decide)] | rw [zn4 (by decide)] | rw [ze1 (by decide)] | rw [ze2 (by decide)] | rw [zd1 (by decide)] | rw [zd2 (by decide)] | rw [zswy (by decide)] | rw [zswn (by decide)] | rw [zsw0])
      exact ⟨trivial, tl M1 _ rfl h1.1 hP1 hK1 (hF.tr hF1)⟩
    · rw [if_neg (fun z => z.elim q4 q5)]
      repeat (first | ((with_reducible refine zR.stored ?_); dsimp only [zsto, zclr, zset, zget, zc2, cond_false, cond_true]) | ((with_reducible refine zR.atLit ?_); first | refine zR.step rfl ?_ | refine zR.getf rfl hP.1 rfl ?_ | refine zR.cv rfl rfl rfl hP.1 rfl rfl (zCalP.of (c_accept_n hP q4) ?_) | refine zR.cv rfl rfl rfl hP.1 rfl rfl (zCalP.of (c_accept_n hP q5) ?_)) | rw [zcc1] | rw [zcc2] | rw [zcc3] | rw [zcc4] | rw [zb1 (by decide)] | rw [zb2 (by decide)] | rw [zb3 (by decide)] | rw [zb4 (by decide)] | rw [zn1 (by decide)] | rw [zn2 (by decide)] | rw [zn3 (by decide)] | rw [zn4 (by decide)] | rw [ze1 (by decide)] | rw [ze2 (by decide)] | rw [zd1 (by decide)] | rw [zd2 (by decide)] | rw [zswy (by decide)] | rw [zswn (by decide)] | rw [zsw0])
      exact zR.ret rfl rfl ⟨rfl, rfl, rfl, hP, hF⟩
theorem c_readTest (hT : TE K S m) {d : Nat} : CQ K V S m (d + 1) 49 [] (pTst K V) := by
  intro M i l n w fk fp lc hP hK hi hl
  unfold pTst
  show zR ztb _ kX4_readTest 2 0 [some (.ref 32), none, none, none, none] [] _ _ _ _
  -- behind stock or had
  have cr : ∀ (M1 : zM) (sj : Int32), i + 1 ≤ m → S i ≤ S (i + 1) → PCs M1 K V fk fp lc (i + 1) l → TKR M1 K V m → CFr M M1 → zR ztb (d + 1) kX4_readTest 2 25 [some (.ref 32), some (.int sj), some (.int 0), none, none] [] n w M1 (fun v n' w' M' => v = some (.int (b32 (if K (i + 1) = 3 then pCmp K V sj (V (i + 1)) (i + 2) l else (false, i + 1, l)).1)) ∧ n = n' ∧ w = w' ∧ PCs M' K V fk fp lc (if K (i + 1) = 3 then pCmp K V sj (V (i + 1)) (i + 2) l else (false, i + 1, l)).2.1 (if K (i + 1) = 3 then pCmp K V sj (V (i + 1)) (i + 2) l else (false, i + 1, l)).2.2 ∧ CFr M M') := by
    intro M1 sj hi1 hs1 hP1 hK1 hF1
    have ev : (if i + 1 = 0 then 0 else V (i + 1)) = V (i + 1) := if_neg (by omega)
    have h32 := hP1.1
    rw [ev] at h32
    by_cases q : K (i + 1) = 3
    · rw [if_pos q]
      have h2 := hT.oth (k := 3) hi1 q (by omega) (by omega)
      repeat (first | ((with_reducible refine zR.stored ?_); dsimp only [zsto, zclr, zset, zget, zc2, cond_false, cond_true]) | ((with_reducible refine zR.atLit ?_); first | refine zR.step rfl ?_ | refine zR.getf rfl h32 rfl ?_) | rw [zcc1] | rw [zcc2] | rw [zcc3] | rw [zcc4])
      refine zR.cv rfl rfl rfl hP1.1 rfl rfl (acc_y hT hP1 hK1 h2.1 q (fun M2 hP2 hK2 hF2 => ?_))
      repeat (first | with_reducible refine zR.hold (pc := 60) ?_ | ((with_reducible refine zR.stored ?_); dsimp only [zsto, zclr, zset, zget, zc2, cond_false, cond_true]) | ((with_reducible refine zR.atLit ?_); first | refine zR.step rfl ?_) | rw [zcc1] | rw [zcc2] | rw [zcc3] | rw [zcc4] | rw [zb1 (by decide)] | rw [zb2 (by decide)] | rw [zb3 (by decide)] | rw [zb4 (by decide)] | rw [zn1 (by decide)] | rw [zn2 (by decide)] | rw [zn3 (by decide)] | rw [zn4 (by decide)] | rw [ze1 (by decide)] | rw [ze2 (by decide)] | rw [zd1 (by decide)] | rw [zd2 (by decide)] | rw [zswy (by decide)] | rw [zswn (by decide)] | rw [zsw0])
      exact ⟨trivial, rt_cmp (i := i) hT hP2 hK2 (hF1.tr hF2) h2.1 (by show 2 * l.length ≤ S (i + 1 + 1); omega)⟩
    · rw [if_neg q]
      repeat (first | ((with_reducible refine zR.stored ?_); dsimp only [zsto, zclr, zset, zget, zc2, cond_false, cond_true]) | ((with_reducible refine zR.atLit ?_); first | refine zR.step rfl ?_ | refine zR.getf rfl h32 rfl ?_ | refine zR.cv rfl rfl rfl hP1.1 rfl rfl (zCalP.of (c_accept_n hP1 q) ?_)) | rw [zcc1] | rw [zcc2] | rw [zcc3] | rw [zcc4] | rw [zb1 (by decide)] | rw [zb2 (by decide)] | rw [zb3 (by decide)] | rw [zb4 (by decide)] | rw [zn1 (by decide)] | rw [zn2 (by decide)] | rw [zn3 (by decide)] | rw [zn4 (by decide)] | rw [ze1 (by decide)] | rw [ze2 (by decide)] | rw [zd1 (by decide)] | rw [zd2 (by decide)] | rw [zswy (by decide)] | rw [zswn (by decide)] | rw [zsw0])
      exact zR.ret rfl rfl ⟨rfl, rfl, rfl, hP1, hF1⟩
  by_cases q16 : K i = 16
  · rw [if_pos (Or.inl q16)]
    have h1 := hT.oth (k := 16) hi q16 (by omega) (by omega)
    repeat (first | ((with_reducible refine zR.stored ?_); dsimp only [zsto, zclr, zset, zget, zc2, cond_false, cond_true]) | ((with_reducible refine zR.atLit ?_); first | refine zR.step rfl ?_ | refine zR.getf rfl hP.1 rfl ?_) | rw [zcc1] | rw [zcc2] | rw [zcc3] | rw [zcc4])
    refine zR.cv rfl rfl rfl hP.1 rfl rfl (acc_y hT hP hK h1.1 q16 (fun M1 hP1 hK1 hF1 => ?_))
    repeat (first | with_reducible refine zR.hold (pc := 25) ?_ | ((with_reducible refine zR.stored ?_); dsimp only [zsto, zclr, zset, zget, zc2, cond_false, cond_true]) | ((with_reducible refine zR.atLit ?_); first | refine zR.step rfl ?_) | rw [zcc1] | rw [zcc2] | rw [zcc3] | rw [zcc4] | rw [zb1 (by decide)] | rw [zb2 (by decide)] | rw [zb3 (by decide)] | rw [zb4 (by decide)] | rw [zn1 (by decide)] | rw [zn2 (by decide)] | rw [zn3 (by decide)] | rw [zn4 (by decide)] | rw [ze1 (by decide)] | rw [ze2 (by decide)] | rw [zd1 (by decide)] | rw [zd2 (by decide)] | rw [zswy (by decide)] | rw [zswn (by decide)] | rw [zsw0])
    exact ⟨trivial, cr M1 _ h1.1 h1.2 hP1 hK1 hF1⟩
  by_cases q17 : K i = 17
  · rw [if_pos (Or.inr q17)]
    have h1 := hT.oth (k := 17) hi q17 (by omega) (by omega)
    repeat (first | ((with_reducible refine zR.stored ?_); dsimp only [zsto, zclr, zset, zget, zc2, cond_false, cond_true]) | ((with_reducible refine zR.atLit ?_); first | refine zR.step rfl ?_ | refine zR.getf rfl hP.1 rfl ?_ | refine zR.cv rfl rfl rfl hP.1 rfl rfl (zCalP.of (c_accept_n hP q16) ?_)) | rw [zcc1] | rw [zcc2] | rw [zcc3] | rw [zcc4] | rw [zb1 (by decide)] | rw [zb2 (by decide)] | rw [zb3 (by decide)] | rw [zb4 (by decide)] | rw [zn1 (by decide)] | rw [zn2 (by decide)] | rw [zn3 (by decide)] | rw [zn4 (by decide)] | rw [ze1 (by decide)] | rw [ze2 (by decide)] | rw [zd1 (by decide)] | rw [zd2 (by decide)] | rw [zswy (by decide)] | rw [zswn (by decide)] | rw [zsw0])
    refine zR.cv rfl rfl rfl hP.1 rfl rfl (acc_y hT hP hK h1.1 q17 (fun M1 hP1 hK1 hF1 => ?_))
    repeat (first | with_reducible refine zR.hold (pc := 25) ?_ | ((with_reducible refine zR.stored ?_); dsimp only [zsto, zclr, zset, zget, zc2, cond_false, cond_true]) | ((with_reducible refine zR.atLit ?_); first | refine zR.step rfl ?_) | rw [zcc1] | rw [zcc2] | rw [zcc3] | rw [zcc4] | rw [zb1 (by decide)] | rw [zb2 (by decide)] | rw [zb3 (by decide)] | rw [zb4 (by decide)] | rw [zn1 (by decide)] | rw [zn2 (by decide)] | rw [zn3 (by decide)] | rw [zn4 (by decide)] | rw [ze1 (by decide)] | rw [ze2 (by decide)] | rw [zd1 (by decide)] | rw [zd2 (by decide)] | rw [zswy (by decide)] | rw [zswn (by decide)] | rw [zsw0])
    exact ⟨trivial, cr M1 _ h1.1 h1.2 hP1 hK1 hF1⟩
  rw [if_neg (fun z => z.elim q16 q17)]
  by_cases q18 : K i = 18
  · rw [if_pos (Or.inl q18)]
    have h1 := hT.oth (k := 18) hi q18 (by omega) (by omega)
    repeat (first | ((with_reducible refine zR.stored ?_); dsimp only [zsto, zclr, zset, zget, zc2, cond_false, cond_true]) | ((with_reducible refine zR.atLit ?_); first | refine zR.step rfl ?_ | refine zR.getf rfl hP.1 rfl ?_ | refine zR.cv rfl rfl rfl hP.1 rfl rfl (zCalP.of (c_accept_n hP q16) ?_) | refine zR.cv rfl rfl rfl hP.1 rfl rfl (zCalP.of (c_accept_n hP q17) ?_)) | rw [zcc1] | rw [zcc2] | rw [zcc3] | rw [zcc4] | rw [zb1 (by decide)] | rw [zb2 (by decide)] | rw [zb3 (by decide)] | rw [zb4 (by decide)] | rw [zn1 (by decide)] | rw [zn2 (by decide)] | rw [zn3 (by decide)] | rw [zn4 (by decide)] | rw [ze1 (by decide)] | rw [ze2 (by decide)] | rw [zd1 (by decide)] | rw [zd2 (by decide)] | rw [zswy (by decide)] | rw [zswn (by decide)] | rw [zsw0])
    refine zR.cv rfl rfl rfl hP.1 rfl rfl (acc_y hT hP hK h1.1 q18 (fun M1 hP1 hK1 hF1 => ?_))
    repeat (first | with_reducible refine zR.hold (pc := 60) ?_ | ((with_reducible refine zR.stored ?_); dsimp only [zsto, zclr, zset, zget, zc2, cond_false, cond_true]) | ((with_reducible refine zR.atLit ?_); first | refine zR.step rfl ?_) | rw [zcc1] | rw [zcc2] | rw [zcc3] | rw [zcc4] | rw [zb1 (by decide)] | rw [zb2 (by decide)] | rw [zb3 (by decide)] | rw [zb4 (by decide)] | rw [zn1 (by decide)] | rw [zn2 (by decide)] | rw [zn3 (by decide)] | rw [zn4 (by decide)] | rw [ze1 (by decide)] | rw [ze2 (by decide)] | rw [zd1 (by decide)] | rw [zd2 (by decide)] | rw [zswy (by decide)] | rw [zswn (by decide)] | rw [zsw0])
    exact ⟨trivial, rt_cmp (i := i) hT hP1 hK1 hF1 h1.1 (by omega)⟩
  by_cases q19 : K i = 19
  · rw [if_pos (Or.inr q19)]
    have h1 := hT.oth (k := 19) hi q19 (by omega) (by omega)
    repeat (first | ((with_reducible refine zR.stored ?_); dsimp only [zsto, zclr, zset, zget, zc2, cond_false, cond_true]) | ((with_reducible refine zR.atLit ?_); first | refine zR.step rfl ?_ | refine zR.getf rfl hP.1 rfl ?_ | refine zR.cv rfl rfl rfl hP.1 rfl rfl (zCalP.of (c_accept_n hP q16) ?_) | refine zR.cv rfl rfl rfl hP.1 rfl rfl (zCalP.of (c_accept_n hP q17) ?_) | refine zR.cv rfl rfl rfl hP.1 rfl rfl (zCalP.of (c_accept_n hP q18) ?_)) | rw [zcc1] | rw [zcc2] | rw [zcc3] | rw [zcc4] | rw [zb1 (by decide)] | rw [zb2 (by decide)] | rw [zb3 (by decide)] | rw [zb4 (by decide)] | rw [zn1 (by decide)] | rw [zn2 (by decide)] | rw [zn3 (by decide)] | rw [zn4 (by decide)] | rw [ze1 (by decide)] | rw [ze2 (by decide)] | rw [zd1 (by decide)] | rw [zd2 (by decide)] | rw [zswy (by decide)] | rw [zswn (by decide)] | rw [zsw0])
    refine zR.cv rfl rfl rfl hP.1 rfl rfl (acc_y hT hP hK h1.1 q19 (fun M1 hP1 hK1 hF1 => ?_))
    repeat (first | with_reducible refine zR.hold (pc := 60) ?_ | ((with_reducible refine zR.stored ?_); dsimp only [zsto, zclr, zset, zget, zc2, cond_false, cond_true]) | ((with_reducible refine zR.atLit ?_); first | refine zR.step rfl ?_) | rw [zcc1] | rw [zcc2] | rw [zcc3] | rw [zcc4] | rw [zb1 (by decide)] | rw [zb2 (by decide)] | rw [zb3 (by decide)] | rw [zb4 (by decide)] | rw [zn1 (by decide)] | rw [zn2 (by decide)] | rw [zn3 (by decide)] | rw [zn4 (by decide)] | rw [ze1 (by decide)] | rw [ze2 (by decide)] | rw [zd1 (by decide)] | rw [zd2 (by decide)] | rw [zswy (by decide)] | rw [zswn (by decide)] | rw [zsw0])
    exact ⟨trivial, rt_cmp (i := i) hT hP1 hK1 hF1 h1.1 (by omega)⟩
  rw [if_neg (fun z => z.elim q18 q19)]
  repeat (first | ((with_reducible refine zR.stored ?_); dsimp only [zsto, zclr, zset, zget, zc2, cond_false, cond_true]) | ((with_reducible refine zR.atLit ?_); first | refine zR.step rfl ?_ | refine zR.getf rfl hP.1 rfl ?_ | refine zR.cv rfl rfl rfl hP.1 rfl rfl (zCalP.of (c_accept_n hP q16) ?_) | refine zR.cv rfl rfl rfl hP.1 rfl rfl (zCalP.of (c_accept_n hP q17) ?_) | refine zR.cv rfl rfl rfl hP.1 rfl rfl (zCalP.of (c_accept_n hP q18) ?_) | refine zR.cv rfl rfl rfl hP.1 rfl rfl (zCalP.of (c_accept_n hP q19) ?_)) | rw [zcc1] | rw [zcc2] | rw [zcc3] | rw [zcc4] | rw [zb1 (by decide)] | rw [zb2 (by decide)] | rw [zb3 (by decide)] | rw [zb4 (by decide)] | rw [zn1 (by decide)] | rw [zn2 (by decide)] | rw [zn3 (by decide)] | rw [zn4 (by decide)] | rw [ze1 (by decide)] | rw [ze2 (by decide)] | rw [zd1 (by decide)] | rw [zd2 (by decide)] | rw [zswy (by decide)] | rw [zswn (by decide)] | rw [zsw0])
  exact zR.ret rfl rfl ⟨rfl, rfl, rfl, hP, CFr.rf⟩
theorem rl_And (hT : TE K S m) {q : Nat → List gStp → gRes} {D : Nat} {x : Int32} (hq : CQ K V S m D 48 [.int x] q) (hg : ∀ i l, i ≤ m → GD S m i l (q i l)) {M0 : zM} {i0 : Nat} {l0 : List gStp} {fk fp lc : Int32} {n w : Nat} : ∀ (f j : Nat) (M : zM) (r : gRes), j + f = 200 → PCs M K V fk fp lc r.2.1 r.2.2 → TKR M K V m → CFr M0 M → r.2.1 ≤ m → 2 * r.2.2.length ≤ S r.2.1 → zR ztb (D + 1) kX4_readAnd 2 8 [some (.ref 32), some (.int x), some (.int (b32 r.1)), some (.int (nI j))] [] n w M (fun v n' w' M' => v = some (.int (b32 (pLp K 13 q f r).1)) ∧ n = n' ∧ w = w' ∧ PCs M' K V fk fp lc (pLp K 13 q f r).2.1 (pLp K 13 q f r).2.2 ∧ CFr M0 M')
  | 0, j, M, r, hj, hP, hK, hF, hi, hl => by
    have e : ¬ nI j < 200 := zI_nlt (b := 200) (by omega) (by omega)
    rw [pLp]
    cases z : r.1 with
    | true =>
      repeat (first | ((with_reducible refine zR.stored ?_); dsimp only [zsto, zclr, zset, zget, zc2, cond_false, cond_true]) | ((with_reducible refine zR.atLit ?_); first | refine zR.step rfl ?_) | rw [zcc1] | rw [zcc2] | rw [zcc3] | rw [zcc4] | rw [zn1 (e)] | rw [zn2 (e)] | rw [zn3 (e)] | rw [zn4 (e)])
      exact zR.ret rfl rfl ⟨rfl, rfl, rfl, hP, hF⟩
    | false =>
      repeat (first | ((with_reducible refine zR.stored ?_); dsimp only [zsto, zclr, zset, zget, zc2, cond_false, cond_true]) | ((with_reducible refine zR.atLit ?_); first | refine zR.step rfl ?_) | rw [zcc1] | rw [zcc2] | rw [zcc3] | rw [zcc4] | rw [zn1 (e)] | rw [zn2 (e)] | rw [zn3 (e)] | rw [zn4 (e)])
      exact zR.ret rfl rfl ⟨rfl, rfl, rfl, hP, hF⟩
  | f + 1, j, M, r, hj, hP, hK, hF, hi, hl => by
    have e : nI j < 200 := zI_ylt (b := 200) (by omega) (by omega)
    rw [pLp]
    refine zR.step rfl ?_
    cases z : r.1 with
    | false =>
      rw [if_neg (fun y => absurd y.1 (by decide))]
      repeat (first | ((with_reducible refine zR.stored ?_); dsimp only [zsto, zclr, zset, zget, zc2, cond_false, cond_true]) | ((with_reducible refine zR.atLit ?_); first | refine zR.step rfl ?_) | rw [zcc1] | rw [zcc2] | rw [zcc3] | rw [zcc4] | rw [zb1 (e)] | rw [zb2 (e)] | rw [zb3 (e)] | rw [zb4 (e)] | rw [b32_f] | rw [zb1 (by decide)] | rw [zb2 (by decide)] | rw [zb3 (by decide)] | rw [zb4 (by decide)] | rw [zn1 (by decide)] | rw [zn2 (by decide)] | rw [zn3 (by decide)] | rw [zn4 (by decide)] | rw [ze1 (by decide)] | rw [ze2 (by decide)] | rw [zd1 (by decide)] | rw [zd2 (by decide)] | rw [zswy (by decide)] | rw [zswn (by decide)] | rw [zsw0])
      rw [z]
      exact zR.ret rfl rfl ⟨rfl, rfl, rfl, hP, hF⟩
    | true =>
      by_cases k : K r.2.1 = 13
      · rw [if_pos ⟨rfl, k⟩]
        have hk := hT.key (k := 13) hi k (by omega) (by omega)
        have h200 : S (q (r.2.1 + 1) r.2.2).2.1 ≤ 200 := hT.2.2.2.2.2 _ (hg _ r.2.2 hk.1).2.1
        repeat (first | ((with_reducible refine zR.stored ?_); dsimp only [zsto, zclr, zset, zget, zc2, cond_false, cond_true]) | ((with_reducible refine zR.atLit ?_); first | refine zR.step rfl ?_) | rw [zcc1] | rw [zcc2] | rw [zcc3] | rw [zcc4] | rw [zb1 (e)] | rw [zb2 (e)] | rw [zb3 (e)] | rw [zb4 (e)] | rw [b32_t] | rw [zb1 (by decide)] | rw [zb2 (by decide)] | rw [zb3 (by decide)] | rw [zb4 (by decide)] | rw [zn1 (by decide)] | rw [zn2 (by decide)] | rw [zn3 (by decide)] | rw [zn4 (by decide)] | rw [ze1 (by decide)] | rw [ze2 (by decide)] | rw [zd1 (by decide)] | rw [zd2 (by decide)] | rw [zswy (by decide)] | rw [zswn (by decide)] | rw [zsw0])
        refine zR.cv rfl rfl rfl hP.1 rfl rfl (acc_y hT hP hK hk.1 k (fun M1 hP1 hK1 hF1 => ?_))
        repeat (first | ((with_reducible refine zR.stored ?_); dsimp only [zsto, zclr, zset, zget, zc2, cond_false, cond_true]) | ((with_reducible refine zR.atLit ?_); first | refine zR.step rfl ?_) | rw [zcc1] | rw [zcc2] | rw [zcc3] | rw [zcc4] | rw [zb1 (by decide)] | rw [zb2 (by decide)] | rw [zb3 (by decide)] | rw [zb4 (by decide)] | rw [zn1 (by decide)] | rw [zn2 (by decide)] | rw [zn3 (by decide)] | rw [zn4 (by decide)] | rw [ze1 (by decide)] | rw [ze2 (by decide)] | rw [zd1 (by decide)] | rw [zd2 (by decide)] | rw [zswy (by decide)] | rw [zswn (by decide)] | rw [zsw0])
        refine zR.cv rfl rfl rfl hP1.1 rfl rfl (zR.mono (hq M1 _ _ _ _ _ _ _ hP1 hK1 hk.1 (by omega)) (fun v n1 w1 M2 hv => ?_))
        obtain ⟨rfl, rfl, rfl, hP2, hF2⟩ := hv
        have hK2 := hF2.tk hK1
        obtain ⟨g1, g2, g3, g4⟩ := hg (r.2.1 + 1) r.2.2 hk.1
        have gs := GD.st (key := 13) hk (hg (r.2.1 + 1) r.2.2 hk.1)
        have ih := fun M3 hP3 hK3 hF3 => rl_And hT hq hg (M0 := M0) (i0 := i0) (l0 := l0) (fk := fk) (fp := fp) (lc := lc) (n := n) (w := w) f (j + 1) M3 (pSt 13 (q (r.2.1 + 1) r.2.2)) (by omega) hP3 hK3 hF3 gs.2.1 (by have := gs.2.2.2; omega)
        rw [← zI_s] at ih
        unfold pSt at ih ⊢
        cases y : (q (r.2.1 + 1) r.2.2).1 with
        | true =>
          rw [y, if_pos rfl] at ih
          rw [if_pos rfl]
          repeat (first | ((with_reducible refine zR.stored ?_); dsimp only [zsto, zclr, zset, zget, zc2, cond_false, cond_true]) | ((with_reducible refine zR.atLit ?_); first | refine zR.step rfl ?_) | rw [zcc1] | rw [zcc2] | rw [zcc3] | rw [zcc4] | rw [b32_t] | rw [zb1 (by decide)] | rw [zb2 (by decide)] | rw [zb3 (by decide)] | rw [zb4 (by decide)] | rw [zn1 (by decide)] | rw [zn2 (by decide)] | rw [zn3 (by decide)] | rw [zn4 (by decide)] | rw [ze1 (by decide)] | rw [ze2 (by decide)] | rw [zd1 (by decide)] | rw [zd2 (by decide)] | rw [zswy (by decide)] | rw [zswn (by decide)] | rw [zsw0])
          refine zR.cv rfl rfl rfl hP2.1 rfl rfl (zR.mono (c_addStep hP2 (by omega) _ _ _ _) (fun v n3 w3 M3 hv => ?_))
          obtain ⟨rfl, rfl, rfl, hP3, hF3⟩ := hv
          have hF3' : CFr M0 M3 := (hF.tr (hF1.tr hF2)).tr hF3
          have ih3 := ih M3 hP3 (CFr.tk hF3 hK2) ((hF.tr (hF1.tr hF2)).tr hF3)
          repeat (first | with_reducible refine zR.hold (pc := 8) ?_ | ((with_reducible refine zR.stored ?_); dsimp only [zsto, zclr, zset, zget, zc2, cond_false, cond_true]) | ((with_reducible refine zR.atLit ?_); first | refine zR.step rfl ?_) | rw [zcc1] | rw [zcc2] | rw [zcc3] | rw [zcc4] | rw [zb1 (by decide)] | rw [zb2 (by decide)] | rw [zb3 (by decide)] | rw [zb4 (by decide)] | rw [zn1 (by decide)] | rw [zn2 (by decide)] | rw [zn3 (by decide)] | rw [zn4 (by decide)] | rw [ze1 (by decide)] | rw [ze2 (by decide)] | rw [zd1 (by decide)] | rw [zd2 (by decide)] | rw [zswy (by decide)] | rw [zswn (by decide)] | rw [zsw0])
          exact ⟨trivial, ih3⟩
        | false =>
          rw [y, if_neg (by decide)] at ih
          rw [if_neg (by decide)]
          have ih3 := ih M2 hP2 hK2 (hF.tr (hF1.tr hF2))
          repeat (first | with_reducible refine zR.hold (pc := 8) ?_ | ((with_reducible refine zR.stored ?_); dsimp only [zsto, zclr, zset, zget, zc2, cond_false, cond_true]) | ((with_reducible refine zR.atLit ?_); first | refine zR.step rfl ?_) | rw [zcc1] | rw [zcc2] | rw [zcc3] | rw [zcc4] | rw [b32_f] | rw [zb1 (by decide)] | rw [zb2 (by decide)] | rw [zb3 (by decide)] | rw [zb4 (by decide)] | rw [zn1 (by decide)] | rw [zn2 (by decide)] | rw [zn3 (by decide)] | rw [zn4 (by decide)] | rw [ze1 (by decide)] | rw [ze2 (by decide)] | rw [zd1 (by decide)] | rw [zd2 (by decide)] | rw [zswy (by decide)] | rw [zswn (by decide)] | rw [zsw0])
          exact ⟨trivial, ih3⟩
      · rw [if_neg (fun y => k y.2)]
        repeat (first | ((with_reducible refine zR.stored ?_); dsimp only [zsto, zclr, zset, zget, zc2, cond_false, cond_true]) | ((with_reducible refine zR.atLit ?_); first | refine zR.step rfl ?_ | refine zR.cv rfl rfl rfl hP.1 rfl rfl (zCalP.of (c_accept_n hP k) ?_)) | rw [zcc1] | rw [zcc2] | rw [zcc3] | rw [zcc4] | rw [zb1 (e)] | rw [zb2 (e)] | rw [zb3 (e)] | rw [zb4 (e)] | rw [b32_t] | rw [zb1 (by decide)] | rw [zb2 (by decide)] | rw [zb3 (by decide)] | rw [zb4 (by decide)] | rw [zn1 (by decide)] | rw [zn2 (by decide)] | rw [zn3 (by decide)] | rw [zn4 (by decide)] | rw [ze1 (by decide)] | rw [ze2 (by decide)] | rw [zd1 (by decide)] | rw [zd2 (by decide)] | rw [zswy (by decide)] | rw [zswn (by decide)] | rw [zsw0])
        rw [z]
        exact zR.ret rfl rfl ⟨rfl, rfl, rfl, hP, hF⟩
theorem c_readAnd (hT : TE K S m) {q : Nat → List gStp → gRes} {D : Nat} {x : Int32} (hq : CQ K V S m D 48 [.int x] q) (hg : ∀ i l, i ≤ m → GD S m i l (q i l)) : CQ K V S m (D + 1) 47 [.int x] (fun i l => pLp K 13 q 200 (q i l)) := by
  intro M i l n w fk fp lc hP hK hi hl
  show zR ztb _ kX4_readAnd 2 0 [some (.ref 32), some (.int x), none, none] [] _ _ _ _
  repeat (first | ((with_reducible refine zR.stored ?_); dsimp only [zsto, zclr, zset, zget, zc2, cond_false, cond_true]) | ((with_reducible refine zR.atLit ?_); first | refine zR.step rfl ?_) | rw [zcc1] | rw [zcc2] | rw [zcc3] | rw [zcc4])
  refine zR.cv rfl rfl rfl hP.1 rfl rfl (zR.mono (hq M i l _ _ _ _ _ hP hK hi hl) (fun v n1 w1 M1 hv => ?_))
  obtain ⟨rfl, rfl, rfl, hP1, hF1⟩ := hv
  obtain ⟨g1, g2, g3, g4⟩ := hg i l hi
  repeat (first | with_reducible refine zR.hold (pc := 8) ?_ | ((with_reducible refine zR.stored ?_); dsimp only [zsto, zclr, zset, zget, zc2, cond_false, cond_true]) | ((with_reducible refine zR.atLit ?_); first | refine zR.step rfl ?_) | rw [zcc1] | rw [zcc2] | rw [zcc3] | rw [zcc4])
  exact ⟨trivial, rl_And hT hq hg (i0 := i) (l0 := l) 200 0 M1 (q i l) (by omega) hP1 (hF1.tk hK) hF1 g2 (by omega)⟩
theorem rl_Or (hT : TE K S m) {q : Nat → List gStp → gRes} {D : Nat} {x : Int32} (hq : CQ K V S m D 47 [.int x] q) (hg : ∀ i l, i ≤ m → GD S m i l (q i l)) {M0 : zM} {i0 : Nat} {l0 : List gStp} {fk fp lc : Int32} {n w : Nat} : ∀ (f j : Nat) (M : zM) (r : gRes), j + f = 200 → PCs M K V fk fp lc r.2.1 r.2.2 → TKR M K V m → CFr M0 M → r.2.1 ≤ m → 2 * r.2.2.length ≤ S r.2.1 → zR ztb (D + 1) kX4_readOr 2 8 [some (.ref 32), some (.int x), some (.int (b32 r.1)), some (.int (nI j))] [] n w M (fun v n' w' M' => v = some (.int (b32 (pLp K 14 q f r).1)) ∧ n = n' ∧ w = w' ∧ PCs M' K V fk fp lc (pLp K 14 q f r).2.1 (pLp K 14 q f r).2.2 ∧ CFr M0 M')
  | 0, j, M, r, hj, hP, hK, hF, hi, hl => by
    have e : ¬ nI j < 200 := zI_nlt (b := 200) (by omega) (by omega)
    rw [pLp]
    cases z : r.1 with
    | true =>
      repeat (first | ((with_reducible refine zR.stored ?_); dsimp only [zsto, zclr, zset, zget, zc2, cond_false, cond_true]) | ((with_reducible refine zR.atLit ?_); first | refine zR.step rfl ?_) | rw [zcc1] | rw [zcc2] | rw [zcc3] | rw [zcc4] | rw [zn1 (e)] | rw [zn2 (e)] | rw [zn3 (e)] | rw [zn4 (e)])
      exact zR.ret rfl rfl ⟨rfl, rfl, rfl, hP, hF⟩
    | false =>
      repeat (first | ((with_reducible refine zR.stored ?_); dsimp only [zsto, zclr, zset, zget, zc2, cond_false, cond_true]) | ((with_reducible refine zR.atLit ?_); first | refine zR.step rfl ?_) | rw [zcc1] | rw [zcc2] | rw [zcc3] | rw [zcc4] | rw [zn1 (e)] | rw [zn2 (e)] | rw [zn3 (e)] | rw [zn4 (e)])
      exact zR.ret rfl rfl ⟨rfl, rfl, rfl, hP, hF⟩
  | f + 1, j, M, r, hj, hP, hK, hF, hi, hl => by
    have e : nI j < 200 := zI_ylt (b := 200) (by omega) (by omega)
    rw [pLp]
    refine zR.step rfl ?_
    cases z : r.1 with
    | false =>
      rw [if_neg (fun y => absurd y.1 (by decide))]
      repeat (first | ((with_reducible refine zR.stored ?_); dsimp only [zsto, zclr, zset, zget, zc2, cond_false, cond_true]) | ((with_reducible refine zR.atLit ?_); first | refine zR.step rfl ?_) | rw [zcc1] | rw [zcc2] | rw [zcc3] | rw [zcc4] | rw [zb1 (e)] | rw [zb2 (e)] | rw [zb3 (e)] | rw [zb4 (e)] | rw [b32_f] | rw [zb1 (by decide)] | rw [zb2 (by decide)] | rw [zb3 (by decide)] | rw [zb4 (by decide)] | rw [zn1 (by decide)] | rw [zn2 (by decide)] | rw [zn3 (by decide)] | rw [zn4 (by decide)] | rw [ze1 (by decide)] | rw [ze2 (by decide)] | rw [zd1 (by decide)] | rw [zd2 (by decide)] | rw [zswy (by decide)] | rw [zswn (by decide)] | rw [zsw0])
      rw [z]
      exact zR.ret rfl rfl ⟨rfl, rfl, rfl, hP, hF⟩
    | true =>
      by_cases k : K r.2.1 = 14
      · rw [if_pos ⟨rfl, k⟩]
        have hk := hT.key (k := 14) hi k (by omega) (by omega)
        have h200 : S (q (r.2.1 + 1) r.2.2).2.1 ≤ 200 := hT.2.2.2.2.2 _ (hg _ r.2.2 hk.1).2.1
        repeat (first | ((with_reducible refine zR.stored ?_); dsimp only [zsto, zclr, zset, zget, zc2, cond_false, cond_true]) | ((with_reducible refine zR.atLit ?_); first | refine zR.step rfl ?_) | rw [zcc1] | rw [zcc2] | rw [zcc3] | rw [zcc4] | rw [zb1 (e)] | rw [zb2 (e)] | rw [zb3 (e)] | rw [zb4 (e)] | rw [b32_t] | rw [zb1 (by decide)] | rw [zb2 (by decide)] | rw [zb3 (by decide)] | rw [zb4 (by decide)] | rw [zn1 (by decide)] | rw [zn2 (by decide)] | rw [zn3 (by decide)] | rw [zn4 (by decide)] | rw [ze1 (by decide)] | rw [ze2 (by decide)] | rw [zd1 (by decide)] | rw [zd2 (by decide)] | rw [zswy (by decide)] | rw [zswn (by decide)] | rw [zsw0])
        refine zR.cv rfl rfl rfl hP.1 rfl rfl (acc_y hT hP hK hk.1 k (fun M1 hP1 hK1 hF1 => ?_))
        repeat (first | ((with_reducible refine zR.stored ?_); dsimp only [zsto, zclr, zset, zget, zc2, cond_false, cond_true]) | ((with_reducible refine zR.atLit ?_); first | refine zR.step rfl ?_) | rw [zcc1] | rw [zcc2] | rw [zcc3] | rw [zcc4] | rw [zb1 (by decide)] | rw [zb2 (by decide)] | rw [zb3 (by decide)] | rw [zb4 (by decide)] | rw [zn1 (by decide)] | rw [zn2 (by decide)] | rw [zn3 (by decide)] | rw [zn4 (by decide)] | rw [ze1 (by decide)] | rw [ze2 (by decide)] | rw [zd1 (by decide)] | rw [zd2 (by decide)] | rw [zswy (by decide)] | rw [zswn (by decide)] | rw [zsw0])
        refine zR.cv rfl rfl rfl hP1.1 rfl rfl (zR.mono (hq M1 _ _ _ _ _ _ _ hP1 hK1 hk.1 (by omega)) (fun v n1 w1 M2 hv => ?_))
        obtain ⟨rfl, rfl, rfl, hP2, hF2⟩ := hv
        have hK2 := hF2.tk hK1
        obtain ⟨g1, g2, g3, g4⟩ := hg (r.2.1 + 1) r.2.2 hk.1
        have gs := GD.st (key := 14) hk (hg (r.2.1 + 1) r.2.2 hk.1)
        have ih := fun M3 hP3 hK3 hF3 => rl_Or hT hq hg (M0 := M0) (i0 := i0) (l0 := l0) (fk := fk) (fp := fp) (lc := lc) (n := n) (w := w) f (j + 1) M3 (pSt 14 (q (r.2.1 + 1) r.2.2)) (by omega) hP3 hK3 hF3 gs.2.1 (by have := gs.2.2.2; omega)
        rw [← zI_s] at ih
        unfold pSt at ih ⊢
        cases y : (q (r.2.1 + 1) r.2.2).1 with
        | true =>
          rw [y, if_pos rfl] at ih
          rw [if_pos rfl]
          repeat (first | ((with_reducible refine zR.stored ?_); dsimp only [zsto, zclr, zset, zget, zc2, cond_false, cond_true]) | ((with_reducible refine zR.atLit ?_); first | refine zR.step rfl ?_) | rw [zcc1] | rw [zcc2] | rw [zcc3] | rw [zcc4] | rw [b32_t] | rw [zb1 (by decide)] | rw [zb2 (by decide)] | rw [zb3 (by decide)] | rw [zb4 (by decide)] | rw [zn1 (by decide)] | rw [zn2 (by decide)] | rw [zn3 (by decide)] | rw [zn4 (by decide)] | rw [ze1 (by decide)] | rw [ze2 (by decide)] | rw [zd1 (by decide)] | rw [zd2 (by decide)] | rw [zswy (by decide)] | rw [zswn (by decide)] | rw [zsw0])
          refine zR.cv rfl rfl rfl hP2.1 rfl rfl (zR.mono (c_addStep hP2 (by omega) _ _ _ _) (fun v n3 w3 M3 hv => ?_))
          obtain ⟨rfl, rfl, rfl, hP3, hF3⟩ := hv
          have hF3' : CFr M0 M3 := (hF.tr (hF1.tr hF2)).tr hF3
          have ih3 := ih M3 hP3 (CFr.tk hF3 hK2) ((hF.tr (hF1.tr hF2)).tr hF3)
          repeat (first | with_reducible refine zR.hold (pc := 8) ?_ | ((with_reducible refine zR.stored ?_); dsimp only [zsto, zclr, zset, zget, zc2, cond_false, cond_true]) | ((with_reducible refine zR.atLit ?_); first | refine zR.step rfl ?_) | rw [zcc1] | rw [zcc2] | rw [zcc3] | rw [zcc4] | rw [zb1 (by decide)] | rw [zb2 (by decide)] | rw [zb3 (by decide)] | rw [zb4 (by decide)] | rw [zn1 (by decide)] | rw [zn2 (by decide)] | rw [zn3 (by decide)] | rw [zn4 (by decide)] | rw [ze1 (by decide)] | rw [ze2 (by decide)] | rw [zd1 (by decide)] | rw [zd2 (by decide)] | rw [zswy (by decide)] | rw [zswn (by decide)] | rw [zsw0])
          exact ⟨trivial, ih3⟩
        | false =>
          rw [y, if_neg (by decide)] at ih
          rw [if_neg (by decide)]
          have ih3 := ih M2 hP2 hK2 (hF.tr (hF1.tr hF2))
          repeat (first | with_reducible refine zR.hold (pc := 8) ?_ | ((with_reducible refine zR.stored ?_); dsimp only [zsto, zclr, zset, zget, zc2, cond_false, cond_true]) | ((with_reducible refine zR.atLit ?_); first | refine zR.step rfl ?_) | rw [zcc1] | rw [zcc2] | rw [zcc3] | rw [zcc4] | rw [b32_f] | rw [zb1 (by decide)] | rw [zb2 (by decide)] | rw [zb3 (by decide)] | rw [zb4 (by decide)] | rw [zn1 (by decide)] | rw [zn2 (by decide)] | rw [zn3 (by decide)] | rw [zn4 (by decide)] | rw [ze1 (by decide)] | rw [ze2 (by decide)] | rw [zd1 (by decide)] | rw [zd2 (by decide)] | rw [zswy (by decide)] | rw [zswn (by decide)] | rw [zsw0])
          exact ⟨trivial, ih3⟩
      · rw [if_neg (fun y => k y.2)]
        repeat (first | ((with_reducible refine zR.stored ?_); dsimp only [zsto, zclr, zset, zget, zc2, cond_false, cond_true]) | ((with_reducible refine zR.atLit ?_); first | refine zR.step rfl ?_ | refine zR.cv rfl rfl rfl hP.1 rfl rfl (zCalP.of (c_accept_n hP k) ?_)) | rw [zcc1] | rw [zcc2] | rw [zcc3] | rw [zcc4] | rw [zb1 (e)] | rw [zb2 (e)] | rw [zb3 (e)] | rw [zb4 (e)] | rw [b32_t] | rw [zb1 (by decide)] | rw [zb2 (by decide)] | rw [zb3 (by decide)] | rw [zb4 (by decide)] | rw [zn1 (by decide)] | rw [zn2 (by decide)] | rw [zn3 (by decide)] | rw [zn4 (by decide)] | rw [ze1 (by decide)] | rw [ze2 (by decide)] | rw [zd1 (by decide)] | rw [zd2 (by decide)] | rw [zswy (by decide)] | rw [zswn (by decide)] | rw [zsw0])
        rw [z]
        exact zR.ret rfl rfl ⟨rfl, rfl, rfl, hP, hF⟩
theorem c_readOr (hT : TE K S m) {q : Nat → List gStp → gRes} {D : Nat} {x : Int32} (hq : CQ K V S m D 47 [.int x] q) (hg : ∀ i l, i ≤ m → GD S m i l (q i l)) : CQ K V S m (D + 1) 46 [.int x] (fun i l => pLp K 14 q 200 (q i l)) := by
  intro M i l n w fk fp lc hP hK hi hl
  show zR ztb _ kX4_readOr 2 0 [some (.ref 32), some (.int x), none, none] [] _ _ _ _
  repeat (first | ((with_reducible refine zR.stored ?_); dsimp only [zsto, zclr, zset, zget, zc2, cond_false, cond_true]) | ((with_reducible refine zR.atLit ?_); first | refine zR.step rfl ?_) | rw [zcc1] | rw [zcc2] | rw [zcc3] | rw [zcc4])
  refine zR.cv rfl rfl rfl hP.1 rfl rfl (zR.mono (hq M i l _ _ _ _ _ hP hK hi hl) (fun v n1 w1 M1 hv => ?_))
  obtain ⟨rfl, rfl, rfl, hP1, hF1⟩ := hv
  obtain ⟨g1, g2, g3, g4⟩ := hg i l hi
  repeat (first | with_reducible refine zR.hold (pc := 8) ?_ | ((with_reducible refine zR.stored ?_); dsimp only [zsto, zclr, zset, zget, zc2, cond_false, cond_true]) | ((with_reducible refine zR.atLit ?_); first | refine zR.step rfl ?_) | rw [zcc1] | rw [zcc2] | rw [zcc3] | rw [zcc4])
  exact ⟨trivial, rl_Or hT hq hg (i0 := i) (l0 := l) 200 0 M1 (q i l) (by omega) hP1 (hF1.tk hK) hF1 g2 (by omega)⟩
end
