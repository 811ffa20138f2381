
/-! A WEEK: a bed is closed in the class. -/
abbrev enO (kd ls r3 r4 : Int32) : Prop := (kd = 3 ∧ 0 < r3 ∧ r4 = 0) ∨ (kd = 2 ∧ ¬ r3 < ls ∧ r4 = 0) ∨ (¬ kd = 2 ∧ ¬ kd = 3 ∧ ¬ r3 < ls)
def enX (kd r4 r8 : Int32) : Int32 := if r8 = 1 ∧ (kd = 0 ∨ kd = 1) then r4 else 0
def en4 (kd r4 r8 : Int32) : Int32 := if r8 = 1 ∧ (kd = 0 ∨ kd = 1) then 0 else r4
def en5 (kd r5 r9 : Int32) : Int32 := if kd = 2 ∧ r9 = 1 then 2 else r5
def enL (kd ls r0 r1 r2 r3 r4 r5 r6 r7 r8 r9 : Int32) : List Int32 := if enO kd ls r3 (en4 kd r4 r8) then [-1, -1, 0, 0, 0, 0, r0, if kd = 4 then 1 else 0, r8, r9] else [r0, r1, r2, r3, en4 kd r4 r8, en5 kd r5 r9, r6, r7, r8, r9]
def enZ (kd ls r3 r4 r8 : Int32) (z : Option Nat) : Option Nat := if enO kd ls r3 (en4 kd r4 r8) then none else z
theorem c_setSow0 {M : zM} {d n w a : Nat} {z : Value} {r1 r2 r3 r4 r5 r6 r7 r8 : Int32} (hb : M a = .inr (0, [z, .int r1, .int r2, .int r3, .int r4, .int r5, .int r6, .int r7, .int r8])) (x : Int32) : zCall d 3 [.ref a, .null, .int x] n w M none n w (zup M a (.inr (0, [.null, .int x, .int 0, .int 0, .int 0, .int 0, .int r6, .int r7, .int r8]))) := by
  intro Q hQ
  show zR ztb _ kX0_setSowing 0 0 [some (.ref a), some (.null), some (.int x)] [] _ _ _ _
  repeat (first | ((with_reducible refine zR.stored ?_); dsimp only [zsto, zclr, zset, zget, zc2, cond_false, cond_true]) | ((with_reducible refine zR.atLit ?_); first | refine zR.step rfl ?_) | rw [zcc1] | rw [zcc2] | rw [zcc3] | rw [zcc4])
  refine zR.putf rfl hb rfl rfl ?_
  repeat (first | ((with_reducible refine zR.stored ?_); dsimp only [zsto, zclr, zset, zget, zc2, cond_false, cond_true]) | ((with_reducible refine zR.atLit ?_); first | refine zR.step rfl ?_) | rw [zcc1] | rw [zcc2] | rw [zcc3] | rw [zcc4])
  refine zR.putf rfl (zup_self _ _ _) rfl rfl ?_
  rw [zup_up]
  repeat (first | ((with_reducible refine zR.stored ?_); dsimp only [zsto, zclr, zset, zget, zc2, cond_false, cond_true]) | ((with_reducible refine zR.atLit ?_); first | refine zR.step rfl ?_) | rw [zcc1] | rw [zcc2] | rw [zcc3] | rw [zcc4])
  refine zR.putf rfl (zup_self _ _ _) rfl rfl ?_
  rw [zup_up]
  repeat (first | ((with_reducible refine zR.stored ?_); dsimp only [zsto, zclr, zset, zget, zc2, cond_false, cond_true]) | ((with_reducible refine zR.atLit ?_); first | refine zR.step rfl ?_) | rw [zcc1] | rw [zcc2] | rw [zcc3] | rw [zcc4])
  refine zR.putf rfl (zup_self _ _ _) rfl rfl ?_
  rw [zup_up]
  repeat (first | ((with_reducible refine zR.stored ?_); dsimp only [zsto, zclr, zset, zget, zc2, cond_false, cond_true]) | ((with_reducible refine zR.atLit ?_); first | refine zR.step rfl ?_) | rw [zcc1] | rw [zcc2] | rw [zcc3] | rw [zcc4])
  refine zR.putf rfl (zup_self _ _ _) rfl rfl ?_
  rw [zup_up]
  repeat (first | ((with_reducible refine zR.stored ?_); dsimp only [zsto, zclr, zset, zget, zc2, cond_false, cond_true]) | ((with_reducible refine zR.atLit ?_); first | refine zR.step rfl ?_) | rw [zcc1] | rw [zcc2] | rw [zcc3] | rw [zcc4])
  refine zR.putf rfl (zup_self _ _ _) rfl rfl ?_
  rw [zup_up]
  repeat (first | ((with_reducible refine zR.stored ?_); dsimp only [zsto, zclr, zset, zget, zc2, cond_false, cond_true]) | ((with_reducible refine zR.atLit ?_); first | refine zR.step rfl ?_) | rw [zcc1] | rw [zcc2] | rw [zcc3] | rw [zcc4])
  exact zR.ret rfl rfl hQ
theorem c_isOver {M : zM} {d n w a ca : Nat} {z : Value} {nu kd nd ys ls ke wo r1 r2 r3 r4 r5 r6 r7 p : Int32} (hb : M a = .inr (0, [z, .int r1, .int r2, .int r3, .int r4, .int r5, .int r6, .int r7, .int p])) (hc : M ca = .inr (1, [.int nu, .int kd, .int nd, .int ys, .int ls, .int ke, .int wo])) : zCall d 7 [.ref a, .ref ca] n w M (some (.int (if enO kd ls r3 r4 then 1 else 0))) n w M := by
  intro Q hQ
  show zR ztb _ kX0_isOver 2 0 [some (.ref a), some (.ref ca)] [] _ _ _ _
  by_cases k2 : kd = 2
  · subst k2
    by_cases q : r3 < ls
    · rw [if_neg (fun z => z.elim (fun y => absurd y.1 (by decide)) (fun y => y.elim (fun y => y.2.1 q) (fun y => y.1 rfl)))] at hQ
      repeat (first | ((with_reducible refine zR.stored ?_); dsimp only [zsto, zclr, zset, zget, zc2, cond_false, cond_true]) | ((with_reducible refine zR.atLit ?_); first | refine zR.step rfl ?_ | refine zR.getf rfl hb rfl ?_ | refine zR.getf rfl hc rfl ?_) | rw [zcc1] | rw [zcc2] | rw [zcc3] | rw [zcc4] | rw [zb1 (by decide)] | rw [zb2 (by decide)] | rw [zb3 (by decide)] | rw [zb4 (by decide)] | rw [zn1 (by decide)] | rw [zn2 (by decide)] | rw [zn3 (by decide)] | rw [zn4 (by decide)] | rw [ze1 (by decide)] | rw [ze2 (by decide)] | rw [zd1 (by decide)] | rw [zd2 (by decide)] | rw [zswy (by decide)] | rw [zswn (by decide)] | rw [zsw0] | rw [zb1 (q)] | rw [zb2 (q)] | rw [zb3 (q)] | rw [zb4 (q)])
      exact zR.ret rfl rfl hQ
    · by_cases q4 : r4 = 0
      · rw [if_pos (Or.inr (Or.inl ⟨rfl, q, q4⟩))] at hQ
        repeat (first | ((with_reducible refine zR.stored ?_); dsimp only [zsto, zclr, zset, zget, zc2, cond_false, cond_true]) | ((with_reducible refine zR.atLit ?_); first | refine zR.step rfl ?_ | refine zR.getf rfl hb rfl ?_ | refine zR.getf rfl hc rfl ?_) | rw [zcc1] | rw [zcc2] | rw [zcc3] | rw [zcc4] | rw [zb1 (by decide)] | rw [zb2 (by decide)] | rw [zb3 (by decide)] | rw [zb4 (by decide)] | rw [zn1 (by decide)] | rw [zn2 (by decide)] | rw [zn3 (by decide)] | rw [zn4 (by decide)] | rw [ze1 (by decide)] | rw [ze2 (by decide)] | rw [zd1 (by decide)] | rw [zd2 (by decide)] | rw [zswy (by decide)] | rw [zswn (by decide)] | rw [zsw0] | rw [zn1 (q)] | rw [zn2 (q)] | rw [zn3 (q)] | rw [zn4 (q)] | rw [ze1 (q4)] | rw [ze2 (q4)])
        exact zR.ret rfl rfl hQ
      · rw [if_neg (fun z => z.elim (fun y => absurd y.1 (by decide)) (fun y => y.elim (fun y => q4 y.2.2) (fun y => y.1 rfl)))] at hQ
        repeat (first | ((with_reducible refine zR.stored ?_); dsimp only [zsto, zclr, zset, zget, zc2, cond_false, cond_true]) | ((with_reducible refine zR.atLit ?_); first | refine zR.step rfl ?_ | refine zR.getf rfl hb rfl ?_ | refine zR.getf rfl hc rfl ?_) | rw [zcc1] | rw [zcc2] | rw [zcc3] | rw [zcc4] | rw [zb1 (by decide)] | rw [zb2 (by decide)] | rw [zb3 (by decide)] | rw [zb4 (by decide)] | rw [zn1 (by decide)] | rw [zn2 (by decide)] | rw [zn3 (by decide)] | rw [zn4 (by decide)] | rw [ze1 (by decide)] | rw [ze2 (by decide)] | rw [zd1 (by decide)] | rw [zd2 (by decide)] | rw [zswy (by decide)] | rw [zswn (by decide)] | rw [zsw0] | rw [zn1 (q)] | rw [zn2 (q)] | rw [zn3 (q)] | rw [zn4 (q)] | rw [zd1 (q4)] | rw [zd2 (q4)])
        exact zR.ret rfl rfl hQ
  by_cases k3 : kd = 3
  · subst k3
    by_cases q : 0 < r3
    · by_cases q4 : r4 = 0
      · rw [if_pos (Or.inl ⟨rfl, q, q4⟩)] at hQ
        repeat (first | ((with_reducible refine zR.stored ?_); dsimp only [zsto, zclr, zset, zget, zc2, cond_false, cond_true]) | ((with_reducible refine zR.atLit ?_); first | refine zR.step rfl ?_ | refine zR.getf rfl hb rfl ?_ | refine zR.getf rfl hc rfl ?_) | rw [zcc1] | rw [zcc2] | rw [zcc3] | rw [zcc4] | rw [zb1 (by decide)] | rw [zb2 (by decide)] | rw [zb3 (by decide)] | rw [zb4 (by decide)] | rw [zn1 (by decide)] | rw [zn2 (by decide)] | rw [zn3 (by decide)] | rw [zn4 (by decide)] | rw [ze1 (by decide)] | rw [ze2 (by decide)] | rw [zd1 (by decide)] | rw [zd2 (by decide)] | rw [zswy (by decide)] | rw [zswn (by decide)] | rw [zsw0] | rw [zb1 (q)] | rw [zb2 (q)] | rw [zb3 (q)] | rw [zb4 (q)] | rw [ze1 (q4)] | rw [ze2 (q4)])
        exact zR.ret rfl rfl hQ
      · rw [if_neg (fun z => z.elim (fun y => q4 y.2.2) (fun y => y.elim (fun y => q4 y.2.2) (fun y => y.2.1 rfl)))] at hQ
        repeat (first | ((with_reducible refine zR.stored ?_); dsimp only [zsto, zclr, zset, zget, zc2, cond_false, cond_true]) | ((with_reducible refine zR.atLit ?_); first | refine zR.step rfl ?_ | refine zR.getf rfl hb rfl ?_ | refine zR.getf rfl hc rfl ?_) | rw [zcc1] | rw [zcc2] | rw [zcc3] | rw [zcc4] | rw [zb1 (by decide)] | rw [zb2 (by decide)] | rw [zb3 (by decide)] | rw [zb4 (by decide)] | rw [zn1 (by decide)] | rw [zn2 (by decide)] | rw [zn3 (by decide)] | rw [zn4 (by decide)] | rw [ze1 (by decide)] | rw [ze2 (by decide)] | rw [zd1 (by decide)] | rw [zd2 (by decide)] | rw [zswy (by decide)] | rw [zswn (by decide)] | rw [zsw0] | rw [zb1 (q)] | rw [zb2 (q)] | rw [zb3 (q)] | rw [zb4 (q)] | rw [zd1 (q4)] | rw [zd2 (q4)])
        exact zR.ret rfl rfl hQ
    · rw [if_neg (fun z => z.elim (fun y => q y.2.1) (fun y => y.elim (fun y => k2 y.1) (fun y => y.2.1 rfl)))] at hQ
      repeat (first | ((with_reducible refine zR.stored ?_); dsimp only [zsto, zclr, zset, zget, zc2, cond_false, cond_true]) | ((with_reducible refine zR.atLit ?_); first | refine zR.step rfl ?_ | refine zR.getf rfl hb rfl ?_ | refine zR.getf rfl hc rfl ?_) | rw [zcc1] | rw [zcc2] | rw [zcc3] | rw [zcc4] | rw [zb1 (by decide)] | rw [zb2 (by decide)] | rw [zb3 (by decide)] | rw [zb4 (by decide)] | rw [zn1 (by decide)] | rw [zn2 (by decide)] | rw [zn3 (by decide)] | rw [zn4 (by decide)] | rw [ze1 (by decide)] | rw [ze2 (by decide)] | rw [zd1 (by decide)] | rw [zd2 (by decide)] | rw [zswy (by decide)] | rw [zswn (by decide)] | rw [zsw0] | rw [zn1 (q)] | rw [zn2 (q)] | rw [zn3 (q)] | rw [zn4 (q)])
      exact zR.ret rfl rfl hQ
  by_cases q : r3 < ls
  · rw [if_neg (fun z => z.elim (fun y => k3 y.1) (fun y => y.elim (fun y => k2 y.1) (fun y => y.2.2 q)))] at hQ
    repeat (first | ((with_reducible refine zR.stored ?_); dsimp only [zsto, zclr, zset, zget, zc2, cond_false, cond_true]) | ((with_reducible refine zR.atLit ?_); first | refine zR.step rfl ?_ | refine zR.getf rfl hb rfl ?_ | refine zR.getf rfl hc rfl ?_) | rw [zcc1] | rw [zcc2] | rw [zcc3] | rw [zcc4] | rw [zswn k2] | rw [zswn k3] | rw [zsw0] | rw [zb1 (q)] | rw [zb2 (q)] | rw [zb3 (q)] | rw [zb4 (q)])
    exact zR.ret rfl rfl hQ
  · rw [if_pos (Or.inr (Or.inr ⟨k2, k3, q⟩))] at hQ
    repeat (first | ((with_reducible refine zR.stored ?_); dsimp only [zsto, zclr, zset, zget, zc2, cond_false, cond_true]) | ((with_reducible refine zR.atLit ?_); first | refine zR.step rfl ?_ | refine zR.getf rfl hb rfl ?_ | refine zR.getf rfl hc rfl ?_) | rw [zcc1] | rw [zcc2] | rw [zcc3] | rw [zcc4] | rw [zswn k2] | rw [zswn k3] | rw [zsw0] | rw [zn1 (q)] | rw [zn2 (q)] | rw [zn3 (q)] | rw [zn4 (q)])
    exact zR.ret rfl rfl hQ
/-- behind the first part of closeWeek -/
theorem cw_tail {M : zM} {d n w a ca : Nat} {x nu kd nd ys ls ke wo r0 r1 r2 r3 r4 r5 r6 r7 r8 r9 p : Int32} {Q : Option Value → Nat → Nat → zM → Prop} (hb : M a = .inr (0, [.ref ca, .int r1, .int r2, .int r3, .int r4, .int r5, .int r6, .int r7, .int p])) (hc : M ca = .inr (1, [.int nu, .int kd, .int nd, .int ys, .int ls, .int ke, .int wo])) (hne : ca ≠ a) (h0 : r0 = nu) (hQ : Q (some (.int x)) n w (zup M a (.inr (0, bofL (if enO kd ls r3 r4 then .null else .ref ca) p (if enO kd ls r3 r4 then [-1, -1, 0, 0, 0, 0, r0, if kd = 4 then 1 else 0, r8, r9] else [r0, r1, r2, r3, r4, r5, r6, r7, r8, r9]))))) : zR ztb (d + 1) kX0_closeWeek 1 72 [some (.ref a), some (.int x)] [] n w M Q := by
  have gc : ∀ v : zC, zup M a v ca = .inr (1, [.int nu, .int kd, .int nd, .int ys, .int ls, .int ke, .int wo]) := fun v => by rw [zup_ne _ _ hne]; exact hc
  have io := fun {d n w : Nat} => c_isOver (d := d) (n := n) (w := w) hb hc
  subst h0
  by_cases o : enO kd ls r3 r4
  · rw [if_pos o, if_pos o] at hQ
    rw [if_pos o] at io
    repeat (first | ((with_reducible refine zR.stored ?_); dsimp only [zsto, zclr, zset, zget, zc2, cond_false, cond_true]) | ((with_reducible refine zR.atLit ?_); first | refine zR.step rfl ?_ | refine zR.getf rfl hb rfl ?_ | refine zR.getf rfl hc rfl ?_ | refine zR.cv rfl rfl rfl hb rfl rfl (zCalP.of io ?_)) | rw [zcc1] | rw [zcc2] | rw [zcc3] | rw [zcc4] | rw [zb1 (by decide)] | rw [zb2 (by decide)] | rw [zb3 (by decide)] | rw [zb4 (by decide)] | rw [zn1 (by decide)] | rw [zn2 (by decide)] | rw [zn3 (by decide)] | rw [zn4 (by decide)] | rw [ze1 (by decide)] | rw [ze2 (by decide)] | rw [zd1 (by decide)] | rw [zd2 (by decide)] | rw [zswy (by decide)] | rw [zswn (by decide)] | rw [zsw0])
    refine zR.putf rfl hb rfl rfl ?_
    by_cases k4 : kd = 4
    · rw [if_pos k4] at hQ
      repeat (first | ((with_reducible refine zR.stored ?_); dsimp only [zsto, zclr, zset, zget, zc2, cond_false, cond_true]) | ((with_reducible refine zR.atLit ?_); first | refine zR.step rfl ?_ | refine zR.getf rfl (zup_self _ _ _) rfl ?_ | refine zR.getf rfl (gc _) rfl ?_) | rw [zcc1] | rw [zcc2] | rw [zcc3] | rw [zcc4] | rw [ze1 (k4)] | rw [ze2 (k4)])
      refine zR.putf rfl (zup_self _ _ _) rfl rfl ?_
      rw [zup_up]
      repeat (first | ((with_reducible refine zR.stored ?_); dsimp only [zsto, zclr, zset, zget, zc2, cond_false, cond_true]) | ((with_reducible refine zR.atLit ?_); first | refine zR.step rfl ?_) | rw [zcc1] | rw [zcc2] | rw [zcc3] | rw [zcc4])
      refine zR.cv rfl rfl rfl (zup_self _ _ _) rfl rfl (zCalP.of (c_setSow0 (zup_self _ _ _) _) ?_)
      rw [zup_up]
      repeat (first | ((with_reducible refine zR.stored ?_); dsimp only [zsto, zclr, zset, zget, zc2, cond_false, cond_true]) | ((with_reducible refine zR.atLit ?_); first | refine zR.step rfl ?_) | rw [zcc1] | rw [zcc2] | rw [zcc3] | rw [zcc4])
      exact zR.ret rfl rfl hQ
    · rw [if_neg k4] at hQ
      repeat (first | ((with_reducible refine zR.stored ?_); dsimp only [zsto, zclr, zset, zget, zc2, cond_false, cond_true]) | ((with_reducible refine zR.atLit ?_); first | refine zR.step rfl ?_ | refine zR.getf rfl (zup_self _ _ _) rfl ?_ | refine zR.getf rfl (gc _) rfl ?_) | rw [zcc1] | rw [zcc2] | rw [zcc3] | rw [zcc4] | rw [zd1 (k4)] | rw [zd2 (k4)])
      refine zR.putf rfl (zup_self _ _ _) rfl rfl ?_
      rw [zup_up]
      repeat (first | ((with_reducible refine zR.stored ?_); dsimp only [zsto, zclr, zset, zget, zc2, cond_false, cond_true]) | ((with_reducible refine zR.atLit ?_); first | refine zR.step rfl ?_) | rw [zcc1] | rw [zcc2] | rw [zcc3] | rw [zcc4])
      refine zR.cv rfl rfl rfl (zup_self _ _ _) rfl rfl (zCalP.of (c_setSow0 (zup_self _ _ _) _) ?_)
      rw [zup_up]
      repeat (first | ((with_reducible refine zR.stored ?_); dsimp only [zsto, zclr, zset, zget, zc2, cond_false, cond_true]) | ((with_reducible refine zR.atLit ?_); first | refine zR.step rfl ?_) | rw [zcc1] | rw [zcc2] | rw [zcc3] | rw [zcc4])
      exact zR.ret rfl rfl hQ
  · rw [if_neg o, if_neg o] at hQ
    rw [if_neg o] at io
    have e : zup M a (.inr (0, bofL (.ref ca) p [r0, r1, r2, r3, r4, r5, r6, r7, r8, r9])) = M := by
      funext k
      by_cases q : k = a
      · subst q
        rw [zup_self, hb]
        rfl
      · rw [zup_ne _ _ q]
    rw [e] at hQ
    repeat (first | ((with_reducible refine zR.stored ?_); dsimp only [zsto, zclr, zset, zget, zc2, cond_false, cond_true]) | ((with_reducible refine zR.atLit ?_); first | refine zR.step rfl ?_ | refine zR.getf rfl hb rfl ?_ | refine zR.getf rfl hc rfl ?_ | refine zR.cv rfl rfl rfl hb rfl rfl (zCalP.of io ?_)) | rw [zcc1] | rw [zcc2] | rw [zcc3] | rw [zcc4] | rw [zb1 (by decide)] | rw [zb2 (by decide)] | rw [zb3 (by decide)] | rw [zb4 (by decide)] | rw [zn1 (by decide)] | rw [zn2 (by decide)] | rw [zn3 (by decide)] | rw [zn4 (by decide)] | rw [ze1 (by decide)] | rw [ze2 (by decide)] | rw [zd1 (by decide)] | rw [zd2 (by decide)] | rw [zswy (by decide)] | rw [zswn (by decide)] | rw [zsw0])
    exact zR.ret rfl rfl hQ
theorem c_closeWeek {M : zM} {d n w a ca : Nat} {nu kd nd ys ls ke wo r0 r1 r2 r3 r4 r5 r6 r7 r8 r9 p : Int32} (hb : M a = .inr (0, [.ref ca, .int r1, .int r2, .int r3, .int r4, .int r5, .int r6, .int r7, .int p])) (hc : M ca = .inr (1, [.int nu, .int kd, .int nd, .int ys, .int ls, .int ke, .int wo])) (hne : ca ≠ a) (h0 : r0 = nu) (h01 : kd = 0 ∨ kd = 1 → r8 = 1 ∨ r4 = 0) (h9 : (r9 = 1 ∧ p = 1 ∧ r4 = 0) ∨ (r9 = 0 ∧ (p = 0 ∨ (p = 1 ∧ ¬ r4 = 0)))) : zCall (d + 1) 6 [.ref a] n w M (some (.int (enX kd r4 r8))) n w (zup M a (.inr (0, bofL (zrf (enZ kd ls r3 r4 r8 (some ca))) p (enL kd ls r0 r1 r2 r3 r4 r5 r6 r7 r8 r9)))) := by
  intro Q hQ
  have gc : ∀ v : zC, zup M a v ca = .inr (1, [.int nu, .int kd, .int nd, .int ys, .int ls, .int ke, .int wo]) := fun v => by rw [zup_ne _ _ hne]; exact hc
  have ez : zrf (enZ kd ls r3 r4 r8 (some ca)) = if enO kd ls r3 (en4 kd r4 r8) then .null else .ref ca := by
    unfold enZ
    by_cases o : enO kd ls r3 (en4 kd r4 r8)
    · rw [if_pos o, if_pos o]; rfl
    · rw [if_neg o, if_neg o]; rfl
  rw [ez] at hQ
  unfold enL at hQ
  show zR ztb _ kX0_closeWeek 1 0 [some (.ref a), none] [] _ _ _ _
  by_cases k01 : kd = 0 ∨ kd = 1
  · have e4 : en4 kd r4 r8 = 0 := by
      unfold en4
      by_cases q : r8 = 1
      · rw [if_pos ⟨q, k01⟩]
      · rw [if_neg (fun z => q z.1)]
        exact (h01 k01).resolve_left q
    have ex : enX kd r4 r8 = r4 := by
      unfold enX
      by_cases q : r8 = 1
      · rw [if_pos ⟨q, k01⟩]
      · rw [if_neg (fun z => q z.1)]
        exact ((h01 k01).resolve_left q).symm
    have k2 : ¬ kd = 2 := by rcases k01 with z | z <;> rw [z] <;> decide
    have e5 : en5 kd r5 r9 = r5 := if_neg (fun z => k2 z.1)
    rw [e4, ex, e5] at hQ
    rcases k01 with k0 | k1
    · repeat (first | ((with_reducible refine zR.stored ?_); dsimp only [zsto, zclr, zset, zget, zc2, cond_false, cond_true]) | ((with_reducible refine zR.atLit ?_); first | refine zR.step rfl ?_ | refine zR.getf rfl hb rfl ?_ | refine zR.getf rfl hc rfl ?_) | rw [zcc1] | rw [zcc2] | rw [zcc3] | rw [zcc4] | rw [ze1 (k0)] | rw [ze2 (k0)])
      refine zR.putf rfl hb rfl rfl ?_
      repeat (first | with_reducible refine zR.hold (pc := 72) ?_ | ((with_reducible refine zR.stored ?_); dsimp only [zsto, zclr, zset, zget, zc2, cond_false, cond_true]) | ((with_reducible refine zR.atLit ?_); first | refine zR.step rfl ?_ | refine zR.getf rfl (zup_self _ _ _) rfl ?_ | refine zR.getf rfl (gc _) rfl ?_) | rw [zcc1] | rw [zcc2] | rw [zcc3] | rw [zcc4] | rw [zd1 (k2)] | rw [zd2 (k2)])
      exact ⟨trivial, cw_tail (r0 := r0) (r8 := r8) (r9 := r9) (zup_self _ _ _) (gc _) hne h0 (by rw [zup_up]; exact hQ)⟩
    · have k0 : ¬ kd = 0 := by rw [k1]; decide
      repeat (first | ((with_reducible refine zR.stored ?_); dsimp only [zsto, zclr, zset, zget, zc2, cond_false, cond_true]) | ((with_reducible refine zR.atLit ?_); first | refine zR.step rfl ?_ | refine zR.getf rfl hb rfl ?_ | refine zR.getf rfl hc rfl ?_) | rw [zcc1] | rw [zcc2] | rw [zcc3] | rw [zcc4] | rw [zd1 (k0)] | rw [zd2 (k0)] | rw [ze1 (k1)] | rw [ze2 (k1)])
      refine zR.putf rfl hb rfl rfl ?_
      repeat (first | with_reducible refine zR.hold (pc := 72) ?_ | ((with_reducible refine zR.stored ?_); dsimp only [zsto, zclr, zset, zget, zc2, cond_false, cond_true]) | ((with_reducible refine zR.atLit ?_); first | refine zR.step rfl ?_ | refine zR.getf rfl (zup_self _ _ _) rfl ?_ | refine zR.getf rfl (gc _) rfl ?_) | rw [zcc1] | rw [zcc2] | rw [zcc3] | rw [zcc4] | rw [zd1 (k2)] | rw [zd2 (k2)])
      exact ⟨trivial, cw_tail (r0 := r0) (r8 := r8) (r9 := r9) (zup_self _ _ _) (gc _) hne h0 (by rw [zup_up]; exact hQ)⟩
  · have k0 : ¬ kd = 0 := fun z => k01 (Or.inl z)
    have k1 : ¬ kd = 1 := fun z => k01 (Or.inr z)
    have e4 : en4 kd r4 r8 = r4 := if_neg (fun z => k01 z.2)
    have ex : enX kd r4 r8 = 0 := if_neg (fun z => k01 z.2)
    rw [e4, ex] at hQ
    by_cases k2 : kd = 2
    · rcases h9 with ⟨y9, rfl, y4⟩ | ⟨y9, rfl | ⟨rfl, y4⟩⟩
      · rw [show en5 kd r5 r9 = 2 from if_pos ⟨k2, y9⟩] at hQ
        repeat (first | ((with_reducible refine zR.stored ?_); dsimp only [zsto, zclr, zset, zget, zc2, cond_false, cond_true]) | ((with_reducible refine zR.atLit ?_); first | refine zR.step rfl ?_ | refine zR.getf rfl hb rfl ?_ | refine zR.getf rfl hc rfl ?_) | rw [zcc1] | rw [zcc2] | rw [zcc3] | rw [zcc4] | rw [zd1 (k0)] | rw [zd2 (k0)] | rw [zd1 (k1)] | rw [zd2 (k1)] | rw [ze1 (k2)] | rw [ze2 (k2)] | rw [ze1 (y4)] | rw [ze2 (y4)] | rw [zb1 (by decide)] | rw [zb2 (by decide)] | rw [zb3 (by decide)] | rw [zb4 (by decide)] | rw [zn1 (by decide)] | rw [zn2 (by decide)] | rw [zn3 (by decide)] | rw [zn4 (by decide)] | rw [ze1 (by decide)] | rw [ze2 (by decide)] | rw [zd1 (by decide)] | rw [zd2 (by decide)] | rw [zswy (by decide)] | rw [zswn (by decide)] | rw [zsw0])
        refine zR.putf rfl hb rfl rfl ?_
        repeat (first | with_reducible refine zR.hold (pc := 72) ?_ | ((with_reducible refine zR.stored ?_); dsimp only [zsto, zclr, zset, zget, zc2, cond_false, cond_true]) | ((with_reducible refine zR.atLit ?_); first | refine zR.step rfl ?_) | rw [zcc1] | rw [zcc2] | rw [zcc3] | rw [zcc4])
        exact ⟨trivial, cw_tail (r0 := r0) (r8 := r8) (r9 := r9) (zup_self _ _ _) (gc _) hne h0 (by rw [zup_up]; exact hQ)⟩
      · rw [show en5 kd r5 r9 = r5 from if_neg (fun z => absurd (y9.symm.trans z.2) (by decide))] at hQ
        repeat (first | with_reducible refine zR.hold (pc := 72) ?_ | ((with_reducible refine zR.stored ?_); dsimp only [zsto, zclr, zset, zget, zc2, cond_false, cond_true]) | ((with_reducible refine zR.atLit ?_); first | refine zR.step rfl ?_ | refine zR.getf rfl hb rfl ?_ | refine zR.getf rfl hc rfl ?_) | rw [zcc1] | rw [zcc2] | rw [zcc3] | rw [zcc4] | rw [zd1 (k0)] | rw [zd2 (k0)] | rw [zd1 (k1)] | rw [zd2 (k1)] | rw [ze1 (k2)] | rw [ze2 (k2)] | rw [zb1 (by decide)] | rw [zb2 (by decide)] | rw [zb3 (by decide)] | rw [zb4 (by decide)] | rw [zn1 (by decide)] | rw [zn2 (by decide)] | rw [zn3 (by decide)] | rw [zn4 (by decide)] | rw [ze1 (by decide)] | rw [ze2 (by decide)] | rw [zd1 (by decide)] | rw [zd2 (by decide)] | rw [zswy (by decide)] | rw [zswn (by decide)] | rw [zsw0])
        exact ⟨trivial, cw_tail (r0 := r0) (r8 := r8) (r9 := r9) hb hc hne h0 hQ⟩
      · rw [show en5 kd r5 r9 = r5 from if_neg (fun z => absurd (y9.symm.trans z.2) (by decide))] at hQ
        repeat (first | with_reducible refine zR.hold (pc := 72) ?_ | ((with_reducible refine zR.stored ?_); dsimp only [zsto, zclr, zset, zget, zc2, cond_false, cond_true]) | ((with_reducible refine zR.atLit ?_); first | refine zR.step rfl ?_ | refine zR.getf rfl hb rfl ?_ | refine zR.getf rfl hc rfl ?_) | rw [zcc1] | rw [zcc2] | rw [zcc3] | rw [zcc4] | rw [zd1 (k0)] | rw [zd2 (k0)] | rw [zd1 (k1)] | rw [zd2 (k1)] | rw [ze1 (k2)] | rw [ze2 (k2)] | rw [zd1 (y4)] | rw [zd2 (y4)] | rw [zb1 (by decide)] | rw [zb2 (by decide)] | rw [zb3 (by decide)] | rw [zb4 (by decide)] | rw [zn1 (by decide)] | rw [zn2 (by decide)] | rw [zn3 (by decide)] | rw [zn4 (by decide)] | rw [ze1 (by decide)] | rw [ze2 (by decide)] | rw [zd1 (by decide)] | rw [zd2 (by decide)] | rw [zswy (by decide)] | rw [zswn (by decide)] | rw [zsw0])
        exact ⟨trivial, cw_tail (r0 := r0) (r8 := r8) (r9 := r9) hb hc hne h0 hQ⟩
    · rw [show en5 kd r5 r9 = r5 from if_neg (fun z => k2 z.1)] at hQ
      repeat (first | with_reducible refine zR.hold (pc := 72) ?_ | ((with_reducible refine zR.stored ?_); dsimp only [zsto, zclr, zset, zget, zc2, cond_false, cond_true]) | ((with_reducible refine zR.atLit ?_); first | refine zR.step rfl ?_ | refine zR.getf rfl hb rfl ?_ | refine zR.getf rfl hc rfl ?_) | rw [zcc1] | rw [zcc2] | rw [zcc3] | rw [zcc4] | rw [zd1 (k0)] | rw [zd2 (k0)] | rw [zd1 (k1)] | rw [zd2 (k1)] | rw [zd1 (k2)] | rw [zd2 (k2)])
      exact ⟨trivial, cw_tail (r0 := r0) (r8 := r8) (r9 := r9) hb hc hne h0 hQ⟩
