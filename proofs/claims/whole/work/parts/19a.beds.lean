
/-! A WEEK: ten numbers of a bed in the reference's row. -/
def lg : List Int32 → Nat → Option Int32
  | [], _ => none
  | v :: _, 0 => some v
  | _ :: l, j + 1 => lg l j
def lset : List Int32 → Nat → Int32 → List Int32
  | [], _, _ => []
  | _ :: l, 0, x => x :: l
  | v :: l, j + 1, x => v :: lset l j x
theorem lg_self : ∀ (l : List Int32) (j : Nat) (x : Int32), j < l.length → lg (lset l j x) j = some x
  | [], _, _, h => absurd h (by simp)
  | _ :: _, 0, _, _ => rfl
  | _ :: l, j + 1, x, h => lg_self l j x (by simp only [List.length_cons] at h; omega)
theorem lg_ne : ∀ (l : List Int32) (j k : Nat) (x : Int32), k ≠ j → lg (lset l j x) k = lg l k
  | [], _, _, _, _ => rfl
  | _ :: _, 0, 0, _, h => absurd rfl h
  | _ :: _, 0, _ + 1, _, _ => rfl
  | _ :: _, _ + 1, 0, _, _ => rfl
  | _ :: l, j + 1, k + 1, x, h => lg_ne l j k x (by omega)
def setB (s : Nat → Int32) (b : Nat) (l : List Int32) : Nat → Int32 := fun k => if 150 + 10 * b ≤ k ∧ k < 160 + 10 * b then (lg l (k - (150 + 10 * b))).getD 0 else s k
section
variable {s : Nat → Int32} {b : Nat} {l : List Int32}
theorem setB_at {j : Nat} {v : Int32} (hj : j < 10) (hl : lg l j = some v) : setB s b l (150 + 10 * b + j) = v := by
  unfold setB
  rw [if_pos (by omega), show 150 + 10 * b + j - (150 + 10 * b) = j by omega, hl]
  rfl
theorem setB_ne {k : Nat} (h : ¬ (150 + 10 * b ≤ k ∧ k < 160 + 10 * b)) : setB s b l k = s k := if_neg h
theorem setB_up {j : Nat} (hj : j < 10) (hl : j < l.length) (x : Int32) : zuf (setB s b l) (150 + 10 * b + j) x = setB s b (lset l j x) := by
  funext k
  by_cases e : k = 150 + 10 * b + j
  · subst e
    rw [zuf_self, setB_at hj (lg_self l j x hl)]
  · rw [zuf_ne _ _ e]
    unfold setB
    by_cases h : 150 + 10 * b ≤ k ∧ k < 160 + 10 * b
    · rw [if_pos h, if_pos h, lg_ne l j _ x (by omega)]
    · rw [if_neg h, if_neg h]
theorem setB_id : setB s b [s (150 + 10 * b + 0), s (150 + 10 * b + 1), s (150 + 10 * b + 2), s (150 + 10 * b + 3), s (150 + 10 * b + 4), s (150 + 10 * b + 5), s (150 + 10 * b + 6), s (150 + 10 * b + 7), s (150 + 10 * b + 8), s (150 + 10 * b + 9)] = s := by
  funext k
  by_cases h : 150 + 10 * b ≤ k ∧ k < 160 + 10 * b
  · obtain ⟨j, rfl⟩ : ∃ j, k = 150 + 10 * b + j := ⟨k - (150 + 10 * b), by omega⟩
    have hj : j < 10 := by omega
    match j, hj with
    | 0, _ => exact setB_at (by omega) rfl
    | 1, _ => exact setB_at (by omega) rfl
    | 2, _ => exact setB_at (by omega) rfl
    | 3, _ => exact setB_at (by omega) rfl
    | 4, _ => exact setB_at (by omega) rfl
    | 5, _ => exact setB_at (by omega) rfl
    | 6, _ => exact setB_at (by omega) rfl
    | 7, _ => exact setB_at (by omega) rfl
    | 8, _ => exact setB_at (by omega) rfl
    | 9, _ => exact setB_at (by omega) rfl
  · exact setB_ne h
end
section
variable {d : Nat} {k : Nat → zI} {rt pc : Nat} {L : zL} {st : List Value} {n w : Nat} {M M0 : zM} {Q : Option Value → Nat → Nat → zM → Prop} {z nx r1 r2 r3 li : Nat} {v0 : Value} {sw : List (Int32 × Nat)} {σ : mS} {s : Nat → Int32} {b j : Nat} {l : List Int32} {jj x v : Int32}
theorem zR.ilB (hR : Rf M (zuf σ 0 (setB s b l))) (hb : b < 8) (hk : k pc = (.iaload, nx, r1, r2, r3, li, v0, sw)) (hj : jj = nI (150 + 10 * b + j)) (h10 : j < 10) (hl : lg l j = some v) (h : zR ztb d k rt nx L (.int v :: st) n w M Q) : zR ztb d k rt pc L (.int jj :: .ref 288 :: st) n w M Q := zR.ilY hR hk hj (by omega) (by rw [setB_at h10 hl]; exact h)
theorem zR.isB (hR : Rf M (zuf σ 0 (setB s b l))) (hS : Sm M0 M) (hb : b < 8) (hk : k pc = (.iastore, nx, r1, r2, r3, li, v0, sw)) (hj : jj = nI (150 + 10 * b + j)) (h10 : j < 10) (hl : j < l.length) (h : ∀ M', Rf M' (zuf σ 0 (setB s b (lset l j x))) → Sm M0 M' → zR ztb d k rt nx L st n w M' Q) : zR ztb d k rt pc L (.int x :: .int jj :: .ref 288 :: st) n w M Q := zR.isY hR hS hk hj (by omega) (fun M' h1 h2 => h M' (by rw [setB_up h10 hl] at h1; exact h1) h2)
theorem c_cropIsB (hR : Rf M (zuf σ 0 (setB s b l))) (c q : Nat) (hc : c < 8) (hq : q < 10) : zCall d 137 [.ref 287, .int (nI c), .int (nI q)] n w M (some (.int (s (50 + 10 * c + q)))) n w M := by
  rw [← setB_ne (s := s) (b := b) (l := l) (show ¬ (150 + 10 * b ≤ 50 + 10 * c + q ∧ 50 + 10 * c + q < 160 + 10 * b) by omega)]
  exact c_cropIsY hR c q (by omega)
theorem c_bedIsB (hR : Rf M (zuf σ 0 (setB s b l))) (q : Nat) (hb : b < 8) (hq : q < 10) (hl : lg l q = some v) : zCall d 138 [.ref 287, .int (nI b), .int (nI q)] n w M (some (.int v)) n w M := by
  rw [← setB_at (s := s) (b := b) hq hl]
  exact c_bedIsY hR b q (by omega)
end
/-- a bed that has grown for a week -/
def grL (wm kd nd ys ls r0 r1 r2 r3 r4 r5 r6 r7 : Int32) : List Int32 :=
  if r0 = -1 then [r0, r1, r2, r3, r4, r5, r6, r7, 0, 0] else
  if r2 + wm < nd then [r0, r1, r2 + wm, r3, r4, r5, r6, r7, 0, 0] else
  if kd = 2 then (if 0 < r5 then [r0, r1, r2 + wm, r3, r4, r5 - 1, r6, r7, 0, 0] else if r4 = 0 then [r0, r1, r2 + wm, r3 + 1, ys + r7, r5, r6, r7, 1, 0] else [r0, r1, r2 + wm, r3, r4, r5, r6, r7, 0, 0])
  else if kd = 3 then (if r3 = 0 then [r0, r1, r2 + wm, r3 + 1, (ys + r7) * ls, r5, r6, r7, 1, 0] else [r0, r1, r2 + wm, r3 + 1, r4, r5, r6, r7, 1, 0])
  else if kd = 4 then [r0, r1, r2 + wm, r3 + 1, r4, r5, r6, r7, 1, 0]
  else [r0, r1, r2 + wm, r3 + 1, ys + r7, r5, r6, r7, 1, 0]
/-- a bed's cell out of ten numbers -/
def bofL (z : Value) (p : Int32) : List Int32 → List Value
  | [_, r1, r2, r3, r4, r5, r6, r7, _, _] => [z, .int r1, .int r2, .int r3, .int r4, .int r5, .int r6, .int r7, .int p]
  | _ => []
theorem c_growBy_n {M : zM} {d n w a : Nat} {wm p : Int32} {l : List Value} (hb : M a = .inr (0, .null :: l)) (hl : zfs l 7 (.int 0) = zfs l 7 (.int 0)) (h9 : l.length = 8) : zCall (d + 1) 4 [.ref a, .int wm] n w M none n w (zup M a (.inr (0, .null :: zfs l 7 (.int 0)))) := by
  intro Q hQ
  show zR ztb _ kX0_growBy 0 0 [some (.ref a), some (.int wm)] [] _ _ _ _
  repeat (first | ((with_reducible refine zR.stored ?_); dsimp only [zsto, zclr, zset, zget, zc2, cond_false, cond_true]) | ((with_reducible refine zR.atLit ?_); first | refine zR.step rfl ?_) | rw [zcc1] | rw [zcc2] | rw [zcc3] | rw [zcc4])
  refine zR.putf rfl hb rfl (by rw [List.length_cons, h9]; rfl) ?_
  repeat (first | ((with_reducible refine zR.stored ?_); dsimp only [zsto, zclr, zset, zget, zc2, cond_false, cond_true]) | ((with_reducible refine zR.atLit ?_); first | refine zR.step rfl ?_ | refine zR.getf rfl (zup_self _ _ _) rfl ?_) | rw [zcc1] | rw [zcc2] | rw [zcc3] | rw [zcc4])
  exact zR.ret rfl rfl hQ
theorem c_growBy {M : zM} {d n w a ca : Nat} {wm nu kd nd ys ls ke wo r0 r1 r2 r3 r4 r5 r6 r7 p : Int32} (hb : M a = .inr (0, [.ref ca, .int r1, .int r2, .int r3, .int r4, .int r5, .int r6, .int r7, .int p])) (hc : M ca = .inr (1, [.int nu, .int kd, .int nd, .int ys, .int ls, .int ke, .int wo])) (hne : ca ≠ a) (h0 : ¬ r0 = -1) (h7 : r7 = 0 ∨ r7 = 1) : zCall (d + 1) 4 [.ref a, .int wm] n w M none n w (zup M a (.inr (0, bofL (.ref ca) 0 (grL wm kd nd ys ls r0 r1 r2 r3 r4 r5 r6 r7)))) := by
  intro Q hQ
  unfold grL at hQ
  rw [if_neg h0] at hQ
  have gc : ∀ v : zC, zup M a v ca = .inr (1, [.int nu, .int kd, .int nd, .int ys, .int ls, .int ke, .int wo]) := fun v => by rw [zup_ne _ _ hne]; exact hc
  show zR ztb _ kX0_growBy 0 0 [some (.ref a), some (.int wm)] [] _ _ _ _
  repeat (first | ((with_reducible refine zR.stored ?_); dsimp only [zsto, zclr, zset, zget, zc2, cond_false, cond_true]) | ((with_reducible refine zR.atLit ?_); first | refine zR.step rfl ?_) | rw [zcc1] | rw [zcc2] | rw [zcc3] | rw [zcc4])
  refine zR.putf rfl hb rfl rfl ?_
  repeat (first | ((with_reducible refine zR.stored ?_); dsimp only [zsto, zclr, zset, zget, zc2, cond_false, cond_true]) | ((with_reducible refine zR.atLit ?_); first | refine zR.step rfl ?_ | refine zR.getf rfl (zup_self _ _ _) rfl ?_) | rw [zcc1] | rw [zcc2] | rw [zcc3] | rw [zcc4])
  refine zR.putf rfl (zup_self _ _ _) rfl rfl ?_
  rw [zup_up]
  by_cases q : r2 + wm < nd
  · rw [if_pos q] at hQ
    repeat (first | ((with_reducible refine zR.stored ?_); dsimp only [zsto, zclr, zset, zget, zc2, cond_false, cond_true]) | ((with_reducible refine zR.atLit ?_); first | refine zR.step rfl ?_ | refine zR.getf rfl (zup_self _ _ _) rfl ?_ | refine zR.getf rfl (gc _) rfl ?_) | rw [zcc1] | rw [zcc2] | rw [zcc3] | rw [zcc4] | rw [zb1 (q)] | rw [zb2 (q)] | rw [zb3 (q)] | rw [zb4 (q)])
    exact zR.ret rfl rfl hQ
  rw [if_neg q] at hQ
  repeat (first | ((with_reducible refine zR.stored ?_); dsimp only [zsto, zclr, zset, zget, zc2, cond_false, cond_true]) | ((with_reducible refine zR.atLit ?_); first | refine zR.step rfl ?_ | refine zR.getf rfl (zup_self _ _ _) rfl ?_ | refine zR.getf rfl (gc _) rfl ?_) | rw [zcc1] | rw [zcc2] | rw [zcc3] | rw [zcc4] | rw [zn1 (q)] | rw [zn2 (q)] | rw [zn3 (q)] | rw [zn4 (q)])
  refine zR.cv rfl rfl rfl (zup_self _ _ _) rfl rfl ?_
  show zR ztb _ kX0_offerOf 0 0 [some (.ref a), some (.ref ca), none] [] _ _ _ _
  rcases h7 with rfl | rfl
  · rw [Int32.add_zero] at hQ
    by_cases k2 : kd = 2
    · subst k2
      rw [if_pos rfl] at hQ
      by_cases q5 : 0 < r5
      · skip
        rw [if_pos q5] at hQ
        repeat (first | ((with_reducible refine zR.stored ?_); dsimp only [zsto, zclr, zset, zget, zc2, cond_false, cond_true]) | ((with_reducible refine zR.atLit ?_); first | refine zR.step rfl ?_ | refine zR.getf rfl (zup_self _ _ _) rfl ?_ | refine zR.getf rfl (gc _) rfl ?_) | rw [zcc1] | rw [zcc2] | rw [zcc3] | rw [zcc4] | rw [zb1 (by decide)] | rw [zb2 (by decide)] | rw [zb3 (by decide)] | rw [zb4 (by decide)] | rw [zn1 (by decide)] | rw [zn2 (by decide)] | rw [zn3 (by decide)] | rw [zn4 (by decide)] | rw [ze1 (by decide)] | rw [ze2 (by decide)] | rw [zd1 (by decide)] | rw [zd2 (by decide)] | rw [zswy (by decide)] | rw [zswn (by decide)] | rw [zsw0] | rw [zb1 (q5)] | rw [zb2 (q5)] | rw [zb3 (q5)] | rw [zb4 (q5)])
        refine zR.putf rfl (zup_self _ _ _) rfl rfl ?_
        rw [zup_up]
        repeat (first | ((with_reducible refine zR.stored ?_); dsimp only [zsto, zclr, zset, zget, zc2, cond_false, cond_true]) | ((with_reducible refine zR.atLit ?_); first | refine zR.step rfl ?_ | refine zR.getf rfl (zup_self _ _ _) rfl ?_ | refine zR.getf rfl (gc _) rfl ?_) | rw [zcc1] | rw [zcc2] | rw [zcc3] | rw [zcc4] | rw [zb1 (by decide)] | rw [zb2 (by decide)] | rw [zb3 (by decide)] | rw [zb4 (by decide)] | rw [zn1 (by decide)] | rw [zn2 (by decide)] | rw [zn3 (by decide)] | rw [zn4 (by decide)] | rw [ze1 (by decide)] | rw [ze2 (by decide)] | rw [zd1 (by decide)] | rw [zd2 (by decide)] | rw [zswy (by decide)] | rw [zswn (by decide)] | rw [zsw0] | rw [zb1 (q5)] | rw [zb2 (q5)] | rw [zb3 (q5)] | rw [zb4 (q5)])
        refine zR.ret rfl rfl ?_
        repeat (first | ((with_reducible refine zR.stored ?_); dsimp only [zsto, zclr, zset, zget, zc2, cond_false, cond_true]) | ((with_reducible refine zR.atLit ?_); first | refine zR.step rfl ?_) | rw [zcc1] | rw [zcc2] | rw [zcc3] | rw [zcc4])
        exact zR.ret rfl rfl hQ
      · by_cases q4 : r4 = 0
        · skip
          rw [if_neg q5, if_pos q4] at hQ
          repeat (first | ((with_reducible refine zR.stored ?_); dsimp only [zsto, zclr, zset, zget, zc2, cond_false, cond_true]) | ((with_reducible refine zR.atLit ?_); first | refine zR.step rfl ?_ | refine zR.getf rfl (zup_self _ _ _) rfl ?_ | refine zR.getf rfl (gc _) rfl ?_) | rw [zcc1] | rw [zcc2] | rw [zcc3] | rw [zcc4] | rw [zb1 (by decide)] | rw [zb2 (by decide)] | rw [zb3 (by decide)] | rw [zb4 (by decide)] | rw [zn1 (by decide)] | rw [zn2 (by decide)] | rw [zn3 (by decide)] | rw [zn4 (by decide)] | rw [ze1 (by decide)] | rw [ze2 (by decide)] | rw [zd1 (by decide)] | rw [zd2 (by decide)] | rw [zswy (by decide)] | rw [zswn (by decide)] | rw [zsw0] | rw [zn1 (q5)] | rw [zn2 (q5)] | rw [zn3 (q5)] | rw [zn4 (q5)] | rw [ze1 (q4)] | rw [ze2 (q4)])
          refine zR.putf rfl (zup_self _ _ _) rfl rfl ?_
          rw [zup_up]
          repeat (first | ((with_reducible refine zR.stored ?_); dsimp only [zsto, zclr, zset, zget, zc2, cond_false, cond_true]) | ((with_reducible refine zR.atLit ?_); first | refine zR.step rfl ?_ | refine zR.getf rfl (zup_self _ _ _) rfl ?_ | refine zR.getf rfl (gc _) rfl ?_) | rw [zcc1] | rw [zcc2] | rw [zcc3] | rw [zcc4] | rw [zb1 (by decide)] | rw [zb2 (by decide)] | rw [zb3 (by decide)] | rw [zb4 (by decide)] | rw [zn1 (by decide)] | rw [zn2 (by decide)] | rw [zn3 (by decide)] | rw [zn4 (by decide)] | rw [ze1 (by decide)] | rw [ze2 (by decide)] | rw [zd1 (by decide)] | rw [zd2 (by decide)] | rw [zswy (by decide)] | rw [zswn (by decide)] | rw [zsw0] | rw [zn1 (q5)] | rw [zn2 (q5)] | rw [zn3 (q5)] | rw [zn4 (q5)] | rw [ze1 (q4)] | rw [ze2 (q4)])
          refine zR.putf rfl (zup_self _ _ _) rfl rfl ?_
          rw [zup_up]
          repeat (first | ((with_reducible refine zR.stored ?_); dsimp only [zsto, zclr, zset, zget, zc2, cond_false, cond_true]) | ((with_reducible refine zR.atLit ?_); first | refine zR.step rfl ?_ | refine zR.getf rfl (zup_self _ _ _) rfl ?_ | refine zR.getf rfl (gc _) rfl ?_) | rw [zcc1] | rw [zcc2] | rw [zcc3] | rw [zcc4] | rw [zb1 (by decide)] | rw [zb2 (by decide)] | rw [zb3 (by decide)] | rw [zb4 (by decide)] | rw [zn1 (by decide)] | rw [zn2 (by decide)] | rw [zn3 (by decide)] | rw [zn4 (by decide)] | rw [ze1 (by decide)] | rw [ze2 (by decide)] | rw [zd1 (by decide)] | rw [zd2 (by decide)] | rw [zswy (by decide)] | rw [zswn (by decide)] | rw [zsw0] | rw [zn1 (q5)] | rw [zn2 (q5)] | rw [zn3 (q5)] | rw [zn4 (q5)] | rw [ze1 (q4)] | rw [ze2 (q4)])
          refine zR.ret rfl rfl ?_
          repeat (first | ((with_reducible refine zR.stored ?_); dsimp only [zsto, zclr, zset, zget, zc2, cond_false, cond_true]) | ((with_reducible refine zR.atLit ?_); first | refine zR.step rfl ?_) | rw [zcc1] | rw [zcc2] | rw [zcc3] | rw [zcc4])
          exact zR.ret rfl rfl hQ
        · skip
          rw [if_neg q5, if_neg q4] at hQ
          repeat (first | ((with_reducible refine zR.stored ?_); dsimp only [zsto, zclr, zset, zget, zc2, cond_false, cond_true]) | ((with_reducible refine zR.atLit ?_); first | refine zR.step rfl ?_ | refine zR.getf rfl (zup_self _ _ _) rfl ?_ | refine zR.getf rfl (gc _) rfl ?_) | rw [zcc1] | rw [zcc2] | rw [zcc3] | rw [zcc4] | rw [zb1 (by decide)] | rw [zb2 (by decide)] | rw [zb3 (by decide)] | rw [zb4 (by decide)] | rw [zn1 (by decide)] | rw [zn2 (by decide)] | rw [zn3 (by decide)] | rw [zn4 (by decide)] | rw [ze1 (by decide)] | rw [ze2 (by decide)] | rw [zd1 (by decide)] | rw [zd2 (by decide)] | rw [zswy (by decide)] | rw [zswn (by decide)] | rw [zsw0] | rw [zn1 (q5)] | rw [zn2 (q5)] | rw [zn3 (q5)] | rw [zn4 (q5)] | rw [zd1 (q4)] | rw [zd2 (q4)])
          refine zR.ret rfl rfl ?_
          repeat (first | ((with_reducible refine zR.stored ?_); dsimp only [zsto, zclr, zset, zget, zc2, cond_false, cond_true]) | ((with_reducible refine zR.atLit ?_); first | refine zR.step rfl ?_) | rw [zcc1] | rw [zcc2] | rw [zcc3] | rw [zcc4])
          exact zR.ret rfl rfl hQ
    by_cases k3 : kd = 3
    · subst k3
      rw [if_neg (by decide), if_pos rfl] at hQ
      by_cases q3 : r3 = 0
      · skip
        rw [if_pos q3] at hQ
        repeat (first | ((with_reducible refine zR.stored ?_); dsimp only [zsto, zclr, zset, zget, zc2, cond_false, cond_true]) | ((with_reducible refine zR.atLit ?_); first | refine zR.step rfl ?_ | refine zR.getf rfl (zup_self _ _ _) rfl ?_ | refine zR.getf rfl (gc _) rfl ?_) | rw [zcc1] | rw [zcc2] | rw [zcc3] | rw [zcc4] | rw [zb1 (by decide)] | rw [zb2 (by decide)] | rw [zb3 (by decide)] | rw [zb4 (by decide)] | rw [zn1 (by decide)] | rw [zn2 (by decide)] | rw [zn3 (by decide)] | rw [zn4 (by decide)] | rw [ze1 (by decide)] | rw [ze2 (by decide)] | rw [zd1 (by decide)] | rw [zd2 (by decide)] | rw [zswy (by decide)] | rw [zswn (by decide)] | rw [zsw0] | rw [ze1 (q3)] | rw [ze2 (q3)])
        refine zR.putf rfl (zup_self _ _ _) rfl rfl ?_
        rw [zup_up]
        repeat (first | ((with_reducible refine zR.stored ?_); dsimp only [zsto, zclr, zset, zget, zc2, cond_false, cond_true]) | ((with_reducible refine zR.atLit ?_); first | refine zR.step rfl ?_ | refine zR.getf rfl (zup_self _ _ _) rfl ?_ | refine zR.getf rfl (gc _) rfl ?_) | rw [zcc1] | rw [zcc2] | rw [zcc3] | rw [zcc4] | rw [zb1 (by decide)] | rw [zb2 (by decide)] | rw [zb3 (by decide)] | rw [zb4 (by decide)] | rw [zn1 (by decide)] | rw [zn2 (by decide)] | rw [zn3 (by decide)] | rw [zn4 (by decide)] | rw [ze1 (by decide)] | rw [ze2 (by decide)] | rw [zd1 (by decide)] | rw [zd2 (by decide)] | rw [zswy (by decide)] | rw [zswn (by decide)] | rw [zsw0] | rw [ze1 (q3)] | rw [ze2 (q3)])
        refine zR.putf rfl (zup_self _ _ _) rfl rfl ?_
        rw [zup_up]
        repeat (first | ((with_reducible refine zR.stored ?_); dsimp only [zsto, zclr, zset, zget, zc2, cond_false, cond_true]) | ((with_reducible refine zR.atLit ?_); first | refine zR.step rfl ?_ | refine zR.getf rfl (zup_self _ _ _) rfl ?_ | refine zR.getf rfl (gc _) rfl ?_) | rw [zcc1] | rw [zcc2] | rw [zcc3] | rw [zcc4] | rw [zb1 (by decide)] | rw [zb2 (by decide)] | rw [zb3 (by decide)] | rw [zb4 (by decide)] | rw [zn1 (by decide)] | rw [zn2 (by decide)] | rw [zn3 (by decide)] | rw [zn4 (by decide)] | rw [ze1 (by decide)] | rw [ze2 (by decide)] | rw [zd1 (by decide)] | rw [zd2 (by decide)] | rw [zswy (by decide)] | rw [zswn (by decide)] | rw [zsw0] | rw [ze1 (q3)] | rw [ze2 (q3)])
        refine zR.ret rfl rfl ?_
        repeat (first | ((with_reducible refine zR.stored ?_); dsimp only [zsto, zclr, zset, zget, zc2, cond_false, cond_true]) | ((with_reducible refine zR.atLit ?_); first | refine zR.step rfl ?_) | rw [zcc1] | rw [zcc2] | rw [zcc3] | rw [zcc4])
        exact zR.ret rfl rfl hQ
      · skip
        rw [if_neg q3] at hQ
        repeat (first | ((with_reducible refine zR.stored ?_); dsimp only [zsto, zclr, zset, zget, zc2, cond_false, cond_true]) | ((with_reducible refine zR.atLit ?_); first | refine zR.step rfl ?_ | refine zR.getf rfl (zup_self _ _ _) rfl ?_ | refine zR.getf rfl (gc _) rfl ?_) | rw [zcc1] | rw [zcc2] | rw [zcc3] | rw [zcc4] | rw [zb1 (by decide)] | rw [zb2 (by decide)] | rw [zb3 (by decide)] | rw [zb4 (by decide)] | rw [zn1 (by decide)] | rw [zn2 (by decide)] | rw [zn3 (by decide)] | rw [zn4 (by decide)] | rw [ze1 (by decide)] | rw [ze2 (by decide)] | rw [zd1 (by decide)] | rw [zd2 (by decide)] | rw [zswy (by decide)] | rw [zswn (by decide)] | rw [zsw0] | rw [zd1 (q3)] | rw [zd2 (q3)])
        refine zR.putf rfl (zup_self _ _ _) rfl rfl ?_
        rw [zup_up]
        repeat (first | ((with_reducible refine zR.stored ?_); dsimp only [zsto, zclr, zset, zget, zc2, cond_false, cond_true]) | ((with_reducible refine zR.atLit ?_); first | refine zR.step rfl ?_ | refine zR.getf rfl (zup_self _ _ _) rfl ?_ | refine zR.getf rfl (gc _) rfl ?_) | rw [zcc1] | rw [zcc2] | rw [zcc3] | rw [zcc4] | rw [zb1 (by decide)] | rw [zb2 (by decide)] | rw [zb3 (by decide)] | rw [zb4 (by decide)] | rw [zn1 (by decide)] | rw [zn2 (by decide)] | rw [zn3 (by decide)] | rw [zn4 (by decide)] | rw [ze1 (by decide)] | rw [ze2 (by decide)] | rw [zd1 (by decide)] | rw [zd2 (by decide)] | rw [zswy (by decide)] | rw [zswn (by decide)] | rw [zsw0] | rw [zd1 (q3)] | rw [zd2 (q3)])
        refine zR.ret rfl rfl ?_
        repeat (first | ((with_reducible refine zR.stored ?_); dsimp only [zsto, zclr, zset, zget, zc2, cond_false, cond_true]) | ((with_reducible refine zR.atLit ?_); first | refine zR.step rfl ?_) | rw [zcc1] | rw [zcc2] | rw [zcc3] | rw [zcc4])
        exact zR.ret rfl rfl hQ
    by_cases k4 : kd = 4
    · subst k4
      rw [if_neg (by decide), if_neg (by decide), if_pos rfl] at hQ
      repeat (first | ((with_reducible refine zR.stored ?_); dsimp only [zsto, zclr, zset, zget, zc2, cond_false, cond_true]) | ((with_reducible refine zR.atLit ?_); first | refine zR.step rfl ?_ | refine zR.getf rfl (zup_self _ _ _) rfl ?_ | refine zR.getf rfl (gc _) rfl ?_) | rw [zcc1] | rw [zcc2] | rw [zcc3] | rw [zcc4] | rw [zb1 (by decide)] | rw [zb2 (by decide)] | rw [zb3 (by decide)] | rw [zb4 (by decide)] | rw [zn1 (by decide)] | rw [zn2 (by decide)] | rw [zn3 (by decide)] | rw [zn4 (by decide)] | rw [ze1 (by decide)] | rw [ze2 (by decide)] | rw [zd1 (by decide)] | rw [zd2 (by decide)] | rw [zswy (by decide)] | rw [zswn (by decide)] | rw [zsw0])
      refine zR.putf rfl (zup_self _ _ _) rfl rfl ?_
      rw [zup_up]
      repeat (first | ((with_reducible refine zR.stored ?_); dsimp only [zsto, zclr, zset, zget, zc2, cond_false, cond_true]) | ((with_reducible refine zR.atLit ?_); first | refine zR.step rfl ?_ | refine zR.getf rfl (zup_self _ _ _) rfl ?_ | refine zR.getf rfl (gc _) rfl ?_) | rw [zcc1] | rw [zcc2] | rw [zcc3] | rw [zcc4] | rw [zb1 (by decide)] | rw [zb2 (by decide)] | rw [zb3 (by decide)] | rw [zb4 (by decide)] | rw [zn1 (by decide)] | rw [zn2 (by decide)] | rw [zn3 (by decide)] | rw [zn4 (by decide)] | rw [ze1 (by decide)] | rw [ze2 (by decide)] | rw [zd1 (by decide)] | rw [zd2 (by decide)] | rw [zswy (by decide)] | rw [zswn (by decide)] | rw [zsw0])
      refine zR.ret rfl rfl ?_
      repeat (first | ((with_reducible refine zR.stored ?_); dsimp only [zsto, zclr, zset, zget, zc2, cond_false, cond_true]) | ((with_reducible refine zR.atLit ?_); first | refine zR.step rfl ?_) | rw [zcc1] | rw [zcc2] | rw [zcc3] | rw [zcc4])
      exact zR.ret rfl rfl hQ
    rw [if_neg k2, if_neg k3, if_neg k4] at hQ
    repeat (first | ((with_reducible refine zR.stored ?_); dsimp only [zsto, zclr, zset, zget, zc2, cond_false, cond_true]) | ((with_reducible refine zR.atLit ?_); first | refine zR.step rfl ?_ | refine zR.getf rfl (zup_self _ _ _) rfl ?_ | refine zR.getf rfl (gc _) rfl ?_) | rw [zcc1] | rw [zcc2] | rw [zcc3] | rw [zcc4] | rw [zswn k2] | rw [zswn k3] | rw [zswn k4] | rw [zsw0])
    refine zR.putf rfl (zup_self _ _ _) rfl rfl ?_
    rw [zup_up]
    repeat (first | ((with_reducible refine zR.stored ?_); dsimp only [zsto, zclr, zset, zget, zc2, cond_false, cond_true]) | ((with_reducible refine zR.atLit ?_); first | refine zR.step rfl ?_ | refine zR.getf rfl (zup_self _ _ _) rfl ?_ | refine zR.getf rfl (gc _) rfl ?_) | rw [zcc1] | rw [zcc2] | rw [zcc3] | rw [zcc4] | rw [zswn k2] | rw [zswn k3] | rw [zswn k4] | rw [zsw0])
    refine zR.putf rfl (zup_self _ _ _) rfl rfl ?_
    rw [zup_up]
    repeat (first | ((with_reducible refine zR.stored ?_); dsimp only [zsto, zclr, zset, zget, zc2, cond_false, cond_true]) | ((with_reducible refine zR.atLit ?_); first | refine zR.step rfl ?_ | refine zR.getf rfl (zup_self _ _ _) rfl ?_ | refine zR.getf rfl (gc _) rfl ?_) | rw [zcc1] | rw [zcc2] | rw [zcc3] | rw [zcc4] | rw [zswn k2] | rw [zswn k3] | rw [zswn k4] | rw [zsw0])
    refine zR.ret rfl rfl ?_
    repeat (first | ((with_reducible refine zR.stored ?_); dsimp only [zsto, zclr, zset, zget, zc2, cond_false, cond_true]) | ((with_reducible refine zR.atLit ?_); first | refine zR.step rfl ?_) | rw [zcc1] | rw [zcc2] | rw [zcc3] | rw [zcc4])
    exact zR.ret rfl rfl hQ
  · skip
    by_cases k2 : kd = 2
    · subst k2
      rw [if_pos rfl] at hQ
      by_cases q5 : 0 < r5
      · skip
        rw [if_pos q5] at hQ
        repeat (first | ((with_reducible refine zR.stored ?_); dsimp only [zsto, zclr, zset, zget, zc2, cond_false, cond_true]) | ((with_reducible refine zR.atLit ?_); first | refine zR.step rfl ?_ | refine zR.getf rfl (zup_self _ _ _) rfl ?_ | refine zR.getf rfl (gc _) rfl ?_) | rw [zcc1] | rw [zcc2] | rw [zcc3] | rw [zcc4] | rw [zb1 (by decide)] | rw [zb2 (by decide)] | rw [zb3 (by decide)] | rw [zb4 (by decide)] | rw [zn1 (by decide)] | rw [zn2 (by decide)] | rw [zn3 (by decide)] | rw [zn4 (by decide)] | rw [ze1 (by decide)] | rw [ze2 (by decide)] | rw [zd1 (by decide)] | rw [zd2 (by decide)] | rw [zswy (by decide)] | rw [zswn (by decide)] | rw [zsw0] | rw [zb1 (q5)] | rw [zb2 (q5)] | rw [zb3 (q5)] | rw [zb4 (q5)])
        refine zR.putf rfl (zup_self _ _ _) rfl rfl ?_
        rw [zup_up]
        repeat (first | ((with_reducible refine zR.stored ?_); dsimp only [zsto, zclr, zset, zget, zc2, cond_false, cond_true]) | ((with_reducible refine zR.atLit ?_); first | refine zR.step rfl ?_ | refine zR.getf rfl (zup_self _ _ _) rfl ?_ | refine zR.getf rfl (gc _) rfl ?_) | rw [zcc1] | rw [zcc2] | rw [zcc3] | rw [zcc4] | rw [zb1 (by decide)] | rw [zb2 (by decide)] | rw [zb3 (by decide)] | rw [zb4 (by decide)] | rw [zn1 (by decide)] | rw [zn2 (by decide)] | rw [zn3 (by decide)] | rw [zn4 (by decide)] | rw [ze1 (by decide)] | rw [ze2 (by decide)] | rw [zd1 (by decide)] | rw [zd2 (by decide)] | rw [zswy (by decide)] | rw [zswn (by decide)] | rw [zsw0] | rw [zb1 (q5)] | rw [zb2 (q5)] | rw [zb3 (q5)] | rw [zb4 (q5)])
        refine zR.ret rfl rfl ?_
        repeat (first | ((with_reducible refine zR.stored ?_); dsimp only [zsto, zclr, zset, zget, zc2, cond_false, cond_true]) | ((with_reducible refine zR.atLit ?_); first | refine zR.step rfl ?_) | rw [zcc1] | rw [zcc2] | rw [zcc3] | rw [zcc4])
        exact zR.ret rfl rfl hQ
      · by_cases q4 : r4 = 0
        · skip
          rw [if_neg q5, if_pos q4] at hQ
          repeat (first | ((with_reducible refine zR.stored ?_); dsimp only [zsto, zclr, zset, zget, zc2, cond_false, cond_true]) | ((with_reducible refine zR.atLit ?_); first | refine zR.step rfl ?_ | refine zR.getf rfl (zup_self _ _ _) rfl ?_ | refine zR.getf rfl (gc _) rfl ?_) | rw [zcc1] | rw [zcc2] | rw [zcc3] | rw [zcc4] | rw [zb1 (by decide)] | rw [zb2 (by decide)] | rw [zb3 (by decide)] | rw [zb4 (by decide)] | rw [zn1 (by decide)] | rw [zn2 (by decide)] | rw [zn3 (by decide)] | rw [zn4 (by decide)] | rw [ze1 (by decide)] | rw [ze2 (by decide)] | rw [zd1 (by decide)] | rw [zd2 (by decide)] | rw [zswy (by decide)] | rw [zswn (by decide)] | rw [zsw0] | rw [zn1 (q5)] | rw [zn2 (q5)] | rw [zn3 (q5)] | rw [zn4 (q5)] | rw [ze1 (q4)] | rw [ze2 (q4)])
          refine zR.putf rfl (zup_self _ _ _) rfl rfl ?_
          rw [zup_up]
          repeat (first | ((with_reducible refine zR.stored ?_); dsimp only [zsto, zclr, zset, zget, zc2, cond_false, cond_true]) | ((with_reducible refine zR.atLit ?_); first | refine zR.step rfl ?_ | refine zR.getf rfl (zup_self _ _ _) rfl ?_ | refine zR.getf rfl (gc _) rfl ?_) | rw [zcc1] | rw [zcc2] | rw [zcc3] | rw [zcc4] | rw [zb1 (by decide)] | rw [zb2 (by decide)] | rw [zb3 (by decide)] | rw [zb4 (by decide)] | rw [zn1 (by decide)] | rw [zn2 (by decide)] | rw [zn3 (by decide)] | rw [zn4 (by decide)] | rw [ze1 (by decide)] | rw [ze2 (by decide)] | rw [zd1 (by decide)] | rw [zd2 (by decide)] | rw [zswy (by decide)] | rw [zswn (by decide)] | rw [zsw0] | rw [zn1 (q5)] | rw [zn2 (q5)] | rw [zn3 (q5)] | rw [zn4 (q5)] | rw [ze1 (q4)] | rw [ze2 (q4)])
          refine zR.putf rfl (zup_self _ _ _) rfl rfl ?_
          rw [zup_up]
          repeat (first | ((with_reducible refine zR.stored ?_); dsimp only [zsto, zclr, zset, zget, zc2, cond_false, cond_true]) | ((with_reducible refine zR.atLit ?_); first | refine zR.step rfl ?_ | refine zR.getf rfl (zup_self _ _ _) rfl ?_ | refine zR.getf rfl (gc _) rfl ?_) | rw [zcc1] | rw [zcc2] | rw [zcc3] | rw [zcc4] | rw [zb1 (by decide)] | rw [zb2 (by decide)] | rw [zb3 (by decide)] | rw [zb4 (by decide)] | rw [zn1 (by decide)] | rw [zn2 (by decide)] | rw [zn3 (by decide)] | rw [zn4 (by decide)] | rw [ze1 (by decide)] | rw [ze2 (by decide)] | rw [zd1 (by decide)] | rw [zd2 (by decide)] | rw [zswy (by decide)] | rw [zswn (by decide)] | rw [zsw0] | rw [zn1 (q5)] | rw [zn2 (q5)] | rw [zn3 (q5)] | rw [zn4 (q5)] | rw [ze1 (q4)] | rw [ze2 (q4)])
          refine zR.ret rfl rfl ?_
          repeat (first | ((with_reducible refine zR.stored ?_); dsimp only [zsto, zclr, zset, zget, zc2, cond_false, cond_true]) | ((with_reducible refine zR.atLit ?_); first | refine zR.step rfl ?_) | rw [zcc1] | rw [zcc2] | rw [zcc3] | rw [zcc4])
          exact zR.ret rfl rfl hQ
        · skip
          rw [if_neg q5, if_neg q4] at hQ
          repeat (first | ((with_reducible refine zR.stored ?_); dsimp only [zsto, zclr, zset, zget, zc2, cond_false, cond_true]) | ((with_reducible refine zR.atLit ?_); first | refine zR.step rfl ?_ | refine zR.getf rfl (zup_self _ _ _) rfl ?_ | refine zR.getf rfl (gc _) rfl ?_) | rw [zcc1] | rw [zcc2] | rw [zcc3] | rw [zcc4] | rw [zb1 (by decide)] | rw [zb2 (by decide)] | rw [zb3 (by decide)] | rw [zb4 (by decide)] | rw [zn1 (by decide)] | rw [zn2 (by decide)] | rw [zn3 (by decide)] | rw [zn4 (by decide)] | rw [ze1 (by decide)] | rw [ze2 (by decide)] | rw [zd1 (by decide)] | rw [zd2 (by decide)] | rw [zswy (by decide)] | rw [zswn (by decide)] | rw [zsw0] | rw [zn1 (q5)] | rw [zn2 (q5)] | rw [zn3 (q5)] | rw [zn4 (q5)] | rw [zd1 (q4)] | rw [zd2 (q4)])
          refine zR.ret rfl rfl ?_
          repeat (first | ((with_reducible refine zR.stored ?_); dsimp only [zsto, zclr, zset, zget, zc2, cond_false, cond_true]) | ((with_reducible refine zR.atLit ?_); first | refine zR.step rfl ?_) | rw [zcc1] | rw [zcc2] | rw [zcc3] | rw [zcc4])
          exact zR.ret rfl rfl hQ
    by_cases k3 : kd = 3
    · subst k3
      rw [if_neg (by decide), if_pos rfl] at hQ
      by_cases q3 : r3 = 0
      · skip
        rw [if_pos q3] at hQ
        repeat (first | ((with_reducible refine zR.stored ?_); dsimp only [zsto, zclr, zset, zget, zc2, cond_false, cond_true]) | ((with_reducible refine zR.atLit ?_); first | refine zR.step rfl ?_ | refine zR.getf rfl (zup_self _ _ _) rfl ?_ | refine zR.getf rfl (gc _) rfl ?_) | rw [zcc1] | rw [zcc2] | rw [zcc3] | rw [zcc4] | rw [zb1 (by decide)] | rw [zb2 (by decide)] | rw [zb3 (by decide)] | rw [zb4 (by decide)] | rw [zn1 (by decide)] | rw [zn2 (by decide)] | rw [zn3 (by decide)] | rw [zn4 (by decide)] | rw [ze1 (by decide)] | rw [ze2 (by decide)] | rw [zd1 (by decide)] | rw [zd2 (by decide)] | rw [zswy (by decide)] | rw [zswn (by decide)] | rw [zsw0] | rw [ze1 (q3)] | rw [ze2 (q3)])
        refine zR.putf rfl (zup_self _ _ _) rfl rfl ?_
        rw [zup_up]
        repeat (first | ((with_reducible refine zR.stored ?_); dsimp only [zsto, zclr, zset, zget, zc2, cond_false, cond_true]) | ((with_reducible refine zR.atLit ?_); first | refine zR.step rfl ?_ | refine zR.getf rfl (zup_self _ _ _) rfl ?_ | refine zR.getf rfl (gc _) rfl ?_) | rw [zcc1] | rw [zcc2] | rw [zcc3] | rw [zcc4] | rw [zb1 (by decide)] | rw [zb2 (by decide)] | rw [zb3 (by decide)] | rw [zb4 (by decide)] | rw [zn1 (by decide)] | rw [zn2 (by decide)] | rw [zn3 (by decide)] | rw [zn4 (by decide)] | rw [ze1 (by decide)] | rw [ze2 (by decide)] | rw [zd1 (by decide)] | rw [zd2 (by decide)] | rw [zswy (by decide)] | rw [zswn (by decide)] | rw [zsw0] | rw [ze1 (q3)] | rw [ze2 (q3)])
        refine zR.putf rfl (zup_self _ _ _) rfl rfl ?_
        rw [zup_up]
        repeat (first | ((with_reducible refine zR.stored ?_); dsimp only [zsto, zclr, zset, zget, zc2, cond_false, cond_true]) | ((with_reducible refine zR.atLit ?_); first | refine zR.step rfl ?_ | refine zR.getf rfl (zup_self _ _ _) rfl ?_ | refine zR.getf rfl (gc _) rfl ?_) | rw [zcc1] | rw [zcc2] | rw [zcc3] | rw [zcc4] | rw [zb1 (by decide)] | rw [zb2 (by decide)] | rw [zb3 (by decide)] | rw [zb4 (by decide)] | rw [zn1 (by decide)] | rw [zn2 (by decide)] | rw [zn3 (by decide)] | rw [zn4 (by decide)] | rw [ze1 (by decide)] | rw [ze2 (by decide)] | rw [zd1 (by decide)] | rw [zd2 (by decide)] | rw [zswy (by decide)] | rw [zswn (by decide)] | rw [zsw0] | rw [ze1 (q3)] | rw [ze2 (q3)])
        refine zR.ret rfl rfl ?_
        repeat (first | ((with_reducible refine zR.stored ?_); dsimp only [zsto, zclr, zset, zget, zc2, cond_false, cond_true]) | ((with_reducible refine zR.atLit ?_); first | refine zR.step rfl ?_) | rw [zcc1] | rw [zcc2] | rw [zcc3] | rw [zcc4])
        exact zR.ret rfl rfl hQ
      · skip
        rw [if_neg q3] at hQ
        repeat (first | ((with_reducible refine zR.stored ?_); dsimp only [zsto, zclr, zset, zget, zc2, cond_false, cond_true]) | ((with_reducible refine zR.atLit ?_); first | refine zR.step rfl ?_ | refine zR.getf rfl (zup_self _ _ _) rfl ?_ | refine zR.getf rfl (gc _) rfl ?_) | rw [zcc1] | rw [zcc2] | rw [zcc3] | rw [zcc4] | rw [zb1 (by decide)] | rw [zb2 (by decide)] | rw [zb3 (by decide)] | rw [zb4 (by decide)] | rw [zn1 (by decide)] | rw [zn2 (by decide)] | rw [zn3 (by decide)] | rw [zn4 (by decide)] | rw [ze1 (by decide)] | rw [ze2 (by decide)] | rw [zd1 (by decide)] | rw [zd2 (by decide)] | rw [zswy (by decide)] | rw [zswn (by decide)] | rw [zsw0] | rw [zd1 (q3)] | rw [zd2 (q3)])
        refine zR.putf rfl (zup_self _ _ _) rfl rfl ?_
        rw [zup_up]
        repeat (first | ((with_reducible refine zR.stored ?_); dsimp only [zsto, zclr, zset, zget, zc2, cond_false, cond_true]) | ((with_reducible refine zR.atLit ?_); first | refine zR.step rfl ?_ | refine zR.getf rfl (zup_self _ _ _) rfl ?_ | refine zR.getf rfl (gc _) rfl ?_) | rw [zcc1] | rw [zcc2] | rw [zcc3] | rw [zcc4] | rw [zb1 (by decide)] | rw [zb2 (by decide)] | rw [zb3 (by decide)] | rw [zb4 (by decide)] | rw [zn1 (by decide)] | rw [zn2 (by decide)] | rw [zn3 (by decide)] | rw [zn4 (by decide)] | rw [ze1 (by decide)] | rw [ze2 (by decide)] | rw [zd1 (by decide)] | rw [zd2 (by decide)] | rw [zswy (by decide)] | rw [zswn (by decide)] | rw [zsw0] | rw [zd1 (q3)] | rw [zd2 (q3)])
        refine zR.ret rfl rfl ?_
        repeat (first | ((with_reducible refine zR.stored ?_); dsimp only [zsto, zclr, zset, zget, zc2, cond_false, cond_true]) | ((with_reducible refine zR.atLit ?_); first | refine zR.step rfl ?_) | rw [zcc1] | rw [zcc2] | rw [zcc3] | rw [zcc4])
        exact zR.ret rfl rfl hQ
    by_cases k4 : kd = 4
    · subst k4
      rw [if_neg (by decide), if_neg (by decide), if_pos rfl] at hQ
      repeat (first | ((with_reducible refine zR.stored ?_); dsimp only [zsto, zclr, zset, zget, zc2, cond_false, cond_true]) | ((with_reducible refine zR.atLit ?_); first | refine zR.step rfl ?_ | refine zR.getf rfl (zup_self _ _ _) rfl ?_ | refine zR.getf rfl (gc _) rfl ?_) | rw [zcc1] | rw [zcc2] | rw [zcc3] | rw [zcc4] | rw [zb1 (by decide)] | rw [zb2 (by decide)] | rw [zb3 (by decide)] | rw [zb4 (by decide)] | rw [zn1 (by decide)] | rw [zn2 (by decide)] | rw [zn3 (by decide)] | rw [zn4 (by decide)] | rw [ze1 (by decide)] | rw [ze2 (by decide)] | rw [zd1 (by decide)] | rw [zd2 (by decide)] | rw [zswy (by decide)] | rw [zswn (by decide)] | rw [zsw0])
      refine zR.putf rfl (zup_self _ _ _) rfl rfl ?_
      rw [zup_up]
      repeat (first | ((with_reducible refine zR.stored ?_); dsimp only [zsto, zclr, zset, zget, zc2, cond_false, cond_true]) | ((with_reducible refine zR.atLit ?_); first | refine zR.step rfl ?_ | refine zR.getf rfl (zup_self _ _ _) rfl ?_ | refine zR.getf rfl (gc _) rfl ?_) | rw [zcc1] | rw [zcc2] | rw [zcc3] | rw [zcc4] | rw [zb1 (by decide)] | rw [zb2 (by decide)] | rw [zb3 (by decide)] | rw [zb4 (by decide)] | rw [zn1 (by decide)] | rw [zn2 (by decide)] | rw [zn3 (by decide)] | rw [zn4 (by decide)] | rw [ze1 (by decide)] | rw [ze2 (by decide)] | rw [zd1 (by decide)] | rw [zd2 (by decide)] | rw [zswy (by decide)] | rw [zswn (by decide)] | rw [zsw0])
      refine zR.ret rfl rfl ?_
      repeat (first | ((with_reducible refine zR.stored ?_); dsimp only [zsto, zclr, zset, zget, zc2, cond_false, cond_true]) | ((with_reducible refine zR.atLit ?_); first | refine zR.step rfl ?_) | rw [zcc1] | rw [zcc2] | rw [zcc3] | rw [zcc4])
      exact zR.ret rfl rfl hQ
    rw [if_neg k2, if_neg k3, if_neg k4] at hQ
    repeat (first | ((with_reducible refine zR.stored ?_); dsimp only [zsto, zclr, zset, zget, zc2, cond_false, cond_true]) | ((with_reducible refine zR.atLit ?_); first | refine zR.step rfl ?_ | refine zR.getf rfl (zup_self _ _ _) rfl ?_ | refine zR.getf rfl (gc _) rfl ?_) | rw [zcc1] | rw [zcc2] | rw [zcc3] | rw [zcc4] | rw [zswn k2] | rw [zswn k3] | rw [zswn k4] | rw [zsw0])
    refine zR.putf rfl (zup_self _ _ _) rfl rfl ?_
    rw [zup_up]
    repeat (first | ((with_reducible refine zR.stored ?_); dsimp only [zsto, zclr, zset, zget, zc2, cond_false, cond_true]) | ((with_reducible refine zR.atLit ?_); first | refine zR.step rfl ?_ | refine zR.getf rfl (zup_self _ _ _) rfl ?_ | refine zR.getf rfl (gc _) rfl ?_) | rw [zcc1] | rw [zcc2] | rw [zcc3] | rw [zcc4] | rw [zswn k2] | rw [zswn k3] | rw [zswn k4] | rw [zsw0])
    refine zR.putf rfl (zup_self _ _ _) rfl rfl ?_
    rw [zup_up]
    repeat (first | ((with_reducible refine zR.stored ?_); dsimp only [zsto, zclr, zset, zget, zc2, cond_false, cond_true]) | ((with_reducible refine zR.atLit ?_); first | refine zR.step rfl ?_ | refine zR.getf rfl (zup_self _ _ _) rfl ?_ | refine zR.getf rfl (gc _) rfl ?_) | rw [zcc1] | rw [zcc2] | rw [zcc3] | rw [zcc4] | rw [zswn k2] | rw [zswn k3] | rw [zswn k4] | rw [zsw0])
    refine zR.ret rfl rfl ?_
    repeat (first | ((with_reducible refine zR.stored ?_); dsimp only [zsto, zclr, zset, zget, zc2, cond_false, cond_true]) | ((with_reducible refine zR.atLit ?_); first | refine zR.step rfl ?_) | rw [zcc1] | rw [zcc2] | rw [zcc3] | rw [zcc4])
    exact zR.ret rfl rfl hQ
