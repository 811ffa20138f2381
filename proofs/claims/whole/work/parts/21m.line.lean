
/-! lines: the class reads a line and all lines. -/
def LFr (M M' : zM) : Prop := ∀ k, (k < 32 ∨ 40 ≤ k) → M' k = M k
theorem LFr.tr {M M1 M2 : zM} (h : LFr M M1) (h' : LFr M1 M2) : LFr M M2 := fun k a => (h' k a).trans (h k a)
theorem CFr.l {M M' : zM} (h : CFr M M') : LFr M M' := fun k a => h k (by omega) (by omega)
theorem LFr.tk {M M' : zM} {K V : Nat → Int32} {m : Nat} (h : LFr M M') (hK : TKR M K V m) : TKR M' K V m := hK.mv (fun k a b => h k (by omega))
theorem PCs.mv {M M' : zM} {K V : Nat → Int32} {fk fp lc : Int32} {i : Nat} {l : List gStp} (h : PCs M K V fk fp lc i l) (hs : ∀ k, 32 ≤ k → k < 40 → ¬ (33 ≤ k ∧ k < 36) → M' k = M k) : PCs M' K V fk fp lc i l := by
  obtain ⟨h32, a0, a1, a2, a3, h36, h37, h38, h39, hl⟩ := h
  exact ⟨by rw [hs _ (by omega) (by omega) (by omega)]; exact h32, a0, a1, a2, a3, by rw [hs _ (by omega) (by omega) (by omega)]; exact h36, by rw [hs _ (by omega) (by omega) (by omega)]; exact h37, by rw [hs _ (by omega) (by omega) (by omega)]; exact h38, by rw [hs _ (by omega) (by omega) (by omega)]; exact h39, hl⟩
section
variable {K V : Nat → Int32} {S : Nat → Nat} {m : Nat}
/-- what reading a line leaves -/
def LQ (K V : Nat → Int32) (M0 : zM) (fk fp : Int32) (i ln : Nat) (ls : List gLn) (r : gRes) (v : Option Value) (M' : zM) : Prop := v = some (.int (b32 r.1)) ∧ LFr M0 M' ∧ ∃ lc, PCs M' K V fk fp lc r.2.1 r.2.2 ∧ LL M' [] ∧ (r.1 = true → lc = nI (ln + 1) ∧ LL M' (ls ++ [(K i, V (i + 1), r.2.2.length)]))
theorem LL.nil {M : zM} {ls : List gLn} (h : LL M ls) : LL M [] := by
  obtain ⟨a0, a1, a2, h0, h1, h2, h3⟩ := h
  exact ⟨a0, a1, a2, h0, h1, h2, fun k hk => absurd hk (Nat.not_lt_zero _)⟩
theorem rl_end {M M0 : zM} {a0 a1 : Nat → Int32} {fk fp lc : Int32} {i ln : Nat} {ls : List gLn} {r : gRes} {d n w : Nat} (hT : TE K S m) (hln : ln < 20) (hL : ls.length = ln) (hP : PCs M K V fk fp lc r.2.1 r.2.2) (hK : TKR M K V m) (hF : LFr M0 M) (hi : r.2.1 ≤ m) (hr : r.1 = true) (h33 : M 33 = .inl (0, 20, .inl (zuf a0 ln (K i)))) (h34 : M 34 = .inl (0, 20, .inl (zuf a1 ln (V (i + 1))))) {a2 : Nat → Int32} (h35 : M 35 = .inl (0, 20, .inl a2)) (hl : ∀ k, k < ls.length → ∃ e, ls[k]? = some (a0 k, a1 k, e) ∧ a2 k = nI e) : zR ztb (d + 1) kX4_readLine 2 69 [some (.ref 32), some (.int (nI ln))] [] n w M (fun v n' w' M' => n = n' ∧ w = w' ∧ LQ K V M0 fk fp i ln ls (pSm K r) v M') := by
  obtain ⟨b, j, l⟩ := r
  dsimp only at hP hi hr
  subst hr
  have h32 := hP.1
  repeat (first | ((with_reducible refine zR.stored ?_); dsimp only [zsto, zclr, zset, zget, zc2, cond_false, cond_true]) | ((with_reducible refine zR.atLit ?_); first | refine zR.step rfl ?_ | refine zR.getf rfl h32 rfl ?_) | rw [zcc1] | rw [zcc2] | rw [zcc3] | rw [zcc4])
  refine zR.iast rfl h35 (i := ln) rfl (by omega) (by decide) ?_
  obtain ⟨M1, e1⟩ : ∃ M1, M1 = zup M 35 (.inl (0, 20, .inl (zuf a2 ln (nI l.length)))) := ⟨_, rfl⟩
  rw [← e1]
  have f1 : ∀ k, k ≠ 35 → M1 k = M k := fun k hk => by rw [e1, zup_ne _ _ hk]
  have g35 : M1 35 = .inl (0, 20, .inl (zuf a2 ln (nI l.length))) := by rw [e1, zup_self]
  have hP1 := hP.mv (M' := M1) (fun k a b c => f1 k (by omega))
  have k32 := hP1.1
  repeat (first | ((with_reducible refine zR.stored ?_); dsimp only [zsto, zclr, zset, zget, zc2, cond_false, cond_true]) | ((with_reducible refine zR.atLit ?_); first | refine zR.step rfl ?_) | rw [zcc1] | rw [zcc2] | rw [zcc3] | rw [zcc4])
  refine zR.putf rfl k32 rfl rfl ?_
  obtain ⟨M2, e2⟩ : ∃ M2, M2 = zup M1 32 (.inr (4, [.ref 28, .int (nI j), .int (K j), .int (if j = 0 then 0 else V j), .int fk, .int fp, .int (nI (ln + 1)), .int (nI l.length), .ref 33, .ref 34, .ref 35, .ref 36, .ref 37, .ref 38, .ref 39])) := ⟨_, rfl⟩
  rw [zI_s]
  refine (?_ : zR ztb (d + 1) kX4_readLine 2 86 [some (.ref 32), some (.int (nI ln))] [] n w _ _)
  change zR ztb (d + 1) kX4_readLine 2 86 [some (.ref 32), some (.int (nI ln))] [] n w (zup M1 32 (.inr (4, [.ref 28, .int (nI j), .int (K j), .int (if j = 0 then 0 else V j), .int fk, .int fp, .int (nI (ln + 1)), .int (nI l.length), .ref 33, .ref 34, .ref 35, .ref 36, .ref 37, .ref 38, .ref 39]))) _
  rw [← e2]
  have f2 : ∀ k, k ≠ 32 → M2 k = M1 k := fun k hk => by rw [e2, zup_ne _ _ hk]
  have hP2 : PCs M2 K V fk fp (nI (ln + 1)) j l := by
    obtain ⟨-, a0, a1, a2, a3, h36, h37, h38, h39, hl⟩ := hP1
    exact ⟨by rw [e2, zup_self], a0, a1, a2, a3, by rw [f2 _ (by omega)]; exact h36, by rw [f2 _ (by omega)]; exact h37, by rw [f2 _ (by omega)]; exact h38, by rw [f2 _ (by omega)]; exact h39, hl⟩
  have hF2 : LFr M0 M2 := hF.tr (fun k hk => by rw [f2 _ (by omega), f1 _ (by omega)])
  have hK2 : TKR M2 K V m := hK.mv (fun k a b => by rw [f2 _ (by omega), f1 _ (by omega)])
  have hL2 : LL M2 (ls ++ [(K i, V (i + 1), l.length)]) := by
    refine ⟨zuf a0 ln (K i), zuf a1 ln (V (i + 1)), zuf a2 ln (nI l.length), by rw [f2 _ (by omega), f1 _ (by omega)]; exact h33, by rw [f2 _ (by omega), f1 _ (by omega)]; exact h34, by rw [f2 _ (by omega)]; exact g35, fun k hk => ?_⟩
    rw [List.length_append] at hk
    by_cases e : k = ln
    · subst e
      rw [zuf_self, zuf_self, zuf_self, List.getElem?_append_right (by omega), hL, Nat.sub_self]
      exact ⟨_, rfl, rfl⟩
    · have hk' : k < ls.length := by
        have : k < ls.length + 1 := hk
        omega
      rw [zuf_ne _ _ e, zuf_ne _ _ e, zuf_ne _ _ e, List.getElem?_append_left hk']
      exact hl k hk'
  unfold pSm LQ
  dsimp only
  rw [if_pos rfl]
  repeat (first | ((with_reducible refine zR.stored ?_); dsimp only [zsto, zclr, zset, zget, zc2, cond_false, cond_true]) | ((with_reducible refine zR.atLit ?_); first | refine zR.step rfl ?_) | rw [zcc1] | rw [zcc2] | rw [zcc3] | rw [zcc4])
  by_cases q : K j = 8
  · have h8 := hT.oth (k := 8) hi q (by omega) (by omega)
    rw [if_pos q]
    refine zR.cv rfl rfl rfl hP2.1 rfl rfl (acc_y hT hP2 hK2 h8.1 q (fun M3 hP3 hK3 hF3 => ?_))
    repeat (first | ((with_reducible refine zR.stored ?_); dsimp only [zsto, zclr, zset, zget, zc2, cond_false, cond_true]) | ((with_reducible refine zR.atLit ?_); first | refine zR.step rfl ?_) | rw [zcc1] | rw [zcc2] | rw [zcc3] | rw [zcc4])
    have hL3 := hL2.mv (M' := M3) (fun k a b => hF3 k (by omega) (by omega))
    exact zR.ret rfl rfl ⟨rfl, rfl, rfl, hF2.tr hF3.l, _, hP3, hL3.nil, fun _ => ⟨rfl, hL3⟩⟩
  · rw [if_neg q]
    refine zR.cv rfl rfl rfl hP2.1 rfl rfl (zCalP.of (c_accept_n hP2 q) ?_)
    repeat (first | ((with_reducible refine zR.stored ?_); dsimp only [zsto, zclr, zset, zget, zc2, cond_false, cond_true]) | ((with_reducible refine zR.atLit ?_); first | refine zR.step rfl ?_) | rw [zcc1] | rw [zcc2] | rw [zcc3] | rw [zcc4])
    exact zR.ret rfl rfl ⟨rfl, rfl, rfl, hF2, _, hP2, hL2.nil, fun z => absurd (show false = true from z) (by decide)⟩
theorem c_readLine (hT : TE K S m) {M : zM} {fk fp lc : Int32} {i ln : Nat} {ls : List gLn} {l : List gStp} {d n w : Nat} (hP : PCs M K V fk fp lc i l) (hK : TKR M K V m) (hi : i ≤ m) (hl : 2 * l.length ≤ S i) (hln : ln < 20) (hL : ls.length = ln) (hLL : LL M ls) : zCalP (d + 23) 45 [.ref 32, .int (nI ln)] n w M (fun v n' w' M' => n = n' ∧ w = w' ∧ LQ K V M fk fp i ln ls (pLn K V i l) v M') := by
  obtain ⟨a0, a1, a2, h33, h34, h35, hll⟩ := hLL
  unfold pLn
  show zR ztb _ kX4_readLine 2 0 [some (.ref 32), some (.int (nI ln))] [] _ _ _ _
  repeat (first | ((with_reducible refine zR.stored ?_); dsimp only [zsto, zclr, zset, zget, zc2, cond_false, cond_true]) | ((with_reducible refine zR.atLit ?_); first | refine zR.step rfl ?_ | refine zR.getf rfl hP.1 rfl ?_) | rw [zcc1] | rw [zcc2] | rw [zcc3] | rw [zcc4])
  refine zR.iast rfl h33 (i := ln) rfl (by omega) (by decide) ?_
  obtain ⟨M1, e1⟩ : ∃ M1, M1 = zup M 33 (.inl (0, 20, .inl (zuf a0 ln (K i)))) := ⟨_, rfl⟩
  rw [← e1]
  have f1 : ∀ k, k ≠ 33 → M1 k = M k := fun k hk => by rw [e1, zup_ne _ _ hk]
  have g33 : M1 33 = .inl (0, 20, .inl (zuf a0 ln (K i))) := by rw [e1, zup_self]
  have g34 : M1 34 = .inl (0, 20, .inl a1) := by rw [f1 _ (by omega)]; exact h34
  have g35 : M1 35 = .inl (0, 20, .inl a2) := by rw [f1 _ (by omega)]; exact h35
  have hP1 := hP.mv (M' := M1) (fun k a b c => f1 k (by omega))
  have hF1 : LFr M M1 := fun k hk => f1 k (by omega)
  have hK1 := hF1.tk hK
  have n0 : ∀ (M' : zM) (b0 b1 b2 : Nat → Int32), M' 33 = .inl (0, 20, .inl b0) → M' 34 = .inl (0, 20, .inl b1) → M' 35 = .inl (0, 20, .inl b2) → LL M' [] := fun M' b0 b1 b2 x y z => ⟨b0, b1, b2, x, y, z, fun k hk => absurd hk (Nat.not_lt_zero _)⟩
  have tl : ∀ M2, i + 1 ≤ m → S i ≤ S (i + 1) → PCs M2 K V fk fp lc (i + 1) l → TKR M2 K V m → CFr M1 M2 → zR ztb (d + 23) kX4_readLine 2 30 [some (.ref 32), some (.int (nI ln))] [] n w M2 (fun v n' w' M' => n = n' ∧ w = w' ∧ LQ K V M fk fp i ln ls (if K (i + 1) = 3 then pSm K (pWh K V (i + 2) l) else (false, i + 1, l)) v M') := by
    intro M2 hi1 hs1 hP2 hK2 hF2
    have h32 := hP2.1
    rw [if_neg (show ¬ i + 1 = 0 by omega)] at h32
    have k33 : M2 33 = .inl (0, 20, .inl (zuf a0 ln (K i))) := by rw [hF2 _ (by omega) (by omega)]; exact g33
    have k34 : M2 34 = .inl (0, 20, .inl a1) := by rw [hF2 _ (by omega) (by omega)]; exact g34
    have k35 : M2 35 = .inl (0, 20, .inl a2) := by rw [hF2 _ (by omega) (by omega)]; exact g35
    repeat (first | ((with_reducible refine zR.stored ?_); dsimp only [zsto, zclr, zset, zget, zc2, cond_false, cond_true]) | ((with_reducible refine zR.atLit ?_); first | refine zR.step rfl ?_ | refine zR.getf rfl h32 rfl ?_) | rw [zcc1] | rw [zcc2] | rw [zcc3] | rw [zcc4])
    refine zR.iast rfl k34 (i := ln) rfl (by omega) (by decide) ?_
    obtain ⟨M3, e3⟩ : ∃ M3, M3 = zup M2 34 (.inl (0, 20, .inl (zuf a1 ln (V (i + 1))))) := ⟨_, rfl⟩
    rw [← e3]
    have f3 : ∀ k, k ≠ 34 → M3 k = M2 k := fun k hk => by rw [e3, zup_ne _ _ hk]
    have l33 : M3 33 = .inl (0, 20, .inl (zuf a0 ln (K i))) := by rw [f3 _ (by omega)]; exact k33
    have l34 : M3 34 = .inl (0, 20, .inl (zuf a1 ln (V (i + 1)))) := by rw [e3, zup_self]
    have l35 : M3 35 = .inl (0, 20, .inl a2) := by rw [f3 _ (by omega)]; exact k35
    have hP3 := hP2.mv (M' := M3) (fun k a b c => f3 k (by omega))
    have hF3 : LFr M M3 := (hF1.tr hF2.l).tr (fun k hk => f3 k (by omega))
    have hK3 := hF3.tk hK
    repeat (first | ((with_reducible refine zR.stored ?_); dsimp only [zsto, zclr, zset, zget, zc2, cond_false, cond_true]) | ((with_reducible refine zR.atLit ?_); first | refine zR.step rfl ?_) | rw [zcc1] | rw [zcc2] | rw [zcc3] | rw [zcc4])
    by_cases q3 : K (i + 1) = 3
    · have h3 : i + 2 ≤ m ∧ S (i + 1) ≤ S (i + 2) := hT.oth (k := 3) hi1 q3 (by omega) (by omega)
      rw [if_pos q3]
      refine zR.cv rfl rfl rfl hP3.1 rfl rfl (acc_y hT hP3 hK3 h3.1 q3 (fun M4 hP4 hK4 hF4 => ?_))
      have m33 : M4 33 = .inl (0, 20, .inl (zuf a0 ln (K i))) := by rw [hF4 _ (by omega) (by omega)]; exact l33
      have m34 : M4 34 = .inl (0, 20, .inl (zuf a1 ln (V (i + 1)))) := by rw [hF4 _ (by omega) (by omega)]; exact l34
      have m35 : M4 35 = .inl (0, 20, .inl a2) := by rw [hF4 _ (by omega) (by omega)]; exact l35
      have hF4' := hF3.tr hF4.l
      repeat (first | ((with_reducible refine zR.stored ?_); dsimp only [zsto, zclr, zset, zget, zc2, cond_false, cond_true]) | ((with_reducible refine zR.atLit ?_); first | refine zR.step rfl ?_) | rw [zcc1] | rw [zcc2] | rw [zcc3] | rw [zcc4] | rw [zb1 (by decide)] | rw [zb2 (by decide)] | rw [zb3 (by decide)] | rw [zb4 (by decide)] | rw [zn1 (by decide)] | rw [zn2 (by decide)] | rw [zn3 (by decide)] | rw [zn4 (by decide)] | rw [ze1 (by decide)] | rw [ze2 (by decide)] | rw [zd1 (by decide)] | rw [zd2 (by decide)] | rw [zswy (by decide)] | rw [zswn (by decide)] | rw [zsw0])
      unfold pWh
      by_cases q12 : K (i + 2) = 12
      · have h4 : i + 3 ≤ m ∧ S (i + 2) + 2 ≤ S (i + 3) := hT.key (k := 12) h3.1 q12 (by omega) (by omega)
        rw [if_pos q12]
        refine zR.cv rfl rfl rfl hP4.1 rfl rfl (acc_y hT hP4 hK4 h4.1 q12 (fun M5 hP5 hK5 hF5 => ?_))
        repeat (first | ((with_reducible refine zR.stored ?_); dsimp only [zsto, zclr, zset, zget, zc2, cond_false, cond_true]) | ((with_reducible refine zR.atLit ?_); first | refine zR.step rfl ?_) | rw [zcc1] | rw [zcc2] | rw [zcc3] | rw [zcc4] | rw [zb1 (by decide)] | rw [zb2 (by decide)] | rw [zb3 (by decide)] | rw [zb4 (by decide)] | rw [zn1 (by decide)] | rw [zn2 (by decide)] | rw [zn3 (by decide)] | rw [zn4 (by decide)] | rw [ze1 (by decide)] | rw [ze2 (by decide)] | rw [zd1 (by decide)] | rw [zd2 (by decide)] | rw [zswy (by decide)] | rw [zswn (by decide)] | rw [zsw0])
        have hg := GD.not (K := K) (V := V) (S := S) (m := m) hT 6
        have hO : CQ K V S m (d + 22) 46 [.int 0] (pOr K (pNot K V 6)) := c_readOr hT (D := d + 21) (c_readAnd hT (D := d + 20) (c_readNot hT 6 0 (d + 20) (by omega) (by omega)) hg) (GD.and hT hg)
        refine zR.cv rfl rfl rfl hP5.1 rfl rfl (zR.mono (hO M5 (i + 2 + 1) l _ _ _ _ _ hP5 hK5 h4.1 (by show 2 * l.length ≤ S (i + 3); omega)) (fun v n1 w1 M6 hv => ?_))
        obtain ⟨rfl, rfl, rfl, hP6, hF6⟩ := hv
        have go := GD.or hT hg (i + 2 + 1) l h4.1
        have hF56 := hF5.tr hF6
        have p33 : M6 33 = .inl (0, 20, .inl (zuf a0 ln (K i))) := by rw [hF56 _ (by omega) (by omega)]; exact m33
        have p34 : M6 34 = .inl (0, 20, .inl (zuf a1 ln (V (i + 1)))) := by rw [hF56 _ (by omega) (by omega)]; exact m34
        have p35 : M6 35 = .inl (0, 20, .inl a2) := by rw [hF56 _ (by omega) (by omega)]; exact m35
        have hK6 := hF6.tk hK5
        have hF6' := hF4'.tr hF56.l
        generalize pOr K (pNot K V 6) (i + 2 + 1) l = r at *
        cases y : r.1 with
        | true =>
          repeat (first | with_reducible refine zR.hold (pc := 69) ?_ | ((with_reducible refine zR.stored ?_); dsimp only [zsto, zclr, zset, zget, zc2, cond_false, cond_true]) | ((with_reducible refine zR.atLit ?_); first | refine zR.step rfl ?_) | rw [zcc1] | rw [zcc2] | rw [zcc3] | rw [zcc4] | rw [b32_t] | rw [zb1 (by decide)] | rw [zb2 (by decide)] | rw [zb3 (by decide)] | rw [zb4 (by decide)] | rw [zn1 (by decide)] | rw [zn2 (by decide)] | rw [zn3 (by decide)] | rw [zn4 (by decide)] | rw [ze1 (by decide)] | rw [ze2 (by decide)] | rw [zd1 (by decide)] | rw [zd2 (by decide)] | rw [zswy (by decide)] | rw [zswn (by decide)] | rw [zsw0])
          exact ⟨trivial, rl_end hT hln hL hP6 hK6 hF6' go.2.1 y p33 p34 p35 hll⟩
        | false =>
          repeat (first | ((with_reducible refine zR.stored ?_); dsimp only [zsto, zclr, zset, zget, zc2, cond_false, cond_true]) | ((with_reducible refine zR.atLit ?_); first | refine zR.step rfl ?_) | rw [zcc1] | rw [zcc2] | rw [zcc3] | rw [zcc4] | rw [b32_f] | rw [zb1 (by decide)] | rw [zb2 (by decide)] | rw [zb3 (by decide)] | rw [zb4 (by decide)] | rw [zn1 (by decide)] | rw [zn2 (by decide)] | rw [zn3 (by decide)] | rw [zn4 (by decide)] | rw [ze1 (by decide)] | rw [ze2 (by decide)] | rw [zd1 (by decide)] | rw [zd2 (by decide)] | rw [zswy (by decide)] | rw [zswn (by decide)] | rw [zsw0])
          unfold pSm LQ
          rw [y, if_neg (by decide), y]
          exact zR.ret rfl rfl ⟨rfl, rfl, rfl, hF6', _, hP6, n0 _ _ _ _ p33 p34 p35, fun z => absurd (show false = true from z) (by decide)⟩
      · rw [if_neg q12]
        refine zR.cv rfl rfl rfl hP4.1 rfl rfl (zCalP.of (c_accept_n hP4 q12) ?_)
        repeat (first | with_reducible refine zR.hold (pc := 69) ?_ | ((with_reducible refine zR.stored ?_); dsimp only [zsto, zclr, zset, zget, zc2, cond_false, cond_true]) | ((with_reducible refine zR.atLit ?_); first | refine zR.step rfl ?_) | rw [zcc1] | rw [zcc2] | rw [zcc3] | rw [zcc4] | rw [zb1 (by decide)] | rw [zb2 (by decide)] | rw [zb3 (by decide)] | rw [zb4 (by decide)] | rw [zn1 (by decide)] | rw [zn2 (by decide)] | rw [zn3 (by decide)] | rw [zn4 (by decide)] | rw [ze1 (by decide)] | rw [ze2 (by decide)] | rw [zd1 (by decide)] | rw [zd2 (by decide)] | rw [zswy (by decide)] | rw [zswn (by decide)] | rw [zsw0])
        exact ⟨trivial, rl_end (r := (true, i + 2, l)) hT hln hL hP4 hK4 hF4' h3.1 rfl m33 m34 m35 hll⟩
    · rw [if_neg q3]
      refine zR.cv rfl rfl rfl hP3.1 rfl rfl (zCalP.of (c_accept_n hP3 q3) ?_)
      repeat (first | ((with_reducible refine zR.stored ?_); dsimp only [zsto, zclr, zset, zget, zc2, cond_false, cond_true]) | ((with_reducible refine zR.atLit ?_); first | refine zR.step rfl ?_) | rw [zcc1] | rw [zcc2] | rw [zcc3] | rw [zcc4] | rw [zb1 (by decide)] | rw [zb2 (by decide)] | rw [zb3 (by decide)] | rw [zb4 (by decide)] | rw [zn1 (by decide)] | rw [zn2 (by decide)] | rw [zn3 (by decide)] | rw [zn4 (by decide)] | rw [ze1 (by decide)] | rw [ze2 (by decide)] | rw [zd1 (by decide)] | rw [zd2 (by decide)] | rw [zswy (by decide)] | rw [zswn (by decide)] | rw [zsw0])
      exact zR.ret rfl rfl ⟨rfl, rfl, rfl, hF3, _, hP3, n0 _ _ _ _ l33 l34 l35, fun z => absurd (show false = true from z) (by decide)⟩
  repeat (first | ((with_reducible refine zR.stored ?_); dsimp only [zsto, zclr, zset, zget, zc2, cond_false, cond_true]) | ((with_reducible refine zR.atLit ?_); first | refine zR.step rfl ?_) | rw [zcc1] | rw [zcc2] | rw [zcc3] | rw [zcc4])
  by_cases q10 : K i = 10
  · have hk := hT.key (k := 10) hi q10 (by omega) (by omega)
    rw [if_pos (Or.inl q10)]
    refine zR.cv rfl rfl rfl hP1.1 rfl rfl (acc_y hT hP1 hK1 hk.1 q10 (fun M2 hP2 hK2 hF2 => ?_))
    repeat (first | with_reducible refine zR.hold (pc := 30) ?_ | ((with_reducible refine zR.stored ?_); dsimp only [zsto, zclr, zset, zget, zc2, cond_false, cond_true]) | ((with_reducible refine zR.atLit ?_); first | refine zR.step rfl ?_) | rw [zcc1] | rw [zcc2] | rw [zcc3] | rw [zcc4] | rw [zb1 (by decide)] | rw [zb2 (by decide)] | rw [zb3 (by decide)] | rw [zb4 (by decide)] | rw [zn1 (by decide)] | rw [zn2 (by decide)] | rw [zn3 (by decide)] | rw [zn4 (by decide)] | rw [ze1 (by decide)] | rw [ze2 (by decide)] | rw [zd1 (by decide)] | rw [zd2 (by decide)] | rw [zswy (by decide)] | rw [zswn (by decide)] | rw [zsw0])
    exact ⟨trivial, tl M2 hk.1 (by omega) hP2 hK2 hF2⟩
  · refine zR.cv rfl rfl rfl hP1.1 rfl rfl (zCalP.of (c_accept_n hP1 q10) ?_)
    repeat (first | ((with_reducible refine zR.stored ?_); dsimp only [zsto, zclr, zset, zget, zc2, cond_false, cond_true]) | ((with_reducible refine zR.atLit ?_); first | refine zR.step rfl ?_) | rw [zcc1] | rw [zcc2] | rw [zcc3] | rw [zcc4] | rw [zb1 (by decide)] | rw [zb2 (by decide)] | rw [zb3 (by decide)] | rw [zb4 (by decide)] | rw [zn1 (by decide)] | rw [zn2 (by decide)] | rw [zn3 (by decide)] | rw [zn4 (by decide)] | rw [ze1 (by decide)] | rw [ze2 (by decide)] | rw [zd1 (by decide)] | rw [zd2 (by decide)] | rw [zswy (by decide)] | rw [zswn (by decide)] | rw [zsw0])
    by_cases q11 : K i = 11
    · have hk := hT.key (k := 11) hi q11 (by omega) (by omega)
      rw [if_pos (Or.inr q11)]
      refine zR.cv rfl rfl rfl hP1.1 rfl rfl (acc_y hT hP1 hK1 hk.1 q11 (fun M2 hP2 hK2 hF2 => ?_))
      repeat (first | with_reducible refine zR.hold (pc := 30) ?_ | ((with_reducible refine zR.stored ?_); dsimp only [zsto, zclr, zset, zget, zc2, cond_false, cond_true]) | ((with_reducible refine zR.atLit ?_); first | refine zR.step rfl ?_) | rw [zcc1] | rw [zcc2] | rw [zcc3] | rw [zcc4] | rw [zb1 (by decide)] | rw [zb2 (by decide)] | rw [zb3 (by decide)] | rw [zb4 (by decide)] | rw [zn1 (by decide)] | rw [zn2 (by decide)] | rw [zn3 (by decide)] | rw [zn4 (by decide)] | rw [ze1 (by decide)] | rw [ze2 (by decide)] | rw [zd1 (by decide)] | rw [zd2 (by decide)] | rw [zswy (by decide)] | rw [zswn (by decide)] | rw [zsw0])
      exact ⟨trivial, tl M2 hk.1 (by omega) hP2 hK2 hF2⟩
    · rw [if_neg (fun z => z.elim q10 q11)]
      refine zR.cv rfl rfl rfl hP1.1 rfl rfl (zCalP.of (c_accept_n hP1 q11) ?_)
      repeat (first | ((with_reducible refine zR.stored ?_); dsimp only [zsto, zclr, zset, zget, zc2, cond_false, cond_true]) | ((with_reducible refine zR.atLit ?_); first | refine zR.step rfl ?_) | rw [zcc1] | rw [zcc2] | rw [zcc3] | rw [zcc4] | rw [zb1 (by decide)] | rw [zb2 (by decide)] | rw [zb3 (by decide)] | rw [zb4 (by decide)] | rw [zn1 (by decide)] | rw [zn2 (by decide)] | rw [zn3 (by decide)] | rw [zn4 (by decide)] | rw [ze1 (by decide)] | rw [ze2 (by decide)] | rw [zd1 (by decide)] | rw [zd2 (by decide)] | rw [zswy (by decide)] | rw [zswn (by decide)] | rw [zsw0])
      exact zR.ret rfl rfl ⟨rfl, rfl, rfl, hF1, _, hP1, n0 _ _ _ _ g33 g34 g35, fun z => absurd (show false = true from z) (by decide)⟩
end
