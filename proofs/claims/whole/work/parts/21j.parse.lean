
/-! lines: the grammar. -/
abbrev gStp : Type := Int32 × Int32 × Int32 × Int32
abbrev gRes : Type := Bool × Nat × List gStp
def pSt (key : Int32) (r : gRes) : gRes := (r.1, r.2.1, if r.1 = true then r.2.2 ++ [(key, 0, 0, 0)] else r.2.2)
section
variable (K V : Nat → Int32)
def pCmp (sj cr : Int32) (j : Nat) (l : List gStp) : gRes := if K j = 4 ∨ K j = 5 then (if K (j + 1) = 2 then (true, j + 2, l ++ [(K j, sj, cr, V (j + 1))]) else (false, j + 1, l)) else (false, j, l)
def pTst (i : Nat) (l : List gStp) : gRes := if K i = 16 ∨ K i = 17 then (if K (i + 1) = 3 then pCmp K V (K i) (V (i + 1)) (i + 2) l else (false, i + 1, l)) else if K i = 18 ∨ K i = 19 then pCmp K V (K i) 0 (i + 1) l else (false, i, l)
def pLp (key : Int32) (q : Nat → List gStp → gRes) : Nat → gRes → gRes
  | 0, r => r
  | f + 1, r => if r.1 = true ∧ K r.2.1 = key then pLp key q f (pSt key (q (r.2.1 + 1) r.2.2)) else r
def pAnd (q : Nat → List gStp → gRes) (i : Nat) (l : List gStp) : gRes := pLp K 13 q 200 (q i l)
def pOr (q : Nat → List gStp → gRes) (i : Nat) (l : List gStp) : gRes := pLp K 14 (pAnd K q) 200 (pAnd K q i l)
def pCl (r : gRes) : gRes := if r.1 = true then (if K r.2.1 = 7 then (true, r.2.1 + 1, r.2.2) else (false, r.2.1, r.2.2)) else r
def pNot : Nat → Nat → List gStp → gRes
  | 0 => fun i l => (false, i, l)
  | d + 1 => fun i l => if K i = 15 then pSt 15 (pNot d (i + 1) l) else if K i = 6 then pCl K (pOr K (pNot d) (i + 1) l) else pTst K V i l
end
/-- tokens: kinds, values, where they begin; m is the last -/
def TE (K : Nat → Int32) (S : Nat → Nat) (m : Nat) : Prop := (K m = 0 ∨ K m = 1) ∧ (∀ q, q < m → ¬ K q = 0 ∧ ¬ K q = 1) ∧ m ≤ 200 ∧ (∀ q, q < m → S q ≤ S (q + 1)) ∧ (∀ q, q < m → (∃ k, 10 ≤ k ∧ k ≤ 19 ∧ K q = nI k) → S q + 2 ≤ S (q + 1)) ∧ ∀ q, q ≤ m → S q ≤ 200
theorem TE.lt {K : Nat → Int32} {S : Nat → Nat} {m i : Nat} (h : TE K S m) (hi : i ≤ m) (h0 : ¬ K i = 0) (h1 : ¬ K i = 1) : i + 1 ≤ m := by
  by_cases e : i = m
  · subst e
    rcases h.1 with z | z
    · exact absurd z h0
    · exact absurd z h1
  · omega
theorem TE.key {K : Nat → Int32} {S : Nat → Nat} {m i k : Nat} (h : TE K S m) (hi : i ≤ m) (hk : K i = nI k) (h1 : 10 ≤ k) (h2 : k ≤ 19) : i + 1 ≤ m ∧ S i + 2 ≤ S (i + 1) := by
  have := h.lt hi (by rw [hk]; exact fun z => by have := zn_inj (a := k) (b := 0) (by omega) (by omega) z; omega) (by rw [hk]; exact fun z => by have := zn_inj (a := k) (b := 1) (by omega) (by omega) z; omega)
  exact ⟨this, h.2.2.2.2.1 i (by omega) ⟨k, h1, h2, hk⟩⟩
theorem TE.oth {K : Nat → Int32} {S : Nat → Nat} {m i k : Nat} (h : TE K S m) (hi : i ≤ m) (hk : K i = nI k) (h1 : 2 ≤ k) (h2 : k ≤ 19) : i + 1 ≤ m ∧ S i ≤ S (i + 1) := by
  have := h.lt hi (by rw [hk]; exact fun z => by have := zn_inj (a := k) (b := 0) (by omega) (by omega) z; omega) (by rw [hk]; exact fun z => by have := zn_inj (a := k) (b := 1) (by omega) (by omega) z; omega)
  exact ⟨this, h.2.2.2.1 i (by omega)⟩
/-- how far a reading may go, and how many steps it may lay -/
def GD (S : Nat → Nat) (m i : Nat) (l : List gStp) (r : gRes) : Prop := i ≤ r.2.1 ∧ r.2.1 ≤ m ∧ S i ≤ S r.2.1 ∧ 2 * r.2.2.length + S i ≤ 2 * l.length + S r.2.1
section
variable {K V : Nat → Int32} {S : Nat → Nat} {m : Nat}
theorem GD.cmp (hT : TE K S m) {sj cr : Int32} {i j : Nat} {l : List gStp} (hij : i ≤ j) (hj : j ≤ m) (hs : S i + 2 ≤ S j) : GD S m i l (pCmp K V sj cr j l) := by
  unfold pCmp GD
  by_cases q : K j = 4 ∨ K j = 5
  · rw [if_pos q]
    have h1 : j + 1 ≤ m ∧ S j ≤ S (j + 1) := by
      rcases q with q | q
      · exact hT.oth (k := 4) hj q (by omega) (by omega)
      · exact hT.oth (k := 5) hj q (by omega) (by omega)
    by_cases q2 : K (j + 1) = 2
    · rw [if_pos q2]
      have h2 := hT.oth (k := 2) h1.1 q2 (by omega) (by omega)
      dsimp only
      rw [List.length_append, show j + 2 = j + 1 + 1 from rfl]
      exact ⟨by omega, by omega, by omega, by show 2 * (l.length + 1) + S i ≤ _; omega⟩
    · rw [if_neg q2]
      dsimp only
      exact ⟨by omega, by omega, by omega, by omega⟩
  · rw [if_neg q]
    dsimp only
    exact ⟨by omega, by omega, by omega, by omega⟩
theorem GD.tst (hT : TE K S m) {i : Nat} {l : List gStp} (hi : i ≤ m) : GD S m i l (pTst K V i l) := by
  unfold pTst
  by_cases q : K i = 16 ∨ K i = 17
  · rw [if_pos q]
    have h1 : i + 1 ≤ m ∧ S i + 2 ≤ S (i + 1) := by
      rcases q with q | q
      · exact hT.key (k := 16) hi q (by omega) (by omega)
      · exact hT.key (k := 17) hi q (by omega) (by omega)
    by_cases q2 : K (i + 1) = 3
    · rw [if_pos q2]
      have h2 := hT.oth (k := 3) h1.1 q2 (by omega) (by omega)
      exact GD.cmp hT (by omega) (by omega) (by rw [show i + 2 = i + 1 + 1 from rfl]; omega)
    · rw [if_neg q2]
      unfold GD
      dsimp only
      exact ⟨by omega, by omega, by omega, by omega⟩
  · rw [if_neg q]
    by_cases q2 : K i = 18 ∨ K i = 19
    · rw [if_pos q2]
      have h1 : i + 1 ≤ m ∧ S i + 2 ≤ S (i + 1) := by
        rcases q2 with q | q
        · exact hT.key (k := 18) hi q (by omega) (by omega)
        · exact hT.key (k := 19) hi q (by omega) (by omega)
      exact GD.cmp hT (by omega) (by omega) (by omega)
    · rw [if_neg q2]
      unfold GD
      dsimp only
      exact ⟨by omega, by omega, by omega, by omega⟩
theorem GD.st {key : Int32} {i : Nat} {l : List gStp} {r : gRes} (hs : i + 1 ≤ m ∧ S i + 2 ≤ S (i + 1)) (h : GD S m (i + 1) l r) : GD S m i l (pSt key r) := by
  obtain ⟨a, b, c, d⟩ := h
  unfold pSt GD
  dsimp only
  by_cases q : r.1 = true
  · rw [if_pos q, List.length_append]
    exact ⟨by omega, by omega, by omega, by show 2 * (r.2.2.length + 1) + S i ≤ _; omega⟩
  · rw [if_neg q]
    exact ⟨by omega, by omega, by omega, by omega⟩
theorem GD.tr {i : Nat} {l : List gStp} {r r' : gRes} (h : GD S m i l r) (h' : GD S m r.2.1 r.2.2 r') : GD S m i l r' := by
  obtain ⟨a, b, c, d⟩ := h
  obtain ⟨a', b', c', d'⟩ := h'
  exact ⟨by omega, by omega, by omega, by omega⟩
theorem GD.lp (hT : TE K S m) {k : Nat} {q : Nat → List gStp → gRes} (hq : ∀ i l, i ≤ m → GD S m i l (q i l)) (h1 : 10 ≤ k) (h2 : k ≤ 19) {i : Nat} {l : List gStp} : ∀ (f : Nat) (r : gRes), GD S m i l r → GD S m i l (pLp K (nI k) q f r)
  | 0, r, h => h
  | f + 1, r, h => by
    rw [pLp]
    by_cases z : r.1 = true ∧ K r.2.1 = nI k
    · rw [if_pos z]
      have hk := hT.key h.2.1 z.2 h1 h2
      exact GD.lp hT hq h1 h2 f _ (h.tr (GD.st hk (hq _ _ hk.1)))
    · rw [if_neg z]
      exact h
theorem GD.and (hT : TE K S m) {q : Nat → List gStp → gRes} (hq : ∀ i l, i ≤ m → GD S m i l (q i l)) (i : Nat) (l : List gStp) (hi : i ≤ m) : GD S m i l (pAnd K q i l) := GD.lp (k := 13) hT hq (by omega) (by omega) 200 _ (hq i l hi)
theorem GD.or (hT : TE K S m) {q : Nat → List gStp → gRes} (hq : ∀ i l, i ≤ m → GD S m i l (q i l)) (i : Nat) (l : List gStp) (hi : i ≤ m) : GD S m i l (pOr K q i l) := GD.lp (k := 14) hT (GD.and hT hq) (by omega) (by omega) 200 _ (GD.and hT hq i l hi)
theorem GD.cl (hT : TE K S m) {i : Nat} {l : List gStp} {r : gRes} (h : GD S m i l r) : GD S m i l (pCl K r) := by
  unfold pCl
  by_cases q : r.1 = true
  · rw [if_pos q]
    by_cases q2 : K r.2.1 = 7
    · rw [if_pos q2]
      have h2 := hT.oth (k := 7) h.2.1 q2 (by omega) (by omega)
      obtain ⟨a, b, c, d⟩ := h
      unfold GD
      dsimp only
      exact ⟨by omega, by omega, by omega, by omega⟩
    · rw [if_neg q2]
      exact h
  · rw [if_neg q]
    exact h
theorem GD.not (hT : TE K S m) : ∀ (d i : Nat) (l : List gStp), i ≤ m → GD S m i l (pNot K V d i l)
  | 0, i, l, hi => by
    unfold pNot GD
    dsimp only
    exact ⟨by omega, by omega, by omega, by omega⟩
  | d + 1, i, l, hi => by
    rw [pNot]
    dsimp only
    by_cases q : K i = 15
    · rw [if_pos q]
      have hk := hT.key (k := 15) hi q (by omega) (by omega)
      exact GD.st hk (GD.not hT d (i + 1) l hk.1)
    · rw [if_neg q]
      by_cases q2 : K i = 6
      · rw [if_pos q2]
        have hk := hT.oth (k := 6) hi q2 (by omega) (by omega)
        obtain ⟨a, b, c, e⟩ := GD.cl hT (GD.or hT (GD.not hT d) (i + 1) l hk.1)
        exact ⟨by omega, b, by omega, by omega⟩
      · rw [if_neg q2]
        exact GD.tst hT hi
end
/-! the class's reader -/
/-- what the rows of steps say -/
def SL (a0 a1 a2 a3 : Nat → Int32) (l : List gStp) : Prop := ∀ k, k < l.length → l[k]? = some (a0 k, a1 k, a2 k, a3 k)
theorem SL.add {a0 a1 a2 a3 : Nat → Int32} {l : List gStp} (h : SL a0 a1 a2 a3 l) (x0 x1 x2 x3 : Int32) : SL (zuf a0 l.length x0) (zuf a1 l.length x1) (zuf a2 l.length x2) (zuf a3 l.length x3) (l ++ [(x0, x1, x2, x3)]) := by
  intro k hk
  rw [List.length_append] at hk
  by_cases e : k = l.length
  · subst e
    rw [zuf_self, zuf_self, zuf_self, zuf_self, List.getElem?_append_right (Nat.le_refl _), Nat.sub_self]
    rfl
  · have : k < l.length := by
      have : k < l.length + 1 := hk
      omega
    rw [zuf_ne _ _ e, zuf_ne _ _ e, zuf_ne _ _ e, zuf_ne _ _ e, List.getElem?_append_left this]
    exact h k this
def PCs (M : zM) (K V : Nat → Int32) (fk fp lc : Int32) (i : Nat) (l : List gStp) : Prop := M 32 = .inr (4, [.ref 28, .int (nI i), .int (K i), .int (if i = 0 then 0 else V i), .int fk, .int fp, .int lc, .int (nI l.length), .ref 33, .ref 34, .ref 35, .ref 36, .ref 37, .ref 38, .ref 39]) ∧ ∃ a0 a1 a2 a3, M 36 = .inl (0, 200, .inl a0) ∧ M 37 = .inl (0, 200, .inl a1) ∧ M 38 = .inl (0, 200, .inl a2) ∧ M 39 = .inl (0, 200, .inl a3) ∧ SL a0 a1 a2 a3 l
/-- the tokens as the reader sees them -/
def TKR (M : zM) (K V : Nat → Int32) (m : Nat) : Prop := ∃ f2 f3 f4, TK3 M (m + 1) f2 f3 f4 ∧ ∀ q, q ≤ m → f2 q = K q ∧ f4 q = V q
theorem TKR.mv {M M' : zM} {K V : Nat → Int32} {m : Nat} (h : TKR M K V m) (hs : ∀ k, 28 ≤ k → k < 32 → M' k = M k) : TKR M' K V m := by
  obtain ⟨f2, f3, f4, ⟨a, b, c, d⟩, h2⟩ := h
  exact ⟨f2, f3, f4, ⟨by rw [hs _ (by omega) (by omega)]; exact a, by rw [hs _ (by omega) (by omega)]; exact b, by rw [hs _ (by omega) (by omega)]; exact c, by rw [hs _ (by omega) (by omega)]; exact d⟩, h2⟩
section
variable {M : zM} {K V : Nat → Int32} {S : Nat → Nat} {m : Nat} {fk fp lc : Int32} {i : Nat} {l : List gStp} {d n w : Nat}
theorem c_accept_n (hP : PCs M K V fk fp lc i l) {x : Int32} (h : ¬ K i = x) : zCall d 44 [.ref 32, .int x] n w M (some (.int 0)) n w M := by
  intro Q hQ
  obtain ⟨h32, -⟩ := hP
  show zR ztb _ kX4_accept 2 0 [some (.ref 32), some (.int x), none] [] _ _ _ _
  repeat (first | ((with_reducible refine zR.stored ?_); dsimp only [zsto, zclr, zset, zget, zc2, cond_false, cond_true]) | ((with_reducible refine zR.atLit ?_); first | refine zR.step rfl ?_ | refine zR.getf rfl h32 rfl ?_) | rw [zcc1] | rw [zcc2] | rw [zcc3] | rw [zcc4] | rw [zd1 (h)] | rw [zd2 (h)])
  exact zR.ret rfl rfl hQ
theorem c_accept_y (hP : PCs M K V fk fp lc i l) (hK : TKR M K V m) (hm : m ≤ 200) (hi : i + 1 ≤ m) {x : Int32} (h : K i = x) : zCalP d 44 [.ref 32, .int x] n w M (fun v n' w' M' => v = some (.int 1) ∧ n = n' ∧ w = w' ∧ PCs M' K V fk fp lc (i + 1) l ∧ ∀ k, k ≠ 32 → M' k = M k) := by
  obtain ⟨h32, a0, a1, a2, a3, h36, h37, h38, h39, hl⟩ := hP
  obtain ⟨f2, f3, f4, ⟨t28, t29, t30, t31⟩, hf⟩ := hK
  have e : nI (i + 1) < nI (m + 1) := zI_ylt (by omega) (by omega)
  have g2 : f2 (i + 1) = K (i + 1) := (hf (i + 1) hi).1
  have g4 : f4 (i + 1) = V (i + 1) := (hf (i + 1) hi).2
  have fr : ∀ (a : Nat) (c : zC), a ≠ 32 → zup M 32 c a = M a := fun a c h => zup_ne _ _ h
  show zR ztb _ kX4_accept 2 0 [some (.ref 32), some (.int x), none] [] _ _ _ _
  repeat (first | ((with_reducible refine zR.stored ?_); dsimp only [zsto, zclr, zset, zget, zc2, cond_false, cond_true]) | ((with_reducible refine zR.atLit ?_); first | refine zR.step rfl ?_ | refine zR.getf rfl h32 rfl ?_) | rw [zcc1] | rw [zcc2] | rw [zcc3] | rw [zcc4] | rw [ze1 (h)] | rw [ze2 (h)])
  refine zR.putf rfl h32 rfl rfl ?_
  rw [zI_s]
  repeat (first | ((with_reducible refine zR.stored ?_); dsimp only [zsto, zclr, zset, zget, zc2, cond_false, cond_true]) | ((with_reducible refine zR.atLit ?_); first | refine zR.step rfl ?_ | refine zR.getf rfl (zup_self _ _ _) rfl ?_ | refine zR.getf rfl ((fr 28 _ (by omega)).trans t28) rfl ?_ | refine zR.getf rfl ((zup_ne _ _ (by omega)).trans ((fr 28 _ (by omega)).trans t28)) rfl ?_ | (refine zR.iald rfl ((fr 29 _ (by omega)).trans t29) (Or.inl rfl) (i := i + 1) rfl (by omega) (by omega) ?_; rw [g2]) | (refine zR.iald rfl ((zup_ne _ _ (by omega)).trans ((fr 31 _ (by omega)).trans t31)) (Or.inl rfl) (i := i + 1) rfl (by omega) (by omega) ?_; rw [g4])) | rw [zcc1] | rw [zcc2] | rw [zcc3] | rw [zcc4] | rw [zb1 (e)] | rw [zb2 (e)] | rw [zb3 (e)] | rw [zb4 (e)])
  rw [zup_up, zup_up]
  refine zR.ret rfl rfl ⟨rfl, rfl, rfl, ⟨by rw [zup_self, if_neg (show ¬ i + 1 = 0 by omega)]; rfl, a0, a1, a2, a3, by rw [fr _ _ (by omega)]; exact h36, by rw [fr _ _ (by omega)]; exact h37, by rw [fr _ _ (by omega)]; exact h38, by rw [fr _ _ (by omega)]; exact h39, hl⟩, fun k hk => zup_ne _ _ hk⟩
theorem c_addStep (hP : PCs M K V fk fp lc i l) (hl : l.length < 200) (x0 x1 x2 x3 : Int32) : zCalP d 50 [.ref 32, .int x0, .int x1, .int x2, .int x3] n w M (fun v n' w' M' => v = some (.int 1) ∧ n = n' ∧ w = w' ∧ PCs M' K V fk fp lc i (l ++ [(x0, x1, x2, x3)]) ∧ ∀ k, k ≠ 32 → (k < 36 ∨ 40 ≤ k) → M' k = M k) := by
  obtain ⟨h32, a0, a1, a2, a3, h36, h37, h38, h39, hsl⟩ := hP
  have e : nI l.length < 200 := zI_ylt (b := 200) hl (by omega)
  show zR ztb _ kX4_addStep 2 0 [some (.ref 32), some (.int x0), some (.int x1), some (.int x2), some (.int x3)] [] _ _ _ _
  repeat (first | ((with_reducible refine zR.stored ?_); dsimp only [zsto, zclr, zset, zget, zc2, cond_false, cond_true]) | ((with_reducible refine zR.atLit ?_); first | refine zR.step rfl ?_ | refine zR.getf rfl h32 rfl ?_) | rw [zcc1] | rw [zcc2] | rw [zcc3] | rw [zcc4] | rw [zb1 (e)] | rw [zb2 (e)] | rw [zb3 (e)] | rw [zb4 (e)])
  refine zR.iast rfl h36 (i := l.length) rfl (by omega) (by decide) ?_
  repeat (first | ((with_reducible refine zR.stored ?_); dsimp only [zsto, zclr, zset, zget, zc2, cond_false, cond_true]) | ((with_reducible refine zR.atLit ?_); first | refine zR.step rfl ?_ | refine zR.getf rfl ((zup_ne _ _ (by omega)).trans (h32)) rfl ?_) | rw [zcc1] | rw [zcc2] | rw [zcc3] | rw [zcc4])
  refine zR.iast rfl ((zup_ne _ _ (by omega)).trans h37) (i := l.length) rfl (by omega) (by decide) ?_
  repeat (first | ((with_reducible refine zR.stored ?_); dsimp only [zsto, zclr, zset, zget, zc2, cond_false, cond_true]) | ((with_reducible refine zR.atLit ?_); first | refine zR.step rfl ?_ | refine zR.getf rfl ((zup_ne _ _ (by omega)).trans ((zup_ne _ _ (by omega)).trans (h32))) rfl ?_) | rw [zcc1] | rw [zcc2] | rw [zcc3] | rw [zcc4])
  refine zR.iast rfl ((zup_ne _ _ (by omega)).trans ((zup_ne _ _ (by omega)).trans h38)) (i := l.length) rfl (by omega) (by decide) ?_
  repeat (first | ((with_reducible refine zR.stored ?_); dsimp only [zsto, zclr, zset, zget, zc2, cond_false, cond_true]) | ((with_reducible refine zR.atLit ?_); first | refine zR.step rfl ?_ | refine zR.getf rfl ((zup_ne _ _ (by omega)).trans ((zup_ne _ _ (by omega)).trans ((zup_ne _ _ (by omega)).trans (h32)))) rfl ?_) | rw [zcc1] | rw [zcc2] | rw [zcc3] | rw [zcc4])
  refine zR.iast rfl ((zup_ne _ _ (by omega)).trans ((zup_ne _ _ (by omega)).trans ((zup_ne _ _ (by omega)).trans h39))) (i := l.length) rfl (by omega) (by decide) ?_
  repeat (first | ((with_reducible refine zR.stored ?_); dsimp only [zsto, zclr, zset, zget, zc2, cond_false, cond_true]) | ((with_reducible refine zR.atLit ?_); first | refine zR.step rfl ?_ | refine zR.getf rfl ((zup_ne _ _ (by omega)).trans ((zup_ne _ _ (by omega)).trans ((zup_ne _ _ (by omega)).trans ((zup_ne _ _ (by omega)).trans (h32))))) rfl ?_) | rw [zcc1] | rw [zcc2] | rw [zcc3] | rw [zcc4])
  refine zR.putf rfl ((zup_ne _ _ (by omega)).trans ((zup_ne _ _ (by omega)).trans ((zup_ne _ _ (by omega)).trans ((zup_ne _ _ (by omega)).trans h32)))) rfl rfl ?_
  repeat (first | ((with_reducible refine zR.stored ?_); dsimp only [zsto, zclr, zset, zget, zc2, cond_false, cond_true]) | ((with_reducible refine zR.atLit ?_); first | refine zR.step rfl ?_) | rw [zcc1] | rw [zcc2] | rw [zcc3] | rw [zcc4])
  refine zR.ret rfl rfl ⟨rfl, rfl, rfl, ⟨by rw [zup_self, List.length_append, show l.length + [(x0, x1, x2, x3)].length = l.length + 1 from rfl, ← zI_s]; rfl, _, _, _, _, ?_, ?_, ?_, ?_, hsl.add x0 x1 x2 x3⟩, fun k h1 h2 => by rw [zup_ne _ _ h1, zup_ne _ _ (by omega), zup_ne _ _ (by omega), zup_ne _ _ (by omega), zup_ne _ _ (by omega)]⟩
  · rw [zup_ne _ _ (by omega), zup_ne _ _ (by omega), zup_ne _ _ (by omega), zup_ne _ _ (by omega), zup_self]
  · rw [zup_ne _ _ (by omega), zup_ne _ _ (by omega), zup_ne _ _ (by omega), zup_self]
  · rw [zup_ne _ _ (by omega), zup_ne _ _ (by omega), zup_self]
  · rw [zup_ne _ _ (by omega), zup_self]
end
