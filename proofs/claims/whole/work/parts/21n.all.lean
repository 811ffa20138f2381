
/-! lines: the class reads all lines. -/
def TKA (M : zM) (K V : Nat → Int32) (S : Nat → Nat) (m : Nat) : Prop := ∃ f2 f3 f4, TK3 M (m + 1) f2 f3 f4 ∧ ∀ q, q ≤ m → f2 q = K q ∧ f3 q = nI (S q) ∧ f4 q = V q
theorem TKA.r {M : zM} {K V : Nat → Int32} {S : Nat → Nat} {m : Nat} (h : TKA M K V S m) : TKR M K V m := by
  obtain ⟨f2, f3, f4, a, b⟩ := h
  exact ⟨f2, f3, f4, a, fun q hq => ⟨(b q hq).1, (b q hq).2.2⟩⟩
theorem TKA.mv {M M' : zM} {K V : Nat → Int32} {S : Nat → Nat} {m : Nat} (h : TKA M K V S m) (hs : ∀ k, 28 ≤ k → k < 32 → M' k = M k) : TKA M' K V S m := by
  obtain ⟨f2, f3, f4, ⟨a, b, c, d⟩, h2⟩ := h
  exact ⟨f2, f3, f4, ⟨by rw [hs _ (by omega) (by omega)]; exact a, by rw [hs _ (by omega) (by omega)]; exact b, by rw [hs _ (by omega) (by omega)]; exact c, by rw [hs _ (by omega) (by omega)]; exact d⟩, h2⟩
section
variable (K V : Nat → Int32) (S : Nat → Nat) (cc : Int32)
/-- the first missing crop among the tokens before i -/
def fkP : Nat → Int32 × Int32
  | 0 => (0, -1)
  | i + 1 => if (fkP i).1 = 0 ∧ K i = 3 ∧ ¬ V i < cc then (2, nI (S i)) else fkP i
def pAll : Nat → gRes × List gLn → gRes × List gLn
  | 0, x => x
  | f + 1, x => if x.1.1 = true ∧ ¬ K x.1.2.1 = 0 then pAll f (pLn K V x.1.2.1 x.1.2.2, x.2 ++ [(K x.1.2.1, V (x.1.2.1 + 1), (pLn K V x.1.2.1 x.1.2.2).2.2.length)]) else x
end
section
variable {K V : Nat → Int32} {S : Nat → Nat} {m : Nat} {cc : Int32}
theorem fk_2 {i : Nat} (h : (fkP K V S cc i).1 = 2) : ∀ t, fkP K V S cc (i + t) = fkP K V S cc i
  | 0 => rfl
  | t + 1 => by
    have ih := fk_2 h t
    show fkP K V S cc (i + t + 1) = _
    rw [fkP, ih, if_neg (fun z => by rw [h] at z; exact absurd z.1 (by decide))]
theorem fk_or (hT : TE K S m) : ∀ i, i ≤ m + 1 → fkP K V S cc i = (0, -1) ∨ ((fkP K V S cc i).1 = 2 ∧ ¬ (fkP K V S cc i).2 = -1)
  | 0, _ => Or.inl rfl
  | i + 1, hi => by
    rw [fkP]
    by_cases q : (fkP K V S cc i).1 = 0 ∧ K i = 3 ∧ ¬ V i < cc
    · rw [if_pos q]
      have := hT.2.2.2.2.2 i (by omega)
      exact Or.inr ⟨rfl, zI_m1 (by omega)⟩
    · rw [if_neg q]
      exact fk_or hT i (by omega)
theorem c_startOf {M : zM} {i d n w : Nat} (hT : TE K S m) (hA : TKA M K V S m) (hi : i ≤ m) : zCall (d + 1) 73 [.ref 28, .int (nI i)] n w M (some (.int (nI (S i)))) n w M := by
  intro Q hQ
  obtain ⟨f2, f3, f4, ⟨h28, h29, h30, h31⟩, hf⟩ := hA
  have hm := hT.2.2.1
  have e : inI (nI i) 0 (nI (m + 1) - 1) = 1 := by
    rcases inI_sub (nI i) (m + 1) (by omega) with ⟨_, _, _, z⟩ | ⟨z, _⟩
    · exact z
    · exact absurd rfl (z i (by omega))
  show zR ztb _ kX10_startOf 1 0 [some (.ref 28), some (.int (nI i))] [] _ _ _ _
  repeat (first | ((with_reducible refine zR.stored ?_); dsimp only [zsto, zclr, zset, zget, zc2, cond_false, cond_true]) | ((with_reducible refine zR.atLit ?_); first | refine zR.step rfl ?_ | refine zR.getf rfl h28 rfl ?_ | (refine zR.cs rfl rfl rfl rfl rfl (zCalP.of (c_isWithin _ _ _) ?_); rw [e]) | (refine zR.iald rfl h30 (Or.inl rfl) (i := i) rfl (by omega) (by omega) ?_; rw [(hf i hi).2.1])) | rw [zcc1] | rw [zcc2] | rw [zcc3] | rw [zcc4] | rw [zb1 (by decide)] | rw [zb2 (by decide)] | rw [zb3 (by decide)] | rw [zb4 (by decide)] | rw [zn1 (by decide)] | rw [zn2 (by decide)] | rw [zn3 (by decide)] | rw [zn4 (by decide)] | rw [ze1 (by decide)] | rw [ze2 (by decide)] | rw [zd1 (by decide)] | rw [zd2 (by decide)] | rw [zswy (by decide)] | rw [zswn (by decide)] | rw [zsw0])
  exact zR.ret rfl rfl hQ
theorem c_firstMissing {M : zM} {d n w : Nat} (hT : TE K S m) (hA : TKA M K V S m) : zCall (d + 1) 74 [.ref 28, .int cc] n w M (some (.int (fkP K V S cc (m + 1)).2)) n w M := by
  intro Q hQ
  obtain ⟨f2, f3, f4, ⟨h28, h29, h30, h31⟩, hf⟩ := hA
  have hm := hT.2.2.1
  have lp : ∀ (t i : Nat), i + t = m + 1 → fkP K V S cc i = (0, -1) → zR ztb (d + 1) kX10_firstMissingCrop 1 2 [some (.ref 28), some (.int cc), some (.int (nI i))] [] n w M Q := by
    intro t
    induction t with
    | zero =>
      intro i hi h0
      have e : ¬ nI i < nI (m + 1) := zI_nlt (by omega) (by omega)
      rw [show m + 1 = i by omega, h0] at hQ
      repeat (first | ((with_reducible refine zR.stored ?_); dsimp only [zsto, zclr, zset, zget, zc2, cond_false, cond_true]) | ((with_reducible refine zR.atLit ?_); first | refine zR.step rfl ?_ | refine zR.getf rfl h28 rfl ?_) | rw [zcc1] | rw [zcc2] | rw [zcc3] | rw [zcc4] | rw [zn1 (e)] | rw [zn2 (e)] | rw [zn3 (e)] | rw [zn4 (e)])
      exact zR.ret rfl rfl hQ
    | succ t ih =>
      intro i hi h0
      have e : nI i < nI (m + 1) := zI_ylt (by omega) (by omega)
      obtain ⟨g2, g3, g4⟩ := hf i (by omega)
      have st : fkP K V S cc (i + 1) = if (fkP K V S cc i).1 = 0 ∧ K i = 3 ∧ ¬ V i < cc then (2, nI (S i)) else fkP K V S cc i := rfl
      refine zR.step rfl ?_
      repeat (first | ((with_reducible refine zR.stored ?_); dsimp only [zsto, zclr, zset, zget, zc2, cond_false, cond_true]) | ((with_reducible refine zR.atLit ?_); first | refine zR.step rfl ?_ | refine zR.getf rfl h28 rfl ?_ | (refine zR.iald rfl h29 (Or.inl rfl) (i := i) rfl (by omega) (by omega) ?_; rw [g2])) | rw [zcc1] | rw [zcc2] | rw [zcc3] | rw [zcc4] | rw [zb1 (e)] | rw [zb2 (e)] | rw [zb3 (e)] | rw [zb4 (e)])
      by_cases q3 : K i = 3
      · by_cases qv : V i < cc
        · repeat (first | with_reducible refine zR.hold (pc := 2) ?_ | ((with_reducible refine zR.stored ?_); dsimp only [zsto, zclr, zset, zget, zc2, cond_false, cond_true]) | ((with_reducible refine zR.atLit ?_); first | refine zR.step rfl ?_ | refine zR.getf rfl h28 rfl ?_ | (refine zR.iald rfl h31 (Or.inl rfl) (i := i) rfl (by omega) (by omega) ?_; rw [g4])) | rw [zcc1] | rw [zcc2] | rw [zcc3] | rw [zcc4] | rw [ze1 (q3)] | rw [ze2 (q3)] | rw [zb1 (qv)] | rw [zb2 (qv)] | rw [zb3 (qv)] | rw [zb4 (qv)])
          rw [zI_s]
          rw [if_neg (fun z => z.2.2 qv), h0] at st
          exact ⟨trivial, ih (i + 1) (by omega) st⟩
        · rw [if_pos ⟨by rw [h0], q3, qv⟩] at st
          have fin : fkP K V S cc (m + 1) = (2, nI (S i)) := by
            rw [show m + 1 = i + 1 + t by omega, fk_2 (by rw [st]), st]
          rw [fin] at hQ
          repeat (first | ((with_reducible refine zR.stored ?_); dsimp only [zsto, zclr, zset, zget, zc2, cond_false, cond_true]) | ((with_reducible refine zR.atLit ?_); first | refine zR.step rfl ?_ | refine zR.getf rfl h28 rfl ?_ | (refine zR.iald rfl h31 (Or.inl rfl) (i := i) rfl (by omega) (by omega) ?_; rw [g4]) | (refine zR.iald rfl h30 (Or.inl rfl) (i := i) rfl (by omega) (by omega) ?_; rw [g3])) | rw [zcc1] | rw [zcc2] | rw [zcc3] | rw [zcc4] | rw [ze1 (q3)] | rw [ze2 (q3)] | rw [zn1 (qv)] | rw [zn2 (qv)] | rw [zn3 (qv)] | rw [zn4 (qv)])
          exact zR.ret rfl rfl hQ
      · repeat (first | with_reducible refine zR.hold (pc := 2) ?_ | ((with_reducible refine zR.stored ?_); dsimp only [zsto, zclr, zset, zget, zc2, cond_false, cond_true]) | ((with_reducible refine zR.atLit ?_); first | refine zR.step rfl ?_) | rw [zcc1] | rw [zcc2] | rw [zcc3] | rw [zcc4] | rw [zd1 (q3)] | rw [zd2 (q3)])
        rw [zI_s]
        rw [if_neg (fun z => q3 z.2.1), h0] at st
        exact ⟨trivial, ih (i + 1) (by omega) st⟩
  show zR ztb _ kX10_firstMissingCrop 1 0 [some (.ref 28), some (.int cc), none] [] _ _ _ _
  repeat (first | with_reducible refine zR.hold (pc := 2) ?_ | ((with_reducible refine zR.stored ?_); dsimp only [zsto, zclr, zset, zget, zc2, cond_false, cond_true]) | ((with_reducible refine zR.atLit ?_); first | refine zR.step rfl ?_) | rw [zcc1] | rw [zcc2] | rw [zcc3] | rw [zcc4])
  exact ⟨trivial, lp (m + 1) 0 (by omega) rfl⟩
def RA (K V : Nat → Int32) (S : Nat → Nat) (m : Nat) (cc : Int32) (M0 M' : zM) (x : gRes × List gLn) : Prop := LFr M0 M' ∧ ((x.1.1 = true ∧ K x.1.2.1 = 0 ∧ PCs M' K V (fkP K V S cc (m + 1)).1 (fkP K V S cc (m + 1)).2 (nI x.2.length) x.1.2.1 x.1.2.2 ∧ LL M' x.2) ∨ (¬ (x.1.1 = true ∧ K x.1.2.1 = 0) ∧ ∃ lc, PCs M' K V 1 (nI (S x.1.2.1)) lc x.1.2.1 x.1.2.2 ∧ LL M' []))
theorem PCs.ft {M M' : zM} {fk fp lc fk' fp' : Int32} {i : Nat} {l : List gStp} (h : PCs M K V fk fp lc i l) (e : M' = zup M 32 (.inr (4, [.ref 28, .int (nI i), .int (K i), .int (if i = 0 then 0 else V i), .int fk', .int fp', .int lc, .int (nI l.length), .ref 33, .ref 34, .ref 35, .ref 36, .ref 37, .ref 38, .ref 39]))) : PCs M' K V fk' fp' lc i l := by
  obtain ⟨-, a0, a1, a2, a3, h36, h37, h38, h39, hl⟩ := h
  subst e
  exact ⟨zup_self _ _ _, a0, a1, a2, a3, by rw [zup_ne _ _ (by omega)]; exact h36, by rw [zup_ne _ _ (by omega)]; exact h37, by rw [zup_ne _ _ (by omega)]; exact h38, by rw [zup_ne _ _ (by omega)]; exact h39, hl⟩
theorem ra_end {M M0 : zM} {fk fp lc : Int32} {x : gRes × List gLn} {x4 : Option Value} {d n w : Nat} (hT : TE K S m) (hP : PCs M K V fk fp lc x.1.2.1 x.1.2.2) (hL : LL M []) (hx : x.1.1 = true → lc = nI x.2.length ∧ LL M x.2) (hA : TKA M K V S m) (hF : LFr M0 M) (hi : x.1.2.1 ≤ m) : zR ztb (d + 2) kX4_readAll 0 82 [some (.ref 32), some (.ref 28), some (.int cc), some (.int (b32 x.1.1)), x4] [] n w M (fun v n' w' M' => v = none ∧ n = n' ∧ w = w' ∧ RA K V S m cc M0 M' x) := by
  have fr : ∀ c, LFr M0 (zup M 32 c) := fun c => hF.tr (fun k hk => zup_ne _ _ (by omega))
  have ll : ∀ c ls, LL M ls → LL (zup M 32 c) ls := fun c ls h => h.mv (fun k a b => zup_ne _ _ (by omega))
  have ta : ∀ c, TKA (zup M 32 c) K V S m := fun c => hA.mv (fun k a b => zup_ne _ _ (by omega))
  -- a fault in form
  have fm : ¬ (x.1.1 = true ∧ K x.1.2.1 = 0) → zR ztb (d + 2) kX4_readAll 0 93 [some (.ref 32), some (.ref 28), some (.int cc), some (.int (b32 x.1.1)), x4] [] n w M (fun v n' w' M' => v = none ∧ n = n' ∧ w = w' ∧ RA K V S m cc M0 M' x) := by
    intro hn
    repeat (first | ((with_reducible refine zR.stored ?_); dsimp only [zsto, zclr, zset, zget, zc2, cond_false, cond_true]) | ((with_reducible refine zR.atLit ?_); first | refine zR.step rfl ?_) | rw [zcc1] | rw [zcc2] | rw [zcc3] | rw [zcc4])
    refine zR.putf rfl hP.1 rfl rfl ?_
    repeat (first | ((with_reducible refine zR.stored ?_); dsimp only [zsto, zclr, zset, zget, zc2, cond_false, cond_true]) | ((with_reducible refine zR.atLit ?_); first | refine zR.step rfl ?_ | refine zR.getf rfl (zup_self _ _ _) rfl ?_) | rw [zcc1] | rw [zcc2] | rw [zcc3] | rw [zcc4])
    obtain ⟨h28, -⟩ := (ta (.inr (4, [.ref 28, .int (nI x.1.2.1), .int (K x.1.2.1), .int (if x.1.2.1 = 0 then 0 else V x.1.2.1), .int 1, .int fp, .int lc, .int (nI x.1.2.2.length), .ref 33, .ref 34, .ref 35, .ref 36, .ref 37, .ref 38, .ref 39]))).choose_spec.choose_spec.choose_spec.1
    refine zR.cv rfl rfl rfl h28 rfl rfl (zCalP.of (c_startOf hT (ta _) hi) ?_)
    repeat (first | ((with_reducible refine zR.stored ?_); dsimp only [zsto, zclr, zset, zget, zc2, cond_false, cond_true]) | ((with_reducible refine zR.atLit ?_); first | refine zR.step rfl ?_) | rw [zcc1] | rw [zcc2] | rw [zcc3] | rw [zcc4])
    try rw [zup_up]
    exact zR.ret rfl rfl ⟨rfl, rfl, rfl, fr _, Or.inr ⟨hn, lc, hP.ft rfl, ll _ _ hL⟩⟩
  cases hb : x.1.1 with
  | false =>
    have hn : ¬ (x.1.1 = true ∧ K x.1.2.1 = 0) := fun z => by rw [hb] at z; exact absurd z.1 (by decide)
    have := fm hn
    rw [hb] at this
    repeat (first | with_reducible refine zR.hold (pc := 93) ?_ | ((with_reducible refine zR.stored ?_); dsimp only [zsto, zclr, zset, zget, zc2, cond_false, cond_true]) | ((with_reducible refine zR.atLit ?_); first | refine zR.step rfl ?_) | rw [zcc1] | rw [zcc2] | rw [zcc3] | rw [zcc4] | rw [b32_f] | rw [zb1 (by decide)] | rw [zb2 (by decide)] | rw [zb3 (by decide)] | rw [zb4 (by decide)] | rw [zn1 (by decide)] | rw [zn2 (by decide)] | rw [zn3 (by decide)] | rw [zn4 (by decide)] | rw [ze1 (by decide)] | rw [ze2 (by decide)] | rw [zd1 (by decide)] | rw [zd2 (by decide)] | rw [zswy (by decide)] | rw [zswn (by decide)] | rw [zsw0])
    exact ⟨trivial, this⟩
  | true =>
    by_cases q : K x.1.2.1 = 0
    · obtain ⟨rfl, hL2⟩ := hx hb
      repeat (first | ((with_reducible refine zR.stored ?_); dsimp only [zsto, zclr, zset, zget, zc2, cond_false, cond_true]) | ((with_reducible refine zR.atLit ?_); first | refine zR.step rfl ?_ | refine zR.getf rfl hP.1 rfl ?_) | rw [zcc1] | rw [zcc2] | rw [zcc3] | rw [zcc4] | rw [b32_t] | rw [zb1 (by decide)] | rw [zb2 (by decide)] | rw [zb3 (by decide)] | rw [zb4 (by decide)] | rw [zn1 (by decide)] | rw [zn2 (by decide)] | rw [zn3 (by decide)] | rw [zn4 (by decide)] | rw [ze1 (by decide)] | rw [ze2 (by decide)] | rw [zd1 (by decide)] | rw [zd2 (by decide)] | rw [zswy (by decide)] | rw [zswn (by decide)] | rw [zsw0] | rw [ze1 (q)] | rw [ze2 (q)])
      obtain ⟨h28, -⟩ := hA.choose_spec.choose_spec.choose_spec.1
      refine zR.cv rfl rfl rfl h28 rfl rfl (zCalP.of (c_firstMissing hT hA) ?_)
      refine zR.putf rfl hP.1 rfl rfl ?_
      rcases fk_or (V := V) (cc := cc) hT (m + 1) (Nat.le_refl _) with z | ⟨z1, z2⟩
      · have zz : (fkP K V S cc (m + 1)).2 = -1 := by rw [z]
        repeat (first | ((with_reducible refine zR.stored ?_); dsimp only [zsto, zclr, zset, zget, zc2, cond_false, cond_true]) | ((with_reducible refine zR.atLit ?_); first | refine zR.step rfl ?_ | refine zR.getf rfl (zup_self _ _ _) rfl ?_) | rw [zcc1] | rw [zcc2] | rw [zcc3] | rw [zcc4] | rw [ze1 (zz)] | rw [ze2 (zz)])
        try rw [zup_up]
        exact zR.ret rfl rfl ⟨rfl, rfl, rfl, fr _, Or.inl ⟨hb, q, hP.ft (by rw [z]; rfl), ll _ _ hL2⟩⟩
      · repeat (first | ((with_reducible refine zR.stored ?_); dsimp only [zsto, zclr, zset, zget, zc2, cond_false, cond_true]) | ((with_reducible refine zR.atLit ?_); first | refine zR.step rfl ?_ | refine zR.getf rfl (zup_self _ _ _) rfl ?_) | rw [zcc1] | rw [zcc2] | rw [zcc3] | rw [zcc4] | rw [zd1 (z2)] | rw [zd2 (z2)])
        try rw [zup_up]
        exact zR.ret rfl rfl ⟨rfl, rfl, rfl, fr _, Or.inl ⟨hb, q, hP.ft (by rw [z1]; rfl), ll _ _ hL2⟩⟩
    · have := fm (fun z => q z.2)
      rw [hb] at this
      repeat (first | with_reducible refine zR.hold (pc := 93) ?_ | ((with_reducible refine zR.stored ?_); dsimp only [zsto, zclr, zset, zget, zc2, cond_false, cond_true]) | ((with_reducible refine zR.atLit ?_); first | refine zR.step rfl ?_ | refine zR.getf rfl hP.1 rfl ?_) | rw [zcc1] | rw [zcc2] | rw [zcc3] | rw [zcc4] | rw [b32_t] | rw [zb1 (by decide)] | rw [zb2 (by decide)] | rw [zb3 (by decide)] | rw [zb4 (by decide)] | rw [zn1 (by decide)] | rw [zn2 (by decide)] | rw [zn3 (by decide)] | rw [zn4 (by decide)] | rw [ze1 (by decide)] | rw [ze2 (by decide)] | rw [zd1 (by decide)] | rw [zd2 (by decide)] | rw [zswy (by decide)] | rw [zswn (by decide)] | rw [zsw0] | rw [zd1 (q)] | rw [zd2 (q)])
      exact ⟨trivial, this⟩
theorem ra_lp (hT : TE K S m) {M0 : zM} {fk fp : Int32} {d n w : Nat} : ∀ (f j : Nat) (M : zM) (lc : Int32) (x : gRes × List gLn), j + f = 20 → x.2.length = j → PCs M K V fk fp lc x.1.2.1 x.1.2.2 → LL M [] → (x.1.1 = true → lc = nI x.2.length ∧ LL M x.2) → TKA M K V S m → LFr M0 M → x.1.2.1 ≤ m → 2 * x.1.2.2.length ≤ S x.1.2.1 → zR ztb (d + 24) kX4_readAll 0 51 [some (.ref 32), some (.ref 28), some (.int cc), some (.int (b32 x.1.1)), some (.int (nI j))] [] n w M (fun v n' w' M' => v = none ∧ n = n' ∧ w = w' ∧ RA K V S m cc M0 M' (pAll K V f x))
  | 0, j, M, lc, x, hj, hl, hP, hL, hx, hA, hF, hi, h2 => by
    have e : ¬ nI j < 20 := zI_nlt (b := 20) (by omega) (by omega)
    rw [pAll]
    repeat (first | with_reducible refine zR.hold (pc := 82) ?_ | ((with_reducible refine zR.stored ?_); dsimp only [zsto, zclr, zset, zget, zc2, cond_false, cond_true]) | ((with_reducible refine zR.atLit ?_); first | refine zR.step rfl ?_) | rw [zcc1] | rw [zcc2] | rw [zcc3] | rw [zcc4] | rw [zn1 (e)] | rw [zn2 (e)] | rw [zn3 (e)] | rw [zn4 (e)])
    exact ⟨trivial, ra_end hT hP hL hx hA hF hi⟩
  | f + 1, j, M, lc, x, hj, hl, hP, hL, hx, hA, hF, hi, h2 => by
    have e : nI j < 20 := zI_ylt (b := 20) (by omega) (by omega)
    have en := ra_end (x4 := some (.int (nI j))) (d := d + 22) (n := n) (w := w) (cc := cc) hT hP hL hx hA hF hi
    rw [pAll]
    refine zR.step rfl ?_
    cases hb : x.1.1 with
    | false =>
      rw [hb] at en
      rw [if_neg (fun z => absurd z.1 (by decide))]
      repeat (first | with_reducible refine zR.hold (pc := 82) ?_ | ((with_reducible refine zR.stored ?_); dsimp only [zsto, zclr, zset, zget, zc2, cond_false, cond_true]) | ((with_reducible refine zR.atLit ?_); first | refine zR.step rfl ?_) | rw [zcc1] | rw [zcc2] | rw [zcc3] | rw [zcc4] | rw [zb1 (e)] | rw [zb2 (e)] | rw [zb3 (e)] | rw [zb4 (e)] | rw [b32_f] | rw [zb1 (by decide)] | rw [zb2 (by decide)] | rw [zb3 (by decide)] | rw [zb4 (by decide)] | rw [zn1 (by decide)] | rw [zn2 (by decide)] | rw [zn3 (by decide)] | rw [zn4 (by decide)] | rw [ze1 (by decide)] | rw [ze2 (by decide)] | rw [zd1 (by decide)] | rw [zd2 (by decide)] | rw [zswy (by decide)] | rw [zswn (by decide)] | rw [zsw0])
      exact ⟨trivial, en⟩
    | true =>
      rw [hb] at en
      by_cases q : K x.1.2.1 = 0
      · rw [if_neg (fun z => z.2 q)]
        repeat (first | with_reducible refine zR.hold (pc := 82) ?_ | ((with_reducible refine zR.stored ?_); dsimp only [zsto, zclr, zset, zget, zc2, cond_false, cond_true]) | ((with_reducible refine zR.atLit ?_); first | refine zR.step rfl ?_ | refine zR.getf rfl hP.1 rfl ?_) | rw [zcc1] | rw [zcc2] | rw [zcc3] | rw [zcc4] | rw [zb1 (e)] | rw [zb2 (e)] | rw [zb3 (e)] | rw [zb4 (e)] | rw [b32_t] | rw [zb1 (by decide)] | rw [zb2 (by decide)] | rw [zb3 (by decide)] | rw [zb4 (by decide)] | rw [zn1 (by decide)] | rw [zn2 (by decide)] | rw [zn3 (by decide)] | rw [zn4 (by decide)] | rw [ze1 (by decide)] | rw [ze2 (by decide)] | rw [zd1 (by decide)] | rw [zd2 (by decide)] | rw [zswy (by decide)] | rw [zswn (by decide)] | rw [zsw0] | rw [ze1 (q)] | rw [ze2 (q)])
        exact ⟨trivial, en⟩
      · rw [if_pos ⟨rfl, q⟩]
        repeat (first | ((with_reducible refine zR.stored ?_); dsimp only [zsto, zclr, zset, zget, zc2, cond_false, cond_true]) | ((with_reducible refine zR.atLit ?_); first | refine zR.step rfl ?_ | refine zR.getf rfl hP.1 rfl ?_) | rw [zcc1] | rw [zcc2] | rw [zcc3] | rw [zcc4] | rw [zb1 (e)] | rw [zb2 (e)] | rw [zb3 (e)] | rw [zb4 (e)] | rw [b32_t] | rw [zb1 (by decide)] | rw [zb2 (by decide)] | rw [zb3 (by decide)] | rw [zb4 (by decide)] | rw [zn1 (by decide)] | rw [zn2 (by decide)] | rw [zn3 (by decide)] | rw [zn4 (by decide)] | rw [ze1 (by decide)] | rw [ze2 (by decide)] | rw [zd1 (by decide)] | rw [zd2 (by decide)] | rw [zswy (by decide)] | rw [zswn (by decide)] | rw [zsw0] | rw [zd1 (q)] | rw [zd2 (q)])
        obtain ⟨rfl, hL2⟩ := hx hb
        refine zR.cv rfl rfl rfl hP.1 rfl rfl (zR.mono (c_readLine hT hP hA.r hi h2 (by omega) hl hL2) (fun v n1 w1 M1 hv => ?_))
        obtain ⟨rfl, rfl, rfl, hF1, lc1, hP1, hL1, hx1⟩ := hv
        obtain ⟨g1, g2, g3, g4⟩ := GD.ln (V := V) (l := x.1.2.2) hT hi
        have len : (x.2 ++ [(K x.1.2.1, V (x.1.2.1 + 1), (pLn K V x.1.2.1 x.1.2.2).2.2.length)]).length = j + 1 := by rw [List.length_append, hl]; rfl
        have ih := ra_lp hT (M0 := M0) (fk := fk) (fp := fp) (d := d) (n := n) (w := w) f (j + 1) M1 lc1 (pLn K V x.1.2.1 x.1.2.2, x.2 ++ [(K x.1.2.1, V (x.1.2.1 + 1), (pLn K V x.1.2.1 x.1.2.2).2.2.length)]) (by omega) len hP1 hL1 (fun z => ⟨by rw [len]; exact (hx1 z).1, (hx1 z).2⟩) (hA.mv (fun k a b => hF1 k (by omega))) (hF.tr hF1) g2 (by show 2 * (pLn K V x.1.2.1 x.1.2.2).2.2.length ≤ S (pLn K V x.1.2.1 x.1.2.2).2.1; omega)
        repeat (first | with_reducible refine zR.hold (pc := 51) ?_ | ((with_reducible refine zR.stored ?_); dsimp only [zsto, zclr, zset, zget, zc2, cond_false, cond_true]) | ((with_reducible refine zR.atLit ?_); first | refine zR.step rfl ?_) | rw [zcc1] | rw [zcc2] | rw [zcc3] | rw [zcc4])
        rw [zI_s]
        exact ⟨trivial, ih⟩
theorem c_readAll (hT : TE K S m) {M : zM} {u0 u1 u2 u3 u6 u7 : Value} {fk fp : Int32} {b0 b1 b2 b3 : Nat → Int32} {d n w : Nat} (h32 : M 32 = .inr (4, [u0, u1, u2, u3, .int fk, .int fp, u6, u7, .ref 33, .ref 34, .ref 35, .ref 36, .ref 37, .ref 38, .ref 39])) (h36 : M 36 = .inl (0, 200, .inl b0)) (h37 : M 37 = .inl (0, 200, .inl b1)) (h38 : M 38 = .inl (0, 200, .inl b2)) (h39 : M 39 = .inl (0, 200, .inl b3)) (hL : LL M []) (hA : TKA M K V S m) : zCalP (d + 24) 43 [.ref 32, .ref 28, .int cc] n w M (fun v n' w' M' => v = none ∧ n = n' ∧ w = w' ∧ RA K V S m cc M M' (pAll K V 20 ((true, 0, []), []))) := by
  have hA' := hA
  obtain ⟨f2, f3, f4, ⟨h28, h29, h30, h31⟩, hf⟩ := hA
  have hm := hT.2.2.1
  have e : 0 < nI (m + 1) := zI_ylt (a := 0) (by omega) (by omega)
  show zR ztb _ kX4_readAll 0 0 [some (.ref 32), some (.ref 28), some (.int cc), none, none] [] _ _ _ _
  repeat (first | ((with_reducible refine zR.stored ?_); dsimp only [zsto, zclr, zset, zget, zc2, cond_false, cond_true]) | ((with_reducible refine zR.atLit ?_); first | refine zR.step rfl ?_) | rw [zcc1] | rw [zcc2] | rw [zcc3] | rw [zcc4])
  refine zR.putf rfl h32 rfl rfl ?_
  repeat (first | with_reducible refine zR.hold (pc := 51) ?_ | ((with_reducible refine zR.stored ?_); dsimp only [zsto, zclr, zset, zget, zc2, cond_false, cond_true]) | ((with_reducible refine zR.atLit ?_); first | refine zR.step rfl ?_ | refine zR.getf rfl ((zup_ne _ _ (by omega)).trans h28) rfl ?_ | refine zR.getf rfl ((zup_ne _ _ (by omega)).trans ((zup_ne _ _ (by omega)).trans h28)) rfl ?_ | (refine zR.iald rfl ((zup_ne _ _ (by omega)).trans h29) (Or.inl rfl) (i := 0) rfl (by omega) (by omega) ?_; rw [(hf 0 (by omega)).1])) | rw [zcc1] | rw [zcc2] | rw [zcc3] | rw [zcc4] | rw [zb1 (e)] | rw [zb2 (e)] | rw [zb3 (e)] | rw [zb4 (e)])
  refine ⟨trivial, ?_⟩
  rw [zup_up, zup_up, zup_up, zup_up, zup_up]
  refine ra_lp hT (M0 := M) 20 0 _ 0 ((true, 0, []), []) (by omega) rfl ⟨by rw [zup_self]; rfl, b0, b1, b2, b3, ?_, ?_, ?_, ?_, fun k hk => absurd hk (Nat.not_lt_zero _)⟩ ?_ (fun _ => ⟨rfl, ?_⟩) ?_ (fun k hk => zup_ne _ _ (by omega)) (Nat.zero_le _) (Nat.zero_le _)
  · rw [zup_ne _ _ (by omega)]
    exact h36
  · rw [zup_ne _ _ (by omega)]
    exact h37
  · rw [zup_ne _ _ (by omega)]
    exact h38
  · rw [zup_ne _ _ (by omega)]
    exact h39
  · exact hL.mv (fun k a b => zup_ne _ _ (by omega))
  · exact hL.mv (fun k a b => zup_ne _ _ (by omega))
  · exact hA'.mv (fun k a b => zup_ne _ _ (by omega))
end
