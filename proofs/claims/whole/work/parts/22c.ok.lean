
/-! lines: every step is a good one. -/
def OKs (K V : Nat → Int32) (m : Nat) (s : gStp) : Prop := s.1 = 15 ∨ s.1 = 13 ∨ s.1 = 14 ∨ ((s.1 = 4 ∨ s.1 = 5) ∧ (((s.2.1 = 16 ∨ s.2.1 = 17) ∧ ∃ q, q ≤ m ∧ K q = 3 ∧ s.2.2.1 = V q) ∨ s.2.1 = 18 ∨ s.2.1 = 19))
def OKl (K V : Nat → Int32) (m : Nat) (l : List gStp) : Prop := ∀ s, s ∈ l → OKs K V m s
def OQ (K V : Nat → Int32) (m : Nat) (q : Nat → List gStp → gRes) : Prop := ∀ i l, i ≤ m → OKl K V m l → OKl K V m (q i l).2.2
section
variable {K V : Nat → Int32} {S : Nat → Nat} {m : Nat}
theorem OKl.add {l : List gStp} {s : gStp} (h : OKl K V m l) (hs : OKs K V m s) : OKl K V m (l ++ [s]) := fun t ht => by
  rcases List.mem_append.mp ht with z | z
  · exact h t z
  · rw [List.mem_singleton.mp z]
    exact hs
theorem OKl.cmp {sj cr : Int32} {j : Nat} {l : List gStp} (h : OKl K V m l) (hs : ((sj = 16 ∨ sj = 17) ∧ ∃ q, q ≤ m ∧ K q = 3 ∧ cr = V q) ∨ sj = 18 ∨ sj = 19) : OKl K V m (pCmp K V sj cr j l).2.2 := by
  unfold pCmp
  by_cases q : K j = 4 ∨ K j = 5
  · rw [if_pos q]
    by_cases q2 : K (j + 1) = 2
    · rw [if_pos q2]
      exact h.add (Or.inr (Or.inr (Or.inr ⟨q, hs⟩)))
    · rw [if_neg q2]
      exact h
  · rw [if_neg q]
    exact h
theorem OQ.tst (hT : TE K S m) : OQ K V m (pTst K V) := by
  intro i l hi h
  unfold pTst
  by_cases q : K i = 16 ∨ K i = 17
  · rw [if_pos q]
    have h1 : i + 1 ≤ m := by
      rcases q with q | q
      · exact (hT.key (k := 16) hi q (by omega) (by omega)).1
      · exact (hT.key (k := 17) hi q (by omega) (by omega)).1
    by_cases q2 : K (i + 1) = 3
    · rw [if_pos q2]
      exact h.cmp (Or.inl ⟨q, i + 1, h1, q2, rfl⟩)
    · rw [if_neg q2]
      exact h
  · rw [if_neg q]
    by_cases q2 : K i = 18 ∨ K i = 19
    · rw [if_pos q2]
      exact h.cmp (Or.inr q2)
    · rw [if_neg q2]
      exact h
theorem OKl.st {key : Int32} {r : gRes} (h : OKl K V m r.2.2) (hk : key = 15 ∨ key = 13 ∨ key = 14) : OKl K V m (pSt key r).2.2 := by
  unfold pSt
  dsimp only
  by_cases q : r.1 = true
  · rw [if_pos q]
    exact h.add (by
      rcases hk with z | z | z
      · exact Or.inl z
      · exact Or.inr (Or.inl z)
      · exact Or.inr (Or.inr (Or.inl z)))
  · rw [if_neg q]
    exact h
theorem OKl.lp (hT : TE K S m) {k : Nat} {q : Nat → List gStp → gRes} (hq : OQ K V m q) (hg : ∀ i l, i ≤ m → GD S m i l (q i l)) (hk : k = 13 ∨ k = 14) : ∀ (f : Nat) (r : gRes), r.2.1 ≤ m → OKl K V m r.2.2 → OKl K V m (pLp K (nI k) q f r).2.2
  | 0, r, _, h => h
  | f + 1, r, hi, h => by
    rw [pLp]
    by_cases z : r.1 = true ∧ K r.2.1 = nI k
    · rw [if_pos z]
      have h1 := hT.key hi z.2 (by omega) (by omega)
      refine OKl.lp hT hq hg hk f _ (hg _ r.2.2 h1.1).2.1 ((hq _ _ h1.1 h).st ?_)
      rcases hk with rfl | rfl
      · exact Or.inr (Or.inl rfl)
      · exact Or.inr (Or.inr rfl)
    · rw [if_neg z]
      exact h
theorem OQ.and (hT : TE K S m) {q : Nat → List gStp → gRes} (hq : OQ K V m q) (hg : ∀ i l, i ≤ m → GD S m i l (q i l)) : OQ K V m (pAnd K q) := fun i l hi h => OKl.lp (k := 13) hT hq hg (Or.inl rfl) 200 _ (hg i l hi).2.1 (hq i l hi h)
theorem OQ.or (hT : TE K S m) {q : Nat → List gStp → gRes} (hq : OQ K V m q) (hg : ∀ i l, i ≤ m → GD S m i l (q i l)) : OQ K V m (pOr K q) := fun i l hi h => OKl.lp (k := 14) hT (OQ.and hT hq hg) (GD.and hT hg) (Or.inr rfl) 200 _ (GD.and hT hg i l hi).2.1 (OQ.and hT hq hg i l hi h)
theorem OQ.not (hT : TE K S m) : ∀ d, OQ K V m (pNot K V d)
  | 0 => fun i l _ h => h
  | d + 1 => by
    intro i l hi h
    rw [pNot]
    dsimp only
    by_cases q : K i = 15
    · rw [if_pos q]
      have hk := hT.key (k := 15) hi q (by omega) (by omega)
      exact (OQ.not hT d _ _ hk.1 h).st (Or.inl rfl)
    · rw [if_neg q]
      by_cases q2 : K i = 6
      · rw [if_pos q2]
        have hk := hT.oth (k := 6) hi q2 (by omega) (by omega)
        have := OQ.or hT (OQ.not hT d) (GD.not (V := V) hT d) (i + 1) l hk.1 h
        unfold pCl
        by_cases q3 : (pOr K (pNot K V d) (i + 1) l).1 = true
        · rw [if_pos q3]
          by_cases q4 : K (pOr K (pNot K V d) (i + 1) l).2.1 = 7
          · rw [if_pos q4]
            exact this
          · rw [if_neg q4]
            exact this
        · rw [if_neg q3]
          exact this
      · rw [if_neg q2]
        exact OQ.tst hT i l hi h
end
