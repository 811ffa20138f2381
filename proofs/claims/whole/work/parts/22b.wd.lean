
/-! lines: steps keep the stack of truths in order. -/
def WD : List gStp → Nat → Nat → Prop
  | [], a, b => a = b
  | s :: l, a, b => (s.1 = 15 ∧ 1 ≤ a ∧ WD l a b) ∨ ((s.1 = 13 ∨ s.1 = 14) ∧ 2 ≤ a ∧ WD l (a - 1) b) ∨ ((s.1 = 4 ∨ s.1 = 5) ∧ (s.2.1 = 16 ∨ s.2.1 = 17 ∨ s.2.1 = 18 ∨ s.2.1 = 19) ∧ a < 40 ∧ WD l (a + 1) b)
theorem WD.app : ∀ (t t' : List gStp) (a b c : Nat), WD t a b → WD t' b c → WD (t ++ t') a c
  | [], t', a, b, c, h, h' => by
    have e : a = b := h
    subst e
    exact h'
  | s :: t, t', a, b, c, h, h' => by
    show WD (s :: (t ++ t')) a c
    rcases h with ⟨x, y, z⟩ | ⟨x, y, z⟩ | ⟨x, x2, y, z⟩
    · exact Or.inl ⟨x, y, WD.app t t' a b c z h'⟩
    · exact Or.inr (Or.inl ⟨x, y, WD.app t t' (a - 1) b c z h'⟩)
    · exact Or.inr (Or.inr ⟨x, x2, y, WD.app t t' (a + 1) b c z h'⟩)
/-- a good reading lays steps that leave one truth more -/
def WQ (D : Nat) (q : Nat → List gStp → gRes) : Prop := ∀ i l, (q i l).1 = true → ∃ t, (q i l).2.2 = l ++ t ∧ ∀ a, a + D ≤ 40 → WD t a (a + 1)
section
variable {K V : Nat → Int32}
theorem WQ.cmp {sj cr : Int32} {j : Nat} {l : List gStp} (hs : sj = 16 ∨ sj = 17 ∨ sj = 18 ∨ sj = 19) (h : (pCmp K V sj cr j l).1 = true) : ∃ t, (pCmp K V sj cr j l).2.2 = l ++ t ∧ ∀ a, a + 1 ≤ 40 → WD t a (a + 1) := by
  unfold pCmp at *
  by_cases q : K j = 4 ∨ K j = 5
  · rw [if_pos q] at *
    by_cases q2 : K (j + 1) = 2
    · rw [if_pos q2] at *
      exact ⟨[(K j, sj, cr, V (j + 1))], rfl, fun a ha => Or.inr (Or.inr ⟨q, hs, by omega, rfl⟩)⟩
    · rw [if_neg q2] at h
      exact absurd (show false = true from h) (by decide)
  · rw [if_neg q] at h
    exact absurd (show false = true from h) (by decide)
theorem WQ.tst : WQ 1 (pTst K V) := by
  intro i l h
  unfold pTst at *
  by_cases q : K i = 16 ∨ K i = 17
  · rw [if_pos q] at *
    by_cases q2 : K (i + 1) = 3
    · rw [if_pos q2] at *
      exact WQ.cmp (q.elim Or.inl (fun z => Or.inr (Or.inl z))) h
    · rw [if_neg q2] at h
      exact absurd (show false = true from h) (by decide)
  · rw [if_neg q] at *
    by_cases q2 : K i = 18 ∨ K i = 19
    · rw [if_pos q2] at *
      exact WQ.cmp (Or.inr (Or.inr q2)) h
    · rw [if_neg q2] at h
      exact absurd (show false = true from h) (by decide)
theorem WQ.lp {D : Nat} {key : Int32} {q : Nat → List gStp → gRes} (hq : WQ D q) (hk : key = 13 ∨ key = 14) {l : List gStp} : ∀ (f : Nat) (r : gRes), (r.1 = true → ∃ t, r.2.2 = l ++ t ∧ ∀ a, a + (D + 1) ≤ 40 → WD t a (a + 1)) → (pLp K key q f r).1 = true → ∃ t, (pLp K key q f r).2.2 = l ++ t ∧ ∀ a, a + (D + 1) ≤ 40 → WD t a (a + 1)
  | 0, r, h, h' => h h'
  | f + 1, r, h, h' => by
    rw [pLp] at *
    by_cases z : r.1 = true ∧ K r.2.1 = key
    · rw [if_pos z] at *
      refine WQ.lp hq hk f _ (fun ok => ?_) h'
      have ok' : (q (r.2.1 + 1) r.2.2).1 = true := ok
      obtain ⟨t, e, w⟩ := h z.1
      obtain ⟨t', e', w'⟩ := hq _ _ ok'
      refine ⟨t ++ t' ++ [(key, 0, 0, 0)], ?_, fun a ha => ?_⟩
      · unfold pSt
        dsimp only
        rw [if_pos ok', e', e, List.append_assoc, List.append_assoc, List.append_assoc]
      · refine WD.app _ _ a (a + 2) (a + 1) (WD.app t t' a (a + 1) (a + 2) (w a ha) (w' (a + 1) (by omega))) (Or.inr (Or.inl ⟨hk, by omega, ?_⟩))
        show a + 2 - 1 = a + 1
        omega
    · rw [if_neg z] at *
      exact h h'
theorem WQ.mono {D D' : Nat} {q : Nat → List gStp → gRes} (h : WQ D q) (hd : D ≤ D') : WQ D' q := fun i l ok => by
  obtain ⟨t, e, w⟩ := h i l ok
  exact ⟨t, e, fun a ha => w a (by omega)⟩
theorem WQ.and {D : Nat} {q : Nat → List gStp → gRes} (hq : WQ D q) : WQ (D + 1) (pAnd K q) := fun i l ok => WQ.lp hq (Or.inl rfl) 200 _ ((hq.mono (Nat.le_succ D)) i l) ok
theorem WQ.or {D : Nat} {q : Nat → List gStp → gRes} (hq : WQ D q) : WQ (D + 2) (pOr K q) := fun i l ok => WQ.lp hq.and (Or.inr rfl) 200 _ ((hq.and.mono (Nat.le_succ _)) i l) ok
theorem WQ.not : ∀ d, WQ (2 * d + 1) (pNot K V d)
  | 0 => fun i l ok => absurd (show false = true from ok) (by decide)
  | d + 1 => by
    intro i l ok
    rw [pNot] at *
    dsimp only at *
    by_cases q : K i = 15
    · rw [if_pos q] at *
      have ok' : (pNot K V d (i + 1) l).1 = true := ok
      obtain ⟨t, e, w⟩ := WQ.not d (i + 1) l ok'
      refine ⟨t ++ [(15, 0, 0, 0)], ?_, fun a ha => ?_⟩
      · unfold pSt
        dsimp only
        rw [if_pos ok', e, List.append_assoc]
      · exact WD.app _ _ a (a + 1) (a + 1) (w a (by omega)) (Or.inl ⟨rfl, by omega, rfl⟩)
    · rw [if_neg q] at *
      by_cases q2 : K i = 6
      · rw [if_pos q2] at *
        have ho := WQ.or (K := K) (WQ.not d) (i + 1) l
        unfold pCl at *
        by_cases q3 : (pOr K (pNot K V d) (i + 1) l).1 = true
        · rw [if_pos q3] at *
          obtain ⟨t, e, w⟩ := ho q3
          by_cases q4 : K (pOr K (pNot K V d) (i + 1) l).2.1 = 7
          · rw [if_pos q4] at *
            exact ⟨t, e, fun a ha => w a (by omega)⟩
          · rw [if_neg q4] at ok
            exact absurd (show false = true from ok) (by decide)
        · rw [if_neg q3] at ok
          exact absurd ok q3
      · rw [if_neg q2] at *
        obtain ⟨t, e, w⟩ := WQ.tst i l ok
        exact ⟨t, e, fun a ha => w a (by omega)⟩
end
