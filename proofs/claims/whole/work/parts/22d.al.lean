
/-! lines: what a good reading of all lines leaves. -/
section
variable {K V : Nat → Int32} {S : Nat → Nat} {m : Nat}
theorem pWh_ok (hT : TE K S m) {i : Nat} {l : List gStp} (hi : i ≤ m) (hl : OKl K V m l) : OKl K V m (pWh K V i l).2.2 ∧ ((pWh K V i l).1 = true → ∃ t, (pWh K V i l).2.2 = l ++ t ∧ (t = [] ∨ WD t 0 1)) := by
  unfold pWh
  by_cases q : K i = 12
  · rw [if_pos q]
    have hk := hT.key (k := 12) hi q (by omega) (by omega)
    refine ⟨OQ.or hT (OQ.not hT 6) (GD.not (V := V) hT 6) _ _ hk.1 hl, fun ok => ?_⟩
    obtain ⟨t, e, w⟩ := WQ.or (K := K) (WQ.not (K := K) (V := V) 6) _ _ ok
    exact ⟨t, e, Or.inr (w 0 (by omega))⟩
  · rw [if_neg q]
    exact ⟨hl, fun _ => ⟨[], (List.append_nil _).symm, Or.inl rfl⟩⟩
theorem pSm_ok {r : gRes} (h : (pSm K r).1 = true) : r.1 = true ∧ (pSm K r).2.2 = r.2.2 := by
  unfold pSm at *
  by_cases q : r.1 = true
  · rw [if_pos q] at *
    by_cases q2 : K r.2.1 = 8
    · rw [if_pos q2]
      exact ⟨q, rfl⟩
    · rw [if_neg q2] at h
      exact absurd (show false = true from h) (by decide)
  · rw [if_neg q] at h
    exact absurd h q
theorem pSm_2 {r : gRes} : (pSm K r).2.2 = r.2.2 := by
  unfold pSm
  by_cases q : r.1 = true
  · rw [if_pos q]
    by_cases q2 : K r.2.1 = 8
    · rw [if_pos q2]
    · rw [if_neg q2]
  · rw [if_neg q]
theorem pLn_ok (hT : TE K S m) {i : Nat} {l : List gStp} (hi : i ≤ m) (hl : OKl K V m l) (h : (pLn K V i l).1 = true) : (K i = 10 ∨ K i = 11) ∧ K (i + 1) = 3 ∧ i + 1 ≤ m ∧ OKl K V m (pLn K V i l).2.2 ∧ ∃ t, (pLn K V i l).2.2 = l ++ t ∧ (t = [] ∨ WD t 0 1) := by
  unfold pLn at *
  by_cases q : K i = 10 ∨ K i = 11
  · rw [if_pos q] at *
    have h1 : i + 1 ≤ m := by
      rcases q with q | q
      · exact (hT.key (k := 10) hi q (by omega) (by omega)).1
      · exact (hT.key (k := 11) hi q (by omega) (by omega)).1
    by_cases q2 : K (i + 1) = 3
    · rw [if_pos q2] at *
      have h2 : i + 2 ≤ m := (hT.oth (k := 3) h1 q2 (by omega) (by omega)).1
      obtain ⟨a, b⟩ := pWh_ok (V := V) hT h2 hl
      obtain ⟨c, e⟩ := pSm_ok h
      rw [e]
      exact ⟨q, q2, h1, a, b c⟩
    · rw [if_neg q2] at h
      exact absurd (show false = true from h) (by decide)
  · rw [if_neg q] at h
    exact absurd (show false = true from h) (by decide)
def AL (K V : Nat → Int32) (m : Nat) (x : gRes × List gLn) : Prop := x.1.2.2.length = enP x.2 x.2.length ∧ OKl K V m x.1.2.2 ∧ ∀ k, k < x.2.length → ∃ vb cr en, x.2[k]? = some (vb, cr, en) ∧ (vb = 10 ∨ vb = 11) ∧ (∃ q, q ≤ m ∧ K q = 3 ∧ cr = V q) ∧ enP x.2 k ≤ en ∧ en ≤ x.1.2.2.length ∧ (enP x.2 k = en ∨ WD ((x.1.2.2.drop (enP x.2 k)).take (en - enP x.2 k)) 0 1)
theorem AL.st (hT : TE K S m) {x : gRes × List gLn} (h : AL K V m x) (hi : x.1.2.1 ≤ m) (ok : (pLn K V x.1.2.1 x.1.2.2).1 = true) : AL K V m (pLn K V x.1.2.1 x.1.2.2, x.2 ++ [(K x.1.2.1, V (x.1.2.1 + 1), (pLn K V x.1.2.1 x.1.2.2).2.2.length)]) := by
  obtain ⟨h1, h2, h3⟩ := h
  obtain ⟨a1, a2, a3, a4, t, e, w⟩ := pLn_ok hT hi h2 ok
  have len : (x.2 ++ [(K x.1.2.1, V (x.1.2.1 + 1), (pLn K V x.1.2.1 x.1.2.2).2.2.length)]).length = x.2.length + 1 := by rw [List.length_append]; rfl
  have lt : (pLn K V x.1.2.1 x.1.2.2).2.2.length = x.1.2.2.length + t.length := by rw [e, List.length_append]
  refine ⟨by dsimp only; rw [len, enP_last], a4, fun k hk => ?_⟩
  dsimp only at hk ⊢
  rw [len] at hk
  by_cases ek : k = x.2.length
  · subst ek
    rw [List.getElem?_append_right (Nat.le_refl _), Nat.sub_self, enP_app (Nat.le_refl _), ← h1]
    refine ⟨_, _, _, rfl, a1, ⟨_, a3, a2, rfl⟩, by omega, Nat.le_refl _, ?_⟩
    rcases w with w | w
    · left
      rw [lt, w]
      rfl
    · right
      rw [e, List.length_append, List.drop_left, show x.1.2.2.length + t.length - x.1.2.2.length = t.length by omega, List.take_length]
      exact w
  · have hk' : k < x.2.length := by omega
    obtain ⟨vb, cr, en, b1, b2, b3, b4, b5, b6⟩ := h3 k hk'
    rw [List.getElem?_append_left hk', enP_app (by omega)]
    refine ⟨vb, cr, en, b1, b2, b3, b4, by omega, ?_⟩
    rcases b6 with b6 | b6
    · exact Or.inl b6
    · right
      rw [e, List.drop_append_of_le_length (by omega), List.take_append_of_le_length (by rw [List.length_drop]; omega)]
      exact b6
theorem AL.all (hT : TE K S m) : ∀ (f : Nat) (x : gRes × List gLn), x.1.2.1 ≤ m → (x.1.1 = true → AL K V m x) → (pAll K V f x).1.2.1 ≤ m ∧ ((pAll K V f x).1.1 = true → AL K V m (pAll K V f x))
  | 0, x, hi, h => ⟨hi, h⟩
  | f + 1, x, hi, h => by
    rw [pAll]
    by_cases q : x.1.1 = true ∧ ¬ K x.1.2.1 = 0
    · rw [if_pos q]
      exact AL.all hT f _ (GD.ln (V := V) (l := x.1.2.2) hT hi).2.1 (fun ok => (h q.1).st hT hi ok)
    · rw [if_neg q]
      exact ⟨hi, h⟩
end
