
/-! lines: the new lines stand for the new row. -/
theorem enP_s {ls : List gLn} {k : Nat} {vb cr : Int32} {en : Nat} (h : ls[k]? = some (vb, cr, en)) : enP ls (k + 1) = en := by
  unfold enP
  dsimp only
  rw [h]
theorem PX.new {M : zM} {n la nc N C m : Nat} {r : mS} {s l8 l9 : Nat → Int32} {K V : Nat → Int32} {x : gRes × List gLn} (hLc : Lc M la N C r) (h40 : 40 ≤ la) (h3 : la = 40 ∨ 300 ≤ la) (hn : la + 8 ≤ n) (hC : C ≤ 100) (eN : N = x.2.length) (eC : C = x.1.2.2.length) (hl : ∀ k, k < N → ∃ e, x.2[k]? = some (r 0 k, r 1 k, e) ∧ r 2 k = nI e) (hs : ∀ k, k < C → x.1.2.2[k]? = some (r 3 k, r 4 k, r 5 k, r 6 k)) (hA : AL K V m x) (h8 : R8 l8 x.2) (h9 : CL l9 x.1.2.2) (s8 : ∀ q, q < 4 * N → s (2100 + q) = l8 q) (s9 : ∀ q, q < 4 * C → s (2200 + q) = l9 q) (hV : ∀ q, q ≤ m → K q = 3 → ∃ i, i < nc ∧ V q = nI i) : PX M n la s nc N := by
  subst eN eC
  obtain ⟨a1, a2, a3⟩ := hA
  have en_le : ∀ k, k ≤ x.2.length → enP x.2 k ≤ x.1.2.2.length := by
    intro k hk
    cases k with
    | zero => exact Nat.zero_le _
    | succ k =>
      obtain ⟨vb, cr, en, b1, -, -, -, b5, -⟩ := a3 k (by omega)
      rw [enP_s b1]
      exact b5
  have stp : ∀ k u, x.1.2.2[k]? = some u → k < x.1.2.2.length ∧ s (2200 + 4 * k) = (cvR u).1 ∧ s (2201 + 4 * k) = (cvR u).2.1 ∧ s (2202 + 4 * k) = (cvR u).2.2.1 ∧ s (2203 + 4 * k) = (cvR u).2.2.2 := by
    intro k u hu
    have hk : k < x.1.2.2.length := by
      by_cases z : k < x.1.2.2.length
      · exact z
      · rw [List.getElem?_eq_none (by omega)] at hu
        exact absurd hu (by intro z; cases z)
    obtain ⟨u', e1, e2, e3, e4, e5⟩ := h9 k hk
    rw [hu] at e1
    cases e1
    refine ⟨hk, ?_, ?_, ?_, ?_⟩
    · rw [s9 _ (by omega)]; exact e2
    · rw [show 2201 + 4 * k = 2200 + (4 * k + 1) by omega, s9 _ (by omega)]; exact e3
    · rw [show 2202 + 4 * k = 2200 + (4 * k + 2) by omega, s9 _ (by omega)]; exact e4
    · rw [show 2203 + 4 * k = 2200 + (4 * k + 3) by omega, s9 _ (by omega)]; exact e5
  refine ⟨_, r, enP x.2, hLc, h40, h3, hn, hC, rfl, en_le, fun l hl' => ?_, fun k hk => ?_⟩
  · obtain ⟨vb, cr, en, b1, b2, ⟨q, q1, q2, q3⟩, b4, b5, b6⟩ := a3 l hl'
    obtain ⟨e, c1, c2⟩ := hl l hl'
    obtain ⟨vb', cr', en', d1, d2, d3, d4, d5⟩ := h8 l hl'
    rw [b1] at c1 d1
    cases d1
    injection c1 with c1
    injection c1 with c3 c1
    injection c1 with c4 c5
    rw [← c5] at c2
    subst c3 c4
    rw [enP_s b1]
    refine ⟨b4, ?_, ?_, c2, ?_, ?_, ?_, ?_⟩
    · rw [show 2102 + 4 * l = 2100 + (4 * l + 2) by omega, s8 _ (by omega)]; exact d4
    · rw [show 2103 + 4 * l = 2100 + (4 * l + 3) by omega, s8 _ (by omega)]; exact d5
    · rw [s8 _ (by omega), d2]
      rcases b2 with z | z
      · exact Or.inl ⟨z, by rw [if_pos z]⟩
      · exact Or.inr ⟨z, by rw [z]; exact if_neg (by decide)⟩
    · rw [show 2101 + 4 * l = 2100 + (4 * l + 1) by omega, s8 _ (by omega)]; exact d3.symm
    · obtain ⟨i, i1, i2⟩ := hV q q1 q2
      exact ⟨i, i1, by rw [show 2101 + 4 * l = 2100 + (4 * l + 1) by omega, s8 _ (by omega), d3, q3, i2]⟩
    · rcases b6 with z | z
      · exact Or.inl z
      · right
        have hlen : ((x.1.2.2.drop (enP x.2 l)).take (en - enP x.2 l)).length = en - enP x.2 l := by
          rw [List.length_take, List.length_drop]
          omega
        have := wf_of s _ (enP x.2 l) 0 z (fun j u hu => by
          have hj : j < en - enP x.2 l := by
            by_cases y : j < en - enP x.2 l
            · exact y
            · rw [List.getElem?_eq_none (by omega)] at hu
              exact absurd hu (by intro z; cases z)
          rw [List.getElem?_take_of_lt hj, List.getElem?_drop] at hu
          exact (stp _ u hu).2.1)
        rw [hlen] at this
        exact this
  · have e := hs k hk
    obtain ⟨-, p1, p2, p3, p4⟩ := stp k _ e
    have ok := a2 _ (List.mem_of_getElem? e)
    rcases ok with z | z | z | ⟨z, y⟩
    · rw [cv_15 z] at p1
      exact ⟨Or.inl ⟨z, p1⟩, fun w => by rw [p1] at w; exact absurd w (by decide)⟩
    · rw [cv_13 z] at p1
      exact ⟨Or.inr (Or.inl ⟨z, p1⟩), fun w => by rw [p1] at w; exact absurd w (by decide)⟩
    · rw [cv_14 z] at p1
      exact ⟨Or.inr (Or.inr (Or.inl ⟨z, p1⟩)), fun w => by rw [p1] at w; exact absurd w (by decide)⟩
    · rw [cv_45 z] at p1 p2 p3 p4
      dsimp only at z y p1 p2 p3 p4
      refine ⟨Or.inr (Or.inr (Or.inr ⟨?_, ?_, ?_, p2.symm, p4.symm⟩)), fun w => ?_⟩
      · rcases z with z | z
        · exact Or.inl ⟨z, by rw [p3, z]; decide⟩
        · exact Or.inr ⟨z, by rw [p3, z]; decide⟩
      · rw [p1]
        rcases y with ⟨y | y, -⟩ | y | y
        · rw [y]; exact Or.inl (by decide)
        · rw [y]; exact Or.inr (Or.inl (by decide))
        · rw [y]; exact Or.inr (Or.inr (Or.inl (by decide)))
        · rw [y]; exact Or.inr (Or.inr (Or.inr (by decide)))
      · rw [p1]
        exact (Int32.sub_add_cancel _ _).symm
      · rcases y with ⟨-, q, q1, q2, q3⟩ | y | y
        · obtain ⟨i, i1, i2⟩ := hV q q1 q2
          exact ⟨i, i1, by rw [p2, q3, i2]⟩
        · rw [p1, y] at w
          exact absurd w (by decide)
        · rw [p1, y] at w
          exact absurd w (by decide)
