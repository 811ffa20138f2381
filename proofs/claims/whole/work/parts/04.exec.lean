/-! A RUN: with fuel f, at depth d, of code k whose answer is of kind rt. -/
abbrev zMt : Type := (Nat → zI) × Nat × Nat
abbrev zO : Type := Nat × Option Value × Nat × Nat × zM
def zex (tb : Nat → zMt) : Nat → Nat → (Nat → zI) → Nat → Nat → zL → List Value → Nat → Nat → zM → Option zO
  | 0, _, _, _, _, _, _, _, _, _ => none
  | f + 1, d, k, rt, pc, L, st, n, w, M => match zst (k pc) L st n w M with
    | some (pc', L', st', n', w', M') => zex tb f d k rt pc' L' st' n' w' M'
    | none => match zrt rt (k pc) st with
      | some r => some (pc, r, n, w, M)
      | none => match zcall (k pc) st M with
        | none => none
        | some (y, as, r) => match d with
          | 0 => none
          | d' + 1 => bif Nat.ble (zdp as) (tb y).2.1 then (match zex tb f d' (tb y).1 (tb y).2.2 0 (zent as (tb y).2.1) [] n w M with
            | none => none
            | some (_, v, n', w', M') => zex tb f (d' + 1) k rt (k pc).2.1 L (v.toList ++ r) n' w' M') else none
theorem zex_succ (tb : Nat → zMt) : ∀ (f d : Nat) (k : Nat → zI) (rt pc : Nat) (L : zL) (st : List Value) (n w : Nat) (M : zM) (o : zO), zex tb f d k rt pc L st n w M = some o → zex tb (f + 1) d k rt pc L st n w M = some o
  | 0, d, k, rt, pc, L, st, n, w, M, o, h => by cases h
  | f + 1, d, k, rt, pc, L, st, n, w, M, o, h => by
    rw [zex] at h
    rw [zex]
    split at h
    · exact zex_succ tb f _ _ _ _ _ _ _ _ _ _ h
    · split at h
      · exact h
      · split at h
        · cases h
        · split at h
          · cases h
          · rename_i y as r heq d1 d2
            revert h
            cases hz : Nat.ble (zdp as) (tb y).2.1 with
            | false => intro h; cases h
            | true =>
              intro h
              rw [cond_true] at h ⊢
              split at h
              · cases h
              · rename_i h4
                rw [zex_succ tb f _ _ _ _ _ _ _ _ _ _ h4]
                exact zex_succ tb f _ _ _ _ _ _ _ _ _ _ h
theorem zex_le (tb : Nat → zMt) {f g d : Nat} {k : Nat → zI} {rt pc : Nat} {L : zL} {st : List Value} {n w : Nat} {M : zM} {o : zO} (hfg : f ≤ g) (h : zex tb f d k rt pc L st n w M = some o) : zex tb g d k rt pc L st n w M = some o := by
  induction g with
  | zero => rw [Nat.le_zero.mp hfg] at h; exact h
  | succ g ih =>
    rcases Nat.lt_or_ge f (g + 1) with q | q
    · exact zex_succ tb _ _ _ _ _ _ _ _ _ _ _ (ih (by omega))
    · rw [show g + 1 = f by omega]; exact h
/-- the run ends, and its end satisfies Q -/
def zR (tb : Nat → zMt) (d : Nat) (k : Nat → zI) (rt pc : Nat) (L : zL) (st : List Value) (n w : Nat) (M : zM) (Q : Option Value → Nat → Nat → zM → Prop) : Prop :=
  ∃ (f pcE : Nat) (r : Option Value) (n' w' : Nat) (M' : zM), zex tb f d k rt pc L st n w M = some (pcE, r, n', w', M') ∧ Q r n' w' M'
section ZR
variable {tb : Nat → zMt} {d : Nat} {k : Nat → zI} {rt pc : Nat} {L : zL} {st : List Value} {n w : Nat} {M : zM} {Q Q' : Option Value → Nat → Nat → zM → Prop}
theorem zR.step {pc' : Nat} {L' : zL} {st' : List Value} {n' w' : Nat} {M' : zM} (h : zst (k pc) L st n w M = some (pc', L', st', n', w', M')) (hr : zR tb d k rt pc' L' st' n' w' M' Q) : zR tb d k rt pc L st n w M Q := by
  obtain ⟨f, pcE, r, n2, w2, M2, h1, h2⟩ := hr
  refine ⟨f + 1, pcE, r, n2, w2, M2, ?_, h2⟩
  rw [zex, h]
  exact h1
theorem zR.ret {r : Option Value} (h0 : zst (k pc) L st n w M = none) (h : zrt rt (k pc) st = some r) (hq : Q r n w M) : zR tb d k rt pc L st n w M Q := by
  refine ⟨1, pc, r, n, w, M, ?_, hq⟩
  rw [zex, h0, h]
theorem zR.call {y : Nat} {as r : List Value} (h0 : zst (k pc) L st n w M = none) (h1 : zrt rt (k pc) st = none) (h : zcall (k pc) st M = some (y, as, r)) (hz : Nat.ble (zdp as) (tb y).2.1 = true)
    (hr : zR tb d (tb y).1 (tb y).2.2 0 (zent as (tb y).2.1) [] n w M (fun v n' w' M' => zR tb (d + 1) k rt (k pc).2.1 L (v.toList ++ r) n' w' M' Q)) : zR tb (d + 1) k rt pc L st n w M Q := by
  obtain ⟨f, pcE, v, n2, w2, M2, h2, f3, pc3, v3, n3, w3, M3, h3, h4⟩ := hr
  refine ⟨max f f3 + 1, pc3, v3, n3, w3, M3, ?_, h4⟩
  have a1 := zex_le tb (Nat.le_max_left f f3) h2
  have a2 := zex_le tb (Nat.le_max_right f f3) h3
  rw [zex, h0, h1, h]
  dsimp only
  rw [hz, cond_true, a1]
  exact a2
theorem zR.mono (h : zR tb d k rt pc L st n w M Q) (hq : ∀ r n' w' M', Q r n' w' M' → Q' r n' w' M') : zR tb d k rt pc L st n w M Q' := by
  obtain ⟨f, pcE, r, n2, w2, M2, h1, h2⟩ := h
  exact ⟨f, pcE, r, n2, w2, M2, h1, hq _ _ _ _ h2⟩
theorem zR.ite {c : Prop} [Decidable c] {a b : Nat} (h1 : c → zR tb d k rt a L st n w M Q) (h2 : ¬ c → zR tb d k rt b L st n w M Q) : zR tb d k rt (if c then a else b) L st n w M Q := by
  by_cases hc : c
  · rw [if_pos hc]; exact h1 hc
  · rw [if_neg hc]; exact h2 hc
end ZR
theorem zup_self (M : zM) (a : Nat) (c : zC) : zup M a c a = c := by simp [zup]
theorem zup_ne (M : zM) {a b : Nat} (c : zC) (h : b ≠ a) : zup M a c b = M b := by simp [zup, h]
theorem zup_up (M : zM) (a : Nat) (c e : zC) : zup (zup M a c) a e = zup M a e := by
  funext k
  by_cases h : k = a <;> simp [zup, h]
theorem zup_comm (M : zM) {a b : Nat} (c e : zC) (h : a ≠ b) : zup (zup M a c) b e = zup (zup M b e) a c := by
  funext k
  by_cases h1 : k = a <;> by_cases h2 : k = b <;> simp [zup, h1, h2]
  · exact absurd (h1.symm.trans h2) h
  · intro q; exact absurd q h
  · intro q; exact absurd q.symm h
theorem zuf_self {α : Type} (f : Nat → α) (i : Nat) (x : α) : zuf f i x i = x := by simp [zuf]
theorem zuf_ne {α : Type} (f : Nat → α) {i j : Nat} (x : α) (h : j ≠ i) : zuf f i x j = f j := by simp [zuf, h]
theorem zuf_uf {α : Type} (f : Nat → α) (i : Nat) (x y : α) : zuf (zuf f i x) i y = zuf f i y := by
  funext k
  by_cases h : k = i <;> simp [zuf, h]
