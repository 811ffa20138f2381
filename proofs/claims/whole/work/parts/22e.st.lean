
/-! lines: the reference begins; no missing crop. -/
section
variable {K V : Nat → Int32} {S : Nat → Nat} {m : Nat} {cc : Int32}
theorem fk_0 : ∀ i, (fkP K V S cc i).1 = 0 → ∀ q, q < i → K q = 3 → V q < cc
  | 0, _, q, hq, _ => absurd hq (Nat.not_lt_zero _)
  | i + 1, h, q, hq, h3 => by
    rw [fkP] at h
    by_cases z : (fkP K V S cc i).1 = 0 ∧ K i = 3 ∧ ¬ V i < cc
    · rw [if_pos z] at h
      exact absurd (show (2 : Int32) = 0 from h) (by decide)
    · rw [if_neg z] at h
      by_cases e : q = i
      · subst e
        by_cases y : V q < cc
        · exact y
        · exact absurd ⟨h, h3, y⟩ z
      · exact fk_0 i h q (by omega) h3
theorem TE.end_ (hT : TE K S m) {i : Nat} (hi : i ≤ m) (h : K i = 0) : i = m := by
  by_cases e : i = m
  · exact e
  · exact absurd h (hT.2.1 i (by omega)).1
theorem fk_end (h : K m = 0) : fkP K V S cc (m + 1) = fkP K V S cc m := by
  rw [fkP, if_neg (fun z => by rw [h] at z; exact absurd z.2.1 (by decide))]
end
theorem oF_id (o : Nat → Int32) : oF o (o 7) (o 8) (o 15) (o 16) (o 17) (o 18) (o 19) (o 20) (o 22) = o := by
  funext q
  unfold oF zuf
  repeat' split
  all_goals first | rfl | (rename_i h; rw [h])
theorem pst_id (σ : mS) : pst σ (σ 12 7) (σ 12 8) (σ 12 15) (σ 12 16) (σ 12 17) (σ 12 18) (σ 12 19) (σ 12 20) (σ 12 22) (σ 8) (σ 9) = σ := by
  unfold pst
  rw [oF_id]
  funext q
  unfold zuf
  repeat' split
  all_goals first | rfl | (rename_i h; rw [h])
section
variable {M M0 : zM} {σ : mS} {β : Nat → Int32} {L m c : Nat} {d n w : Nat} {Q : Option Value → Nat → Nat → zM → Prop}
theorem ll_start (hE : EV σ β L m c) (hR : Rf M σ) (hS : Sm M0 M) (hc : ∀ M', FS M0 σ β L c (pAll (kdF β L) (vaF β L) 20 ((true, 0, []), [])) M' → zR ztb (d + 28) kX12_lines 1 72 [some (.ref 287), none] [] n w M' Q) : zR ztb (d + 28) kX12_lines 1 0 [some (.ref 287), none] [] n w M Q := by
  rw [← pst_id σ] at hR
  repeat (first | ((with_reducible refine zR.stored ?_); dsimp only [zsto, zclr, zset, zget, zc2, cond_false, cond_true]) | ((with_reducible refine zR.atLit ?_); first | refine zR.step rfl ?_) | rw [zcc1] | rw [zcc2] | rw [zcc3] | rw [zcc4])
  refine zR.pt15 hR hS rfl (fun M1 hR hS => ?_)
  repeat (first | ((with_reducible refine zR.stored ?_); dsimp only [zsto, zclr, zset, zget, zc2, cond_false, cond_true]) | ((with_reducible refine zR.atLit ?_); first | refine zR.step rfl ?_) | rw [zcc1] | rw [zcc2] | rw [zcc3] | rw [zcc4])
  refine zR.pt19 hR hS rfl (fun M1 hR hS => ?_)
  repeat (first | ((with_reducible refine zR.stored ?_); dsimp only [zsto, zclr, zset, zget, zc2, cond_false, cond_true]) | ((with_reducible refine zR.atLit ?_); first | refine zR.step rfl ?_) | rw [zcc1] | rw [zcc2] | rw [zcc3] | rw [zcc4])
  refine zR.pt20 hR hS rfl (fun M1 hR hS => ?_)
  repeat (first | ((with_reducible refine zR.stored ?_); dsimp only [zsto, zclr, zset, zget, zc2, cond_false, cond_true]) | ((with_reducible refine zR.atLit ?_); first | refine zR.step rfl ?_) | rw [zcc1] | rw [zcc2] | rw [zcc3] | rw [zcc4])
  refine zR.pt22 hR hS rfl (fun M1 hR hS => ?_)
  repeat (first | ((with_reducible refine zR.stored ?_); dsimp only [zsto, zclr, zset, zget, zc2, cond_false, cond_true]) | ((with_reducible refine zR.atLit ?_); first | refine zR.step rfl ?_) | rw [zcc1] | rw [zcc2] | rw [zcc3] | rw [zcc4])
  refine zR.pt7 hR hS rfl (fun M1 hR hS => ?_)
  repeat (first | ((with_reducible refine zR.stored ?_); dsimp only [zsto, zclr, zset, zget, zc2, cond_false, cond_true]) | ((with_reducible refine zR.atLit ?_); first | refine zR.step rfl ?_) | rw [zcc1] | rw [zcc2] | rw [zcc3] | rw [zcc4])
  refine zR.pt8 hR hS rfl (fun M1 hR hS => ?_)
  repeat (first | ((with_reducible refine zR.stored ?_); dsimp only [zsto, zclr, zset, zget, zc2, cond_false, cond_true]) | ((with_reducible refine zR.atLit ?_); first | refine zR.step rfl ?_) | rw [zcc1] | rw [zcc2] | rw [zcc3] | rw [zcc4])
  refine zR.cv rfl rfl rfl hR.1 rfl rfl (zR.mono (c_next (d := d + 24) (p := 0) hE.2.2.2.2.1 hR hS (by decide) (Nat.zero_le _)) (fun v n1 w1 M2 hv => ?_))
  obtain ⟨rfl, rfl, rfl, hS', at', tk', va', hK⟩ := hv
  have hG : GS M0 σ β L c (nI 0) (nI 0) (σ 8) 0 [] (true, 0, []) M2 := by
    refine ⟨hS', ?_⟩
    by_cases q : kdF β L 0 = 1
    · rw [if_pos (show (tkF β L (skF β L 0)).1 = 1 from q)] at hK
      exact Or.inr ⟨fun z => z.2 q, 0, Nat.le_refl _, at', va', _, _, hK⟩
    · rw [if_neg (show ¬ (tkF β L (skF β L 0)).1 = 1 from q)] at hK
      exact Or.inl ⟨rfl, q, at', tk', va', _, hK.1, hK.2.1, fun k hk => absurd hk (Nat.not_lt_zero _), hK.2.2⟩
  exact ll_lp hE 20 M2 ((true, 0, []), []) (σ 8) rfl hG (fun _ => ⟨fun k hk => absurd hk (Nat.not_lt_zero _), rfl⟩) ⟨Nat.le_refl _, Nat.zero_le _, Nat.le_refl _, Nat.le_refl _⟩ hc
end
