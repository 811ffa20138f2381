
/-! lines: the reference's loop over lines. -/
def enP (ls : List gLn) : Nat → Nat
  | 0 => 0
  | k + 1 => match ls[k]? with
    | some e => e.2.2
    | none => 0
def R8 (l8 : Nat → Int32) (ls : List gLn) : Prop := ∀ k, k < ls.length → ∃ vb cr en, ls[k]? = some (vb, cr, en) ∧ l8 (4 * k) = (if vb = 10 then 1 else 0) ∧ l8 (4 * k + 1) = cr ∧ l8 (4 * k + 2) = nI (enP ls k) ∧ l8 (4 * k + 3) = nI en
theorem enP_app {ls : List gLn} {e : gLn} {k : Nat} (h : k ≤ ls.length) : enP (ls ++ [e]) k = enP ls k := by
  cases k with
  | zero => rfl
  | succ k =>
    unfold enP
    dsimp only
    rw [List.getElem?_append_left (show k < ls.length by omega)]
theorem enP_last {ls : List gLn} {e : gLn} : enP (ls ++ [e]) (ls.length + 1) = e.2.2 := by
  unfold enP
  dsimp only
  rw [List.getElem?_append_right (Nat.le_refl _), Nat.sub_self]
  rfl
theorem TV.z {K V tk va : Int32} (h : TV K V tk va) : (K = 0 → tk = 0) ∧ (¬ K = 0 → ¬ tk = 0) := by
  rcases h with ⟨rfl, z⟩ | ⟨rfl, z, y⟩ | ⟨rfl, z, y⟩ | ⟨rfl, z, y⟩ | ⟨rfl, z, y⟩ | ⟨rfl, z, y⟩ | ⟨rfl, z, y⟩ | ⟨rfl, z, y⟩ | ⟨i, hi, rfl, z, y⟩
  · exact ⟨fun _ => z, fun h => absurd rfl h⟩
  · exact ⟨fun h => absurd h (by decide), fun _ => by rw [z]; decide⟩
  · exact ⟨fun h => absurd h (by decide), fun _ => by rw [z]; decide⟩
  · exact ⟨fun h => absurd h (by decide), fun _ => by rw [z]; decide⟩
  · exact ⟨fun h => absurd h (by decide), fun _ => by rw [z]; decide⟩
  · exact ⟨fun h => absurd h (by decide), fun _ => by rw [z]; decide⟩
  · exact ⟨fun h => absurd h (by decide), fun _ => by rw [z]; decide⟩
  · exact ⟨fun h => absurd h (by decide), fun _ => by rw [z]; decide⟩
  · exact ⟨fun h => absurd (zn_inj (b := 0) (by omega) (by omega) h) (by omega), fun _ => by rw [z]; decide⟩
theorem pAll_f {K V : Nat → Int32} : ∀ (f : Nat) (x : gRes × List gLn), x.1.1 = false → pAll K V f x = x
  | 0, x, _ => rfl
  | f + 1, x, h => by
    rw [pAll, if_neg (fun z => by rw [h] at z; exact absurd z.1 (by decide))]
section
variable {M0 : zM} {σ : mS} {β : Nat → Int32} {L m c : Nat} {d n w : Nat} {Q : Option Value → Nat → Nat → zM → Prop}
/-- what the loop leaves -/
def FS (M0 : zM) (σ : mS) (β : Nat → Int32) (L c : Nat) (x : gRes × List gLn) (M : zM) : Prop := (x.1.1 = true ∧ kdF β L x.1.2.1 = 0 ∧ ∃ l8, GS M0 σ β L c (nI 0) (nI x.2.length) l8 0 [] x.1 M ∧ R8 l8 x.2 ∧ x.1.2.2.length = enP x.2 x.2.length) ∨ (¬ (x.1.1 = true ∧ kdF β L x.1.2.1 = 0) ∧ ∃ l8 lm, GS M0 σ β L c (nI 0) lm l8 0 [] (false, x.1.2.1, x.1.2.2) M)
theorem ll_dead {x : gRes × List gLn} {lm : Int32} {l8 : Nat → Int32} {j : Nat} {l : List gStp} {M : zM} (h : GS M0 σ β L c (nI 0) lm l8 0 [] (false, j, l) M) (hx : x.1.2.1 = j) (hl : x.1.2.2 = l) (hn : ¬ (x.1.1 = true ∧ kdF β L x.1.2.1 = 0)) (hc : ∀ M', FS M0 σ β L c x M' → zR ztb (d + 28) kX12_lines 1 72 [some (.ref 287), none] [] n w M' Q) : zR ztb (d + 28) kX12_lines 1 34 [some (.ref 287), none] [] n w M Q := by
  subst hx hl
  have := hc M (Or.inr ⟨hn, l8, lm, h⟩)
  obtain ⟨hS, ⟨a, -⟩ | ⟨-, k, hk, at_, va, bg, l9, hR⟩⟩ := h
  · exact absurd (show false = true from a) (by decide)
  · repeat (first | with_reducible refine zR.hold (pc := 72) ?_ | ((with_reducible refine zR.stored ?_); dsimp only [zsto, zclr, zset, zget, zc2, cond_false, cond_true]) | ((with_reducible refine zR.atLit ?_); first | refine zR.step rfl ?_ | refine zR.getf rfl hR.po rfl ?_) | rw [zcc1] | rw [zcc2] | rw [zcc3] | rw [zcc4] | rw [zb1 (by decide)] | rw [zb2 (by decide)] | rw [zb3 (by decide)] | rw [zb4 (by decide)] | rw [zn1 (by decide)] | rw [zn2 (by decide)] | rw [zn3 (by decide)] | rw [zn4 (by decide)] | rw [ze1 (by decide)] | rw [ze2 (by decide)] | rw [zd1 (by decide)] | rw [zd2 (by decide)] | rw [zswy (by decide)] | rw [zswn (by decide)] | rw [zsw0])
    exact ⟨trivial, this⟩
theorem ll_lp (hE : EV σ β L m c) : ∀ (f : Nat) (M : zM) (x : gRes × List gLn) (l8 : Nat → Int32), x.2.length + f = 20 → GS M0 σ β L c (nI 0) (nI x.2.length) l8 0 [] x.1 M → (x.1.1 = true ∧ ¬ kdF β L x.1.2.1 = 1 → R8 l8 x.2 ∧ x.1.2.2.length = enP x.2 x.2.length) → GD (stF β L) m 0 [] x.1 → (∀ M', FS M0 σ β L c (pAll (kdF β L) (vaF β L) f x) M' → zR ztb (d + 28) kX12_lines 1 72 [some (.ref 287), none] [] n w M' Q) → zR ztb (d + 28) kX12_lines 1 34 [some (.ref 287), none] [] n w M Q := by
  intro f
  induction f with
  | zero =>
    intro M x l8 hf h hr hg hc
    rw [pAll] at hc
    by_cases hlv : x.1.1 = true ∧ ¬ kdF β L x.1.2.1 = 1
    · have h' := h
      have f1 := fk_n1 hE (i := x.1.2.1) (by have := hg.2.1; omega)
      have e20 : nI x.2.length = 20 := by rw [show x.2.length = 20 by omega]; rfl
      obtain ⟨hS, ⟨-, -, at_, tk, va, l9, hV, ha, hC, hR⟩ | ⟨hn, -⟩⟩ := h
      · by_cases q0 : kdF β L x.1.2.1 = 0
        · have t0 := hV.z.1 q0
          subst t0
          repeat (first | with_reducible refine zR.hold (pc := 72) ?_ | ((with_reducible refine zR.stored ?_); dsimp only [zsto, zclr, zset, zget, zc2, cond_false, cond_true]) | ((with_reducible refine zR.atLit ?_); first | refine zR.step rfl ?_ | refine zR.getf rfl hR.po rfl ?_) | rw [zcc1] | rw [zcc2] | rw [zcc3] | rw [zcc4] | rw [zd1 (f1)] | rw [zd2 (f1)] | rw [zb1 (by decide)] | rw [zb2 (by decide)] | rw [zb3 (by decide)] | rw [zb4 (by decide)] | rw [zn1 (by decide)] | rw [zn2 (by decide)] | rw [zn3 (by decide)] | rw [zn4 (by decide)] | rw [ze1 (by decide)] | rw [ze2 (by decide)] | rw [zd1 (by decide)] | rw [zd2 (by decide)] | rw [zswy (by decide)] | rw [zswn (by decide)] | rw [zsw0])
          exact ⟨trivial, hc M (Or.inl ⟨hlv.1, q0, l8, h', hr hlv⟩)⟩
        · have t0 := hV.z.2 q0
          repeat (first | ((with_reducible refine zR.stored ?_); dsimp only [zsto, zclr, zset, zget, zc2, cond_false, cond_true]) | ((with_reducible refine zR.atLit ?_); first | refine zR.step rfl ?_ | refine zR.getf rfl hR.po rfl ?_) | rw [zcc1] | rw [zcc2] | rw [zcc3] | rw [zcc4] | rw [zd1 (f1)] | rw [zd2 (f1)] | rw [zd1 (t0)] | rw [zd2 (t0)] | rw [ze1 (e20)] | rw [ze2 (e20)])
          refine zR.cv rfl rfl rfl hR.1 rfl rfl (zR.mono (c_cannot_l hR hS f1) (fun v n1 w1 M1 hv => ?_))
          obtain ⟨rfl, rfl, rfl, hS1, hR1⟩ := hv
          repeat (first | with_reducible refine zR.hold (pc := 34) ?_ | ((with_reducible refine zR.stored ?_); dsimp only [zsto, zclr, zset, zget, zc2, cond_false, cond_true]) | ((with_reducible refine zR.atLit ?_); first | refine zR.step rfl ?_) | rw [zcc1] | rw [zcc2] | rw [zcc3] | rw [zcc4])
          exact ⟨trivial, ll_dead ⟨hS1, Or.inr ⟨fun z => absurd (show false = true from z.1) (by decide), _, hg.2.2.2, _, _, _, _, hR1⟩⟩ rfl rfl (fun z => q0 z.2) hc⟩
      · exact absurd hlv hn
    · exact ll_dead (h.dd hlv) rfl rfl (fun z => hlv ⟨z.1, fun y => by rw [y] at z; exact absurd z.2 (by decide)⟩) hc
  | succ f ih =>
    intro M x l8 hf h hr hg hc
    rw [pAll] at hc
    by_cases hlv : x.1.1 = true ∧ ¬ kdF β L x.1.2.1 = 1
    · have h' := h
      have f1 := fk_n1 hE (i := x.1.2.1) (by have := hg.2.1; omega)
      have e20 : ¬ nI x.2.length = 20 := fun z => by have := zn_inj (b := 20) (by omega) (by omega) z; omega
      obtain ⟨hS, ⟨-, -, at_, tk, va, l9, hV, ha, hC, hR⟩ | ⟨hn, -⟩⟩ := h
      · by_cases q0 : kdF β L x.1.2.1 = 0
        · have t0 := hV.z.1 q0
          subst t0
          rw [if_neg (fun z => z.2 q0)] at hc
          repeat (first | with_reducible refine zR.hold (pc := 72) ?_ | ((with_reducible refine zR.stored ?_); dsimp only [zsto, zclr, zset, zget, zc2, cond_false, cond_true]) | ((with_reducible refine zR.atLit ?_); first | refine zR.step rfl ?_ | refine zR.getf rfl hR.po rfl ?_) | rw [zcc1] | rw [zcc2] | rw [zcc3] | rw [zcc4] | rw [zd1 (f1)] | rw [zd2 (f1)] | rw [zb1 (by decide)] | rw [zb2 (by decide)] | rw [zb3 (by decide)] | rw [zb4 (by decide)] | rw [zn1 (by decide)] | rw [zn2 (by decide)] | rw [zn3 (by decide)] | rw [zn4 (by decide)] | rw [ze1 (by decide)] | rw [ze2 (by decide)] | rw [zd1 (by decide)] | rw [zd2 (by decide)] | rw [zswy (by decide)] | rw [zswn (by decide)] | rw [zsw0])
          exact ⟨trivial, hc M (Or.inl ⟨hlv.1, q0, l8, h', hr hlv⟩)⟩
        · have t0 := hV.z.2 q0
          rw [if_pos ⟨hlv.1, q0⟩] at hc
          obtain ⟨r1, r2⟩ := hr hlv
          have hb : 2 * x.1.2.2.length ≤ stF β L x.1.2.1 := by
            have h4 := hg.2.2.2
            have : 2 * x.1.2.2.length + stF β L 0 ≤ 2 * 0 + stF β L x.1.2.1 := h4
            omega
          have hL : GS M0 σ β L c (nI 0) (nI x.2.length) l8 x.1.2.1 x.1.2.2 (true, x.1.2.1, x.1.2.2) M := ⟨hS, Or.inl ⟨rfl, hlv.2, at_, tk, va, l9, hV, ha, hC, hR⟩⟩
          refine zR.step rfl ?_
          repeat (first | ((with_reducible refine zR.stored ?_); dsimp only [zsto, zclr, zset, zget, zc2, cond_false, cond_true]) | ((with_reducible refine zR.atLit ?_); first | refine zR.step rfl ?_ | refine zR.getf rfl hR.po rfl ?_) | rw [zcc1] | rw [zcc2] | rw [zcc3] | rw [zcc4] | rw [zd1 (f1)] | rw [zd2 (f1)] | rw [zd1 (t0)] | rw [zd2 (t0)] | rw [zd1 (e20)] | rw [zd2 (e20)])
          refine zR.cv rfl rfl rfl hR.1 rfl rfl (zR.mono (c_readLineS hE (by omega) hL hg.2.1 hb) (fun v n1 w1 M1 hv => ?_))
          obtain ⟨rfl, rfl, rfl, l8', h1, h81, h82⟩ := hv
          have gl := GD.ln (K := kdF β L) (V := vaF β L) (S := stF β L) (m := m) (l := x.1.2.2) hE.1 hg.2.1
          have len : (x.2 ++ [(kdF β L x.1.2.1, vaF β L (x.1.2.1 + 1), (pLn (kdF β L) (vaF β L) x.1.2.1 x.1.2.2).2.2.length)]).length = x.2.length + 1 := by rw [List.length_append]; rfl
          repeat (first | with_reducible refine zR.hold (pc := 34) ?_ | ((with_reducible refine zR.stored ?_); dsimp only [zsto, zclr, zset, zget, zc2, cond_false, cond_true]) | ((with_reducible refine zR.atLit ?_); first | refine zR.step rfl ?_) | rw [zcc1] | rw [zcc2] | rw [zcc3] | rw [zcc4])
          refine ⟨trivial, ih M1 (pLn (kdF β L) (vaF β L) x.1.2.1 x.1.2.2, x.2 ++ [(kdF β L x.1.2.1, vaF β L (x.1.2.1 + 1), (pLn (kdF β L) (vaF β L) x.1.2.1 x.1.2.2).2.2.length)]) l8' (by rw [len]; omega) (by rw [len]; exact h1.tr hg) (fun hv => ⟨?_, ?_⟩) (hg.tr gl) hc⟩
          · intro k hk
            dsimp only at hk hv ⊢
            rw [len] at hk
            by_cases e : k = x.2.length
            · subst e
              obtain ⟨v1, v2, v3, v4⟩ := h82 hv
              rw [List.getElem?_append_right (Nat.le_refl _), Nat.sub_self, enP_app (Nat.le_refl _), ← r2]
              exact ⟨_, _, _, rfl, v1, v2, v3, v4⟩
            · have hk' : k < x.2.length := by omega
              rw [List.getElem?_append_left hk', enP_app (by omega), h81 _ (by omega), h81 _ (by omega), h81 _ (by omega), h81 _ (by omega)]
              exact r1 k hk'
          · dsimp only
            rw [len, enP_last]
      · exact absurd hlv hn
    · have hn : ¬ (x.1.1 = true ∧ kdF β L x.1.2.1 = 0) := fun z => hlv ⟨z.1, fun y => by rw [y] at z; exact absurd z.2 (by decide)⟩
      by_cases q : x.1.1 = true ∧ ¬ kdF β L x.1.2.1 = 0
      · rw [if_pos q] at hc
        have q1 : kdF β L x.1.2.1 = 1 := by
          by_cases z : kdF β L x.1.2.1 = 1
          · exact z
          · exact absurd ⟨q.1, z⟩ hlv
        have ep : pLn (kdF β L) (vaF β L) x.1.2.1 x.1.2.2 = (false, x.1.2.1, x.1.2.2) := by
          unfold pLn
          rw [if_neg (fun z => by rw [q1] at z; exact z.elim (fun y => absurd y (by decide)) (fun y => absurd y (by decide)))]
        rw [pAll_f _ _ (by rw [ep]), ep] at hc
        exact ll_dead (x := ((false, x.1.2.1, x.1.2.2), _)) (h.dd hlv) rfl rfl (fun z => absurd (show false = true from z.1) (by decide)) hc
      · rw [if_neg q] at hc
        exact ll_dead (h.dd hlv) rfl rfl hn hc
end
