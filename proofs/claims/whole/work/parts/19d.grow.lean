
/-! A WEEK: all beds grow. -/
def growN (s : Nat → Int32) (wk : Nat) : Nat → (Nat → Int32)
  | 0 => s
  | b + 1 => growS (growN s wk b) wk b
theorem growN_ne {s : Nat → Int32} {wk : Nat} : ∀ (b k : Nat), ¬ (150 ≤ k ∧ k < 150 + 10 * b) → growN s wk b k = s k
  | 0, _, _ => rfl
  | b + 1, k, h => (setB_ne (by omega)).trans (growN_ne b k (by omega))
theorem w0_grow {M0 : zM} {σ : mS} {s : Nat → Int32} {d n w wk : Nat} {Q : Option Value → Nat → Nat → zM → Prop} (h0 : s 0 = nI wk) (hwk : wk < 30) (hc : ∀ b, b < 8 → s (150 + 10 * b) = -1 ∨ ∃ i, i < 8 ∧ s (150 + 10 * b) = nI i) (hQ : ∀ M, Rf M (zuf σ 0 (growN s wk 8)) → Sm M0 M → zR ztb (d + 3) kX12_week0 1 19 [some (.ref 287), some (.int (nI 8)), none, none, none, none] [] n w M Q) : ∀ (t b : Nat) (M : zM), b + t = 8 → Rf M (zuf σ 0 (growN s wk b)) → Sm M0 M → zR ztb (d + 3) kX12_week0 1 2 [some (.ref 287), some (.int (nI b)), none, none, none, none] [] n w M Q
  | 0, b, M, h, hR, hS => by
    have e2 : b = 8 := by omega
    subst e2
    have e : ¬ nI 8 < 8 := by decide
    repeat (first | with_reducible refine zR.hold (pc := 19) ?_ | ((with_reducible refine zR.stored ?_); dsimp only [zsto, zclr, zset, zget, zc2, cond_false, cond_true]) | ((with_reducible refine zR.atLit ?_); first | refine zR.step rfl ?_) | rw [zcc1] | rw [zcc2] | rw [zcc3] | rw [zcc4] | rw [zn1 (e)] | rw [zn2 (e)] | rw [zn3 (e)] | rw [zn4 (e)])
    exact ⟨trivial, hQ M hR hS⟩
  | t + 1, b, M, h, hR, hS => by
    have e : nI b < 8 := zI_ylt (b := 8) (by omega) (by omega)
    refine zR.step rfl ?_
    repeat (first | ((with_reducible refine zR.stored ?_); dsimp only [zsto, zclr, zset, zget, zc2, cond_false, cond_true]) | ((with_reducible refine zR.atLit ?_); first | refine zR.step rfl ?_) | rw [zcc1] | rw [zcc2] | rw [zcc3] | rw [zcc4] | rw [zb1 (e)] | rw [zb2 (e)] | rw [zb3 (e)] | rw [zb4 (e)])
    refine zR.cv rfl rfl rfl hR.1 rfl rfl (zR.mono (c_grows hR hS (by omega) ((growN_ne b 0 (by omega)).trans h0) hwk (by rw [growN_ne b _ (by omega)]; exact hc b (by omega))) (fun v n1 w1 M1 hv => ?_))
    obtain ⟨rfl, rfl, rfl, hS1, hR1⟩ := hv
    have ih := w0_grow (d := d) h0 hwk hc hQ t (b + 1) M1 (by omega) hR1 hS1
    rw [← zI_s] at ih
    repeat (first | with_reducible refine zR.hold (pc := 2) ?_ | ((with_reducible refine zR.stored ?_); dsimp only [zsto, zclr, zset, zget, zc2, cond_false, cond_true]) | ((with_reducible refine zR.atLit ?_); first | refine zR.step rfl ?_) | rw [zcc1] | rw [zcc2] | rw [zcc3] | rw [zcc4])
    exact ⟨trivial, ih⟩
theorem dw_grow {M0 : zM} {g : Nat} {c0 : mS} {kp bt : Nat → Option Nat} {la : Nat} {s : Nat → Int32} {d n w nn nc wk : Nat} {Q : Option Value → Nat → Nat → zM → Prop} (hg : g + 76 ≤ 300) (hwk : wk < 30) (h8 : nc ≤ 8) (hC : ∀ i, i < nc → inN (s (52 + 10 * i)) 1 20 ∧ inN (s (53 + 10 * i)) 1 10) (hB : ∀ b, b < 8 → PBi M0 nn c0 bt s nc b) (hQ : ∀ M c, Gc M g c kp bt la → (∀ k, k < g ∨ g + 76 ≤ k → M k = M0 k) → (∀ j, ¬ (20 ≤ j ∧ j < 28) → c j = c0 j) → (∀ b, b < 8 → PBk M0 nn c bt (growN s wk 8) nc b) → zR ztb (d + 2) kX2_doWeek 0 33 [some (.ref g), some (.int (wmF s wk)), some (.int (nI 8))] [] n w M Q) : ∀ (t b : Nat) (M : zM) (c : mS), b + t = 8 → Gc M g c kp bt la → (∀ k, k < g ∨ g + 76 ≤ k → M k = M0 k) → (∀ j, ¬ (20 ≤ j ∧ j < 20 + b) → c j = c0 j) → (∀ q, q < b → PBk M0 nn c bt (growN s wk b) nc q) → zR ztb (d + 2) kX2_doWeek 0 11 [some (.ref g), some (.int (wmF s wk)), some (.int (nI b))] [] n w M Q
  | 0, b, M, c, h, hG, hF, h1, h2 => by
    have e2 : b = 8 := by omega
    subst e2
    have e : ¬ nI 8 < 8 := by decide
    repeat (first | with_reducible refine zR.hold (pc := 33) ?_ | ((with_reducible refine zR.stored ?_); dsimp only [zsto, zclr, zset, zget, zc2, cond_false, cond_true]) | ((with_reducible refine zR.atLit ?_); first | refine zR.step rfl ?_) | rw [zcc1] | rw [zcc2] | rw [zcc3] | rw [zcc4] | rw [zn1 (e)] | rw [zn2 (e)] | rw [zn3 (e)] | rw [zn4 (e)])
    exact ⟨trivial, hQ M c hG hF h1 h2⟩
  | t + 1, b, M, c, h, hG, hF, h1, h2 => by
    have e : nI b < 8 := zI_ylt (b := 8) (by omega) (by omega)
    have hb : b < 8 := by omega
    have pb : PBi M0 nn c bt (growN s wk b) nc b := PBi.cg (hB b hb) h8 (fun i hi => growN_ne b i (by omega)) (fun k hk => growN_ne b _ (by omega)) (h1 _ (by omega)) rfl
    have hC' : ∀ i, i < nc → inN (growN s wk b (52 + 10 * i)) 1 20 ∧ inN (growN s wk b (53 + 10 * i)) 1 10 := fun i hi => by rw [growN_ne b _ (by omega), growN_ne b _ (by omega)]; exact hC i hi
    have ew : wmF (growN s wk b) wk = wmF s wk := wmF_cg hwk (fun k a b => growN_ne _ k (by omega))
    obtain ⟨p1, p2⟩ := pb.grow (wk := wk) hb h8 hC'
    have cg := fun {dd nn ww : Nat} => c_growB (d := dd) (n := nn) (w := ww) (wk := wk) hG hF hg pb hb h8
    rw [ew] at cg
    refine zR.step rfl ?_
    repeat (first | ((with_reducible refine zR.stored ?_); dsimp only [zsto, zclr, zset, zget, zc2, cond_false, cond_true]) | ((with_reducible refine zR.atLit ?_); first | refine zR.step rfl ?_ | refine zR.getf rfl (hG.o) rfl ?_ | (refine zR.aald rfl hG.br (Or.inr (Or.inl rfl)) rfl hb (by decide) ?_; rw [brow_y hb])) | rw [zcc1] | rw [zcc2] | rw [zcc3] | rw [zcc4] | rw [zb1 (e)] | rw [zb2 (e)] | rw [zb3 (e)] | rw [zb4 (e)])
    refine zR.cv rfl rfl rfl (hG.b hb) rfl rfl (zR.mono cg (fun v n1 w1 M1 hv => ?_))
    obtain ⟨rfl, rfl, rfl, rfl⟩ := hv
    rw [p2]
    have hG1 := hG.upB hb (bt b) (lfn (GLs (growN s wk b) wk b) 0)
    rw [zuf_id rfl] at hG1
    have ih := dw_grow (d := d) hg hwk h8 hC hB hQ t (b + 1) _ _ (by omega) hG1 (fun k hk => by rw [zup_ne _ _ (by omega)]; exact hF k hk) (fun j hj => by rw [zuf_ne _ _ (by omega)]; exact h1 j (by omega)) (fun q hq => by
      by_cases eq : q = b
      · subst eq
        exact p1
      · exact PBk.cg (h2 q (by omega)) h8 (fun i hi => setB_ne (by omega)) (fun k hk => setB_ne (by omega)) (zuf_ne _ _ (by omega)) rfl)
    rw [← zI_s] at ih
    repeat (first | with_reducible refine zR.hold (pc := 11) ?_ | ((with_reducible refine zR.stored ?_); dsimp only [zsto, zclr, zset, zget, zc2, cond_false, cond_true]) | ((with_reducible refine zR.atLit ?_); first | refine zR.step rfl ?_) | rw [zcc1] | rw [zcc2] | rw [zcc3] | rw [zcc4])
    exact ⟨trivial, ih⟩
