
/-! A WEEK: the class picks. -/
theorem pkF_stop {t : Nat} {s : Nat → Int32} {left : Int32} (h : ¬ (0 < left ∧ s 3 < 240)) : pkF t s left = s := by
  match t with
  | 0 => rfl
  | t + 1 =>
    unfold pkF
    cases nxt s (fun _ => 0) 8 with
    | none => rfl
    | some b => dsimp only; rw [if_neg h]
theorem pkF_none {t : Nat} {s : Nat → Int32} {left : Int32} (h : nxt s (fun _ => 0) 8 = none) : pkF t s left = s := by
  match t with
  | 0 => rfl
  | t + 1 => unfold pkF; rw [h]
theorem pkF_some {t b : Nat} {s : Nat → Int32} {left : Int32} (h : nxt s (fun _ => 0) 8 = some b) (h2 : 0 < left ∧ s 3 < 240) : pkF (t + 1) s left = pkF t (pick1 s (s 3).toNatClampNeg (s (150 + 10 * b + 0)).toNatClampNeg b (pkX s b left)) (left - pkX s b left) := by
  rw [pkF, h]
  dsimp only
  rw [if_pos h2]
theorem c_hasRm {M : zM} {d n w a : Nat} {x : Int32} {l : List Value} (h : M a = .inr (6, .int x :: l)) : zCall d 56 [.ref a] n w M (some (.int (if x < 240 then 1 else 0))) n w M := by
  intro Q hQ
  show zR ztb _ kX6_hasRoom 2 0 [some (.ref a)] [] _ _ _ _
  by_cases q : x < 240
  · rw [if_pos q] at hQ
    repeat (first | ((with_reducible refine zR.stored ?_); dsimp only [zsto, zclr, zset, zget, zc2, cond_false, cond_true]) | ((with_reducible refine zR.atLit ?_); first | refine zR.step rfl ?_ | refine zR.getf rfl h rfl ?_) | rw [zcc1] | rw [zcc2] | rw [zcc3] | rw [zcc4] | rw [zb1 (q)] | rw [zb2 (q)] | rw [zb3 (q)] | rw [zb4 (q)])
    exact zR.ret rfl rfl hQ
  · rw [if_neg q] at hQ
    repeat (first | ((with_reducible refine zR.stored ?_); dsimp only [zsto, zclr, zset, zget, zc2, cond_false, cond_true]) | ((with_reducible refine zR.atLit ?_); first | refine zR.step rfl ?_ | refine zR.getf rfl h rfl ?_) | rw [zcc1] | rw [zcc2] | rw [zcc3] | rw [zcc4] | rw [zn1 (q)] | rw [zn2 (q)] | rw [zn3 (q)] | rw [zn4 (q)])
    exact zR.ret rfl rfl hQ
theorem pr_loop {M0 : zM} {g : Nat} {c0 : mS} {kp bt : Nat → Option Nat} {la : Nat} {s0 : Nat → Int32} {left0 : Int32} {d n w nn : Nat} {Q : Option Value → Nat → Nat → zM → Prop} (hg : g + 76 ≤ 300) (hQ : ∀ M c, Gc M g c kp bt la → (∀ k, k < g ∨ g + 76 ≤ k → M k = M0 k) → GK M0 nn c kp bt la (pkF 8 s0 left0) → c 13 = c0 13 → Q none n w M) : ∀ (t i : Nat) (M : zM) (c : mS) (s : Nat → Int32) (left : Int32) (x3 x4 x5 : Option Value), i + t = 8 → Gc M g c kp bt la → (∀ k, k < g ∨ g + 76 ≤ k → M k = M0 k) → GK M0 nn c kp bt la s → c 13 = c0 13 → pkF t s left = pkF 8 s0 left0 → zR ztb (d + 2) kX2_pickRipe 0 7 [some (.ref g), some (.int left), some (.int (nI i)), x3, x4, x5] [] n w M Q
  | 0, i, M, c, s, left, x3, x4, x5, h, hG, hF, hK, h13, hp => by
    have e2 : i = 8 := by omega
    subst e2
    have e : ¬ nI 8 < 8 := by decide
    repeat (first | ((with_reducible refine zR.stored ?_); dsimp only [zsto, zclr, zset, zget, zc2, cond_false, cond_true]) | ((with_reducible refine zR.atLit ?_); first | refine zR.step rfl ?_) | rw [zcc1] | rw [zcc2] | rw [zcc3] | rw [zcc4] | rw [zn1 (e)] | rw [zn2 (e)] | rw [zn3 (e)] | rw [zn4 (e)])
    exact zR.ret rfl rfl (hQ M c hG hF (by rw [← hp]; exact hK) h13)
  | t + 1, i, M, c, s, left, x3, x4, x5, h, hG, hF, hK, h13, hp => by
    have e : nI i < 8 := zI_ylt (b := 8) (by omega) (by omega)
    have hK' := hK
    obtain ⟨nc, nh, nl, lm, wk, hN, hC, hB, hL, hSt, hH, hW, hX⟩ := hK'
    obtain ⟨N1, N2, N3, N4, N5, N6, N7, N8, N9, N10, N11, N12, N13, N14, N15, N16, N17⟩ := hN
    refine zR.step rfl ?_
    by_cases q1 : 0 < left
    · have hlo := hG.lo
      unfold lob at hlo
      rw [N15] at hlo
      by_cases q2 : s 3 < 240
      · cases en : nxt s (fun _ => 0) 8 with
        | none =>
          rw [pkF_none en] at hp
          repeat (first | ((with_reducible refine zR.stored ?_); dsimp only [zsto, zclr, zset, zget, zc2, cond_false, cond_true]) | ((with_reducible refine zR.atLit ?_); first | refine zR.step rfl ?_ | refine zR.getf rfl (hG.o) rfl ?_ | (refine zR.cv rfl rfl rfl hlo rfl rfl (zCalP.of (c_hasRm hlo) ?_); rw [if_pos q2]) | (refine zR.cv rfl rfl rfl hG.o rfl rfl (zCalP.of (c_nextToPick hG hF hg hB N2) ?_); rw [en, show optI none = -1 from rfl])) | rw [zcc1] | rw [zcc2] | rw [zcc3] | rw [zcc4] | rw [zb1 (e)] | rw [zb2 (e)] | rw [zb3 (e)] | rw [zb4 (e)] | rw [zb1 (q1)] | rw [zb2 (q1)] | rw [zb3 (q1)] | rw [zb4 (q1)] | rw [zb1 (by decide)] | rw [zb2 (by decide)] | rw [zb3 (by decide)] | rw [zb4 (by decide)] | rw [zn1 (by decide)] | rw [zn2 (by decide)] | rw [zn3 (by decide)] | rw [zn4 (by decide)] | rw [ze1 (by decide)] | rw [ze2 (by decide)] | rw [zd1 (by decide)] | rw [zd2 (by decide)] | rw [zswy (by decide)] | rw [zswn (by decide)] | rw [zsw0])
          exact zR.ret rfl rfl (hQ M c hG hF (by rw [← hp]; exact hK) h13)
        | some b =>
          rw [pkF_some en ⟨q1, q2⟩] at hp
          obtain ⟨hb, hr, -⟩ := nxt_spec 8 b en
          have em : ¬ nI b = -1 := zI_m1 (by omega)
          rcases (hB b hb).cell hG hF hg hb with ⟨y0, y4, -⟩ | ⟨j, a, hj, hj0, hbt, ha, hbm, hcm⟩
          · rw [y4] at hr
            exact absurd hr (by decide)
          have hl : nl < 240 := by
            rw [N5] at q2
            exact (zn_lt (b := 240) (by omega) (by omega)).mp q2
          have hcF : M a = .inr (1, cropF s j) := by
            rcases (hB b hb).1 with ⟨z, -⟩ | ⟨j', a', z1, z2, z3, z4, -⟩
            · exact absurd (z.symm.trans hj0) (fun z => zI_m1 (by omega) z.symm)
            · have ej := zn_inj (a := j') (b := j) (by omega) (by omega) (z2.symm.trans hj0)
              have ea : a' = a := by rw [z3] at hbt; injection hbt
              subst ej ea
              rw [hF _ (by omega)]
              exact z4.2.2
          repeat (first | ((with_reducible refine zR.stored ?_); dsimp only [zsto, zclr, zset, zget, zc2, cond_false, cond_true]) | ((with_reducible refine zR.atLit ?_); first | refine zR.step rfl ?_ | refine zR.getf rfl (hG.o) rfl ?_ | (refine zR.cv rfl rfl rfl hlo rfl rfl (zCalP.of (c_hasRm hlo) ?_); rw [if_pos q2]) | (refine zR.cv rfl rfl rfl hG.o rfl rfl (zCalP.of (c_nextToPick hG hF hg hB N2) ?_); rw [en, show optI (some b) = nI b from rfl]) | (refine zR.aald rfl hG.br (Or.inr (Or.inl rfl)) (i := b) rfl hb (by decide) ?_; rw [brow_y hb]) | refine zR.getf rfl hbm rfl ?_ | (refine zR.cs rfl rfl rfl rfl rfl (zCalP.of (c_min _ _) ?_); rw [show (if s (150 + 10 * b + 4) < left then s (150 + 10 * b + 4) else left) = pkX s b left from rfl])) | rw [zcc1] | rw [zcc2] | rw [zcc3] | rw [zcc4] | rw [zb1 (e)] | rw [zb2 (e)] | rw [zb3 (e)] | rw [zb4 (e)] | rw [zb1 (q1)] | rw [zb2 (q1)] | rw [zb3 (q1)] | rw [zb4 (q1)] | rw [zd1 (em)] | rw [zd2 (em)])
          refine zR.cv rfl rfl rfl hG.o rfl rfl (zR.mono (c_addLot hG (N15.trans N5) hl (by omega) hcF (by omega) _ _ _) (fun v n1 w1 M1 hv => ?_))
          obtain ⟨rfl, rfl, rfl, hG1, hF1⟩ := hv
          have hb1 := ((hG1.b hb).trans (by rw [lotC_ne (by omega)]; exact (hG.b hb).symm)).trans hbm
          repeat (first | ((with_reducible refine zR.stored ?_); dsimp only [zsto, zclr, zset, zget, zc2, cond_false, cond_true]) | ((with_reducible refine zR.atLit ?_); first | refine zR.step rfl ?_ | refine zR.getf rfl hb1 rfl ?_) | rw [zcc1] | rw [zcc2] | rw [zcc3] | rw [zcc4])
          refine zR.putf rfl hb1 rfl rfl ?_
          repeat (first | ((with_reducible refine zR.stored ?_); dsimp only [zsto, zclr, zset, zget, zc2, cond_false, cond_true]) | ((with_reducible refine zR.atLit ?_); first | refine zR.step rfl ?_) | rw [zcc1] | rw [zcc2] | rw [zcc3] | rw [zcc4])
          refine zR.putf rfl (zup_self _ _ _) rfl rfl ?_
          rw [zup_up]
          have hG2 := hG1.upB hb (bt b) (lfn (pkL s b (pkX s b left)) 1)
          rw [zuf_id rfl, hbt] at hG2
          have hK2 := hK.pick (i := j) (left := left) N5 hl hb N1 N2 hj hj0 hr q1
          rw [N5, nI_clamp (by omega), hj0, nI_clamp (by omega)] at hp
          have ih := pr_loop (d := d) hg hQ t (i + 1) _ _ _ (left - pkX s b left) (some (.int (nI b))) (some (.ref (g + 18 + b))) (some (.int (pkX s b left))) (by omega) hG2 (fun k hk => by rw [zup_ne _ _ (by omega), hF1 k hk]; exact hF k hk) hK2 (by rw [zuf_ne _ _ (by omega), lotC_ne (by omega)]; exact h13) hp
          rw [← zI_s] at ih
          repeat (first | with_reducible refine zR.hold (pc := 7) ?_ | ((with_reducible refine zR.stored ?_); dsimp only [zsto, zclr, zset, zget, zc2, cond_false, cond_true]) | ((with_reducible refine zR.atLit ?_); first | refine zR.step rfl ?_) | rw [zcc1] | rw [zcc2] | rw [zcc3] | rw [zcc4])
          exact ⟨trivial, ih⟩
      · rw [pkF_stop (fun z => q2 z.2)] at hp
        repeat (first | ((with_reducible refine zR.stored ?_); dsimp only [zsto, zclr, zset, zget, zc2, cond_false, cond_true]) | ((with_reducible refine zR.atLit ?_); first | refine zR.step rfl ?_ | refine zR.getf rfl (hG.o) rfl ?_ | (refine zR.cv rfl rfl rfl hlo rfl rfl (zCalP.of (c_hasRm hlo) ?_); rw [if_neg q2])) | rw [zcc1] | rw [zcc2] | rw [zcc3] | rw [zcc4] | rw [zb1 (e)] | rw [zb2 (e)] | rw [zb3 (e)] | rw [zb4 (e)] | rw [zb1 (q1)] | rw [zb2 (q1)] | rw [zb3 (q1)] | rw [zb4 (q1)] | rw [zb1 (by decide)] | rw [zb2 (by decide)] | rw [zb3 (by decide)] | rw [zb4 (by decide)] | rw [zn1 (by decide)] | rw [zn2 (by decide)] | rw [zn3 (by decide)] | rw [zn4 (by decide)] | rw [ze1 (by decide)] | rw [ze2 (by decide)] | rw [zd1 (by decide)] | rw [zd2 (by decide)] | rw [zswy (by decide)] | rw [zswn (by decide)] | rw [zsw0])
        exact zR.ret rfl rfl (hQ M c hG hF (by rw [← hp]; exact hK) h13)
    · rw [pkF_stop (fun z => q1 z.1)] at hp
      repeat (first | ((with_reducible refine zR.stored ?_); dsimp only [zsto, zclr, zset, zget, zc2, cond_false, cond_true]) | ((with_reducible refine zR.atLit ?_); first | refine zR.step rfl ?_) | rw [zcc1] | rw [zcc2] | rw [zcc3] | rw [zcc4] | rw [zb1 (e)] | rw [zb2 (e)] | rw [zb3 (e)] | rw [zb4 (e)] | rw [zn1 (q1)] | rw [zn2 (q1)] | rw [zn3 (q1)] | rw [zn4 (q1)])
      exact zR.ret rfl rfl (hQ M c hG hF (by rw [← hp]; exact hK) h13)
theorem c_pickRipe {M M0 : zM} {g : Nat} {c : mS} {kp bt : Nat → Option Nat} {la : Nat} {s : Nat → Int32} {d n w nn : Nat} (hg : g + 76 ≤ 300) (hG : Gc M g c kp bt la) (hF : ∀ k, k < g ∨ g + 76 ≤ k → M k = M0 k) (hK : GK M0 nn c kp bt la s) : zCalP (d + 2) 23 [.ref g] n w M (fun v n' w' M' => v = none ∧ n = n' ∧ w = w' ∧ ∃ c', Gc M' g c' kp bt la ∧ (∀ k, k < g ∨ g + 76 ≤ k → M' k = M0 k) ∧ GK M0 nn c' kp bt la (pkF 8 s (s 1)) ∧ c' 13 = c 13) := by
  have e3 : c 0 3 = s 1 := by
    obtain ⟨nc, nh, nl, lm, wk, hN, -⟩ := hK
    exact hN.2.2.2.2.2.2.2.2.2.2.2.2.2.1
  show zR ztb _ kX2_pickRipe 0 0 [some (.ref g), none, none, none, none, none] [] _ _ _ _
  repeat (first | with_reducible refine zR.hold (pc := 7) ?_ | ((with_reducible refine zR.stored ?_); dsimp only [zsto, zclr, zset, zget, zc2, cond_false, cond_true]) | ((with_reducible refine zR.atLit ?_); first | refine zR.step rfl ?_ | (refine zR.getf rfl hG.o rfl ?_; rw [e3])) | rw [zcc1] | rw [zcc2] | rw [zcc3] | rw [zcc4])
  exact ⟨trivial, pr_loop hg (fun M' c' a1 a2 a3 a4 => ⟨rfl, rfl, rfl, c', a1, a2, a3, a4⟩) 8 0 M c s (s 1) none none none (by omega) hG hF hK rfl rfl⟩
