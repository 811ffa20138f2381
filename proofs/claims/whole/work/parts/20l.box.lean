
/-! A WEEK: the reference fills a box, place by place. -/
section
variable {M0 : zM} {σ : mS} {d n w nc nl lm h sz : Nat}
set_option maxRecDepth 5000 in
theorem bx_loop {R : (Nat → Int32) × Int32 × Int32} {S : Int32} {Q : Option Value → Nat → Nat → zM → Prop} (hz6 : sz ≤ 6) (hh : h < 10) (hQ : ∀ M x4 x5 x6, RS M σ R.1 R.2.2 S → Sm M0 M → zR ztb (d + 6) kX12_box0 1 326 [some (.ref 287), some (.int (nI h)), some (.int (1700 + 40 * nI h)), some (.int R.2.1), x4, x5, x6] [] n w M Q) : ∀ (t p : Nat) (M : zM) (s : Nat → Int32) (hl wo : Int32) (x5 x6 : Option Value), p + t = sz → (∃ D Mk nk ck kp bt la nh wk, GB D Mk nk ck kp bt la s h p hl nc nh nl lm wk) → s (1700 + 40 * h) = nI sz → bxF nl h sz lm nc t p s hl wo = R → RS M σ s wo S → Sm M0 M → zR ztb (d + 6) kX12_box0 1 67 [some (.ref 287), some (.int (nI h)), some (.int (1700 + 40 * nI h)), some (.int hl), some (.int (nI p)), x5, x6] [] n w M Q
  | t, p, M, s, hl, wo, x5, x6, ht, hB, hz, hR', hRS, hS => by
    obtain ⟨ρ, hR0, r0, rr, r12, r27, r28⟩ := hRS
    obtain ⟨D, Mk, nk, ck, kpk, btk, lak, nh, wk, hB⟩ := hB
    have hB' := hB
    obtain ⟨hN, hC, hPB, hL, hSt, hhn, hHs, hM, hW, hX⟩ := hB'
    have g1 : nc ≤ 8 := hN.2.1
    have g3 : nl ≤ 240 := hN.2.2.2.2.2.1
    have g4 : lm ≤ 20 := hN.2.2.2.2.2.2.2.1
    have hz0 : ρ 0 (1700 + 40 * h + 0) = nI sz := by rw [r0]; exact hz
    refine zR.step rfl ?_
    match t, ht, hR' with
    | 0, ht, hR' =>
      have e2 : p = sz := by omega
      subst e2
      subst hR'
      have e : ¬ nI p < nI p := zI_nlt (Nat.le_refl _) (by omega)
      repeat (first | with_reducible refine zR.hold (pc := 326) ?_ | ((with_reducible refine zR.stored ?_); dsimp only [zsto, zclr, zset, zget, zc2, cond_false, cond_true]) | ((with_reducible refine zR.atLit ?_); first | refine zR.step rfl ?_ | refine zR.getf rfl (hR0.1) rfl ?_ | (refine zR.ilR0 hR0 rfl (by (try simp only [zn_lit, zn_add, zn_mul]); rfl) (by omega) ?_; rw [hz0])) | rw [zcc1] | rw [zcc2] | rw [zcc3] | rw [zcc4] | rw [zn1 (e)] | rw [zn2 (e)] | rw [zn3 (e)] | rw [zn4 (e)])
      exact ⟨trivial, hQ M _ _ _ ⟨ρ, hR0, r0, rr, r12, r27, r28⟩ hS⟩
    | t + 1, ht, hR' =>
      have e : nI p < nI sz := zI_ylt (by omega) (by omega)
      have hLn : LNS Mk lak (ρ 0) nc lm := by
        rw [r0]
        obtain ⟨sc, r, en, x1, x2, x3, x4, x5, x6, x7, x8, x9⟩ := hX
        exact ⟨sc, r, en, x1, x5, x6, x7, x8, x9⟩
      repeat (first | ((with_reducible refine zR.stored ?_); dsimp only [zsto, zclr, zset, zget, zc2, cond_false, cond_true]) | ((with_reducible refine zR.atLit ?_); first | refine zR.step rfl ?_ | refine zR.getf rfl (hR0.1) rfl ?_ | (refine zR.ilR0 hR0 rfl (by (try simp only [zn_lit, zn_add, zn_mul]); rfl) (by omega) ?_; rw [hz0])) | rw [zcc1] | rw [zcc2] | rw [zcc3] | rw [zcc4] | rw [zb1 (e)] | rw [zb2 (e)] | rw [zb3 (e)] | rw [zb4 (e)])
      refine zR.cv rfl rfl rfl hR0.1 rfl rfl (zR.mono (c_chooses (nl := nl) (sz := sz) hR0 hLn (by rw [r0]; exact hN.1) g1 (by rw [r0]; exact hN.2.2.2.2.1) (by rw [r0]; exact hN.2.2.2.2.2.2.1) g3 hh g4 (by rw [r0]; exact hz) hz6) (fun v n1 w1 M1 hv => ?_))
      obtain ⟨rfl, rfl, rfl, hS1, ρ1, hR, t1, t12, t26⟩ := hv
      rw [r0] at t26
      rw [r0]
      have u0 : ρ1 0 = s := (t1 0 (by omega) (by omega)).trans r0
      have uu : ∀ j, j ≠ 0 → j ≠ 10 → j ≠ 11 → j ≠ 12 → ρ1 j = σ j := fun j a1 a2 a3 a4 => (t1 j a2 a4).trans (rr j a1 a2 a3 a4)
      have u12 : ∀ k, k ≠ 26 → k ≠ 27 → k ≠ 28 → ρ1 12 k = σ 12 k := fun k a1 a2 a3 => (t12 k a1).trans (r12 k a1 a2 a3)
      have u27 : ρ1 12 27 = wo := (t12 27 (by omega)).trans r27
      have u28 : ρ1 12 28 = S := (t12 28 (by omega)).trans r28
      replace hR := hR.toY
      rw [u0] at hR
      replace hS := hS.trans hS1
      repeat (first | ((with_reducible refine zR.stored ?_); dsimp only [zsto, zclr, zset, zget, zc2, cond_false, cond_true]) | ((with_reducible refine zR.atLit ?_); first | refine zR.step rfl ?_ | refine zR.getf rfl (hR.1) rfl ?_) | rw [zcc1] | rw [zcc2] | rw [zcc3] | rw [zcc4])
      refine zR.isY hR hS rfl (i := 1700 + 40 * h + 16 + 3 * p + 1) (by simp only [zn_lit, zn_add, zn_mul]) (by omega) (fun M2 hR hS => ?_)
      repeat (first | ((with_reducible refine zR.stored ?_); dsimp only [zsto, zclr, zset, zget, zc2, cond_false, cond_true]) | ((with_reducible refine zR.atLit ?_); first | refine zR.step rfl ?_ | refine zR.getf rfl (hR.1) rfl ?_) | rw [zcc1] | rw [zcc2] | rw [zcc3] | rw [zcc4])
      refine zR.isY hR hS rfl (i := 1700 + 40 * h + 16 + 3 * p + 2) (by simp only [zn_lit, zn_add, zn_mul]) (by omega) (fun M3 hR hS => ?_)
      cases ec : chF s nl h sz lm nc with
      | none =>
        rw [ec] at hR
        rw [bxF_n ec] at hR'
        have ih := bx_loop hz6 hh hQ t (p + 1) M3 (plN s h p) (hl + 1) wo (some (.int (-2))) (some (.int 0)) (by omega) ⟨D, Mk, nk, _, kpk, btk, lak, nh, wk, hB.hole (by omega)⟩ (by rw [plN_at, if_neg (by omega), if_neg (by omega)]; exact hz) hR' ⟨_, hR, zuf_self _ _ _, fun j a1 a2 a3 a4 => by rw [zuf_ne _ _ a1]; exact uu j a1 a2 a3 a4, u12, u27, u28⟩ hS
        rw [← zI_s] at ih
        repeat (first | with_reducible refine zR.hold (pc := 67) ?_ | ((with_reducible refine zR.stored ?_); dsimp only [zsto, zclr, zset, zget, zc2, cond_false, cond_true]) | ((with_reducible refine zR.atLit ?_); first | refine zR.step rfl ?_) | rw [zcc1] | rw [zcc2] | rw [zcc3] | rw [zcc4] | rw [show chW none = -2 from rfl] | rw [zb1 (by decide)] | rw [zb2 (by decide)] | rw [zb3 (by decide)] | rw [zb4 (by decide)] | rw [zn1 (by decide)] | rw [zn2 (by decide)] | rw [zn3 (by decide)] | rw [zn4 (by decide)] | rw [ze1 (by decide)] | rw [ze2 (by decide)] | rw [zd1 (by decide)] | rw [zd2 (by decide)] | rw [zswy (by decide)] | rw [zswn (by decide)] | rw [zsw0])
        exact ⟨trivial, ih⟩
      | some qr =>
        obtain ⟨q, r⟩ := qr
        obtain ⟨hq, l, hf⟩ := hB.cho ec
        rw [bxF_y ec hf] at hR'
        have er := chF_r g4 ec
        rw [ec] at hR t26
        replace hR : Rf M3 (zuf ρ1 0 (zuf (zuf s (1700 + 40 * h + 16 + 3 * p + 1) r) (1700 + 40 * h + 16 + 3 * p + 2) (-1))) := hR
        replace t26 : ρ1 12 26 = nI q := t26
        obtain ⟨l1, ⟨l2, l3⟩, l4⟩ := fl_spec _ _ hf
        have hlot : ∀ i, i < 240 → ∀ k, k < 6 → zuf (zuf s (1700 + 40 * h + 16 + 3 * p + 1) r) (1700 + 40 * h + 16 + 3 * p + 2) (-1) (250 + 6 * i + k) = s (250 + 6 * i + k) := fun i hi k hk => by rw [zuf_ne _ _ (by omega), zuf_ne _ _ (by omega)]
        have h26' : ∀ y, zuf ρ1 0 y 12 26 = nI q := fun y => t26
        have h27' : ∀ y, zuf ρ1 0 y 12 27 = wo := fun y => u27
        have h55 : ∀ i, s (255 + 6 * i) = s (250 + 6 * i + 5) := fun i => by rw [show 255 + 6 * i = 250 + 6 * i + 5 by omega]
        have lw := lw_loop (d := d + 6) (n := n) (w := w) (h := h) (x3 := some (.int hl)) (x4 := some (.int (nI p))) (x5 := r) (Q := Q) hR t26 (l := l) (by omega) (fun i hi => by rw [hlot i (by omega) 5 (by omega), ← h55]; exact (hL i (by omega)).2.2.1.1) (by rw [hlot l (by omega) 5 (by omega), show 250 + 6 * l = 250 + 6 * l + 0 from rfl, hlot l (by omega) 0 (by omega), ← h55]; exact ⟨l2, l3⟩) (fun i hi => by rw [hlot i (by omega) 5 (by omega), show 250 + 6 * i = 250 + 6 * i + 0 from rfl, hlot i (by omega) 0 (by omega), ← h55]; exact l4 i hi) (by
          repeat (first | ((with_reducible refine zR.stored ?_); dsimp only [zsto, zclr, zset, zget, zc2, cond_false, cond_true]) | ((with_reducible refine zR.atLit ?_); first | refine zR.step rfl ?_ | refine zR.getf rfl (hR.1) rfl ?_ | (refine zR.ilY hR rfl (by (try simp only [zn_lit, zn_add, zn_mul]); rfl) (by omega) ?_; rw [zuf_ne _ _ (by omega), zuf_ne _ _ (by omega)])) | rw [zcc1] | rw [zcc2] | rw [zcc3] | rw [zcc4])
          refine zR.isY hR hS rfl (i := 250 + 6 * l + 5) (by simp only [zn_lit, zn_add, zn_mul]) (by omega) (fun M4 hR hS => ?_)
          repeat (first | ((with_reducible refine zR.stored ?_); dsimp only [zsto, zclr, zset, zget, zc2, cond_false, cond_true]) | ((with_reducible refine zR.atLit ?_); first | refine zR.step rfl ?_ | (refine zR.getf rfl hR.1 rfl ?_; rw [h26']) | refine zR.getf rfl (hR.1) rfl ?_) | rw [zcc1] | rw [zcc2] | rw [zcc3] | rw [zcc4])
          refine zR.isY hR hS rfl (i := 1700 + 40 * h + 16 + 3 * p) (by simp only [zn_lit, zn_add, zn_mul]) (by omega) (fun M5 hR hS => ?_)
          repeat (first | ((with_reducible refine zR.stored ?_); dsimp only [zsto, zclr, zset, zget, zc2, cond_false, cond_true]) | ((with_reducible refine zR.atLit ?_); first | refine zR.step rfl ?_ | refine zR.getf rfl (hR.1) rfl ?_) | rw [zcc1] | rw [zcc2] | rw [zcc3] | rw [zcc4])
          refine zR.isY hR hS rfl (i := 1700 + 40 * h + 16 + 3 * p + 2) (by simp only [zn_lit, zn_add, zn_mul]) (by omega) (fun M6 hR hS => ?_)
          repeat (first | ((with_reducible refine zR.stored ?_); dsimp only [zsto, zclr, zset, zget, zc2, cond_false, cond_true]) | ((with_reducible refine zR.atLit ?_); first | refine zR.step rfl ?_ | (refine zR.getf rfl hR.1 rfl ?_; rw [h26']) | refine zR.getf rfl (hR.1) rfl ?_ | (refine zR.ilY hR rfl (i := 0) rfl (by omega) ?_; rw [zuf_ne _ _ (by omega), zuf_ne _ _ (by omega), zuf_ne _ _ (by omega), zuf_ne _ _ (by omega), zuf_ne _ _ (by omega)])) | rw [zcc1] | rw [zcc2] | rw [zcc3] | rw [zcc4])
          refine zR.isY hR hS rfl (i := 1700 + 40 * h + 8 + q) (by simp only [zn_lit, zn_add, zn_mul]) (by omega) (fun M7 hR hS => ?_)
          repeat (first | ((with_reducible refine zR.stored ?_); dsimp only [zsto, zclr, zset, zget, zc2, cond_false, cond_true]) | ((with_reducible refine zR.atLit ?_); first | refine zR.step rfl ?_ | (refine zR.getf rfl hR.1 rfl ?_; rw [h26']) | refine zR.getf rfl (hR.1) rfl ?_ | (refine zR.ilY hR rfl (by (try simp only [zn_lit, zn_add, zn_mul]); rfl) (by omega) ?_; rw [zuf_ne _ _ (by omega), zuf_ne _ _ (by omega), zuf_ne _ _ (by omega), zuf_ne _ _ (by omega), zuf_ne _ _ (by omega), zuf_ne _ _ (by omega)]) | (refine zR.cv rfl rfl rfl hR.1 rfl rfl (zCalP.of (c_cropIsY hR q 5 (by omega)) ?_); rw [zuf_ne _ _ (by omega), zuf_ne _ _ (by omega), zuf_ne _ _ (by omega), zuf_ne _ _ (by omega), zuf_ne _ _ (by omega), zuf_ne _ _ (by omega)])) | rw [zcc1] | rw [zcc2] | rw [zcc3] | rw [zcc4])
          refine zR.isY hR hS rfl (i := 1700 + 40 * h + 3) (by simp only [zn_lit, zn_add, zn_mul]) (by omega) (fun M8 hR hS => ?_)
          repeat (first | ((with_reducible refine zR.stored ?_); dsimp only [zsto, zclr, zset, zget, zc2, cond_false, cond_true]) | ((with_reducible refine zR.atLit ?_); first | refine zR.step rfl ?_ | (refine zR.getf rfl hR.1 rfl ?_; rw [h26']) | (refine zR.getf rfl hR.1 rfl ?_; rw [h27']) | refine zR.getf rfl (hR.1) rfl ?_ | (refine zR.cv rfl rfl rfl hR.1 rfl rfl (zCalP.of (c_cropIsY hR q 5 (by omega)) ?_); rw [zuf_ne _ _ (by omega), zuf_ne _ _ (by omega), zuf_ne _ _ (by omega), zuf_ne _ _ (by omega), zuf_ne _ _ (by omega), zuf_ne _ _ (by omega), zuf_ne _ _ (by omega)])) | rw [zcc1] | rw [zcc2] | rw [zcc3] | rw [zcc4])
          refine zR.putR hR hS rfl rfl rfl rfl (fun M9 hR hS => ?_)
          rw [zuf_cm _ _ _ (show 0 ≠ 12 by omega)] at hR
          have h26'' : ∀ y, zuf (zuf ρ1 12 (zuf (zuf ρ1 0 (zuf (zuf (zuf (zuf (zuf (zuf (zuf s (1700 + 40 * h + 16 + 3 * p + 1) r) (1700 + 40 * h + 16 + 3 * p + 2) (-1)) (250 + 6 * l + 5) (s (250 + 6 * l + 5) - 1)) (1700 + 40 * h + 16 + 3 * p) (nI q)) (1700 + 40 * h + 16 + 3 * p + 2) (nI l)) (1700 + 40 * h + 8 + q) (s 0)) (1700 + 40 * h + 3) (s (1700 + 40 * h + 3) + s (50 + 10 * q + 5))) 12) 27 (wo + s (50 + 10 * q + 5)))) 0 y 12 26 = nI q := fun y => t26
          repeat (first | ((with_reducible refine zR.stored ?_); dsimp only [zsto, zclr, zset, zget, zc2, cond_false, cond_true]) | ((with_reducible refine zR.atLit ?_); first | refine zR.step rfl ?_ | (refine zR.getf rfl hR.1 rfl ?_; rw [h26'']) | refine zR.getf rfl (hR.1) rfl ?_ | (refine zR.ilY hR rfl (by (try simp only [zn_lit, zn_add, zn_mul]); rfl) (by omega) ?_; rw [zuf_ne _ _ (by omega), zuf_ne _ _ (by omega), zuf_ne _ _ (by omega), zuf_ne _ _ (by omega), zuf_ne _ _ (by omega), zuf_ne _ _ (by omega), zuf_ne _ _ (by omega)])) | rw [zcc1] | rw [zcc2] | rw [zcc3] | rw [zcc4])
          refine zR.isY hR hS rfl (i := 50 + 10 * q + 8) (by simp only [zn_lit, zn_add, zn_mul]) (by omega) (fun M10 hR hS => ?_)
          have ih := bx_loop hz6 hh hQ t (p + 1) M10 (plY s h p q r l) hl (wo + s (50 + 10 * q + 5)) (some (.int r)) (some (.int (nI l))) (by omega) ⟨D, Mk, nk, _, kpk, btk, lak, nh, wk, hB.fill (by omega) hq hf⟩ (by
            rw [plY_at hh (by omega) (by omega) (by omega), if_neg (by omega), if_neg (by omega), if_neg (by omega), if_neg (by omega), if_neg (by omega), if_neg (by omega), if_neg (by omega)]
            exact hz) hR' ⟨_, hR, zuf_self _ _ _, fun j a1 a2 a3 a4 => by rw [zuf_ne _ _ a1, zuf_ne _ _ a4]; exact uu j a1 a2 a3 a4, fun k a1 a2 a3 => by rw [zuf_ne _ _ (by omega), zuf_self, zuf_ne _ _ a2]; exact u12 k a1 a2 a3, by rw [zuf_ne _ _ (by omega), zuf_self, zuf_self], by rw [zuf_ne _ _ (by omega), zuf_self, zuf_ne _ _ (by omega)]; exact u28⟩ hS
          rw [← zI_s] at ih
          repeat (first | with_reducible refine zR.hold (pc := 67) ?_ | ((with_reducible refine zR.stored ?_); dsimp only [zsto, zclr, zset, zget, zc2, cond_false, cond_true]) | ((with_reducible refine zR.atLit ?_); first | refine zR.step rfl ?_) | rw [zcc1] | rw [zcc2] | rw [zcc3] | rw [zcc4])
          exact ⟨trivial, ih⟩) l 0 (by omega)
        repeat (first | with_reducible refine zR.hold (pc := 138) ?_ | ((with_reducible refine zR.stored ?_); dsimp only [zsto, zclr, zset, zget, zc2, cond_false, cond_true]) | ((with_reducible refine zR.atLit ?_); first | refine zR.step rfl ?_) | rw [zcc1] | rw [zcc2] | rw [zcc3] | rw [zcc4] | rw [show chW (some (q, r)) = r from rfl] | rw [zd1 (er)] | rw [zd2 (er)])
        exact ⟨trivial, lw⟩
end
