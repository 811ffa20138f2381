
/-! A WEEK: all boxes in the reference. -/
section
variable {M0 : zM} {σ : mS} {d n w nc nh nl lm h sz wk : Nat}
theorem c_box0 {M : zM} {s : Nat → Int32} {W S : Int32} (hz6 : sz ≤ 6) (hh : h < 10) (hB : ∃ D Mk nk ck kp bt la wk, GB D Mk nk ck kp bt la (bx0 s h) h 0 0 nc nh nl lm wk) (hz : s (1700 + 40 * h) = nI sz) (hRS : RS M σ s W S) (hS : Sm M0 M) : zCalP (d + 6) 183 [.ref 287, .int (nI h)] n w M (fun v n' w' M' => v = some (.int (bxF nl h sz lm nc sz 0 (bx0 s h) 0 W).2.1) ∧ n = n' ∧ w = w' ∧ Sm M0 M' ∧ RS M' σ (zuf (bxF nl h sz lm nc sz 0 (bx0 s h) 0 W).1 (1700 + 40 * h + 4) ((bxF nl h sz lm nc sz 0 (bx0 s h) 0 W).1 (1700 + 40 * h + 4) + (bxF nl h sz lm nc sz 0 (bx0 s h) 0 W).2.1)) (bxF nl h sz lm nc sz 0 (bx0 s h) 0 W).2.2 S) := by
  obtain ⟨ρ, hR, r0, rr, r12, r27, r28⟩ := hRS
  obtain ⟨D, Mk, nk, ck, kpk, btk, lak, wk, hB⟩ := hB
  replace hR := hR.toY
  rw [r0] at hR
  show zR ztb _ kX12_box0 1 0 [some (.ref 287), some (.int (nI h)), none, none, none, none, none] [] _ _ _ _
  repeat (first | ((with_reducible refine zR.stored ?_); dsimp only [zsto, zclr, zset, zget, zc2, cond_false, cond_true]) | ((with_reducible refine zR.atLit ?_); first | refine zR.step rfl ?_ | refine zR.getf rfl (hR.1) rfl ?_) | rw [zcc1] | rw [zcc2] | rw [zcc3] | rw [zcc4])
  refine zR.isY hR hS rfl (i := 1700 + 40 * h + 6) (by simp only [zn_lit, zn_add, zn_mul]) (by omega) (fun M2 hR hS => ?_)
  repeat (first | ((with_reducible refine zR.stored ?_); dsimp only [zsto, zclr, zset, zget, zc2, cond_false, cond_true]) | ((with_reducible refine zR.atLit ?_); first | refine zR.step rfl ?_ | refine zR.getf rfl (hR.1) rfl ?_ | (refine zR.ilY hR rfl (by (try simp only [zn_lit, zn_add, zn_mul]); rfl) (by omega) ?_; rw [zuf_ne _ _ (by omega)])) | rw [zcc1] | rw [zcc2] | rw [zcc3] | rw [zcc4])
  refine zR.isY hR hS rfl (i := 1700 + 40 * h + 5) (by simp only [zn_lit, zn_add, zn_mul]) (by omega) (fun M3 hR hS => ?_)
  repeat (first | with_reducible refine zR.hold (pc := 36) ?_ | ((with_reducible refine zR.stored ?_); dsimp only [zsto, zclr, zset, zget, zc2, cond_false, cond_true]) | ((with_reducible refine zR.atLit ?_); first | refine zR.step rfl ?_) | rw [zcc1] | rw [zcc2] | rw [zcc3] | rw [zcc4])
  refine ⟨trivial, clrR_loop (M0 := M0) hh (fun M4 hR hS => ?_) 6 0 M3 (by omega) hR hS⟩
  repeat (first | with_reducible refine zR.hold (pc := 67) ?_ | ((with_reducible refine zR.stored ?_); dsimp only [zsto, zclr, zset, zget, zc2, cond_false, cond_true]) | ((with_reducible refine zR.atLit ?_); first | refine zR.step rfl ?_) | rw [zcc1] | rw [zcc2] | rw [zcc3] | rw [zcc4])
  refine ⟨trivial, bx_loop (M0 := M0) (σ := σ) (S := S) hz6 hh (fun M5 x4 x5 x6 hRS hS => ?_) sz 0 M4 (bx0 s h) 0 W none none (by omega) ⟨D, Mk, nk, ck, kpk, btk, lak, nh, wk, hB⟩ (by rw [bx0_ne (by omega) (by omega) (fun r hr => by omega)]; exact hz) rfl ⟨_, hR, zuf_self _ _ _, fun j a1 a2 a3 a4 => by rw [zuf_ne _ _ a1]; exact rr j a1 a2 a3 a4, r12, r27, r28⟩ hS⟩
  generalize bxF nl h sz lm nc sz 0 (bx0 s h) 0 W = R at *
  obtain ⟨ρ5, hR, t0, tt, t12, t27, t28⟩ := hRS
  replace hR := hR.toY
  rw [t0] at hR
  repeat (first | ((with_reducible refine zR.stored ?_); dsimp only [zsto, zclr, zset, zget, zc2, cond_false, cond_true]) | ((with_reducible refine zR.atLit ?_); first | refine zR.step rfl ?_ | refine zR.getf rfl (hR.1) rfl ?_ | refine zR.ilY hR rfl (by (try simp only [zn_lit, zn_add, zn_mul]); rfl) (by omega) ?_) | rw [zcc1] | rw [zcc2] | rw [zcc3] | rw [zcc4])
  refine zR.isY hR hS rfl (i := 1700 + 40 * h + 4) (by simp only [zn_lit, zn_add, zn_mul]) (by omega) (fun M6 hR hS => ?_)
  repeat (first | ((with_reducible refine zR.stored ?_); dsimp only [zsto, zclr, zset, zget, zc2, cond_false, cond_true]) | ((with_reducible refine zR.atLit ?_); first | refine zR.step rfl ?_) | rw [zcc1] | rw [zcc2] | rw [zcc3] | rw [zcc4])
  exact zR.ret rfl rfl ⟨rfl, rfl, rfl, hS, _, hR, zuf_self _ _ _, fun j a1 a2 a3 a4 => by rw [zuf_ne _ _ a1]; exact tt j a1 a2 a3 a4, t12, t27, t28⟩
/-- the reference's row from house to house, as the class's cells had it -/
theorem GH.hs {D : Nat → Prop} {M : zM} {nn : Nat} {c : mS} {kp bt : Nat → Option Nat} {la : Nat} {s : Nat → Int32} {H W : Int32} (hB : GH D M nn c kp bt la s nc nh nl lm wk) (hh : h < nh) (hD : D h) : ∃ sz, s (1700 + 40 * h) = nI sz ∧ sz ≤ 6 ∧ GB D M nn (zuf c (30 + h) (zuf (zuf (c (30 + h)) 6 1) 5 (c (30 + h) 5 + 1))) kp bt la (bx0 (zuf s (1700 + 40 * h + 6) 0) h) h 0 0 nc nh nl lm wk := by
  have h1 := hB.start hh hD
  obtain ⟨hN, hC, hPB, hL, hS, hHs, hW, hX⟩ := hB
  obtain ⟨p1, p2, ⟨sz, p3, p3a, p3b⟩, -⟩ := (hHs h hh).1
  exact ⟨sz, p3, p3b, h1⟩
/-- a box filled leaves what holds, whatever the cells of the class are -/
theorem GB.bx {D : Nat → Prop} {M : zM} {nn : Nat} {kp bt : Nat → Option Nat} {la : Nat} (hz6 : sz ≤ 6) : ∀ (t p : Nat) (c : mS) (s : Nat → Int32) (hl wo : Int32), p + t = sz → GB D M nn c kp bt la s h p hl nc nh nl lm wk → s (1700 + 40 * h) = nI sz → ∃ c', GB D M nn c' kp bt la (bxF nl h sz lm nc t p s hl wo).1 h sz (bxF nl h sz lm nc t p s hl wo).2.1 nc nh nl lm wk ∧ (bxF nl h sz lm nc t p s hl wo).1 (1700 + 40 * h) = nI sz
  | 0, p, c, s, hl, wo, ht, hB, hz => by
    have e2 : p = sz := by omega
    subst e2
    exact ⟨c, hB, hz⟩
  | t + 1, p, c, s, hl, wo, ht, hB, hz => by
    have hh : h < 10 := by
      have := hB.2.2.2.2.2.1
      have := hB.1.2.2.2.1
      omega
    have g1 : nc ≤ 8 := hB.1.2.1
    have g3 : nl ≤ 240 := hB.1.2.2.2.2.2.1
    cases ec : chF s nl h sz lm nc with
    | none =>
      rw [bxF_n ec]
      exact GB.bx hz6 t (p + 1) _ _ _ _ (by omega) (hB.hole (by omega)) (by rw [plN_at, if_neg (by omega), if_neg (by omega)]; exact hz)
    | some qr =>
      obtain ⟨q, r⟩ := qr
      obtain ⟨hq, l, hf⟩ := hB.cho ec
      have := (fl_spec _ _ hf).1
      rw [bxF_y ec hf]
      exact GB.bx hz6 t (p + 1) _ _ _ _ (by omega) (hB.fill (by omega) hq hf) (by
        rw [plY_at hh (by omega) (by omega) (by omega), if_neg (by omega), if_neg (by omega), if_neg (by omega), if_neg (by omega), if_neg (by omega), if_neg (by omega), if_neg (by omega)]
        exact hz)
theorem w0_box {R : (Nat → Int32) × Int32 × Int32} {S : Int32} {Q : Option Value → Nat → Nat → zM → Prop} (hwk : wk < 30) (hQ : ∀ M x3 x4 x5, RS M σ R.1 R.2.2 S → Sm M0 M → zR ztb (d + 7) kX12_week0 1 139 [some (.ref 287), some (.int R.2.1), some (.int (nI nh)), x3, x4, x5] [] n w M Q) : ∀ (t k : Nat) (M : zM) (s : Nat → Int32) (H W : Int32) (x4 x5 : Option Value), k + t = nh → (∃ Mk nk ck kp bt la, GH (todo wk nh k) Mk nk ck kp bt la s nc nh nl lm wk) → bsF nl lm nc nh wk t k s H W = R → RS M σ s W S → Sm M0 M → zR ztb (d + 7) kX12_week0 1 53 [some (.ref 287), some (.int H), some (.int (nI nh)), some (.int (nI k)), x4, x5] [] n w M Q
  | t, k, M, s, H, W, x4, x5, ht, hB, hR', hRS, hS => by
    obtain ⟨Mk, nk, ck, kpk, btk, lak, hB⟩ := hB
    have hB' := hB
    obtain ⟨hN, hC, hPB, hL, hSt, hHs, hW, hX⟩ := hB'
    have N4 : nh ≤ 10 := hN.2.2.2.1
    have N9 : s 0 = nI wk := hN.2.2.2.2.2.2.2.2.1
    refine zR.step rfl ?_
    match t, ht, hR' with
    | 0, ht, hR' =>
      have e2 : k = nh := by omega
      subst e2
      subst hR'
      have e : ¬ nI k < nI k := zI_nlt (Nat.le_refl _) (by omega)
      repeat (first | with_reducible refine zR.hold (pc := 139) ?_ | ((with_reducible refine zR.stored ?_); dsimp only [zsto, zclr, zset, zget, zc2, cond_false, cond_true]) | ((with_reducible refine zR.atLit ?_); first | refine zR.step rfl ?_) | rw [zcc1] | rw [zcc2] | rw [zcc3] | rw [zcc4] | rw [zn1 (e)] | rw [zn2 (e)] | rw [zn3 (e)] | rw [zn4 (e)])
      exact ⟨trivial, hQ M _ _ _ hRS hS⟩
    | t + 1, ht, hR' =>
      obtain ⟨ρ, hR, r0, rr, r12, r27, r28⟩ := hRS
      replace hR := hR.toY
      rw [r0] at hR
      have e : nI k < nI nh := zI_ylt (by omega) (by omega)
      have en0 : ¬ nI nh = 0 := fun z => by have := zn_inj (a := nh) (b := 0) (by omega) (by omega) z; omega
      have er : nI wk + nI k - (nI wk + nI k) / nI nh * nI nh = nI ((wk + k) % nh) := by
        rw [zn_add]
        exact rem40 ⟨wk + k, by omega⟩ ⟨nh, by omega⟩ (by show nh ≠ 0; omega)
      have hh : (wk + k) % nh < nh := Nat.mod_lt _ (by omega)
      have hD : todo wk nh k ((wk + k) % nh) := fun j hj => mod_ne hj (by omega)
      rw [bsF] at hR'
      generalize hx : (wk + k) % nh = h at *
      have h10 : h < 10 := by omega
      obtain ⟨sz, p3, p3b, hst⟩ := hB.hs (H := H) (W := W) hh hD
      have e2 : s (1700 + 40 * h + 2) = s (1702 + 40 * h) := by rw [show 1700 + 40 * h + 2 = 1702 + 40 * h by omega]
      rcases and1_or (s (1702 + 40 * h) >>> (nI wk &&& 31)) with q | q
      · have qn : ¬ (s (1702 + 40 * h) >>> (nI wk &&& 31)) &&& 1 = 1 := by rw [q]; decide
        rw [hsF_y qn p3 p3b rfl] at hR'
        repeat (first | ((with_reducible refine zR.stored ?_); dsimp only [zsto, zclr, zset, zget, zc2, cond_false, cond_true]) | ((with_reducible refine zR.atLit ?_); first | refine zR.step rfl ?_ | refine zR.getf rfl (hR.1) rfl ?_ | (refine zR.ilY hR rfl (i := 0) rfl (by omega) ?_; rw [N9]) | (refine zR.remi rfl en0 ?_; rw [er]) | (refine zR.cv rfl rfl rfl hR.1 rfl rfl (zCalP.of (c_houseIsY hR h 2 (by omega)) ?_); rw [e2])) | rw [zcc1] | rw [zcc2] | rw [zcc3] | rw [zcc4] | rw [zb1 (e)] | rw [zb2 (e)] | rw [zb3 (e)] | rw [zb4 (e)] | rw [zd1 (qn)] | rw [zd2 (qn)])
        refine zR.isY hR hS rfl (i := 1700 + 40 * h + 6) (by simp only [zn_lit, zn_add, zn_mul]) (by omega) (fun M2 hR hS => ?_)
        repeat (first | ((with_reducible refine zR.stored ?_); dsimp only [zsto, zclr, zset, zget, zc2, cond_false, cond_true]) | ((with_reducible refine zR.atLit ?_); first | refine zR.step rfl ?_) | rw [zcc1] | rw [zcc2] | rw [zcc3] | rw [zcc4] | rw [zb1 (by decide)] | rw [zb2 (by decide)] | rw [zb3 (by decide)] | rw [zb4 (by decide)] | rw [zn1 (by decide)] | rw [zn2 (by decide)] | rw [zn3 (by decide)] | rw [zn4 (by decide)] | rw [ze1 (by decide)] | rw [ze2 (by decide)] | rw [zd1 (by decide)] | rw [zd2 (by decide)] | rw [zswy (by decide)] | rw [zswn (by decide)] | rw [zsw0])
        refine zR.cv rfl rfl rfl hR.1 rfl rfl (zR.mono (c_box0 (M0 := M0) (σ := σ) (nc := nc) (nh := nh) (nl := nl) (lm := lm) (sz := sz) (s := zuf s (1700 + 40 * h + 6) 0) (W := W) (S := S) p3b h10 ⟨_, _, _, _, _, _, _, _, hst⟩ (by rw [zuf_ne _ _ (by omega)]; exact p3) ⟨_, hR, zuf_self _ _ _, fun j a1 a2 a3 a4 => by rw [zuf_ne _ _ a1]; exact rr j a1 a2 a3 a4, r12, r27, r28⟩ hS) (fun v n1 w1 M3 hv => ?_))
        obtain ⟨rfl, rfl, rfl, hS3, hRS3⟩ := hv
        obtain ⟨c', hB3, hz3⟩ := GB.bx p3b sz 0 _ _ 0 W (by omega) hst (by rw [bx0_ne (by omega) (by omega) (fun r hr => by omega), zuf_ne _ _ (by omega)]; exact p3)
        have ih := w0_box hwk hQ t (k + 1) M3 _ _ _ (some (.int (nI h))) (some (.int 0)) (by omega) ⟨_, _, _, _, _, _, (hB3.fin hz3 p3b).mono (fun q z => by rw [← hx]; exact todo_s z)⟩ hR' hRS3 hS3
        rw [← zI_s] at ih
        repeat (first | with_reducible refine zR.hold (pc := 53) ?_ | ((with_reducible refine zR.stored ?_); dsimp only [zsto, zclr, zset, zget, zc2, cond_false, cond_true]) | ((with_reducible refine zR.atLit ?_); first | refine zR.step rfl ?_) | rw [zcc1] | rw [zcc2] | rw [zcc3] | rw [zcc4])
        exact ⟨trivial, ih⟩
      · rw [show hsF nl lm nc wk h s H W = (zuf s (1700 + 40 * h + 6) 0, H, W) from if_pos q] at hR'
        repeat (first | ((with_reducible refine zR.stored ?_); dsimp only [zsto, zclr, zset, zget, zc2, cond_false, cond_true]) | ((with_reducible refine zR.atLit ?_); first | refine zR.step rfl ?_ | refine zR.getf rfl (hR.1) rfl ?_ | (refine zR.ilY hR rfl (i := 0) rfl (by omega) ?_; rw [N9]) | (refine zR.remi rfl en0 ?_; rw [er]) | (refine zR.cv rfl rfl rfl hR.1 rfl rfl (zCalP.of (c_houseIsY hR h 2 (by omega)) ?_); rw [e2])) | rw [zcc1] | rw [zcc2] | rw [zcc3] | rw [zcc4] | rw [zb1 (e)] | rw [zb2 (e)] | rw [zb3 (e)] | rw [zb4 (e)] | rw [ze1 (q)] | rw [ze2 (q)])
        refine zR.isY hR hS rfl (i := 1700 + 40 * h + 6) (by simp only [zn_lit, zn_add, zn_mul]) (by omega) (fun M2 hR hS => ?_)
        have ih := w0_box hwk hQ t (k + 1) M2 _ H W (some (.int (nI h))) (some (.int 1)) (by omega) ⟨_, _, _, _, _, _, (hB.away hh).mono (fun q z => by rw [← hx]; exact todo_s z)⟩ hR' ⟨_, hR, zuf_self _ _ _, fun j a1 a2 a3 a4 => by rw [zuf_ne _ _ a1]; exact rr j a1 a2 a3 a4, r12, r27, r28⟩ hS
        rw [← zI_s] at ih
        repeat (first | with_reducible refine zR.hold (pc := 53) ?_ | ((with_reducible refine zR.stored ?_); dsimp only [zsto, zclr, zset, zget, zc2, cond_false, cond_true]) | ((with_reducible refine zR.atLit ?_); first | refine zR.step rfl ?_) | rw [zcc1] | rw [zcc2] | rw [zcc3] | rw [zcc4] | rw [zb1 (by decide)] | rw [zb2 (by decide)] | rw [zb3 (by decide)] | rw [zb4 (by decide)] | rw [zn1 (by decide)] | rw [zn2 (by decide)] | rw [zn3 (by decide)] | rw [zn4 (by decide)] | rw [ze1 (by decide)] | rw [ze2 (by decide)] | rw [zd1 (by decide)] | rw [zd2 (by decide)] | rw [zswy (by decide)] | rw [zswn (by decide)] | rw [zsw0] | rw [Int32.add_zero])
        exact ⟨trivial, ih⟩
end
