
/-! WHAT A TEST SPEAKS OF. -/
/-- the value that step k of the lines tests, for house h -/
def valF (s : Nat → Int32) (nl h k : Nat) : Int32 := if s (2200 + 4 * k) = 6 then stockF s (s (2201 + 4 * k)) nl else if s (2200 + 4 * k) = 7 then hadF s h (s (2201 + 4 * k)).toInt.toNat else if s (2200 + 4 * k) = 8 then s 0 else s (1700 + 40 * h)
section
variable {M : zM} {σ : mS} {d n w nl h k : Nat}
theorem c_worth (hR : Rf M σ) (h3 : σ 0 3 = nI nl) (hn : nl ≤ 240) (hh : h < 10) (hw : σ 0 (2200 + 4 * k) = 6 ∨ σ 0 (2200 + 4 * k) = 7 ∨ σ 0 (2200 + 4 * k) = 8 ∨ σ 0 (2200 + 4 * k) = 9) (hc : σ 0 (2200 + 4 * k) = 6 ∨ σ 0 (2200 + 4 * k) = 7 → ∃ i, i < 8 ∧ σ 0 (2201 + 4 * k) = nI i) : zCall (d + 2) 172 [.ref 287, .int (nI h), .int (σ 0 (2200 + 4 * k)), .int (σ 0 (2201 + 4 * k))] n w M (some (.int (valF (σ 0) nl h k))) n w M := by
  intro Q hQ
  unfold valF at hQ
  rcases hw with e | e | e | e
  · rw [if_pos e] at hQ
    obtain ⟨i, hi, ei⟩ := hc (Or.inl e)
    rw [e]
    show zR ztb _ kX12_worth 1 0 [some (.ref 287), some (.int (nI h)), some (.int 6), some (.int (σ 0 (2201 + 4 * k)))] [] _ _ _ _
    repeat (first | ((with_reducible refine zR.stored ?_); dsimp only [zsto, zclr, zset, zget, zc2, cond_false, cond_true]) | ((with_reducible refine zR.atLit ?_); first | refine zR.step rfl ?_ | refine zR.cv rfl rfl rfl hR.1 rfl rfl (zCalP.of (c_stock hR h3 hn _) ?_)) | rw [zcc1] | rw [zcc2] | rw [zcc3] | rw [zcc4] | rw [zb1 (by decide)] | rw [zb2 (by decide)] | rw [zb3 (by decide)] | rw [zb4 (by decide)] | rw [zn1 (by decide)] | rw [zn2 (by decide)] | rw [zn3 (by decide)] | rw [zn4 (by decide)] | rw [ze1 (by decide)] | rw [ze2 (by decide)] | rw [zd1 (by decide)] | rw [zd2 (by decide)] | rw [zswy (by decide)] | rw [zswn (by decide)] | rw [zsw0])
    exact zR.ret rfl rfl hQ
  · obtain ⟨i, hi, ei⟩ := hc (Or.inr e)
    rw [if_neg (by rw [e]; decide), if_pos e, ei, nI_toInt (by omega), Int.toNat_natCast] at hQ
    rw [e, ei]
    show zR ztb _ kX12_worth 1 0 [some (.ref 287), some (.int (nI h)), some (.int 7), some (.int (nI i))] [] _ _ _ _
    repeat (first | ((with_reducible refine zR.stored ?_); dsimp only [zsto, zclr, zset, zget, zc2, cond_false, cond_true]) | ((with_reducible refine zR.atLit ?_); first | refine zR.step rfl ?_ | refine zR.cv rfl rfl rfl hR.1 rfl rfl (zCalP.of (c_had hR hh hi) ?_)) | rw [zcc1] | rw [zcc2] | rw [zcc3] | rw [zcc4] | rw [zb1 (by decide)] | rw [zb2 (by decide)] | rw [zb3 (by decide)] | rw [zb4 (by decide)] | rw [zn1 (by decide)] | rw [zn2 (by decide)] | rw [zn3 (by decide)] | rw [zn4 (by decide)] | rw [ze1 (by decide)] | rw [ze2 (by decide)] | rw [zd1 (by decide)] | rw [zd2 (by decide)] | rw [zswy (by decide)] | rw [zswn (by decide)] | rw [zsw0])
    exact zR.ret rfl rfl hQ
  · rw [if_neg (by rw [e]; decide), if_neg (by rw [e]; decide), if_pos e] at hQ
    rw [e]
    show zR ztb _ kX12_worth 1 0 [some (.ref 287), some (.int (nI h)), some (.int 8), some (.int (σ 0 (2201 + 4 * k)))] [] _ _ _ _
    repeat (first | ((with_reducible refine zR.stored ?_); dsimp only [zsto, zclr, zset, zget, zc2, cond_false, cond_true]) | ((with_reducible refine zR.atLit ?_); first | refine zR.step rfl ?_ | refine zR.getf rfl (hR.1) rfl ?_ | refine zR.ilR0 hR rfl (by (try simp only [zn_lit, zn_add, zn_mul]); rfl) (by omega) ?_) | rw [zcc1] | rw [zcc2] | rw [zcc3] | rw [zcc4] | rw [zb1 (by decide)] | rw [zb2 (by decide)] | rw [zb3 (by decide)] | rw [zb4 (by decide)] | rw [zn1 (by decide)] | rw [zn2 (by decide)] | rw [zn3 (by decide)] | rw [zn4 (by decide)] | rw [ze1 (by decide)] | rw [ze2 (by decide)] | rw [zd1 (by decide)] | rw [zd2 (by decide)] | rw [zswy (by decide)] | rw [zswn (by decide)] | rw [zsw0])
    exact zR.ret rfl rfl hQ
  · rw [if_neg (by rw [e]; decide), if_neg (by rw [e]; decide), if_neg (by rw [e]; decide)] at hQ
    rw [e]
    show zR ztb _ kX12_worth 1 0 [some (.ref 287), some (.int (nI h)), some (.int 9), some (.int (σ 0 (2201 + 4 * k)))] [] _ _ _ _
    repeat (first | ((with_reducible refine zR.stored ?_); dsimp only [zsto, zclr, zset, zget, zc2, cond_false, cond_true]) | ((with_reducible refine zR.atLit ?_); first | refine zR.step rfl ?_ | refine zR.cv rfl rfl rfl hR.1 rfl rfl (zCalP.of (c_houseIs hR h 0 (by omega)) ?_)) | rw [zcc1] | rw [zcc2] | rw [zcc3] | rw [zcc4] | rw [zb1 (by decide)] | rw [zb2 (by decide)] | rw [zb3 (by decide)] | rw [zb4 (by decide)] | rw [zn1 (by decide)] | rw [zn2 (by decide)] | rw [zn3 (by decide)] | rw [zn4 (by decide)] | rw [ze1 (by decide)] | rw [ze2 (by decide)] | rw [zd1 (by decide)] | rw [zd2 (by decide)] | rw [zswy (by decide)] | rw [zswn (by decide)] | rw [zsw0])
    exact zR.ret rfl rfl hQ
end
section
variable {M : zM} {g : Nat} {c : mS} {kp bt : Nat → Option Nat} {la la2 lm sc : Nat} {r : mS} {s : Nat → Int32} {d n w nl h k : Nat}
theorem c_valueFor (hG : Gc M g c kp bt la) (hL : Lc M la2 lm sc r) (hk : k < sc) (hsc : sc ≤ 100) (hh : h < 10) (hw : s (2200 + 4 * k) = 6 ∨ s (2200 + 4 * k) = 7 ∨ s (2200 + 4 * k) = 8 ∨ s (2200 + 4 * k) = 9) (h4 : r 4 k = s (2200 + 4 * k) + 10) (h5 : r 5 k = s (2201 + 4 * k)) (hc : s (2200 + 4 * k) = 6 ∨ s (2200 + 4 * k) = 7 → ∃ i, i < 8 ∧ s (2201 + 4 * k) = nI i) (hS : ∀ i, i < 8 → c 8 i = stockF s (nI i) nl) (hwk : c 0 2 = s 0) (hH : ∀ q, q < 8 → c (40 + h) q = s (1708 + 40 * h + q)) (hz : c (30 + h) 0 = s (1700 + 40 * h)) : zCall (d + 1) 53 [.ref la2, .int (nI k), .ref g, .ref (g + 26 + 5 * h)] n w M (some (.int (valF s nl h k))) n w M := by
  intro Q hQ
  unfold valF at hQ
  have l4 : M (la2 + 5) = .inl (0, sc, .inl (r 4)) := hL.2 4 (by omega)
  have l5 : M (la2 + 6) = .inl (0, sc, .inl (r 5)) := hL.2 5 (by omega)
  show zR ztb _ kX5_valueFor 1 0 [some (.ref la2), some (.int (nI k)), some (.ref g), some (.ref (g + 26 + 5 * h))] [] _ _ _ _
  have rd4 : ∀ v : Int32, s (2200 + 4 * k) + 10 = v → r 4 k = v := fun v e => h4.trans e
  rcases hw with e | e | e | e
  · rw [if_pos e] at hQ
    obtain ⟨i, hi, ei⟩ := hc (Or.inl e)
    have q4 := rd4 16 (by rw [e]; decide)
    have q5 := h5.trans ei
    rw [ei, ← hS i hi] at hQ
    repeat (first | ((with_reducible refine zR.stored ?_); dsimp only [zsto, zclr, zset, zget, zc2, cond_false, cond_true]) | ((with_reducible refine zR.atLit ?_); first | refine zR.step rfl ?_ | refine zR.getf rfl (hL.1) rfl ?_ | (refine zR.iald rfl l4 (Or.inl rfl) (i := k) rfl (by omega) (by omega) ?_; rw [q4]) | (refine zR.iald rfl l5 (Or.inl rfl) (i := k) rfl (by omega) (by omega) ?_; rw [q5]) | refine zR.cv rfl rfl rfl hG.o rfl rfl (zCalP.of (c_stockOf hG hi) ?_)) | rw [zcc1] | rw [zcc2] | rw [zcc3] | rw [zcc4] | rw [zb1 (by decide)] | rw [zb2 (by decide)] | rw [zb3 (by decide)] | rw [zb4 (by decide)] | rw [zn1 (by decide)] | rw [zn2 (by decide)] | rw [zn3 (by decide)] | rw [zn4 (by decide)] | rw [ze1 (by decide)] | rw [ze2 (by decide)] | rw [zd1 (by decide)] | rw [zd2 (by decide)] | rw [zswy (by decide)] | rw [zswn (by decide)] | rw [zsw0])
    exact zR.ret rfl rfl hQ
  · obtain ⟨i, hi, ei⟩ := hc (Or.inr e)
    rw [if_neg (by rw [e]; decide), if_pos e, ei, nI_toInt (by omega), Int.toNat_natCast] at hQ
    have q4 := rd4 17 (by rw [e]; decide)
    have q5 := h5.trans ei
    unfold hadF at hQ
    rw [← hH i hi, ← hwk] at hQ
    repeat (first | ((with_reducible refine zR.stored ?_); dsimp only [zsto, zclr, zset, zget, zc2, cond_false, cond_true]) | ((with_reducible refine zR.atLit ?_); first | refine zR.step rfl ?_ | refine zR.getf rfl (hL.1) rfl ?_ | refine zR.getf rfl (hG.o) rfl ?_ | (refine zR.iald rfl l4 (Or.inl rfl) (i := k) rfl (by omega) (by omega) ?_; rw [q4]) | (refine zR.iald rfl l5 (Or.inl rfl) (i := k) rfl (by omega) (by omega) ?_; rw [q5]) | refine zR.cv rfl rfl rfl (hG.h0 hh) rfl rfl (zCalP.of (c_weeksSince hG hh hi _) ?_)) | rw [zcc1] | rw [zcc2] | rw [zcc3] | rw [zcc4] | rw [zb1 (by decide)] | rw [zb2 (by decide)] | rw [zb3 (by decide)] | rw [zb4 (by decide)] | rw [zn1 (by decide)] | rw [zn2 (by decide)] | rw [zn3 (by decide)] | rw [zn4 (by decide)] | rw [ze1 (by decide)] | rw [ze2 (by decide)] | rw [zd1 (by decide)] | rw [zd2 (by decide)] | rw [zswy (by decide)] | rw [zswn (by decide)] | rw [zsw0])
    exact zR.ret rfl rfl hQ
  · rw [if_neg (by rw [e]; decide), if_neg (by rw [e]; decide), if_pos e, ← hwk] at hQ
    have q4 := rd4 18 (by rw [e]; decide)
    repeat (first | ((with_reducible refine zR.stored ?_); dsimp only [zsto, zclr, zset, zget, zc2, cond_false, cond_true]) | ((with_reducible refine zR.atLit ?_); first | refine zR.step rfl ?_ | refine zR.getf rfl (hL.1) rfl ?_ | refine zR.getf rfl (hG.o) rfl ?_ | (refine zR.iald rfl l4 (Or.inl rfl) (i := k) rfl (by omega) (by omega) ?_; rw [q4])) | rw [zcc1] | rw [zcc2] | rw [zcc3] | rw [zcc4] | rw [zb1 (by decide)] | rw [zb2 (by decide)] | rw [zb3 (by decide)] | rw [zb4 (by decide)] | rw [zn1 (by decide)] | rw [zn2 (by decide)] | rw [zn3 (by decide)] | rw [zn4 (by decide)] | rw [ze1 (by decide)] | rw [ze2 (by decide)] | rw [zd1 (by decide)] | rw [zd2 (by decide)] | rw [zswy (by decide)] | rw [zswn (by decide)] | rw [zsw0])
    exact zR.ret rfl rfl hQ
  · rw [if_neg (by rw [e]; decide), if_neg (by rw [e]; decide), if_neg (by rw [e]; decide), ← hz] at hQ
    have q4 := rd4 19 (by rw [e]; decide)
    repeat (first | ((with_reducible refine zR.stored ?_); dsimp only [zsto, zclr, zset, zget, zc2, cond_false, cond_true]) | ((with_reducible refine zR.atLit ?_); first | refine zR.step rfl ?_ | refine zR.getf rfl (hL.1) rfl ?_ | refine zR.getf rfl (hG.h0 hh) rfl ?_ | (refine zR.iald rfl l4 (Or.inl rfl) (i := k) rfl (by omega) (by omega) ?_; rw [q4])) | rw [zcc1] | rw [zcc2] | rw [zcc3] | rw [zcc4] | rw [zb1 (by decide)] | rw [zb2 (by decide)] | rw [zb3 (by decide)] | rw [zb4 (by decide)] | rw [zn1 (by decide)] | rw [zn2 (by decide)] | rw [zn3 (by decide)] | rw [zn4 (by decide)] | rw [ze1 (by decide)] | rw [ze2 (by decide)] | rw [zd1 (by decide)] | rw [zd2 (by decide)] | rw [zswy (by decide)] | rw [zswn (by decide)] | rw [zsw0])
    exact zR.ret rfl rfl hQ
end
