
/-! A WEEK: the bed that is picked next. -/
def bKe (s : Nat → Int32) (b : Nat) : Int32 := s (50 + 10 * (s (150 + 10 * b + 0)).toNatClampNeg + 4)
abbrev aheadP (s : Nat → Int32) (b o : Nat) : Prop := (¬ bKe s b = bKe s o ∧ bKe s b < bKe s o) ∨ (bKe s b = bKe s o ∧ s (150 + 10 * b + 0) < s (150 + 10 * o + 0))
def nxt (s wp : Nat → Int32) : Nat → Option Nat
  | 0 => none
  | b + 1 => if 0 < s (150 + 10 * b + 4) ∧ wp b = 0 then (match nxt s wp b with
    | none => some b
    | some o => if aheadP s b o then some b else some o) else nxt s wp b
def optI : Option Nat → Int32
  | none => -1
  | some b => nI b
theorem nxt_spec {s wp : Nat → Int32} : ∀ (m o : Nat), nxt s wp m = some o → o < m ∧ 0 < s (150 + 10 * o + 4) ∧ wp o = 0
  | 0, o, h => by cases h
  | b + 1, o, h => by
    unfold nxt at h
    by_cases q : 0 < s (150 + 10 * b + 4) ∧ wp b = 0
    · rw [if_pos q] at h
      cases e : nxt s wp b with
      | none =>
        rw [e] at h
        dsimp only at h
        injection h with h
        subst h
        exact ⟨by omega, q⟩
      | some x =>
        rw [e] at h
        dsimp only at h
        by_cases z : aheadP s b x
        · rw [if_pos z] at h
          injection h with h
          subst h
          exact ⟨by omega, q⟩
        · rw [if_neg z] at h
          injection h with h
          subst h
          obtain ⟨a1, a2⟩ := nxt_spec b _ e
          exact ⟨by omega, a2⟩
    · rw [if_neg q] at h
      obtain ⟨a1, a2⟩ := nxt_spec b o h
      exact ⟨by omega, a2⟩
theorem nxt_wp {s wp : Nat → Int32} : ∀ m, (∀ b, b < m → ¬ wp b = 0 → ¬ 0 < s (150 + 10 * b + 4)) → nxt s wp m = nxt s (fun _ => 0) m
  | 0, _ => rfl
  | b + 1, h => by
    unfold nxt
    rw [nxt_wp b (fun q hq => h q (by omega))]
    by_cases q : wp b = 0
    · by_cases z : 0 < s (150 + 10 * b + 4)
      · rw [if_pos ⟨z, q⟩, if_pos ⟨z, rfl⟩]
      · rw [if_neg (fun y => z y.1), if_neg (fun y => z y.1)]
    · rw [if_neg (fun z => q z.2), if_neg (fun z => h b (by omega) q z.1)]
theorem nxt_none {s wp : Nat → Int32} : ∀ m, (∀ b, b < m → ¬ 0 < s (150 + 10 * b + 4)) → nxt s wp m = none
  | 0, _ => rfl
  | b + 1, h => by
    unfold nxt
    rw [if_neg (fun z => h b (by omega) z.1)]
    exact nxt_none b (fun q hq => h q (by omega))
theorem zI_dlt {a b : Nat} (ha : a < 2 ^ 30) (hb : b < 2 ^ 30) : nI a - nI b < 0 ↔ nI a < nI b := by
  rw [Int32.lt_iff_toInt_lt, Int32.lt_iff_toInt_lt, Int32.toInt_sub, nI_toInt (by omega), nI_toInt (by omega), show (0 : Int32).toInt = 0 by decide, Int.bmod_eq_of_le (by omega) (by omega)]
  omega
theorem bKe_eq {s : Nat → Int32} {b i : Nat} (h : s (150 + 10 * b + 0) = nI i) (hi : i < 8) : bKe s b = s (50 + 10 * i + 4) := by
  unfold bKe
  rw [h, nI_clamp (by omega)]
/-- what the picking needs of the beds: a bed with something ripe bears a crop whose KEEP is small -/
def RB (s : Nat → Int32) : Prop := ∀ b, b < 8 → 0 < s (150 + 10 * b + 4) → ∃ i k, i < 8 ∧ s (150 + 10 * b + 0) = nI i ∧ s (50 + 10 * i + 4) = nI k ∧ k ≤ 12
theorem nb_loop {M : zM} {σ : mS} {s : Nat → Int32} {d n w : Nat} {Q : Option Value → Nat → Nat → zM → Prop} (hR : Rf M (zuf σ 0 s)) (hB : RB s) (hQ : Q (some (.int (optI (nxt s (σ 11) 8)))) n w M) : ∀ (t b : Nat) (x3 x4 x5 : Option Value), b + t = 8 → zR ztb (d + 1) kX12_nextBed 1 4 [some (.ref 287), some (.int (optI (nxt s (σ 11) b))), some (.int (nI b)), x3, x4, x5] [] n w M Q
  | 0, b, x3, x4, x5, h => by
    have e2 : b = 8 := by omega
    subst e2
    have e : ¬ nI 8 < 8 := by decide
    repeat (first | ((with_reducible refine zR.stored ?_); dsimp only [zsto, zclr, zset, zget, zc2, cond_false, cond_true]) | ((with_reducible refine zR.atLit ?_); first | refine zR.step rfl ?_) | rw [zcc1] | rw [zcc2] | rw [zcc3] | rw [zcc4] | rw [zn1 (e)] | rw [zn2 (e)] | rw [zn3 (e)] | rw [zn4 (e)])
    exact zR.ret rfl rfl hQ
  | t + 1, b, x3, x4, x5, h => by
    have hb : b < 8 := by omega
    have e : nI b < 8 := zI_ylt (b := 8) (by omega) (by omega)
    have ih := nb_loop (d := d) hR hB hQ t (b + 1)
    have st : nxt s (σ 11) (b + 1) = if 0 < s (150 + 10 * b + 4) ∧ σ 11 b = 0 then (match nxt s (σ 11) b with
      | none => some b
      | some o => if aheadP s b o then some b else some o) else nxt s (σ 11) b := rfl
    rw [← zI_s, st] at ih
    refine zR.step rfl ?_
    by_cases q4 : 0 < s (150 + 10 * b + 4)
    · by_cases q11 : σ 11 b = 0
      · rw [if_pos ⟨q4, q11⟩] at ih
        obtain ⟨i, k, hi, hi0, hk, hk12⟩ := hB b hb q4
        cases en : nxt s (σ 11) b with
        | none =>
          rw [en] at ih
          repeat (first | with_reducible refine zR.hold (pc := 4) ?_ | ((with_reducible refine zR.stored ?_); dsimp only [zsto, zclr, zset, zget, zc2, cond_false, cond_true]) | ((with_reducible refine zR.atLit ?_); first | refine zR.step rfl ?_ | refine zR.cv rfl rfl rfl hR.1 rfl rfl (zCalP.of (c_bedIsY hR b 4 (by omega)) ?_) | refine zR.getf rfl (hR.1) rfl ?_ | (refine zR.ilR11 hR rfl (i := b) rfl (by omega) ?_; rw [show (zuf σ 0 s) 11 b = σ 11 b from rfl]) | (refine zR.cv rfl rfl rfl hR.1 rfl rfl (zCalP.of (c_bedIsY hR b 0 (by omega)) ?_); rw [hi0])) | rw [zcc1] | rw [zcc2] | rw [zcc3] | rw [zcc4] | rw [zb1 (e)] | rw [zb2 (e)] | rw [zb3 (e)] | rw [zb4 (e)] | rw [zb1 (q4)] | rw [zb2 (q4)] | rw [zb3 (q4)] | rw [zb4 (q4)] | rw [ze1 (q11)] | rw [ze2 (q11)] | rw [show optI none = -1 from rfl] | rw [zb1 (by decide)] | rw [zb2 (by decide)] | rw [zb3 (by decide)] | rw [zb4 (by decide)] | rw [zn1 (by decide)] | rw [zn2 (by decide)] | rw [zn3 (by decide)] | rw [zn4 (by decide)] | rw [ze1 (by decide)] | rw [ze2 (by decide)] | rw [zd1 (by decide)] | rw [zd2 (by decide)] | rw [zswy (by decide)] | rw [zswn (by decide)] | rw [zsw0])
          exact ⟨trivial, ih _ _ _ (by omega)⟩
        | some o =>
          rw [en] at ih
          obtain ⟨o1, o2, o3⟩ := nxt_spec b o en
          obtain ⟨j, kj, hj, hj0, hkj, hkj12⟩ := hB o (by omega) o2
          have em : ¬ nI o = -1 := zI_m1 (by omega)
          have eb := bKe_eq hi0 hi
          have eo := bKe_eq hj0 hj
          rw [hk] at eb
          rw [hkj] at eo
          dsimp only at ih
          by_cases qk : nI k = nI kj
          · by_cases qd : nI i < nI j
            · have qd2 : nI i - nI j < 0 := (zI_dlt (by omega) (by omega)).mpr qd
              rw [if_pos (show aheadP s b o from Or.inr ⟨by rw [eb, eo]; exact qk, by rw [hi0, hj0]; exact qd⟩)] at ih
              repeat (first | with_reducible refine zR.hold (pc := 4) ?_ | ((with_reducible refine zR.stored ?_); dsimp only [zsto, zclr, zset, zget, zc2, cond_false, cond_true]) | ((with_reducible refine zR.atLit ?_); first | refine zR.step rfl ?_ | refine zR.cv rfl rfl rfl hR.1 rfl rfl (zCalP.of (c_bedIsY hR b 4 (by omega)) ?_) | refine zR.getf rfl (hR.1) rfl ?_ | (refine zR.ilR11 hR rfl (i := b) rfl (by omega) ?_; rw [show (zuf σ 0 s) 11 b = σ 11 b from rfl]) | (refine zR.cv rfl rfl rfl hR.1 rfl rfl (zCalP.of (c_bedIsY hR b 0 (by omega)) ?_); rw [hi0]) | (refine zR.cv rfl rfl rfl hR.1 rfl rfl (zCalP.of (c_bedIsY hR o 0 (by omega)) ?_); rw [hj0]) | (refine zR.cv rfl rfl rfl hR.1 rfl rfl (zCalP.of (c_cropIsY hR i 4 (by omega)) ?_); rw [hk]) | (refine zR.cv rfl rfl rfl hR.1 rfl rfl (zCalP.of (c_cropIsY hR j 4 (by omega)) ?_); rw [hkj])) | rw [zcc1] | rw [zcc2] | rw [zcc3] | rw [zcc4] | rw [zb1 (e)] | rw [zb2 (e)] | rw [zb3 (e)] | rw [zb4 (e)] | rw [zb1 (q4)] | rw [zb2 (q4)] | rw [zb3 (q4)] | rw [zb4 (q4)] | rw [ze1 (q11)] | rw [ze2 (q11)] | rw [show optI (some o) = nI o from rfl] | rw [zd1 (em)] | rw [zd2 (em)] | rw [ze1 (qk)] | rw [ze2 (qk)] | rw [zb1 (qd2)] | rw [zb2 (qd2)] | rw [zb3 (qd2)] | rw [zb4 (qd2)])
              exact ⟨trivial, ih _ _ _ (by omega)⟩
            · have qd2 : ¬ nI i - nI j < 0 := fun z => qd ((zI_dlt (by omega) (by omega)).mp z)
              rw [if_neg (show ¬ aheadP s b o from fun z => z.elim (fun y => y.1 (by rw [eb, eo]; exact qk)) (fun y => qd (by rw [← hi0, ← hj0]; exact y.2)))] at ih
              repeat (first | with_reducible refine zR.hold (pc := 4) ?_ | ((with_reducible refine zR.stored ?_); dsimp only [zsto, zclr, zset, zget, zc2, cond_false, cond_true]) | ((with_reducible refine zR.atLit ?_); first | refine zR.step rfl ?_ | refine zR.cv rfl rfl rfl hR.1 rfl rfl (zCalP.of (c_bedIsY hR b 4 (by omega)) ?_) | refine zR.getf rfl (hR.1) rfl ?_ | (refine zR.ilR11 hR rfl (i := b) rfl (by omega) ?_; rw [show (zuf σ 0 s) 11 b = σ 11 b from rfl]) | (refine zR.cv rfl rfl rfl hR.1 rfl rfl (zCalP.of (c_bedIsY hR b 0 (by omega)) ?_); rw [hi0]) | (refine zR.cv rfl rfl rfl hR.1 rfl rfl (zCalP.of (c_bedIsY hR o 0 (by omega)) ?_); rw [hj0]) | (refine zR.cv rfl rfl rfl hR.1 rfl rfl (zCalP.of (c_cropIsY hR i 4 (by omega)) ?_); rw [hk]) | (refine zR.cv rfl rfl rfl hR.1 rfl rfl (zCalP.of (c_cropIsY hR j 4 (by omega)) ?_); rw [hkj])) | rw [zcc1] | rw [zcc2] | rw [zcc3] | rw [zcc4] | rw [zb1 (e)] | rw [zb2 (e)] | rw [zb3 (e)] | rw [zb4 (e)] | rw [zb1 (q4)] | rw [zb2 (q4)] | rw [zb3 (q4)] | rw [zb4 (q4)] | rw [ze1 (q11)] | rw [ze2 (q11)] | rw [show optI (some o) = nI o from rfl] | rw [zd1 (em)] | rw [zd2 (em)] | rw [ze1 (qk)] | rw [ze2 (qk)] | rw [zn1 (qd2)] | rw [zn2 (qd2)] | rw [zn3 (qd2)] | rw [zn4 (qd2)])
              exact ⟨trivial, ih _ _ _ (by omega)⟩
          · by_cases qd : nI k < nI kj
            · have qd2 : nI k - nI kj < 0 := (zI_dlt (by omega) (by omega)).mpr qd
              rw [if_pos (show aheadP s b o from Or.inl ⟨by rw [eb, eo]; exact qk, by rw [eb, eo]; exact qd⟩)] at ih
              repeat (first | with_reducible refine zR.hold (pc := 4) ?_ | ((with_reducible refine zR.stored ?_); dsimp only [zsto, zclr, zset, zget, zc2, cond_false, cond_true]) | ((with_reducible refine zR.atLit ?_); first | refine zR.step rfl ?_ | refine zR.cv rfl rfl rfl hR.1 rfl rfl (zCalP.of (c_bedIsY hR b 4 (by omega)) ?_) | refine zR.getf rfl (hR.1) rfl ?_ | (refine zR.ilR11 hR rfl (i := b) rfl (by omega) ?_; rw [show (zuf σ 0 s) 11 b = σ 11 b from rfl]) | (refine zR.cv rfl rfl rfl hR.1 rfl rfl (zCalP.of (c_bedIsY hR b 0 (by omega)) ?_); rw [hi0]) | (refine zR.cv rfl rfl rfl hR.1 rfl rfl (zCalP.of (c_bedIsY hR o 0 (by omega)) ?_); rw [hj0]) | (refine zR.cv rfl rfl rfl hR.1 rfl rfl (zCalP.of (c_cropIsY hR i 4 (by omega)) ?_); rw [hk]) | (refine zR.cv rfl rfl rfl hR.1 rfl rfl (zCalP.of (c_cropIsY hR j 4 (by omega)) ?_); rw [hkj])) | rw [zcc1] | rw [zcc2] | rw [zcc3] | rw [zcc4] | rw [zb1 (e)] | rw [zb2 (e)] | rw [zb3 (e)] | rw [zb4 (e)] | rw [zb1 (q4)] | rw [zb2 (q4)] | rw [zb3 (q4)] | rw [zb4 (q4)] | rw [ze1 (q11)] | rw [ze2 (q11)] | rw [show optI (some o) = nI o from rfl] | rw [zd1 (em)] | rw [zd2 (em)] | rw [zd1 (qk)] | rw [zd2 (qk)] | rw [zb1 (qd2)] | rw [zb2 (qd2)] | rw [zb3 (qd2)] | rw [zb4 (qd2)])
              exact ⟨trivial, ih _ _ _ (by omega)⟩
            · have qd2 : ¬ nI k - nI kj < 0 := fun z => qd ((zI_dlt (by omega) (by omega)).mp z)
              rw [if_neg (show ¬ aheadP s b o from fun z => z.elim (fun y => qd (by rw [← eb, ← eo]; exact y.2)) (fun y => qk (by rw [← eb, ← eo]; exact y.1)))] at ih
              repeat (first | with_reducible refine zR.hold (pc := 4) ?_ | ((with_reducible refine zR.stored ?_); dsimp only [zsto, zclr, zset, zget, zc2, cond_false, cond_true]) | ((with_reducible refine zR.atLit ?_); first | refine zR.step rfl ?_ | refine zR.cv rfl rfl rfl hR.1 rfl rfl (zCalP.of (c_bedIsY hR b 4 (by omega)) ?_) | refine zR.getf rfl (hR.1) rfl ?_ | (refine zR.ilR11 hR rfl (i := b) rfl (by omega) ?_; rw [show (zuf σ 0 s) 11 b = σ 11 b from rfl]) | (refine zR.cv rfl rfl rfl hR.1 rfl rfl (zCalP.of (c_bedIsY hR b 0 (by omega)) ?_); rw [hi0]) | (refine zR.cv rfl rfl rfl hR.1 rfl rfl (zCalP.of (c_bedIsY hR o 0 (by omega)) ?_); rw [hj0]) | (refine zR.cv rfl rfl rfl hR.1 rfl rfl (zCalP.of (c_cropIsY hR i 4 (by omega)) ?_); rw [hk]) | (refine zR.cv rfl rfl rfl hR.1 rfl rfl (zCalP.of (c_cropIsY hR j 4 (by omega)) ?_); rw [hkj])) | rw [zcc1] | rw [zcc2] | rw [zcc3] | rw [zcc4] | rw [zb1 (e)] | rw [zb2 (e)] | rw [zb3 (e)] | rw [zb4 (e)] | rw [zb1 (q4)] | rw [zb2 (q4)] | rw [zb3 (q4)] | rw [zb4 (q4)] | rw [ze1 (q11)] | rw [ze2 (q11)] | rw [show optI (some o) = nI o from rfl] | rw [zd1 (em)] | rw [zd2 (em)] | rw [zd1 (qk)] | rw [zd2 (qk)] | rw [zn1 (qd2)] | rw [zn2 (qd2)] | rw [zn3 (qd2)] | rw [zn4 (qd2)])
              exact ⟨trivial, ih _ _ _ (by omega)⟩
      · rw [if_neg (fun z => q11 z.2)] at ih
        repeat (first | with_reducible refine zR.hold (pc := 4) ?_ | ((with_reducible refine zR.stored ?_); dsimp only [zsto, zclr, zset, zget, zc2, cond_false, cond_true]) | ((with_reducible refine zR.atLit ?_); first | refine zR.step rfl ?_ | refine zR.cv rfl rfl rfl hR.1 rfl rfl (zCalP.of (c_bedIsY hR b 4 (by omega)) ?_) | refine zR.getf rfl (hR.1) rfl ?_ | (refine zR.ilR11 hR rfl (i := b) rfl (by omega) ?_; rw [show (zuf σ 0 s) 11 b = σ 11 b from rfl])) | rw [zcc1] | rw [zcc2] | rw [zcc3] | rw [zcc4] | rw [zb1 (e)] | rw [zb2 (e)] | rw [zb3 (e)] | rw [zb4 (e)] | rw [zb1 (q4)] | rw [zb2 (q4)] | rw [zb3 (q4)] | rw [zb4 (q4)] | rw [zd1 (q11)] | rw [zd2 (q11)])
        exact ⟨trivial, ih _ _ _ (by omega)⟩
    · rw [if_neg (fun z => q4 z.1)] at ih
      repeat (first | with_reducible refine zR.hold (pc := 4) ?_ | ((with_reducible refine zR.stored ?_); dsimp only [zsto, zclr, zset, zget, zc2, cond_false, cond_true]) | ((with_reducible refine zR.atLit ?_); first | refine zR.step rfl ?_ | refine zR.cv rfl rfl rfl hR.1 rfl rfl (zCalP.of (c_bedIsY hR b 4 (by omega)) ?_)) | rw [zcc1] | rw [zcc2] | rw [zcc3] | rw [zcc4] | rw [zb1 (e)] | rw [zb2 (e)] | rw [zb3 (e)] | rw [zb4 (e)] | rw [zn1 (q4)] | rw [zn2 (q4)] | rw [zn3 (q4)] | rw [zn4 (q4)])
      exact ⟨trivial, ih _ _ _ (by omega)⟩
theorem c_nextBed {M : zM} {σ : mS} {s : Nat → Int32} {d n w : Nat} (hR : Rf M (zuf σ 0 s)) (hB : RB s) : zCall (d + 1) 177 [.ref 287] n w M (some (.int (optI (nxt s (σ 11) 8)))) n w M := by
  intro Q hQ
  show zR ztb _ kX12_nextBed 1 0 [some (.ref 287), none, none, none, none, none] [] _ _ _ _
  repeat (first | with_reducible refine zR.hold (pc := 4) ?_ | ((with_reducible refine zR.stored ?_); dsimp only [zsto, zclr, zset, zget, zc2, cond_false, cond_true]) | ((with_reducible refine zR.atLit ?_); first | refine zR.step rfl ?_) | rw [zcc1] | rw [zcc2] | rw [zcc3] | rw [zcc4])
  exact ⟨trivial, nb_loop hR hB hQ 8 0 none none none (by omega)⟩
