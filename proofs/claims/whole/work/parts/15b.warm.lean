
/-! warmth. -/
theorem zR.divi {d : Nat} {k : Nat → zI} {rt pc : Nat} {L : zL} {st : List Value} {n w : Nat} {M : zM} {Q : Option Value → Nat → Nat → zM → Prop} {nx r1 r2 r3 li : Nat} {v0 : Value} {sw : List (Int32 × Nat)} {x y : Int32} (hk : k pc = (.idiv, nx, r1, r2, r3, li, v0, sw)) (hy : ¬ y = 0) (h : zR ztb d k rt nx L (.int (x / y) :: st) n w M Q) : zR ztb d k rt pc L (.int y :: .int x :: st) n w M Q := by
  refine zR.step ?_ h
  rw [hk]
  simp only [zst]
  rw [if_neg hy]
/-- a week's warmth -/
def wmF (s : Nat → Int32) (w : Nat) : Int32 :=
  if s (10 + w) = 100000 then
    (if 0 < w ∧ ¬ s (9 + w) = 100000 then (if w < 29 ∧ ¬ s (11 + w) = 100000 then (0 + s (9 + w) + s (11 + w)) / 16 else (0 + s (9 + w)) / 8)
     else (if w < 29 ∧ ¬ s (11 + w) = 100000 then (0 + s (11 + w)) / 8 else 0))
  else s (10 + w) / 8
theorem wm_row {M : zM} {σ : mS} {d n w v a : Nat} {k : Int32} {sm cn : Int32} {Q : Option Value → Nat → Nat → zM → Prop} (hR : Rf M σ) (hv : v < 30) (hk : k = nI a) (ha : a < 30)
    (h1 : ¬ σ 0 (10 + a) = 100000 → zR ztb (d + 1) kX12_warmth 1 31 [some (.ref 287), some (.int (nI v)), some (.int 100000), some (.int (sm + σ 0 (10 + a))), some (.int (cn + 1)), some (.int (nI a + 2))] [] n w M Q)
    (h2 : σ 0 (10 + a) = 100000 → zR ztb (d + 1) kX12_warmth 1 31 [some (.ref 287), some (.int (nI v)), some (.int 100000), some (.int sm), some (.int cn), some (.int (nI a + 2))] [] n w M Q) :
    zR ztb (d + 1) kX12_warmth 1 39 [some (.ref 287), some (.int (nI v)), some (.int 100000), some (.int sm), some (.int cn), some (.int k)] [] n w M Q := by
  subst hk
  have e : inI (nI a) 0 29 = 1 := inI_y (lo := 0) (hi := 29) (by omega) (by omega) (by omega)
  repeat (first | rw [zcc1] | rw [zcc2] | rw [zcc3] | rw [zcc4] | rw [e] | refine zR.step rfl ?_ | refine zR.getf rfl (hR.1) rfl ?_ | refine zR.ilR0 hR rfl (by (try simp only [zn_lit, zn_add, zn_mul]); rfl) (by omega) ?_ | refine zR.cs rfl rfl rfl rfl rfl (zCalP.of (c_in _ _ _) ?_))
  refine zR.ite (fun q => ?_) (fun q => ?_)
  · repeat (first | with_reducible refine zR.hold (pc := 31) ?_ | rw [zcc1] | rw [zcc2] | rw [zcc3] | rw [zcc4] | refine zR.step rfl ?_)
    exact ⟨trivial, h2 q⟩
  · repeat (first | with_reducible refine zR.hold (pc := 31) ?_ | rw [zcc1] | rw [zcc2] | rw [zcc3] | rw [zcc4] | refine zR.step rfl ?_ | refine zR.getf rfl (hR.1) rfl ?_ | refine zR.ilR0 hR rfl (by (try simp only [zn_lit, zn_add, zn_mul]); rfl) (by omega) ?_)
    exact ⟨trivial, h1 q⟩
/-- behind the loop -/
theorem wm_end {M : zM} {d n w : Nat} {v sm cn : Int32} {k : Int32} {Q : Option Value → Nat → Nat → zM → Prop} (hk : v + 1 < k) (h0 : cn = 0 → Q (some (.int 0)) n w M) (h1 : cn = 1 → Q (some (.int (sm / 8))) n w M) (h2 : cn = 1 + 1 → Q (some (.int (sm / 16))) n w M) (hc : cn = 0 ∨ cn = 1 ∨ cn = 1 + 1) : zR ztb (d + 1) kX12_warmth 1 31 [some (.ref 287), some (.int v), some (.int 100000), some (.int sm), some (.int cn), some (.int k)] [] n w M Q := by
  have e8 : (8 * 1 : Int32) = 8 := by decide
  have e16 : (8 * 2 : Int32) = 16 := by decide
  have e2 : (1 + 1 : Int32) = 2 := by decide
  rcases hc with rfl | rfl | rfl
  · repeat (first | rw [zcc1] | rw [zcc2] | rw [zcc3] | rw [zcc4] | rw [zb1 (hk)] | rw [zb2 (hk)] | rw [zb3 (hk)] | rw [zb4 (hk)] | rw [zb1 (by decide)] | rw [zb2 (by decide)] | rw [zb3 (by decide)] | rw [zb4 (by decide)] | rw [zn1 (by decide)] | rw [zn2 (by decide)] | rw [zn3 (by decide)] | rw [zn4 (by decide)] | rw [ze1 (by decide)] | rw [ze2 (by decide)] | rw [zd1 (by decide)] | rw [zd2 (by decide)] | rw [zswy (by decide)] | rw [zswn (by decide)] | rw [zsw0] | refine zR.step rfl ?_)
    exact zR.ret rfl rfl (h0 rfl)
  · repeat (first | rw [zcc1] | rw [zcc2] | rw [zcc3] | rw [zcc4] | rw [zb1 (hk)] | rw [zb2 (hk)] | rw [zb3 (hk)] | rw [zb4 (hk)] | rw [zb1 (by decide)] | rw [zb2 (by decide)] | rw [zb3 (by decide)] | rw [zb4 (by decide)] | rw [zn1 (by decide)] | rw [zn2 (by decide)] | rw [zn3 (by decide)] | rw [zn4 (by decide)] | rw [ze1 (by decide)] | rw [ze2 (by decide)] | rw [zd1 (by decide)] | rw [zd2 (by decide)] | rw [zswy (by decide)] | rw [zswn (by decide)] | rw [zsw0] | rw [e8] | refine zR.step rfl ?_)
    exact zR.ret rfl rfl (h1 rfl)
  · rw [e2] at h2 ⊢
    repeat (first | rw [zcc1] | rw [zcc2] | rw [zcc3] | rw [zcc4] | rw [zb1 (hk)] | rw [zb2 (hk)] | rw [zb3 (hk)] | rw [zb4 (hk)] | rw [zb1 (by decide)] | rw [zb2 (by decide)] | rw [zb3 (by decide)] | rw [zb4 (by decide)] | rw [zn1 (by decide)] | rw [zn2 (by decide)] | rw [zn3 (by decide)] | rw [zn4 (by decide)] | rw [ze1 (by decide)] | rw [ze2 (by decide)] | rw [zd1 (by decide)] | rw [zd2 (by decide)] | rw [zswy (by decide)] | rw [zswn (by decide)] | rw [zsw0] | rw [e16] | refine zR.step rfl ?_)
    exact zR.ret rfl rfl (h2 rfl)
theorem wm_in {M : zM} {d n w a v : Nat} {sm cn : Int32} {Q : Option Value → Nat → Nat → zM → Prop} (ha : a ≤ v + 1) (hv : v < 30) (h : zR ztb (d + 1) kX12_warmth 1 39 [some (.ref 287), some (.int (nI v)), some (.int 100000), some (.int sm), some (.int cn), some (.int (nI a))] [] n w M Q) : zR ztb (d + 1) kX12_warmth 1 31 [some (.ref 287), some (.int (nI v)), some (.int 100000), some (.int sm), some (.int cn), some (.int (nI a))] [] n w M Q := by
  have e : ¬ nI v + 1 < nI a := by rw [zI_s]; exact zI_nlt (by omega) (by omega)
  iterate 5 refine zR.step rfl ?_
  rw [zn3 e]
  exact h
theorem c_warmth {M : zM} {σ : mS} {d n w v : Nat} (hR : Rf M σ) (hv : v < 30) : zCall (d + 1) 174 [.ref 287, .int (nI v)] n w M (some (.int (wmF (σ 0) v))) n w M := by
  intro Q hQ
  unfold wmF at hQ
  show zR ztb _ kX12_warmth 1 0 [some (.ref 287), some (.int (nI v)), none, none, none, none] [] _ _ _ _
  repeat (first | rw [zcc1] | rw [zcc2] | rw [zcc3] | rw [zcc4] | refine zR.step rfl ?_ | refine zR.getf rfl (hR.1) rfl ?_ | refine zR.ilR0 hR rfl (by (try simp only [zn_lit, zn_add, zn_mul]); rfl) (by omega) ?_)
  refine zR.ite (fun q => ?_) (fun q => ?_)
  · rw [if_pos q] at hQ
    iterate 8 refine zR.step rfl ?_
    rw [q]
    have h2 : ∀ {a : Nat}, nI a + 2 = nI (a + 2) := zn_add _ 2
    match v, hv, hQ with
    | 0, hv, hQ =>
      rw [if_neg (by omega)] at hQ
      have e0 : nI 0 + 1 < nI 1 + 2 := by decide
      have e1 : ¬ nI 0 + 1 < nI 0 - 1 := by decide
      have e2 : inI (nI 0 - 1) 0 29 = 0 := by decide
      have e3 : nI 0 - 1 + 2 = nI 1 := by decide
      iterate 5 refine zR.step rfl ?_
      rw [zn3 e1]
      iterate 3 refine zR.step rfl ?_
      refine zR.cs rfl rfl rfl rfl rfl (zCalP.of (c_in _ _ _) ?_)
      rw [e2]
      refine zR.step rfl ?_
      rw [zcc2]
      iterate 2 refine zR.step rfl ?_
      rw [e3]
      refine wm_in (a := 1) (by omega) (by omega) (wm_row hR hv rfl (by omega) (fun z => ?_) (fun z => ?_))
      · rw [if_pos ⟨by omega, z⟩] at hQ
        exact wm_end e0 (fun h => absurd h (by decide)) (fun _ => hQ) (fun h => absurd h (by decide)) (Or.inr (Or.inl rfl))
      · rw [if_neg (fun h => h.2 z)] at hQ
        exact wm_end e0 (fun _ => hQ) (fun h => absurd h (by decide)) (fun h => absurd h (by decide)) (Or.inl rfl)
    | u + 1, hv, hQ =>
      have e0 : nI (u + 1) - 1 = nI u := zI_pred (by omega) (by omega)
      rw [e0]
      have z9 : 9 + (u + 1) = 10 + u := by omega
      have z11 : 11 + (u + 1) = 10 + (u + 2) := by omega
      rw [z9, z11] at hQ
      have e4 : nI (u + 1) + 1 < nI (u + 2) + 2 := by rw [zI_s, h2]; exact zI_ylt (by omega) (by omega)
      have e5 : ¬ nI (u + 1) + 1 < nI (u + 2) := by rw [zI_s]; exact zI_nlt (by omega) (by omega)
      have tail : ∀ (sm cn : Int32), (u + 1 < 29 ∧ ¬ σ 0 (10 + (u + 2)) = 100000 → zR ztb (d + 1) kX12_warmth 1 31 [some (.ref 287), some (.int (nI (u + 1))), some (.int 100000), some (.int (sm + σ 0 (10 + (u + 2)))), some (.int (cn + 1)), some (.int (nI (u + 2) + 2))] [] n w M Q) → (¬ (u + 1 < 29 ∧ ¬ σ 0 (10 + (u + 2)) = 100000) → zR ztb (d + 1) kX12_warmth 1 31 [some (.ref 287), some (.int (nI (u + 1))), some (.int 100000), some (.int sm), some (.int cn), some (.int (nI (u + 2) + 2))] [] n w M Q) → zR ztb (d + 1) kX12_warmth 1 31 [some (.ref 287), some (.int (nI (u + 1))), some (.int 100000), some (.int sm), some (.int cn), some (.int (nI u + 2))] [] n w M Q := by
        intro sm cn k1 k2
        rw [h2]
        by_cases q9 : u + 1 < 29
        · refine wm_in (by omega) (by omega) (wm_row hR hv rfl (by omega) (fun z => k1 ⟨q9, z⟩) (fun z => k2 (fun h => h.2 z)))
        · have e6 : inI (nI (u + 2)) 0 29 = 0 := inI_z (lo := 0) (hi := 29) (Or.inr (by omega)) (by omega) (by omega) (by omega)
          iterate 5 refine zR.step rfl ?_
          rw [zn3 e5]
          iterate 3 refine zR.step rfl ?_
          refine zR.cs rfl rfl rfl rfl rfl (zCalP.of (c_in _ _ _) ?_)
          rw [e6]
          refine zR.step rfl ?_
          rw [zcc2]
          iterate 2 refine zR.step rfl ?_
          exact k2 (fun h => q9 h.1)
      refine wm_in (a := u) (by omega) (by omega) (wm_row hR hv rfl (by omega) (fun z => ?_) (fun z => ?_))
      · rw [if_pos ⟨by omega, z⟩] at hQ
        refine tail _ _ (fun z2 => ?_) (fun z2 => ?_)
        · rw [if_pos z2] at hQ
          exact wm_end e4 (fun h => absurd h (by decide)) (fun h => absurd h (by decide)) (fun _ => hQ) (Or.inr (Or.inr rfl))
        · rw [if_neg z2] at hQ
          exact wm_end e4 (fun h => absurd h (by decide)) (fun _ => hQ) (fun h => absurd h (by decide)) (Or.inr (Or.inl rfl))
      · rw [if_neg (fun h => h.2 z)] at hQ
        refine tail _ _ (fun z2 => ?_) (fun z2 => ?_)
        · rw [if_pos z2] at hQ
          exact wm_end e4 (fun h => absurd h (by decide)) (fun _ => hQ) (fun h => absurd h (by decide)) (Or.inr (Or.inl rfl))
        · rw [if_neg z2] at hQ
          exact wm_end e4 (fun _ => hQ) (fun h => absurd h (by decide)) (fun h => absurd h (by decide)) (Or.inl rfl)
  · rw [if_neg q] at hQ
    repeat (first | rw [zcc1] | rw [zcc2] | rw [zcc3] | rw [zcc4] | refine zR.step rfl ?_)
    exact zR.ret rfl rfl hQ
theorem cvt_ne {x : Int32} (h : ¬ x = 100000) : cvt x = x := if_neg h
theorem cvt_eq {x : Int32} (h : x = 100000) : cvt x = -1001 := if_pos h
theorem cvt_iff {x : Int32} (h : x = 100000 ∨ inN x 0 800) : cvt x = -1001 ↔ x = 100000 := by
  by_cases q : x = 100000
  · exact ⟨fun _ => q, fun _ => cvt_eq q⟩
  · refine ⟨fun h2 => ?_, fun h2 => absurd h2 q⟩
    rw [cvt_ne q] at h2
    obtain ⟨k, rfl, -, hk⟩ := h.resolve_left q
    have := congrArg Int32.toInt h2
    rw [nI_toInt (by omega), show (-1001 : Int32).toInt = -1001 by decide] at this
    omega
theorem c_warmthOf {M : zM} {g : Nat} {c : mS} {kp bt : Nat → Option Nat} {la : Nat} {s : Nat → Int32} {d n w v : Nat} (hG : Gc M g c kp bt la) (hW : PW c s) (hv : v < 30) : zCall (d + 1) 18 [.ref g, .int (nI v)] n w M (some (.int (wmF s v))) n w M := by
  intro Q hQ
  unfold wmF at hQ
  have e : inI (nI v) 0 29 = 1 := inI_y (lo := 0) (hi := 29) (by omega) (by omega) (by omega)
  obtain ⟨w1, w2⟩ := hW v hv
  show zR ztb _ kX2_warmthOf 1 0 [some (.ref g), some (.int (nI v)), none, none] [] _ _ _ _
  repeat (first | rw [zcc1] | rw [zcc2] | rw [zcc3] | rw [zcc4] | rw [e] | rw [w1] | refine zR.step rfl ?_ | refine zR.getf rfl (hG.o) rfl ?_ | refine zR.cs rfl rfl rfl rfl rfl (zCalP.of (c_isWithin _ _ _) ?_) | refine zR.iald rfl (hG.wr) (Or.inl rfl) (i := v) (by first | with_reducible rfl | (simp only [zn_lit, zn_add, zn_mul]; done) | exact zI_pred (by omega) (by omega) | rfl) (by omega) (by decide) ?_)
  by_cases q : s (10 + v) = 100000
  · rw [if_pos q] at hQ
    rw [ze1 ((cvt_iff w2).mpr q)]
    have tail : ∀ (sm pa : Int32), (v < 29 ∧ ¬ s (11 + v) = 100000 → zR ztb (d + 1) kX2_warmthOf 1 104 [some (.ref g), some (.int (nI v)), some (.int (sm + s (11 + v))), some (.int (pa + 8))] [] n w M Q) → (¬ (v < 29 ∧ ¬ s (11 + v) = 100000) → zR ztb (d + 1) kX2_warmthOf 1 104 [some (.ref g), some (.int (nI v)), some (.int sm), some (.int pa)] [] n w M Q) → zR ztb (d + 1) kX2_warmthOf 1 70 [some (.ref g), some (.int (nI v)), some (.int sm), some (.int pa)] [] n w M Q := by
      intro sm pa k1 k2
      by_cases q9 : v < 29
      · have e9 : nI v < 29 := zI_ylt (b := 29) (by omega) (by omega)
        obtain ⟨w3, w4⟩ := hW (v + 1) (by omega)
        rw [show 10 + (v + 1) = 11 + v by omega] at w3 w4
        repeat (first | with_reducible refine zR.hold (pc := 104) ?_ | rw [zcc1] | rw [zcc2] | rw [zcc3] | rw [zcc4] | rw [zb1 (e9)] | rw [zb2 (e9)] | rw [zb3 (e9)] | rw [zb4 (e9)] | rw [w3] | refine zR.step rfl ?_ | refine zR.getf rfl (hG.o) rfl ?_ | refine zR.iald rfl (hG.wr) (Or.inl rfl) (i := v + 1) (by first | with_reducible rfl | (simp only [zn_lit, zn_add, zn_mul]; done) | exact zI_pred (by omega) (by omega) | rfl) (by omega) (by decide) ?_)
        by_cases q2 : s (11 + v) = 100000
        · rw [ze1 ((cvt_iff w4).mpr q2)]
          exact k2 (fun h => h.2 q2)
        · rw [zd1 (fun h => q2 ((cvt_iff w4).mp h))]
          rw [cvt_ne q2] at w3
          repeat (first | with_reducible refine zR.hold (pc := 104) ?_ | rw [zcc1] | rw [zcc2] | rw [zcc3] | rw [zcc4] | rw [w3] | refine zR.step rfl ?_ | refine zR.getf rfl (hG.o) rfl ?_ | refine zR.iald rfl (hG.wr) (Or.inl rfl) (i := v + 1) (by first | with_reducible rfl | (simp only [zn_lit, zn_add, zn_mul]; done) | exact zI_pred (by omega) (by omega) | rfl) (by omega) (by decide) ?_)
          exact ⟨trivial, k1 ⟨q9, q2⟩⟩
      · have e9 : ¬ nI v < 29 := zI_nlt (b := 29) (by omega) (by omega)
        repeat (first | with_reducible refine zR.hold (pc := 104) ?_ | rw [zcc1] | rw [zcc2] | rw [zcc3] | rw [zcc4] | rw [zn1 (e9)] | rw [zn2 (e9)] | rw [zn3 (e9)] | rw [zn4 (e9)] | refine zR.step rfl ?_)
        exact ⟨trivial, k2 (fun h => q9 h.1)⟩
    have fin : ∀ (sm pa : Int32), (pa = 0 ∨ pa = 0 + 8 ∨ pa = 0 + 8 + 8) → (pa = 0 → Q (some (.int 0)) n w M) → (pa = 0 + 8 → Q (some (.int (sm / 8))) n w M) → (pa = 0 + 8 + 8 → Q (some (.int (sm / 16))) n w M) → zR ztb (d + 1) kX2_warmthOf 1 104 [some (.ref g), some (.int (nI v)), some (.int sm), some (.int pa)] [] n w M Q := by
      intro sm pa hp k0 k1 k2
      have e8 : (0 + 8 : Int32) = 8 := by decide
      have e16 : (8 + 8 : Int32) = 16 := by decide
      rcases hp with rfl | rfl | rfl
      · repeat (first | rw [zcc1] | rw [zcc2] | rw [zcc3] | rw [zcc4] | rw [zb1 (by decide)] | rw [zb2 (by decide)] | rw [zb3 (by decide)] | rw [zb4 (by decide)] | rw [zn1 (by decide)] | rw [zn2 (by decide)] | rw [zn3 (by decide)] | rw [zn4 (by decide)] | rw [ze1 (by decide)] | rw [ze2 (by decide)] | rw [zd1 (by decide)] | rw [zd2 (by decide)] | rw [zswy (by decide)] | rw [zswn (by decide)] | rw [zsw0] | refine zR.step rfl ?_)
        exact zR.ret rfl rfl (k0 rfl)
      · rw [e8] at k1 ⊢
        repeat (first | rw [zcc1] | rw [zcc2] | rw [zcc3] | rw [zcc4] | rw [zb1 (by decide)] | rw [zb2 (by decide)] | rw [zb3 (by decide)] | rw [zb4 (by decide)] | rw [zn1 (by decide)] | rw [zn2 (by decide)] | rw [zn3 (by decide)] | rw [zn4 (by decide)] | rw [ze1 (by decide)] | rw [ze2 (by decide)] | rw [zd1 (by decide)] | rw [zd2 (by decide)] | rw [zswy (by decide)] | rw [zswn (by decide)] | rw [zsw0] | refine zR.step rfl ?_)
        exact zR.ret rfl rfl (k1 rfl)
      · rw [e8, e16] at k2 ⊢
        repeat (first | rw [zcc1] | rw [zcc2] | rw [zcc3] | rw [zcc4] | rw [zb1 (by decide)] | rw [zb2 (by decide)] | rw [zb3 (by decide)] | rw [zb4 (by decide)] | rw [zn1 (by decide)] | rw [zn2 (by decide)] | rw [zn3 (by decide)] | rw [zn4 (by decide)] | rw [ze1 (by decide)] | rw [ze2 (by decide)] | rw [zd1 (by decide)] | rw [zd2 (by decide)] | rw [zswy (by decide)] | rw [zswn (by decide)] | rw [zsw0] | refine zR.step rfl ?_)
        exact zR.ret rfl rfl (k2 rfl)
    by_cases q0 : 0 < v
    · have e0 : (0 : Int32) < nI v := zI_ylt (a := 0) (by omega) (by omega)
      have ep : nI v - 1 = nI (v - 1) := zI_pred q0 (by omega)
      obtain ⟨w3, w4⟩ := hW (v - 1) (by omega)
      rw [show 10 + (v - 1) = 9 + v by omega] at w3 w4
      repeat (first | with_reducible refine zR.hold (pc := 70) ?_ | rw [zcc1] | rw [zcc2] | rw [zcc3] | rw [zcc4] | rw [zb1 (e0)] | rw [zb2 (e0)] | rw [zb3 (e0)] | rw [zb4 (e0)] | rw [ep] | rw [w3] | refine zR.step rfl ?_ | refine zR.getf rfl (hG.o) rfl ?_ | refine zR.iald rfl (hG.wr) (Or.inl rfl) (i := v - 1) (by first | with_reducible rfl | (simp only [zn_lit, zn_add, zn_mul]; done) | exact zI_pred (by omega) (by omega) | rfl) (by omega) (by decide) ?_)
      by_cases q2 : s (9 + v) = 100000
      · rw [if_neg (fun h => h.2 q2)] at hQ
        rw [ze1 ((cvt_iff w4).mpr q2)]
        refine tail _ _ (fun z => ?_) (fun z => ?_)
        · rw [if_pos z] at hQ
          exact fin _ _ (Or.inr (Or.inl rfl)) (fun h => absurd h (by decide)) (fun _ => hQ) (fun h => absurd h (by decide))
        · rw [if_neg z] at hQ
          exact fin _ _ (Or.inl rfl) (fun _ => hQ) (fun h => absurd h (by decide)) (fun h => absurd h (by decide))
      · rw [if_pos ⟨q0, q2⟩] at hQ
        rw [zd1 (fun h => q2 ((cvt_iff w4).mp h))]
        rw [cvt_ne q2] at w3
        repeat (first | with_reducible refine zR.hold (pc := 70) ?_ | rw [zcc1] | rw [zcc2] | rw [zcc3] | rw [zcc4] | rw [ep] | rw [w3] | refine zR.step rfl ?_ | refine zR.getf rfl (hG.o) rfl ?_ | refine zR.iald rfl (hG.wr) (Or.inl rfl) (i := v - 1) (by first | with_reducible rfl | (simp only [zn_lit, zn_add, zn_mul]; done) | exact zI_pred (by omega) (by omega) | rfl) (by omega) (by decide) ?_)
        refine ⟨trivial, tail _ _ (fun z => ?_) (fun z => ?_)⟩
        · rw [if_pos z] at hQ
          exact fin _ _ (Or.inr (Or.inr rfl)) (fun h => absurd h (by decide)) (fun h => absurd h (by decide)) (fun _ => hQ)
        · rw [if_neg z] at hQ
          exact fin _ _ (Or.inr (Or.inl rfl)) (fun h => absurd h (by decide)) (fun _ => hQ) (fun h => absurd h (by decide))
    · have e0 : ¬ (0 : Int32) < nI v := zI_nlt (b := v) (a := 0) (by omega) (by omega)
      rw [if_neg (fun h => q0 h.1)] at hQ
      repeat (first | with_reducible refine zR.hold (pc := 70) ?_ | rw [zcc1] | rw [zcc2] | rw [zcc3] | rw [zcc4] | rw [zn1 (e0)] | rw [zn2 (e0)] | rw [zn3 (e0)] | rw [zn4 (e0)] | refine zR.step rfl ?_)
      refine ⟨trivial, tail _ _ (fun z => ?_) (fun z => ?_)⟩
      · rw [if_pos z] at hQ
        exact fin _ _ (Or.inr (Or.inl rfl)) (fun h => absurd h (by decide)) (fun _ => hQ) (fun h => absurd h (by decide))
      · rw [if_neg z] at hQ
        exact fin _ _ (Or.inl rfl) (fun _ => hQ) (fun h => absurd h (by decide)) (fun h => absurd h (by decide))
  · rw [if_neg q] at hQ
    rw [zd1 (fun h => q ((cvt_iff w2).mp h))]
    rw [cvt_ne q] at w1
    repeat (first | rw [zcc1] | rw [zcc2] | rw [zcc3] | rw [zcc4] | rw [w1] | refine zR.step rfl ?_ | refine zR.getf rfl (hG.o) rfl ?_ | refine zR.iald rfl (hG.wr) (Or.inl rfl) (i := v) (by first | with_reducible rfl | (simp only [zn_lit, zn_add, zn_mul]; done) | exact zI_pred (by omega) (by omega) | rfl) (by omega) (by decide) ?_)
    exact zR.ret rfl rfl hQ
