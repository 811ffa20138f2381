/-! A NEW OBJECT OF THE CLASS. -/
def t0 : mS := fun j i => if j = 0 ∧ i = 9 then -1 else if 20 ≤ j ∧ j < 24 ∧ i = 0 then -1 else 0
def tob0 (a b c e f g h k : Value) : List Value := [a, b, c, e, f, g, h, k, .int 0, .int 0, .int 0]
theorem sheet_loop {d : Nat} {M0 : zM} {Q : Option Value → Nat → Nat → zM → Prop} {fs : List Value} (hfs : zfg fs 7 = some (.ref 278)) : ∀ (t i : Nat) (M : zM) (w : Nat), i + t = 4 → M 25 = .inr (11, fs) → M 278 = .inl (6, 4, .inr (prow 279 2 i)) → (∀ j, j < i → M (279 + 2 * j) = .inr (8, [.int (-1), .int 0, .ref (280 + 2 * j)]) ∧ M (280 + 2 * j) = .inl (0, 40, .inl (fun _ => 0))) → (∀ k, k ≠ 278 → k < 279 ∨ 287 ≤ k → M k = M0 k) →
    (∀ (M' : zM) (w' : Nat), M' 25 = .inr (11, fs) → M' 278 = .inl (6, 4, .inr (prow 279 2 4)) → (∀ j, j < 4 → M' (279 + 2 * j) = .inr (8, [.int (-1), .int 0, .ref (280 + 2 * j)]) ∧ M' (280 + 2 * j) = .inl (0, 40, .inl (fun _ => 0))) → (∀ k, k ≠ 278 → k < 279 ∨ 287 ≤ k → M' k = M0 k) → w' = w + 43 * t → zR ztb (d + 2) kX11_init 0 134 [some (.ref 25), some (.ref 40), some (.int (nI 4))] [] 287 w' M' Q) →
    zR ztb (d + 2) kX11_init 0 106 [some (.ref 25), some (.ref 40), some (.int (nI i))] [] (279 + 2 * i) w M Q
  | 0, i, M, w, hit, h1, h2, h3, h4, kk => by
    have hi8 : i = 4 := by omega
    subst hi8
    refine zR.step rfl ?_
    refine zR.step rfl ?_
    refine zR.getf rfl h1 hfs ?_
    refine zR.alen rfl h2 ?_
    refine zR.step rfl ?_
    exact kk M w h1 h2 h3 h4 rfl
  | t + 1, i, M, w, hit, h1, h2, h3, h4, kk => by
    refine zR.step rfl ?_
    refine zR.step rfl ?_
    refine zR.getf rfl h1 hfs ?_
    refine zR.alen rfl h2 ?_
    refine zR.step rfl ?_
    refine zR.ite (fun _ => ?_) (fun h => ?_)
    · refine zR.step rfl ?_
      refine zR.getf rfl h1 hfs ?_
      repeat (refine zR.step rfl ?_)
      refine zR.ci rfl rfl rfl rfl rfl (zR.mono (c_Sheet_init (zup_self _ _ _) rfl) (fun v n1 w1 M1 hv => ?_))
      obtain ⟨rfl, rfl, rfl, b1, b2, b3⟩ := hv
      have e2 : M1 278 = .inl (6, 4, .inr (prow 279 2 i)) := by rw [b3 _ (by omega), zup_ne _ _ (by omega)]; exact h2
      refine zR.aast rfl e2 b1 (Or.inr (Or.inr (Or.inr rfl))) rfl rfl (by omega) (by omega) ?_
      iterate 2 (refine zR.step rfl ?_)
      rw [prow_succ]
      have ih := sheet_loop (d := d) (M0 := M0) (Q := Q) hfs t (i + 1) (zup M1 278 (.inl (6, 4, .inr (prow 279 2 (i + 1))))) (w + 3 + 40) (by omega)
        (by rw [zup_ne _ _ (by omega), b3 _ (by omega), zup_ne _ _ (by omega)]; exact h1) (zup_self _ _ _)
        (fun j hj => by
          by_cases hji : j = i
          · subst hji
            refine ⟨by rw [zup_ne _ _ (by omega), b1, show 279 + 2 * j + 1 = 280 + 2 * j by omega], ?_⟩
            rw [zup_ne _ _ (by omega), show 280 + 2 * j = 279 + 2 * j + 1 by omega]; exact b2
          · obtain ⟨q1, q2⟩ := h3 j (by omega)
            refine ⟨?_, ?_⟩
            · rw [zup_ne _ _ (by omega), b3 _ (by omega), zup_ne _ _ (by omega)]; exact q1
            · rw [zup_ne _ _ (by omega), b3 _ (by omega), zup_ne _ _ (by omega)]; exact q2)
        (fun k hk1 hk2 => by
          rw [zup_ne _ _ hk1, b3 _ (by omega), zup_ne _ _ (by omega)]
          exact h4 k hk1 hk2)
        (fun M' w' a1 a2 a3 a4 a5 => kk M' w' a1 a2 a3 a4 (by omega))
      rw [show nI (i + 1) = nI i + 1 from (zn_add i 1).symm, show 279 + 2 * (i + 1) = 279 + 2 * i + 1 + 1 by omega] at ih
      exact ih
    · exact absurd (nI_lt (by omega) (by omega)) h
set_option maxHeartbeats 1000000 in
theorem c_GB_init {d w : Nat} {M : zM} (hM : M 25 = .inr (11, zdef 11)) : zCalP (d + 4) 83 [.ref 25] 26 w M (fun v n' w' M' => v = none ∧ n' = 287 ∧ w' ≤ w + 20000 ∧ Tc M' t0 none ∧ Gc M' 48 gc0 (fun _ => none) (fun _ => none) 40 ∧ Gc M' 124 gc0 (fun _ => none) (fun _ => none) 40 ∧ Gc M' 200 gc0 (fun _ => none) (fun _ => none) 40 ∧ (∃ r, Lc M' 40 0 0 r) ∧ ∀ k, k < 25 ∨ 287 ≤ k → M' k = M k) := by
  show zR ztb _ kX11_init 0 0 [some (.ref 25), none, none] [] _ _ _ _
  -- tape
  repeat (refine zR.step rfl ?_)
  refine zR.ci rfl rfl rfl rfl rfl (zR.mono (c_Tape_init (zup_self _ _ _) rfl) (fun v n1 w1 M1 hv => ?_))
  obtain ⟨rfl, rfl, rfl, A1, A2, fA⟩ := hv
  refine zR.putf rfl (by rw [fA _ (by omega), zup_ne _ _ (by omega)]; exact hM) rfl rfl ?_
  -- tokens
  repeat (refine zR.step rfl ?_)
  refine zR.ci rfl rfl rfl rfl rfl (zR.mono (c_Tokens_init (zup_self _ _ _) rfl) (fun v n2 w2 M2 hv => ?_))
  obtain ⟨rfl, rfl, rfl, B1, B2, fB⟩ := hv
  refine zR.putf rfl (by rw [fB _ (by omega), zup_ne _ _ (by omega), zup_self]) rfl rfl ?_
  -- reader
  repeat (refine zR.step rfl ?_)
  refine zR.ci rfl rfl rfl rfl rfl (zR.mono (c_Reader_init0 (zup_self _ _ _) rfl) (fun v n3 w3 M3 hv => ?_))
  obtain ⟨rfl, rfl, rfl, C1, C2, fC⟩ := hv
  refine zR.putf rfl (by rw [fC _ (by omega), zup_ne _ _ (by omega), zup_self]) rfl rfl ?_
  -- lines
  repeat (refine zR.step rfl ?_)
  have hRc : Rc (zup (zup M3 25 (.inr (11, tob0 (.ref 26) (.ref 28) (.ref 32) .null .null .null .null .null))) 40 (.inr (5, zdef 5))) t0 none := by
    refine ⟨?_, fun j hj => ?_⟩
    · rw [zup_ne _ _ (by omega), zup_ne _ _ (by omega)]
      exact C1
    · rw [zup_ne _ _ (by omega), zup_ne _ _ (by omega)]
      have e : t0 (5 + j) = fun _ => 0 := by
        funext i
        unfold t0
        rw [if_neg (by omega), if_neg (by omega)]
      rw [e]
      exact C2 j hj
  refine zR.ci rfl rfl rfl rfl rfl (zR.mono (c_Lines_init (lc := 0) (sc := 0) (t := t0) (tr := none) (zup_self _ _ _) rfl (by omega) hRc rfl rfl (by omega) (by omega)) (fun v n4 w4 M4 hv => ?_))
  obtain ⟨rfl, rfl, rfl, ⟨r4, D1, -⟩, fD⟩ := hv
  have g4 : M4 25 = .inr (11, tob0 (.ref 26) (.ref 28) (.ref 32) .null .null .null .null .null) := by rw [fD _ (by omega), zup_ne _ _ (by omega), zup_self]; rfl
  -- gardens
  repeat (refine zR.step rfl ?_)
  refine zR.ci rfl rfl rfl rfl rfl (zR.mono (c_Garden_init (g := 48) (zup_self _ _ _)) (fun v n5 w5 M5 hv => ?_))
  obtain ⟨rfl, rfl, hw5, E1, fE⟩ := hv
  have g5 : M5 25 = .inr (11, tob0 (.ref 26) (.ref 28) (.ref 32) .null .null .null .null .null) := by rw [fE _ (by omega), zup_ne _ _ (by omega)]; exact g4
  refine zR.putf rfl g5 rfl rfl ?_
  repeat (refine zR.step rfl ?_)
  refine zR.ci rfl rfl rfl rfl rfl (zR.mono (c_Garden_init (g := 124) (zup_self _ _ _)) (fun v n6 w6 M6 hv => ?_))
  obtain ⟨rfl, rfl, hw6, F1, fF⟩ := hv
  have g6 : M6 25 = .inr (11, tob0 (.ref 26) (.ref 28) (.ref 32) (.ref 48) .null .null .null .null) := by rw [fF _ (by omega), zup_ne _ _ (by omega), zup_self]; rfl
  refine zR.putf rfl g6 rfl rfl ?_
  repeat (refine zR.step rfl ?_)
  refine zR.ci rfl rfl rfl rfl rfl (zR.mono (c_Garden_init (g := 200) (zup_self _ _ _)) (fun v n7 w7 M7 hv => ?_))
  obtain ⟨rfl, rfl, hw7, H1, fH⟩ := hv
  have g7 : M7 25 = .inr (11, tob0 (.ref 26) (.ref 28) (.ref 32) (.ref 48) (.ref 124) .null .null .null) := by rw [fH _ (by omega), zup_ne _ _ (by omega), zup_self]; rfl
  refine zR.putf rfl g7 rfl rfl ?_
  -- performer
  repeat (refine zR.step rfl ?_)
  refine zR.ci rfl rfl rfl rfl rfl (zR.mono (c_Performer_init (zup_self _ _ _) rfl) (fun v n8 w8 M8 hv => ?_))
  obtain ⟨rfl, rfl, rfl, I1, I2, fI⟩ := hv
  have g8 : M8 25 = .inr (11, tob0 (.ref 26) (.ref 28) (.ref 32) (.ref 48) (.ref 124) (.ref 200) .null .null) := by rw [fI _ (by omega), zup_ne _ _ (by omega), zup_self]; rfl
  refine zR.putf rfl g8 rfl rfl ?_
  -- sheets
  iterate 6 (refine zR.step rfl ?_)
  have key := fun (M9 : zM) (w9 : Nat) (e25 : M9 25 = .inr (11, tob0 (.ref 26) (.ref 28) (.ref 32) (.ref 48) (.ref 124) (.ref 200) (.ref 276) (.ref 278))) (e278 : M9 278 = .inl (6, 4, .inr (fun _ => none))) (ef : ∀ k, k ≠ 25 → k ≠ 278 → M9 k = M8 k) (hw : w9 ≤ w + 19000) =>
    sheet_loop (d := d + 2) (M0 := M9) (Q := fun v n' w' M' => v = none ∧ n' = 287 ∧ w' ≤ w + 20000 ∧ Tc M' t0 none ∧ Gc M' 48 gc0 (fun _ => none) (fun _ => none) 40 ∧ Gc M' 124 gc0 (fun _ => none) (fun _ => none) 40 ∧ Gc M' 200 gc0 (fun _ => none) (fun _ => none) 40 ∧ (∃ r, Lc M' 40 0 0 r) ∧ ∀ k, k < 25 ∨ 287 ≤ k → M' k = M k) (fs := tob0 (.ref 26) (.ref 28) (.ref 32) (.ref 48) (.ref 124) (.ref 200) (.ref 276) (.ref 278)) rfl 4 0 M9 w9 rfl e25 (by rw [prow_0]; exact e278) (fun j hj => by omega) (fun _ _ _ => rfl) (fun M2' w2' a1 a2 a3 a4 a5 => by
      refine zR.step rfl ?_
      refine zR.step rfl ?_
      refine zR.putf rfl a1 rfl rfl ?_
      repeat (refine zR.step rfl ?_)
      have p1 : ∀ k, k ≠ 25 → k ≠ 278 → k < 276 → M2' k = M7 k := fun k h1 h2 h3 => by rw [a4 _ h2 (by omega), ef _ h1 h2, fI _ (by omega), zup_ne _ _ (by omega), zup_ne _ _ h1]
      have p2 : ∀ k, k ≠ 25 → k < 200 → M2' k = M6 k := fun k h1 h3 => by rw [p1 _ h1 (by omega) (by omega), fH _ (by omega), zup_ne _ _ (by omega), zup_ne _ _ h1]
      have p3 : ∀ k, k ≠ 25 → k < 124 → M2' k = M5 k := fun k h1 h3 => by rw [p2 _ h1 (by omega), fF _ (by omega), zup_ne _ _ (by omega), zup_ne _ _ h1]
      have p4 : ∀ k, k ≠ 25 → k < 48 → M2' k = M4 k := fun k h1 h3 => by rw [p3 _ h1 (by omega), fE _ (by omega), zup_ne _ _ (by omega)]
      have p5 : ∀ k, k ≠ 25 → k < 40 → M2' k = M3 k := fun k h1 h3 => by rw [p4 _ h1 (by omega), fD _ (by omega), zup_ne _ _ (by omega), zup_ne _ _ h1]
      have p6 : ∀ k, k ≠ 25 → k < 32 → M2' k = M2 k := fun k h1 h3 => by rw [p5 _ h1 (by omega), fC _ (by omega), zup_ne _ _ (by omega), zup_ne _ _ h1]
      have p7 : ∀ k, k ≠ 25 → k < 28 → M2' k = M1 k := fun k h1 h3 => by rw [p6 _ h1 (by omega), fB _ (by omega), zup_ne _ _ (by omega), zup_ne _ _ h1]
      have tz : ∀ j, j ≠ 0 → ¬ (20 ≤ j ∧ j < 24) → t0 j = fun _ => 0 := fun j h1 h2 => by
        funext i
        unfold t0
        rw [if_neg (by omega), if_neg (by omega)]
      have pu : ∀ (c1 c2 c3 : zC) (k : Nat), k ≠ 25 → zup (zup (zup M2' 25 c1) 25 c2) 25 c3 k = M2' k := fun c1 c2 c3 k hk => by rw [zup_ne _ _ hk, zup_ne _ _ hk, zup_ne _ _ hk]
      refine zR.ret rfl rfl ⟨rfl, rfl, by omega, ⟨?_, ?_, ?_, ?_, ?_, ⟨?_, ?_⟩, ?_, ?_, ?_, ?_⟩, ?_, ?_, ?_, ?_, ?_⟩
      · rw [zup_self]; rfl
      · rw [pu _ _ _ _ (by omega), p7 _ (by omega) (by omega)]; exact A1
      · rw [pu _ _ _ _ (by omega), p7 _ (by omega) (by omega), tz 1 (by omega) (by omega)]; exact A2
      · rw [pu _ _ _ _ (by omega), p6 _ (by omega) (by omega)]; exact B1
      · intro j hj
        rw [pu _ _ _ _ (by omega), p6 _ (by omega) (by omega), tz _ (by omega) (by omega)]; exact B2 j hj
      · rw [pu _ _ _ _ (by omega), p5 _ (by omega) (by omega)]; exact C1
      · intro j hj
        rw [pu _ _ _ _ (by omega), p5 _ (by omega) (by omega), tz _ (by omega) (by omega)]; exact C2 j hj
      · rw [pu _ _ _ _ (by omega), a4 _ (by omega) (by omega), ef _ (by omega) (by omega)]; exact I1
      · rw [pu _ _ _ _ (by omega), a4 _ (by omega) (by omega), ef _ (by omega) (by omega), tz 12 (by omega) (by omega)]; exact I2
      · rw [pu _ _ _ _ (by omega), a2]; rfl
      · intro i hi
        obtain ⟨q1, q2⟩ := a3 i hi
        rw [pu _ _ _ _ (by omega), pu _ _ _ _ (by omega), q1, q2, tz (30 + i) (by omega) (by omega)]
        have e1 : t0 (20 + i) 0 = -1 := by
          unfold t0
          rw [if_neg (by omega), if_pos (by omega)]
        have e2 : t0 (20 + i) 1 = 0 := by
          unfold t0
          rw [if_neg (by omega), if_neg (by omega)]
        rw [e1, e2]
        exact ⟨rfl, rfl⟩
      · exact E1.same (fun k h1 h2 => by rw [pu _ _ _ _ (by omega), p3 _ (by omega) (by omega)])
      · exact F1.same (fun k h1 h2 => by rw [pu _ _ _ _ (by omega), p2 _ (by omega) (by omega)])
      · exact H1.same (fun k h1 h2 => by rw [pu _ _ _ _ (by omega), p1 _ (by omega) (by omega) (by omega)])
      · exact ⟨r4, D1.same (fun k h1 h2 => by rw [pu _ _ _ _ (by omega), p4 _ (by omega) (by omega)])⟩
      · intro k hk
        rw [pu _ _ _ _ (by omega)]
        rcases hk with hk | hk
        · rw [p7 _ (by omega) (by omega), fA _ (by omega), zup_ne _ _ (by omega)]
        · rw [a4 _ (by omega) (by omega), ef _ (by omega) (by omega), fI _ (by omega), zup_ne _ _ (by omega), zup_ne _ _ (by omega), fH _ (by omega), zup_ne _ _ (by omega), zup_ne _ _ (by omega), fF _ (by omega), zup_ne _ _ (by omega), zup_ne _ _ (by omega), fE _ (by omega), zup_ne _ _ (by omega), fD _ (by omega), zup_ne _ _ (by omega), zup_ne _ _ (by omega), fC _ (by omega), zup_ne _ _ (by omega), zup_ne _ _ (by omega), fB _ (by omega), zup_ne _ _ (by omega), zup_ne _ _ (by omega), fA _ (by omega), zup_ne _ _ (by omega)])
  refine key _ _ ?_ ?_ ?_ ?_
  · rw [zup_self]; rfl
  · rw [zup_ne _ _ (by omega), zup_self]; rfl
  · intro k h1 h2
    rw [zup_ne _ _ h1, zup_ne _ _ h2, zup_ne _ _ h1]
  · have e4 : Int32.toNatClampNeg 4 = 4 := rfl
    omega
