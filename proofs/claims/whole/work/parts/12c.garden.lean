def gc0 : mS := fun j i => if j = 0 then (if i = 3 then 20 else 0) else if 20 ≤ j ∧ j < 28 then bed0 i else 0
theorem gc0_z {j : Nat} (h1 : j ≠ 0) (h2 : ¬ (20 ≤ j ∧ j < 28)) : gc0 j = fun _ => 0 := by
  funext i
  unfold gc0
  rw [if_neg h1, if_neg h2]
theorem gc0_b {i : Nat} (h : i < 8) : gc0 (20 + i) = bed0 := by
  funext k
  unfold gc0
  rw [if_neg (by omega), if_pos (by omega)]
theorem brow_eq (g : Nat) : prow (g + 18) 1 8 = brow g := by
  funext k
  unfold prow brow
  rw [Nat.one_mul]
theorem hrow_eq (g : Nat) : prow (g + 26) 5 10 = hrow g := by
  funext k
  rfl
theorem prow_0 (b s : Nat) : prow b s 0 = fun _ => none := by
  funext k
  unfold prow
  rw [if_neg (by omega)]
set_option maxHeartbeats 1000000 in
theorem c_Garden_init {d w g la : Nat} {M : zM} (hM : M g = .inr (2, zdef 2)) : zCalP (d + 2) 9 [.ref g, .ref la] (g + 1) w M (fun v n' w' M' => v = none ∧ n' = g + 76 ∧ w' ≤ w + 3000 ∧ Gc M' g gc0 (fun _ => none) (fun _ => none) la ∧ ∀ k, k < g ∨ g + 76 ≤ k → M' k = M k) := by
  show zR ztb _ kX2_init 0 0 [some (.ref g), some (.ref la), none] [] _ _ _ _
  iterate 5
    repeat (refine zR.step rfl ?_)
    refine zR.putf rfl (by (simp (disch := omega) only [zup_self, zup_ne, hM]) <;> rfl) rfl rfl ?_
  repeat (refine zR.step rfl ?_)
  refine zR.ci rfl rfl rfl rfl rfl (zR.mono (c_Lots_init (zup_self _ _ _) rfl) (fun v n1 w1 M1 hv => ?_))
  obtain ⟨rfl, rfl, rfl, b1, b2, b3⟩ := hv
  have f0 : M1 g = .inr (2, [.ref (g + 1), .int 0, .ref (g + 2), .ref (g + 3), .int 0, .null, .null, .null, .int 0, .int 0, .null, .null, .null, .null, .null, .null]) := by
    rw [b3 _ (by omega)]
    (simp (disch := omega) only [zup_self, zup_ne]) <;> rfl
  have f1 : M1 (g + 1) = .inl (3, 8, .inr (fun _ => none)) := by
    rw [b3 _ (by omega)]
    (simp (disch := omega) only [zup_self, zup_ne]) <;> rfl
  have f2 : M1 (g + 2) = .inl (4, 8, .inr (fun _ => none)) := by
    rw [b3 _ (by omega)]
    (simp (disch := omega) only [zup_self, zup_ne]) <;> rfl
  have f3 : M1 (g + 3) = .inl (5, 10, .inr (fun _ => none)) := by
    rw [b3 _ (by omega)]
    (simp (disch := omega) only [zup_self, zup_ne]) <;> rfl
  have f9 : ∀ k, k < g ∨ g + 11 ≤ k → M1 k = M k := by
    intro k hk
    rw [b3 _ (by omega)]
    simp (disch := omega) only [zup_ne]
  have b1 : M1 (g + 4) = .inr (6, lob g 0) := b1
  have b2 : ∀ j, j < 6 → M1 (g + 5 + j) = .inl (0, 240, .inl (fun _ => 0)) := b2
  clear b3
  refine zR.putf rfl f0 rfl rfl ?_
  iterate 10
    repeat (refine zR.step rfl ?_)
    refine zR.putf rfl (by (simp (disch := omega) only [zup_self, zup_ne]) <;> rfl) rfl rfl ?_
  iterate 2 (refine zR.step rfl ?_)
  have key := fun (M9 : zM) (w9 : Nat) (e : ∀ k, k < g ∨ g + 18 ≤ k → M9 k = M k) (e0 : M9 g = .inr (2, gob g la 0 0 0 20)) (e1 : M9 (g + 1) = .inl (3, 8, .inr (fun _ => none))) (e2 : M9 (g + 2) = .inl (4, 8, .inr (fun _ => none))) (e3 : M9 (g + 3) = .inl (5, 10, .inr (fun _ => none))) (e4 : M9 (g + 4) = .inr (6, lob g 0)) (e5 : ∀ j, j < 6 → M9 (g + 5 + j) = .inl (0, 240, .inl (fun _ => 0))) (e6 : M9 (g + 11) = .inl (0, 30, .inl (fun _ => 0))) (e7 : ∀ j, j < 5 → M9 (g + 12 + j) = .inl (0, 8, .inl (fun _ => 0))) (e8 : M9 (g + 17) = .inl (0, 4, .inl (fun _ => 0))) (hw : w9 ≤ w + 2000) =>
    bed_loop (d := d) (g := g) (la := la) (M0 := M9) (Q := fun v n' w' M' => v = none ∧ n' = g + 76 ∧ w' ≤ w + 3000 ∧ Gc M' g gc0 (fun _ => none) (fun _ => none) la ∧ ∀ k, k < g ∨ g + 76 ≤ k → M' k = M k) rfl 8 0 M9 w9 rfl e0 (by rw [prow_0]; exact e2) (fun j hj => by omega) (fun _ _ _ => rfl) (fun M2 w2 a1 a2 a3 a4 a5 => by
      iterate 2 (refine zR.step rfl ?_)
      refine house_loop (d := d) (M0 := M2) rfl 10 0 M2 w2 rfl a1 (by rw [prow_0, a4 _ (by omega) (by omega)]; exact e3) (fun j hj => by omega) (fun _ _ _ => rfl) (fun M3 w3 c1 c2 c3 c4 c5 => ?_)
      refine zR.ret rfl rfl ⟨rfl, rfl, by omega, ⟨c1, ?_, ?_, ?_, ?_, ?_, ?_, ?_, ?_, ?_, ?_⟩, ?_⟩
      · rw [c4 _ (by omega) (by omega), a4 _ (by omega) (by omega)]; exact e1
      · rw [c4 _ (by omega) (by omega), a2, brow_eq]
      · rw [c2, hrow_eq]
      · rw [c4 _ (by omega) (by omega), a4 _ (by omega) (by omega)]; exact e4
      · intro j hj
        rw [c4 _ (by omega) (by omega), a4 _ (by omega) (by omega), gc0_z (by omega) (by omega)]; exact e5 j hj
      · rw [c4 _ (by omega) (by omega), a4 _ (by omega) (by omega), gc0_z (by omega) (by omega)]; exact e6
      · intro j hj
        rw [c4 _ (by omega) (by omega), a4 _ (by omega) (by omega), gc0_z (by omega) (by omega)]; exact e7 j hj
      · rw [c4 _ (by omega) (by omega), a4 _ (by omega) (by omega), gc0_z (by omega) (by omega)]; exact e8
      · intro i hi
        rw [c4 _ (by omega) (by omega), gc0_b hi]; exact a3 i hi
      · intro i hi
        rw [gc0_z (by omega) (by omega), gc0_z (by omega) (by omega), gc0_z (by omega) (by omega), gc0_z (by omega) (by omega), gc0_z (by omega) (by omega)]
        exact c3 i hi
      · intro k hk
        rw [c4 _ (by omega) (by omega), a4 _ (by omega) (by omega)]
        exact e k (by omega))
  refine key _ _ ?_ ?_ ?_ ?_ ?_ ?_ ?_ ?_ ?_ ?_ ?_
  · intro k hk
    simp (disch := omega) only [zup_ne]
    exact f9 k (by omega)
  · (simp (disch := omega) only [zup_self, zup_ne]) <;> rfl
  · (simp (disch := omega) only [zup_self, zup_ne]) <;> exact f1
  · (simp (disch := omega) only [zup_self, zup_ne]) <;> exact f2
  · (simp (disch := omega) only [zup_self, zup_ne]) <;> exact f3
  · (simp (disch := omega) only [zup_self, zup_ne]) <;> exact b1
  · intro j hj
    (simp (disch := omega) only [zup_self, zup_ne]) <;> exact b2 j hj
  · (simp (disch := omega) only [zup_self, zup_ne]) <;> rfl
  · intro j hj
    match j, hj with
    | 0, _ => (simp (disch := omega) only [zup_self, zup_ne]) <;> rfl
    | 1, _ => (simp (disch := omega) only [zup_self, zup_ne]) <;> rfl
    | 2, _ => (simp (disch := omega) only [zup_self, zup_ne]) <;> rfl
    | 3, _ => (simp (disch := omega) only [zup_self, zup_ne]) <;> rfl
    | 4, _ => (simp (disch := omega) only [zup_self, zup_ne]) <;> rfl
  · (simp (disch := omega) only [zup_self, zup_ne]) <;> rfl
  · have e8 : Int32.toNatClampNeg 8 = 8 := rfl
    have e10 : Int32.toNatClampNeg 10 = 10 := rfl
    have e30 : Int32.toNatClampNeg 30 = 30 := rfl
    have e4 : Int32.toNatClampNeg 4 = 4 := rfl
    omega
