/-! THE REFERENCE'S SMALL METHODS. -/
def bI (p : Prop) [Decidable p] : Int32 := if p then 1 else 0
/-- what the reference calls in(v, low, high) -/
def inI (v lo hi : Int32) : Int32 := if v < lo then 0 else if hi < v then 0 else 1
theorem c_in {d n w : Nat} {M : zM} (v lo hi : Int32) : zCall d 131 [.int v, .int lo, .int hi] n w M (some (.int (inI v lo hi))) n w M := by
  intro Q hQ
  unfold inI at hQ
  show zR ztb _ kX12_in 2 0 [some (.int v), some (.int lo), some (.int hi)] [] _ _ _ _
  repeat (first | refine zR.step rfl ?_ | refine zR.getf rfl hR.1 rfl ?_ | refine zR.ilR0 hR rfl (by simp only [zn_lit, zn_add, zn_mul]; rfl) (by omega) ?_)
  refine zR.ite (fun h => ?_) (fun h => ?_)
  · rw [if_pos h] at hQ
    repeat (first | refine zR.step rfl ?_ | refine zR.getf rfl hR.1 rfl ?_ | refine zR.ilR0 hR rfl (by simp only [zn_lit, zn_add, zn_mul]; rfl) (by omega) ?_)
    exact zR.ret rfl rfl hQ
  · rw [if_neg h] at hQ
    repeat (first | refine zR.step rfl ?_ | refine zR.getf rfl hR.1 rfl ?_ | refine zR.ilR0 hR rfl (by simp only [zn_lit, zn_add, zn_mul]; rfl) (by omega) ?_)
    refine zR.ite (fun h => ?_) (fun h => ?_)
    · rw [if_pos h] at hQ
      repeat (first | refine zR.step rfl ?_ | refine zR.getf rfl hR.1 rfl ?_ | refine zR.ilR0 hR rfl (by simp only [zn_lit, zn_add, zn_mul]; rfl) (by omega) ?_)
      exact zR.ret rfl rfl hQ
    · rw [if_neg h] at hQ
      repeat (first | refine zR.step rfl ?_ | refine zR.getf rfl hR.1 rfl ?_ | refine zR.ilR0 hR rfl (by simp only [zn_lit, zn_add, zn_mul]; rfl) (by omega) ?_)
      exact zR.ret rfl rfl hQ
theorem c_refused {d n w : Nat} {M : zM} {σ : mS} (hR : Rf M σ) (x : Int32) : zCalP d 132 [.ref 287, .int x] n w M (fun v n' w' M' => v = some (.int (-1)) ∧ n' = n ∧ w' = w ∧ Rf M' (zuf σ 12 (zuf (σ 12) 12 x)) ∧ Sm M M') := by
  have hS : Sm M M := Sm.rf
  show zR ztb _ kX12_refused 1 0 [some (.ref 287), some (.int x)] [] _ _ _ _
  repeat (first | refine zR.step rfl ?_ | refine zR.getf rfl hR.1 rfl ?_ | refine zR.ilR0 hR rfl (by simp only [zn_lit, zn_add, zn_mul]; rfl) (by omega) ?_)
  refine zR.putR hR hS rfl rfl rfl rfl (fun M' hR hS => ?_)
  repeat (first | refine zR.step rfl ?_ | refine zR.getf rfl hR.1 rfl ?_ | refine zR.ilR0 hR rfl (by simp only [zn_lit, zn_add, zn_mul]; rfl) (by omega) ?_)
  exact zR.ret rfl rfl ⟨rfl, rfl, rfl, hR, hS⟩
theorem c_done {d n w : Nat} {M : zM} {σ : mS} (hR : Rf M σ) (x : Int32) : zCalP d 133 [.ref 287, .int x] n w M (fun v n' w' M' => v = some (.int x) ∧ n' = n ∧ w' = w ∧ Rf M' (zuf σ 12 (zuf (σ 12) 12 0)) ∧ Sm M M') := by
  have hS : Sm M M := Sm.rf
  show zR ztb _ kX12_done 1 0 [some (.ref 287), some (.int x)] [] _ _ _ _
  repeat (first | refine zR.step rfl ?_ | refine zR.getf rfl hR.1 rfl ?_ | refine zR.ilR0 hR rfl (by simp only [zn_lit, zn_add, zn_mul]; rfl) (by omega) ?_)
  refine zR.putR hR hS rfl rfl rfl rfl (fun M' hR hS => ?_)
  repeat (first | refine zR.step rfl ?_ | refine zR.getf rfl hR.1 rfl ?_ | refine zR.ilR0 hR rfl (by simp only [zn_lit, zn_add, zn_mul]; rfl) (by omega) ?_)
  exact zR.ret rfl rfl ⟨rfl, rfl, rfl, hR, hS⟩
theorem c_cropIs {d n w : Nat} {M : zM} {σ : mS} (hR : Rf M σ) (c q : Nat) (hc : 50 + 10 * c + q < 2700) : zCall d 137 [.ref 287, .int (nI c), .int (nI q)] n w M (some (.int (σ 0 (50 + 10 * c + q)))) n w M := by
  intro Q hQ
  show zR ztb _ kX12_cropIs 1 0 [some (.ref 287), some (.int (nI c)), some (.int (nI q))] [] _ _ _ _
  repeat (first | refine zR.step rfl ?_ | refine zR.getf rfl hR.1 rfl ?_ | refine zR.ilR0 hR rfl (by simp only [zn_lit, zn_add, zn_mul]; rfl) (by omega) ?_)
  exact zR.ret rfl rfl hQ
theorem inI_01 (v lo hi : Int32) : inI v lo hi = 0 ∨ inI v lo hi = 1 := by
  unfold inI
  split
  · exact Or.inl rfl
  · split
    · exact Or.inl rfl
    · exact Or.inr rfl
theorem c_isCrop {d n w : Nat} {M : zM} {σ : mS} (hR : Rf M σ) (x : Int32) : zCall (d + 1) 135 [.ref 287, .int x] n w M (some (.int (inI x 0 (σ 0 2 - 1)))) n w M := by
  intro Q hQ
  show zR ztb _ kX12_isCrop 2 0 [some (.ref 287), some (.int x)] [] _ _ _ _
  repeat (first | refine zR.step rfl ?_ | refine zR.getf rfl hR.1 rfl ?_ | refine zR.ilR0 hR rfl (by simp only [zn_lit, zn_add, zn_mul]; rfl) (by omega) ?_)
  refine zR.cs rfl rfl rfl rfl rfl (zCalP.of (c_in _ _ _) ?_)
  repeat (first | refine zR.step rfl ?_ | refine zR.getf rfl hR.1 rfl ?_ | refine zR.ilR0 hR rfl (by simp only [zn_lit, zn_add, zn_mul]; rfl) (by omega) ?_)
  exact zR.retZ rfl (inI_01 _ _ _) hQ
