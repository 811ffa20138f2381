/-! THE REFERENCE'S CONSTRUCTOR. -/
def bareS (s : Nat → Int32) (b : Nat) : Nat → Int32 := zuf (zuf (zuf (zuf (zuf (zuf s (150 + 10 * b) (-1)) (150 + 10 * b + 1) (-1)) (150 + 10 * b + 2) 0) (150 + 10 * b + 3) 0) (150 + 10 * b + 4) 0) (150 + 10 * b + 5) 0
theorem zuf_s (σ : mS) (f g : Nat → Int32) : zuf (zuf σ 0 f) 0 g = zuf σ 0 g := zuf_uf σ 0 f g
theorem c_bare {d n w : Nat} {M : zM} {σ : mS} (hR : Rf M σ) (b : Nat) (hb : b < 8) : zCalP d 134 [.ref 287, .int (nI b)] n w M (fun v n' w' M' => v = none ∧ n' = n ∧ w' = w ∧ Rf M' (zuf σ 0 (bareS (σ 0) b)) ∧ Sm M M') := by
  have hS : Sm M M := Sm.rf
  show zR ztb _ kX12_bare 0 0 [some (.ref 287), some (.int (nI b)), none] [] _ _ _ _
  iterate 6
    repeat (first | refine zR.step rfl ?_ | refine zR.getf rfl hR.1 rfl ?_ | refine zR.ilR0 hR rfl (by (try simp only [zn_lit, zn_add, zn_mul]); rfl) (by omega) ?_)
    refine zR.isR0 hR hS rfl (by (try simp only [zn_lit, zn_add, zn_mul]); rfl) (by omega) (fun M' hR hS => ?_)
    try rw [zuf_s, zuf_self] at hR
  exact zR.ret rfl rfl ⟨rfl, rfl, rfl, hR, hS⟩
