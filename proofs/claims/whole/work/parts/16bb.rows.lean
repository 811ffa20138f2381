
/-! THE REFERENCE'S ROW s, WRITTEN STEP BY STEP. -/
section
variable {d : Nat} {k : Nat → zI} {rt pc : Nat} {L : zL} {st : List Value} {n w : Nat} {M M0 : zM} {Q : Option Value → Nat → Nat → zM → Prop} {z nx r1 r2 r3 li : Nat} {v0 : Value} {sw : List (Int32 × Nat)} {σ : mS} {y : Nat → Int32} {i : Nat} {jj x : Int32}
theorem Rf.toY (h : Rf M σ) : Rf M (zuf σ 0 (σ 0)) := by rw [zuf_id rfl]; exact h
theorem zR.isY (hR : Rf M (zuf σ 0 y)) (hS : Sm M0 M) (hk : k pc = (.iastore, nx, r1, r2, r3, li, v0, sw)) (hj : jj = nI i) (hi : i < 2700) (h : ∀ M', Rf M' (zuf σ 0 (zuf y i x)) → Sm M0 M' → zR ztb d k rt nx L st n w M' Q) : zR ztb d k rt pc L (.int x :: .int jj :: .ref 288 :: st) n w M Q := by
  refine zR.isR0 hR hS hk hj hi (fun M' h1 h2 => h M' ?_ h2)
  rw [show zuf (zuf σ 0 y) 0 (zuf (zuf σ 0 y 0) i x) = zuf σ 0 (zuf y i x) by rw [zuf_self, zuf_uf]] at h1
  exact h1
theorem zR.ilY (hR : Rf M (zuf σ 0 y)) (hk : k pc = (.iaload, nx, r1, r2, r3, li, v0, sw)) (hj : jj = nI i) (hi : i < 2700) (h : zR ztb d k rt nx L (.int (y i) :: st) n w M Q) : zR ztb d k rt pc L (.int jj :: .ref 288 :: st) n w M Q := zR.ilR0 hR hk hj hi h
theorem c_cropIsY (hR : Rf M (zuf σ 0 y)) (c q : Nat) (hc : 50 + 10 * c + q < 2700) : zCall d 137 [.ref 287, .int (nI c), .int (nI q)] n w M (some (.int (y (50 + 10 * c + q)))) n w M := c_cropIs hR c q hc
theorem c_bedIsY (hR : Rf M (zuf σ 0 y)) (c q : Nat) (hc : 150 + 10 * c + q < 2700) : zCall d 138 [.ref 287, .int (nI c), .int (nI q)] n w M (some (.int (y (150 + 10 * c + q)))) n w M := c_bedIs hR c q hc
theorem c_houseIsY (hR : Rf M (zuf σ 0 y)) (c q : Nat) (hc : 1700 + 40 * c + q < 2700) : zCall d 139 [.ref 287, .int (nI c), .int (nI q)] n w M (some (.int (y (1700 + 40 * c + q)))) n w M := c_houseIs hR c q hc
theorem c_isCropY (hR : Rf M (zuf σ 0 y)) (x : Int32) : zCall (d + 1) 135 [.ref 287, .int x] n w M (some (.int (inI x 0 (y 2 - 1)))) n w M := c_isCrop hR x
end
theorem zR.atLit {d : Nat} {k : Nat → zI} {rt m : Nat} {L : zL} {st : List Value} {n w : Nat} {M : zM} {Q : Option Value → Nat → Nat → zM → Prop} (h : zR ztb d k rt (@OfNat.ofNat Nat m (instOfNatNat m)) L st n w M Q) : zR ztb d k rt (@OfNat.ofNat Nat m (instOfNatNat m)) L st n w M Q := h
theorem zR.stored {d : Nat} {k : Nat → zI} {rt m i : Nat} {L : zL} {v : Value} {st : List Value} {n w : Nat} {M : zM} {Q : Option Value → Nat → Nat → zM → Prop} (h : zR ztb d k rt m (zsto L i v) st n w M Q) : zR ztb d k rt m (zsto L i v) st n w M Q := h
