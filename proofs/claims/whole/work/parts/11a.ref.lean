/-! THE REFERENCE'S CELLS: rows 0 .. 11 at 288 .. 299, its own numbers (row 12) at 287. -/
abbrev mS : Type := Nat → Nat → Int32
def mof (o : Nat → Int32) : List Value := [.ref 288, .ref 289, .ref 290, .int (o 3), .int (o 4), .ref 291, .int (o 6), .int (o 7), .int (o 8), .ref 292, .ref 293, .ref 294, .int (o 12), .ref 295, .int (o 14), .int (o 15), .int (o 16), .int (o 17), .int (o 18), .int (o 19), .int (o 20), .ref 296, .int (o 22), .ref 297, .ref 298, .ref 299, .int (o 26), .int (o 27), .int (o 28)]
def mty (j : Nat) : Nat := if j < 10 then 0 else 2
def mln (j : Nat) : Nat := match j with
  | 0 => 2700
  | 1 => 2700
  | 2 => 2700
  | 3 => 200
  | 4 => 4
  | 5 => 4
  | 6 => 160
  | 7 => 50
  | 8 => 80
  | 9 => 400
  | 10 => 120
  | _ => 8
def Rf (M : zM) (σ : mS) : Prop := M 287 = .inr (12, mof (σ 12)) ∧ ∀ j, j < 12 → M (288 + j) = .inl (mty j, mln j, .inl (σ j))
/-- nothing else has changed -/
def Sm (M M' : zM) : Prop := ∀ k, k < 287 ∨ 300 ≤ k → M' k = M k
theorem Sm.rf {M : zM} : Sm M M := fun _ _ => rfl
theorem Sm.trans {M M1 M2 : zM} (h1 : Sm M M1) (h2 : Sm M1 M2) : Sm M M2 := fun k hk => (h2 k hk).trans (h1 k hk)
theorem Sm.up {M0 M : zM} {a : Nat} {c : zC} (h : Sm M0 M) (ha : 287 ≤ a ∧ a < 300) : Sm M0 (zup M a c) := fun k hk => by
  rw [zup_ne _ _ (by omega)]
  exact h k hk
theorem Rf.up {M : zM} {σ : mS} (h : Rf M σ) {j : Nat} (hj : j < 12) (f : Nat → Int32) : Rf (zup M (288 + j) (.inl (mty j, mln j, .inl f))) (zuf σ j f) := by
  refine ⟨?_, fun i hi => ?_⟩
  · rw [zup_ne _ _ (by omega), zuf_ne _ _ (by omega)]
    exact h.1
  · by_cases hij : i = j
    · subst hij
      rw [zup_self, zuf_self]
    · rw [zup_ne _ _ (by omega), zuf_ne _ _ hij]
      exact h.2 i hi
theorem Rf.upo {M : zM} {σ : mS} (h : Rf M σ) (o : Nat → Int32) : Rf (zup M 287 (.inr (12, mof o))) (zuf σ 12 o) := by
  refine ⟨?_, fun i hi => ?_⟩
  · rw [zup_self, zuf_self]
  · rw [zup_ne _ _ (by omega), zuf_ne _ _ (by omega)]
    exact h.2 i hi
section ZM9
variable {d : Nat} {k : Nat → zI} {rt pc : Nat} {L : zL} {st : List Value} {n w : Nat} {M M0 : zM} {Q : Option Value → Nat → Nat → zM → Prop} {z nx r1 r2 r3 li : Nat} {v0 : Value} {sw : List (Int32 × Nat)} {σ : mS} {i : Nat} {jj x : Int32}
theorem zR.putR (hR : Rf M σ) (hS : Sm M0 M) (hk : k pc = (.putfield z, nx, 12, r2, r3, li, v0, sw)) (hf : zfit r3 (.int x) = true) (hl : Nat.blt r2 29 = true) (hq : zfs (mof (σ 12)) r2 (.int x) = mof (zuf (σ 12) r2 x)) (h : ∀ M', Rf M' (zuf σ 12 (zuf (σ 12) r2 x)) → Sm M0 M' → zR ztb d k rt nx L st n w M' Q) : zR ztb d k rt pc L (.int x :: .ref 287 :: st) n w M Q := by
  refine zR.putf hk hR.1 hf hl ?_
  rw [hq]
  exact h _ (hR.upo _) (hS.up (by decide))
theorem zR.ilR0 (hR : Rf M σ) (hk : k pc = (.iaload, nx, r1, r2, r3, li, v0, sw)) (hj : jj = nI i) (hi : i < 2700) (h : zR ztb d k rt nx L (.int (σ 0 i) :: st) n w M Q) : zR ztb d k rt pc L (.int jj :: .ref 288 :: st) n w M Q := zR.iald hk (hR.2 0 (by decide)) (Or.inl rfl) hj hi (by decide) h
theorem zR.isR0 (hR : Rf M σ) (hS : Sm M0 M) (hk : k pc = (.iastore, nx, r1, r2, r3, li, v0, sw)) (hj : jj = nI i) (hi : i < 2700) (h : ∀ M', Rf M' (zuf σ 0 (zuf (σ 0) i x)) → Sm M0 M' → zR ztb d k rt nx L st n w M' Q) : zR ztb d k rt pc L (.int x :: .int jj :: .ref 288 :: st) n w M Q := zR.iast hk (hR.2 0 (by decide)) hj hi (by decide) (h _ (hR.up (j := 0) (by decide) _) (hS.up (by decide)))
theorem zR.ilR1 (hR : Rf M σ) (hk : k pc = (.iaload, nx, r1, r2, r3, li, v0, sw)) (hj : jj = nI i) (hi : i < 2700) (h : zR ztb d k rt nx L (.int (σ 1 i) :: st) n w M Q) : zR ztb d k rt pc L (.int jj :: .ref 289 :: st) n w M Q := zR.iald hk (hR.2 1 (by decide)) (Or.inl rfl) hj hi (by decide) h
theorem zR.isR1 (hR : Rf M σ) (hS : Sm M0 M) (hk : k pc = (.iastore, nx, r1, r2, r3, li, v0, sw)) (hj : jj = nI i) (hi : i < 2700) (h : ∀ M', Rf M' (zuf σ 1 (zuf (σ 1) i x)) → Sm M0 M' → zR ztb d k rt nx L st n w M' Q) : zR ztb d k rt pc L (.int x :: .int jj :: .ref 289 :: st) n w M Q := zR.iast hk (hR.2 1 (by decide)) hj hi (by decide) (h _ (hR.up (j := 1) (by decide) _) (hS.up (by decide)))
theorem zR.ilR2 (hR : Rf M σ) (hk : k pc = (.iaload, nx, r1, r2, r3, li, v0, sw)) (hj : jj = nI i) (hi : i < 2700) (h : zR ztb d k rt nx L (.int (σ 2 i) :: st) n w M Q) : zR ztb d k rt pc L (.int jj :: .ref 290 :: st) n w M Q := zR.iald hk (hR.2 2 (by decide)) (Or.inl rfl) hj hi (by decide) h
theorem zR.isR2 (hR : Rf M σ) (hS : Sm M0 M) (hk : k pc = (.iastore, nx, r1, r2, r3, li, v0, sw)) (hj : jj = nI i) (hi : i < 2700) (h : ∀ M', Rf M' (zuf σ 2 (zuf (σ 2) i x)) → Sm M0 M' → zR ztb d k rt nx L st n w M' Q) : zR ztb d k rt pc L (.int x :: .int jj :: .ref 290 :: st) n w M Q := zR.iast hk (hR.2 2 (by decide)) hj hi (by decide) (h _ (hR.up (j := 2) (by decide) _) (hS.up (by decide)))
theorem zR.ilR3 (hR : Rf M σ) (hk : k pc = (.iaload, nx, r1, r2, r3, li, v0, sw)) (hj : jj = nI i) (hi : i < 200) (h : zR ztb d k rt nx L (.int (σ 3 i) :: st) n w M Q) : zR ztb d k rt pc L (.int jj :: .ref 291 :: st) n w M Q := zR.iald hk (hR.2 3 (by decide)) (Or.inl rfl) hj hi (by decide) h
theorem zR.isR3 (hR : Rf M σ) (hS : Sm M0 M) (hk : k pc = (.iastore, nx, r1, r2, r3, li, v0, sw)) (hj : jj = nI i) (hi : i < 200) (h : ∀ M', Rf M' (zuf σ 3 (zuf (σ 3) i x)) → Sm M0 M' → zR ztb d k rt nx L st n w M' Q) : zR ztb d k rt pc L (.int x :: .int jj :: .ref 291 :: st) n w M Q := zR.iast hk (hR.2 3 (by decide)) hj hi (by decide) (h _ (hR.up (j := 3) (by decide) _) (hS.up (by decide)))
theorem zR.ilR4 (hR : Rf M σ) (hk : k pc = (.iaload, nx, r1, r2, r3, li, v0, sw)) (hj : jj = nI i) (hi : i < 4) (h : zR ztb d k rt nx L (.int (σ 4 i) :: st) n w M Q) : zR ztb d k rt pc L (.int jj :: .ref 292 :: st) n w M Q := zR.iald hk (hR.2 4 (by decide)) (Or.inl rfl) hj hi (by decide) h
theorem zR.isR4 (hR : Rf M σ) (hS : Sm M0 M) (hk : k pc = (.iastore, nx, r1, r2, r3, li, v0, sw)) (hj : jj = nI i) (hi : i < 4) (h : ∀ M', Rf M' (zuf σ 4 (zuf (σ 4) i x)) → Sm M0 M' → zR ztb d k rt nx L st n w M' Q) : zR ztb d k rt pc L (.int x :: .int jj :: .ref 292 :: st) n w M Q := zR.iast hk (hR.2 4 (by decide)) hj hi (by decide) (h _ (hR.up (j := 4) (by decide) _) (hS.up (by decide)))
theorem zR.ilR5 (hR : Rf M σ) (hk : k pc = (.iaload, nx, r1, r2, r3, li, v0, sw)) (hj : jj = nI i) (hi : i < 4) (h : zR ztb d k rt nx L (.int (σ 5 i) :: st) n w M Q) : zR ztb d k rt pc L (.int jj :: .ref 293 :: st) n w M Q := zR.iald hk (hR.2 5 (by decide)) (Or.inl rfl) hj hi (by decide) h
theorem zR.isR5 (hR : Rf M σ) (hS : Sm M0 M) (hk : k pc = (.iastore, nx, r1, r2, r3, li, v0, sw)) (hj : jj = nI i) (hi : i < 4) (h : ∀ M', Rf M' (zuf σ 5 (zuf (σ 5) i x)) → Sm M0 M' → zR ztb d k rt nx L st n w M' Q) : zR ztb d k rt pc L (.int x :: .int jj :: .ref 293 :: st) n w M Q := zR.iast hk (hR.2 5 (by decide)) hj hi (by decide) (h _ (hR.up (j := 5) (by decide) _) (hS.up (by decide)))
theorem zR.ilR6 (hR : Rf M σ) (hk : k pc = (.iaload, nx, r1, r2, r3, li, v0, sw)) (hj : jj = nI i) (hi : i < 160) (h : zR ztb d k rt nx L (.int (σ 6 i) :: st) n w M Q) : zR ztb d k rt pc L (.int jj :: .ref 294 :: st) n w M Q := zR.iald hk (hR.2 6 (by decide)) (Or.inl rfl) hj hi (by decide) h
theorem zR.isR6 (hR : Rf M σ) (hS : Sm M0 M) (hk : k pc = (.iastore, nx, r1, r2, r3, li, v0, sw)) (hj : jj = nI i) (hi : i < 160) (h : ∀ M', Rf M' (zuf σ 6 (zuf (σ 6) i x)) → Sm M0 M' → zR ztb d k rt nx L st n w M' Q) : zR ztb d k rt pc L (.int x :: .int jj :: .ref 294 :: st) n w M Q := zR.iast hk (hR.2 6 (by decide)) hj hi (by decide) (h _ (hR.up (j := 6) (by decide) _) (hS.up (by decide)))
theorem zR.ilR7 (hR : Rf M σ) (hk : k pc = (.iaload, nx, r1, r2, r3, li, v0, sw)) (hj : jj = nI i) (hi : i < 50) (h : zR ztb d k rt nx L (.int (σ 7 i) :: st) n w M Q) : zR ztb d k rt pc L (.int jj :: .ref 295 :: st) n w M Q := zR.iald hk (hR.2 7 (by decide)) (Or.inl rfl) hj hi (by decide) h
theorem zR.isR7 (hR : Rf M σ) (hS : Sm M0 M) (hk : k pc = (.iastore, nx, r1, r2, r3, li, v0, sw)) (hj : jj = nI i) (hi : i < 50) (h : ∀ M', Rf M' (zuf σ 7 (zuf (σ 7) i x)) → Sm M0 M' → zR ztb d k rt nx L st n w M' Q) : zR ztb d k rt pc L (.int x :: .int jj :: .ref 295 :: st) n w M Q := zR.iast hk (hR.2 7 (by decide)) hj hi (by decide) (h _ (hR.up (j := 7) (by decide) _) (hS.up (by decide)))
theorem zR.ilR8 (hR : Rf M σ) (hk : k pc = (.iaload, nx, r1, r2, r3, li, v0, sw)) (hj : jj = nI i) (hi : i < 80) (h : zR ztb d k rt nx L (.int (σ 8 i) :: st) n w M Q) : zR ztb d k rt pc L (.int jj :: .ref 296 :: st) n w M Q := zR.iald hk (hR.2 8 (by decide)) (Or.inl rfl) hj hi (by decide) h
theorem zR.isR8 (hR : Rf M σ) (hS : Sm M0 M) (hk : k pc = (.iastore, nx, r1, r2, r3, li, v0, sw)) (hj : jj = nI i) (hi : i < 80) (h : ∀ M', Rf M' (zuf σ 8 (zuf (σ 8) i x)) → Sm M0 M' → zR ztb d k rt nx L st n w M' Q) : zR ztb d k rt pc L (.int x :: .int jj :: .ref 296 :: st) n w M Q := zR.iast hk (hR.2 8 (by decide)) hj hi (by decide) (h _ (hR.up (j := 8) (by decide) _) (hS.up (by decide)))
theorem zR.ilR9 (hR : Rf M σ) (hk : k pc = (.iaload, nx, r1, r2, r3, li, v0, sw)) (hj : jj = nI i) (hi : i < 400) (h : zR ztb d k rt nx L (.int (σ 9 i) :: st) n w M Q) : zR ztb d k rt pc L (.int jj :: .ref 297 :: st) n w M Q := zR.iald hk (hR.2 9 (by decide)) (Or.inl rfl) hj hi (by decide) h
theorem zR.isR9 (hR : Rf M σ) (hS : Sm M0 M) (hk : k pc = (.iastore, nx, r1, r2, r3, li, v0, sw)) (hj : jj = nI i) (hi : i < 400) (h : ∀ M', Rf M' (zuf σ 9 (zuf (σ 9) i x)) → Sm M0 M' → zR ztb d k rt nx L st n w M' Q) : zR ztb d k rt pc L (.int x :: .int jj :: .ref 297 :: st) n w M Q := zR.iast hk (hR.2 9 (by decide)) hj hi (by decide) (h _ (hR.up (j := 9) (by decide) _) (hS.up (by decide)))
theorem zR.ilR10 (hR : Rf M σ) (hk : k pc = (.baload, nx, r1, r2, r3, li, v0, sw)) (hj : jj = nI i) (hi : i < 120) (h : zR ztb d k rt nx L (.int (σ 10 i) :: st) n w M Q) : zR ztb d k rt pc L (.int jj :: .ref 298 :: st) n w M Q := zR.bald hk (hR.2 10 (by decide)) (Or.inr (Or.inl rfl)) hj hi (by decide) h
theorem zR.isR10 (hR : Rf M σ) (hS : Sm M0 M) (hk : k pc = (.bastore, nx, r1, r2, r3, li, v0, sw)) (hj : jj = nI i) (hi : i < 120) (h : ∀ M', Rf M' (zuf σ 10 (zuf (σ 10) i (x &&& 1))) → Sm M0 M' → zR ztb d k rt nx L st n w M' Q) : zR ztb d k rt pc L (.int x :: .int jj :: .ref 298 :: st) n w M Q := zR.zast hk (hR.2 10 (by decide)) hj hi (by decide) (h _ (hR.up (j := 10) (by decide) _) (hS.up (by decide)))
theorem zR.ilR11 (hR : Rf M σ) (hk : k pc = (.baload, nx, r1, r2, r3, li, v0, sw)) (hj : jj = nI i) (hi : i < 8) (h : zR ztb d k rt nx L (.int (σ 11 i) :: st) n w M Q) : zR ztb d k rt pc L (.int jj :: .ref 299 :: st) n w M Q := zR.bald hk (hR.2 11 (by decide)) (Or.inr (Or.inl rfl)) hj hi (by decide) h
theorem zR.isR11 (hR : Rf M σ) (hS : Sm M0 M) (hk : k pc = (.bastore, nx, r1, r2, r3, li, v0, sw)) (hj : jj = nI i) (hi : i < 8) (h : ∀ M', Rf M' (zuf σ 11 (zuf (σ 11) i (x &&& 1))) → Sm M0 M' → zR ztb d k rt nx L st n w M' Q) : zR ztb d k rt pc L (.int x :: .int jj :: .ref 299 :: st) n w M Q := zR.zast hk (hR.2 11 (by decide)) hj hi (by decide) (h _ (hR.up (j := 11) (by decide) _) (hS.up (by decide)))
end ZM9

