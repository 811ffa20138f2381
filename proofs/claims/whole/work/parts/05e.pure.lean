/-! INSTRUCTIONS THAT READ AND WRITE NO CELL. -/
theorem zchk_dec {inf : Nat → zinf} {tb : Nat → zMt} {ny y pc : Nat} {e : zI} (h : zchk inf tb ny y pc e = true) (hn : e.1 ≠ .nop) : pc < e.2.1 ∧ decode (inf y).2.1 pc = .ok (e.1, e.2.1 - pc) ∧ (zlnk e.1 = 0 ∨ e.2.1 = pc + zlnk e.1) ∧ zch1 inf tb ny y pc e = true := by
  unfold zchk at h
  split at h
  · rename_i q
    exact absurd q hn
  · simp only [Bool.and_eq_true, decide_eq_true_eq] at h
    exact ⟨h.1, h.2.1, h.2.2.1, h.2.2.2⟩
theorem zdec1 {inf : Nat → zinf} {tb : Nat → zMt} {ny y pc : Nat} {i : Instr} {nx r1 r2 r3 li : Nat} {v : Value} {sw : List (Int32 × Nat)} (h : zchk inf tb ny y pc (i, nx, r1, r2, r3, li, v, sw) = true) (hn : i ≠ .nop) {K : Nat} (hk : zlnk i = K) (hK : K ≠ 0) : nx = pc + K ∧ decode (inf y).2.1 pc = .ok (i, K) ∧ zch1 inf tb ny y pc (i, nx, r1, r2, r3, li, v, sw) = true := by
  obtain ⟨h1, h2, h3, h4⟩ := zchk_dec h hn
  dsimp only at h1 h2 h3
  rw [hk] at h3
  rcases h3 with h3 | h3
  · exact absurd h3 hK
  · refine ⟨h3, ?_, h4⟩
    rw [h2, h3, Nat.add_sub_cancel_left]
def zSt (r : Nat → Nat) (fm : Value) (D : va_G) (cA : Nat → ClassId) (H0 : Heap) (X : Nat → zC) (nL : Nat) (ls : Array Slot) (H : Heap) (locs : List Loc) (L : zL) (n : Nat) (M : zM) : Prop := zLoc r fm ls nL L ∧ zH r fm D cA H0 X H n M ∧ ∀ q ∈ locs, H0.size ≤ q.base
def zCx (r : Nat → Nat) (fm : Value) (D : va_G) (cA : Nat → ClassId) (H0 : Heap) (X : Nat → zC) (inf : Nat → zinf) (tb : Nat → zMt) (y d : Nat) (p : Program) (R : Room) (s : State) (m : MethodId) (args : Array Value) (meth : Method) (c : Code) : Prop :=
  p.tables.exec = Jvm.exec ∧ c.code = (inf y).2.1 ∧ c.maxLocals = (tb y).2.1 ∧ s.vm.findClass (inf y).1.cls = some m.cls ∧ (∀ w ∈ ztbl, w.before args s = true) ∧ zK r fm D cA H0 X s ∧ ((inf y).1.name = "<init>" → meth.name = "<init>") ∧ d + 1 ≤ R.frames ∧ (d + 1) * 64 ≤ R.locals ∧ zrho r H0 ∧ zfm fm
section ZE
variable {p : Program} {l : Launch} {e : Env} {R : Room} {s : State} {m : MethodId} {args : Array Value} {below : List Frame} {meth : Method} {c : Code} {H : Heap} {locs : List Loc} {cells slots : Nat} {Q : State → Prop}
variable {r : Nat → Nat} {fm : Value} {D : va_G} {cA : Nat → ClassId} {H0 : Heap} {X : Nat → zC} {inf : Nat → zinf} {tb : Nat → zMt} {ny y d : Nat}
variable {pc nx r1 r2 r3 li : Nat} {v : Value} {sw : List (Int32 × Nat)} {L L' : zL} {st st' : List Value} {n w n' w' pc' : Nat} {M M' : zM} {ls : Array Slot}
theorem zi_iadd (C : zCx r fm D cA H0 X inf tb y d p R s m args meth c) (h : zchk inf tb ny y pc (.iadd, nx, r1, r2, r3, li, v, sw) = true) (hz : zst (.iadd, nx, r1, r2, r3, li, v, sw) L st n w M = some (pc', L', st', n', w', M')) (S : zSt r fm D cA H0 X (tb y).2.1 ls H locs L n M)
    (kk : ∀ (ls' : Array Slot) (H' : Heap) (locs' : List Loc), zSt r fm D cA H0 X (tb y).2.1 ls' H' locs' L' n' M' → W p l e R s m args below meth c H' locs' (cells + (n' - n)) (slots + (w' - w)) Q (F0 m pc' ls' (st'.map (zv r fm)))) : W p l e R s m args below meth c H locs cells slots Q (F0 m pc ls (st.map (zv r fm))) := by
  obtain ⟨rfl, hd, h1⟩ := zdec1 (K := 1) h (by intro q; cases q) rfl (by decide)
  dsimp only [zst] at hz
  split at hz
  · cases hz
    have k1 := kk ls H locs S
    rw [Nat.sub_self, Nat.sub_self, Nat.add_zero, Nat.add_zero] at k1
    exact lv_iadd C.1 C.2.1 hd k1
  · cases hz
theorem zi_isub (C : zCx r fm D cA H0 X inf tb y d p R s m args meth c) (h : zchk inf tb ny y pc (.isub, nx, r1, r2, r3, li, v, sw) = true) (hz : zst (.isub, nx, r1, r2, r3, li, v, sw) L st n w M = some (pc', L', st', n', w', M')) (S : zSt r fm D cA H0 X (tb y).2.1 ls H locs L n M)
    (kk : ∀ (ls' : Array Slot) (H' : Heap) (locs' : List Loc), zSt r fm D cA H0 X (tb y).2.1 ls' H' locs' L' n' M' → W p l e R s m args below meth c H' locs' (cells + (n' - n)) (slots + (w' - w)) Q (F0 m pc' ls' (st'.map (zv r fm)))) : W p l e R s m args below meth c H locs cells slots Q (F0 m pc ls (st.map (zv r fm))) := by
  obtain ⟨rfl, hd, h1⟩ := zdec1 (K := 1) h (by intro q; cases q) rfl (by decide)
  dsimp only [zst] at hz
  split at hz
  · cases hz
    have k1 := kk ls H locs S
    rw [Nat.sub_self, Nat.sub_self, Nat.add_zero, Nat.add_zero] at k1
    exact lv_isub C.1 C.2.1 hd k1
  · cases hz
theorem zi_imul (C : zCx r fm D cA H0 X inf tb y d p R s m args meth c) (h : zchk inf tb ny y pc (.imul, nx, r1, r2, r3, li, v, sw) = true) (hz : zst (.imul, nx, r1, r2, r3, li, v, sw) L st n w M = some (pc', L', st', n', w', M')) (S : zSt r fm D cA H0 X (tb y).2.1 ls H locs L n M)
    (kk : ∀ (ls' : Array Slot) (H' : Heap) (locs' : List Loc), zSt r fm D cA H0 X (tb y).2.1 ls' H' locs' L' n' M' → W p l e R s m args below meth c H' locs' (cells + (n' - n)) (slots + (w' - w)) Q (F0 m pc' ls' (st'.map (zv r fm)))) : W p l e R s m args below meth c H locs cells slots Q (F0 m pc ls (st.map (zv r fm))) := by
  obtain ⟨rfl, hd, h1⟩ := zdec1 (K := 1) h (by intro q; cases q) rfl (by decide)
  dsimp only [zst] at hz
  split at hz
  · cases hz
    have k1 := kk ls H locs S
    rw [Nat.sub_self, Nat.sub_self, Nat.add_zero, Nat.add_zero] at k1
    exact lv_imul C.1 C.2.1 hd k1
  · cases hz
theorem zi_iand (C : zCx r fm D cA H0 X inf tb y d p R s m args meth c) (h : zchk inf tb ny y pc (.iand, nx, r1, r2, r3, li, v, sw) = true) (hz : zst (.iand, nx, r1, r2, r3, li, v, sw) L st n w M = some (pc', L', st', n', w', M')) (S : zSt r fm D cA H0 X (tb y).2.1 ls H locs L n M)
    (kk : ∀ (ls' : Array Slot) (H' : Heap) (locs' : List Loc), zSt r fm D cA H0 X (tb y).2.1 ls' H' locs' L' n' M' → W p l e R s m args below meth c H' locs' (cells + (n' - n)) (slots + (w' - w)) Q (F0 m pc' ls' (st'.map (zv r fm)))) : W p l e R s m args below meth c H locs cells slots Q (F0 m pc ls (st.map (zv r fm))) := by
  obtain ⟨rfl, hd, h1⟩ := zdec1 (K := 1) h (by intro q; cases q) rfl (by decide)
  dsimp only [zst] at hz
  split at hz
  · cases hz
    have k1 := kk ls H locs S
    rw [Nat.sub_self, Nat.sub_self, Nat.add_zero, Nat.add_zero] at k1
    exact lv_iand C.1 C.2.1 hd k1
  · cases hz
theorem zi_ior (C : zCx r fm D cA H0 X inf tb y d p R s m args meth c) (h : zchk inf tb ny y pc (.ior, nx, r1, r2, r3, li, v, sw) = true) (hz : zst (.ior, nx, r1, r2, r3, li, v, sw) L st n w M = some (pc', L', st', n', w', M')) (S : zSt r fm D cA H0 X (tb y).2.1 ls H locs L n M)
    (kk : ∀ (ls' : Array Slot) (H' : Heap) (locs' : List Loc), zSt r fm D cA H0 X (tb y).2.1 ls' H' locs' L' n' M' → W p l e R s m args below meth c H' locs' (cells + (n' - n)) (slots + (w' - w)) Q (F0 m pc' ls' (st'.map (zv r fm)))) : W p l e R s m args below meth c H locs cells slots Q (F0 m pc ls (st.map (zv r fm))) := by
  obtain ⟨rfl, hd, h1⟩ := zdec1 (K := 1) h (by intro q; cases q) rfl (by decide)
  dsimp only [zst] at hz
  split at hz
  · cases hz
    have k1 := kk ls H locs S
    rw [Nat.sub_self, Nat.sub_self, Nat.add_zero, Nat.add_zero] at k1
    exact lv_ior C.1 C.2.1 hd k1
  · cases hz
theorem zi_ixor (C : zCx r fm D cA H0 X inf tb y d p R s m args meth c) (h : zchk inf tb ny y pc (.ixor, nx, r1, r2, r3, li, v, sw) = true) (hz : zst (.ixor, nx, r1, r2, r3, li, v, sw) L st n w M = some (pc', L', st', n', w', M')) (S : zSt r fm D cA H0 X (tb y).2.1 ls H locs L n M)
    (kk : ∀ (ls' : Array Slot) (H' : Heap) (locs' : List Loc), zSt r fm D cA H0 X (tb y).2.1 ls' H' locs' L' n' M' → W p l e R s m args below meth c H' locs' (cells + (n' - n)) (slots + (w' - w)) Q (F0 m pc' ls' (st'.map (zv r fm)))) : W p l e R s m args below meth c H locs cells slots Q (F0 m pc ls (st.map (zv r fm))) := by
  obtain ⟨rfl, hd, h1⟩ := zdec1 (K := 1) h (by intro q; cases q) rfl (by decide)
  dsimp only [zst] at hz
  split at hz
  · cases hz
    have k1 := kk ls H locs S
    rw [Nat.sub_self, Nat.sub_self, Nat.add_zero, Nat.add_zero] at k1
    exact lv_ixor C.1 C.2.1 hd k1
  · cases hz
theorem zi_ishl (C : zCx r fm D cA H0 X inf tb y d p R s m args meth c) (h : zchk inf tb ny y pc (.ishl, nx, r1, r2, r3, li, v, sw) = true) (hz : zst (.ishl, nx, r1, r2, r3, li, v, sw) L st n w M = some (pc', L', st', n', w', M')) (S : zSt r fm D cA H0 X (tb y).2.1 ls H locs L n M)
    (kk : ∀ (ls' : Array Slot) (H' : Heap) (locs' : List Loc), zSt r fm D cA H0 X (tb y).2.1 ls' H' locs' L' n' M' → W p l e R s m args below meth c H' locs' (cells + (n' - n)) (slots + (w' - w)) Q (F0 m pc' ls' (st'.map (zv r fm)))) : W p l e R s m args below meth c H locs cells slots Q (F0 m pc ls (st.map (zv r fm))) := by
  obtain ⟨rfl, hd, h1⟩ := zdec1 (K := 1) h (by intro q; cases q) rfl (by decide)
  dsimp only [zst] at hz
  split at hz
  · cases hz
    have k1 := kk ls H locs S
    rw [Nat.sub_self, Nat.sub_self, Nat.add_zero, Nat.add_zero] at k1
    exact lv_ishl C.1 C.2.1 hd k1
  · cases hz
theorem zi_ishr (C : zCx r fm D cA H0 X inf tb y d p R s m args meth c) (h : zchk inf tb ny y pc (.ishr, nx, r1, r2, r3, li, v, sw) = true) (hz : zst (.ishr, nx, r1, r2, r3, li, v, sw) L st n w M = some (pc', L', st', n', w', M')) (S : zSt r fm D cA H0 X (tb y).2.1 ls H locs L n M)
    (kk : ∀ (ls' : Array Slot) (H' : Heap) (locs' : List Loc), zSt r fm D cA H0 X (tb y).2.1 ls' H' locs' L' n' M' → W p l e R s m args below meth c H' locs' (cells + (n' - n)) (slots + (w' - w)) Q (F0 m pc' ls' (st'.map (zv r fm)))) : W p l e R s m args below meth c H locs cells slots Q (F0 m pc ls (st.map (zv r fm))) := by
  obtain ⟨rfl, hd, h1⟩ := zdec1 (K := 1) h (by intro q; cases q) rfl (by decide)
  dsimp only [zst] at hz
  split at hz
  · cases hz
    have k1 := kk ls H locs S
    rw [Nat.sub_self, Nat.sub_self, Nat.add_zero, Nat.add_zero] at k1
    exact lv_ishr C.1 C.2.1 hd k1
  · cases hz
theorem zi_land (C : zCx r fm D cA H0 X inf tb y d p R s m args meth c) (h : zchk inf tb ny y pc (.land, nx, r1, r2, r3, li, v, sw) = true) (hz : zst (.land, nx, r1, r2, r3, li, v, sw) L st n w M = some (pc', L', st', n', w', M')) (S : zSt r fm D cA H0 X (tb y).2.1 ls H locs L n M)
    (kk : ∀ (ls' : Array Slot) (H' : Heap) (locs' : List Loc), zSt r fm D cA H0 X (tb y).2.1 ls' H' locs' L' n' M' → W p l e R s m args below meth c H' locs' (cells + (n' - n)) (slots + (w' - w)) Q (F0 m pc' ls' (st'.map (zv r fm)))) : W p l e R s m args below meth c H locs cells slots Q (F0 m pc ls (st.map (zv r fm))) := by
  obtain ⟨rfl, hd, h1⟩ := zdec1 (K := 1) h (by intro q; cases q) rfl (by decide)
  dsimp only [zst] at hz
  split at hz
  · cases hz
    have k1 := kk ls H locs S
    rw [Nat.sub_self, Nat.sub_self, Nat.add_zero, Nat.add_zero] at k1
    exact lv_land C.1 C.2.1 hd k1
  · cases hz
theorem zi_lor (C : zCx r fm D cA H0 X inf tb y d p R s m args meth c) (h : zchk inf tb ny y pc (.lor, nx, r1, r2, r3, li, v, sw) = true) (hz : zst (.lor, nx, r1, r2, r3, li, v, sw) L st n w M = some (pc', L', st', n', w', M')) (S : zSt r fm D cA H0 X (tb y).2.1 ls H locs L n M)
    (kk : ∀ (ls' : Array Slot) (H' : Heap) (locs' : List Loc), zSt r fm D cA H0 X (tb y).2.1 ls' H' locs' L' n' M' → W p l e R s m args below meth c H' locs' (cells + (n' - n)) (slots + (w' - w)) Q (F0 m pc' ls' (st'.map (zv r fm)))) : W p l e R s m args below meth c H locs cells slots Q (F0 m pc ls (st.map (zv r fm))) := by
  obtain ⟨rfl, hd, h1⟩ := zdec1 (K := 1) h (by intro q; cases q) rfl (by decide)
  dsimp only [zst] at hz
  split at hz
  · cases hz
    have k1 := kk ls H locs S
    rw [Nat.sub_self, Nat.sub_self, Nat.add_zero, Nat.add_zero] at k1
    exact lv_lor C.1 C.2.1 hd k1
  · cases hz
theorem zi_lxor (C : zCx r fm D cA H0 X inf tb y d p R s m args meth c) (h : zchk inf tb ny y pc (.lxor, nx, r1, r2, r3, li, v, sw) = true) (hz : zst (.lxor, nx, r1, r2, r3, li, v, sw) L st n w M = some (pc', L', st', n', w', M')) (S : zSt r fm D cA H0 X (tb y).2.1 ls H locs L n M)
    (kk : ∀ (ls' : Array Slot) (H' : Heap) (locs' : List Loc), zSt r fm D cA H0 X (tb y).2.1 ls' H' locs' L' n' M' → W p l e R s m args below meth c H' locs' (cells + (n' - n)) (slots + (w' - w)) Q (F0 m pc' ls' (st'.map (zv r fm)))) : W p l e R s m args below meth c H locs cells slots Q (F0 m pc ls (st.map (zv r fm))) := by
  obtain ⟨rfl, hd, h1⟩ := zdec1 (K := 1) h (by intro q; cases q) rfl (by decide)
  dsimp only [zst] at hz
  split at hz
  · cases hz
    have k1 := kk ls H locs S
    rw [Nat.sub_self, Nat.sub_self, Nat.add_zero, Nat.add_zero] at k1
    exact lv_lxor C.1 C.2.1 hd k1
  · cases hz
theorem zi_ineg (C : zCx r fm D cA H0 X inf tb y d p R s m args meth c) (h : zchk inf tb ny y pc (.ineg, nx, r1, r2, r3, li, v, sw) = true) (hz : zst (.ineg, nx, r1, r2, r3, li, v, sw) L st n w M = some (pc', L', st', n', w', M')) (S : zSt r fm D cA H0 X (tb y).2.1 ls H locs L n M)
    (kk : ∀ (ls' : Array Slot) (H' : Heap) (locs' : List Loc), zSt r fm D cA H0 X (tb y).2.1 ls' H' locs' L' n' M' → W p l e R s m args below meth c H' locs' (cells + (n' - n)) (slots + (w' - w)) Q (F0 m pc' ls' (st'.map (zv r fm)))) : W p l e R s m args below meth c H locs cells slots Q (F0 m pc ls (st.map (zv r fm))) := by
  obtain ⟨rfl, hd, h1⟩ := zdec1 (K := 1) h (by intro q; cases q) rfl (by decide)
  dsimp only [zst] at hz
  split at hz
  · cases hz
    have k1 := kk ls H locs S
    rw [Nat.sub_self, Nat.sub_self, Nat.add_zero, Nat.add_zero] at k1
    exact lv_ineg C.1 C.2.1 hd k1
  · cases hz
theorem zi_lshl (C : zCx r fm D cA H0 X inf tb y d p R s m args meth c) (h : zchk inf tb ny y pc (.lshl, nx, r1, r2, r3, li, v, sw) = true) (hz : zst (.lshl, nx, r1, r2, r3, li, v, sw) L st n w M = some (pc', L', st', n', w', M')) (S : zSt r fm D cA H0 X (tb y).2.1 ls H locs L n M)
    (kk : ∀ (ls' : Array Slot) (H' : Heap) (locs' : List Loc), zSt r fm D cA H0 X (tb y).2.1 ls' H' locs' L' n' M' → W p l e R s m args below meth c H' locs' (cells + (n' - n)) (slots + (w' - w)) Q (F0 m pc' ls' (st'.map (zv r fm)))) : W p l e R s m args below meth c H locs cells slots Q (F0 m pc ls (st.map (zv r fm))) := by
  obtain ⟨rfl, hd, h1⟩ := zdec1 (K := 1) h (by intro q; cases q) rfl (by decide)
  dsimp only [zst] at hz
  split at hz
  · cases hz
    have k1 := kk ls H locs S
    rw [Nat.sub_self, Nat.sub_self, Nat.add_zero, Nat.add_zero] at k1
    exact lv_lshl C.1 C.2.1 hd rfl k1
  · cases hz
theorem zi_lshr (C : zCx r fm D cA H0 X inf tb y d p R s m args meth c) (h : zchk inf tb ny y pc (.lshr, nx, r1, r2, r3, li, v, sw) = true) (hz : zst (.lshr, nx, r1, r2, r3, li, v, sw) L st n w M = some (pc', L', st', n', w', M')) (S : zSt r fm D cA H0 X (tb y).2.1 ls H locs L n M)
    (kk : ∀ (ls' : Array Slot) (H' : Heap) (locs' : List Loc), zSt r fm D cA H0 X (tb y).2.1 ls' H' locs' L' n' M' → W p l e R s m args below meth c H' locs' (cells + (n' - n)) (slots + (w' - w)) Q (F0 m pc' ls' (st'.map (zv r fm)))) : W p l e R s m args below meth c H locs cells slots Q (F0 m pc ls (st.map (zv r fm))) := by
  obtain ⟨rfl, hd, h1⟩ := zdec1 (K := 1) h (by intro q; cases q) rfl (by decide)
  dsimp only [zst] at hz
  split at hz
  · cases hz
    have k1 := kk ls H locs S
    rw [Nat.sub_self, Nat.sub_self, Nat.add_zero, Nat.add_zero] at k1
    exact lv_lshr C.1 C.2.1 hd rfl k1
  · cases hz
theorem zi_lushr (C : zCx r fm D cA H0 X inf tb y d p R s m args meth c) (h : zchk inf tb ny y pc (.lushr, nx, r1, r2, r3, li, v, sw) = true) (hz : zst (.lushr, nx, r1, r2, r3, li, v, sw) L st n w M = some (pc', L', st', n', w', M')) (S : zSt r fm D cA H0 X (tb y).2.1 ls H locs L n M)
    (kk : ∀ (ls' : Array Slot) (H' : Heap) (locs' : List Loc), zSt r fm D cA H0 X (tb y).2.1 ls' H' locs' L' n' M' → W p l e R s m args below meth c H' locs' (cells + (n' - n)) (slots + (w' - w)) Q (F0 m pc' ls' (st'.map (zv r fm)))) : W p l e R s m args below meth c H locs cells slots Q (F0 m pc ls (st.map (zv r fm))) := by
  obtain ⟨rfl, hd, h1⟩ := zdec1 (K := 1) h (by intro q; cases q) rfl (by decide)
  dsimp only [zst] at hz
  split at hz
  · cases hz
    have k1 := kk ls H locs S
    rw [Nat.sub_self, Nat.sub_self, Nat.add_zero, Nat.add_zero] at k1
    exact lv_lushr C.1 C.2.1 hd rfl k1
  · cases hz
theorem zi_i2l (C : zCx r fm D cA H0 X inf tb y d p R s m args meth c) (h : zchk inf tb ny y pc (.i2l, nx, r1, r2, r3, li, v, sw) = true) (hz : zst (.i2l, nx, r1, r2, r3, li, v, sw) L st n w M = some (pc', L', st', n', w', M')) (S : zSt r fm D cA H0 X (tb y).2.1 ls H locs L n M)
    (kk : ∀ (ls' : Array Slot) (H' : Heap) (locs' : List Loc), zSt r fm D cA H0 X (tb y).2.1 ls' H' locs' L' n' M' → W p l e R s m args below meth c H' locs' (cells + (n' - n)) (slots + (w' - w)) Q (F0 m pc' ls' (st'.map (zv r fm)))) : W p l e R s m args below meth c H locs cells slots Q (F0 m pc ls (st.map (zv r fm))) := by
  obtain ⟨rfl, hd, h1⟩ := zdec1 (K := 1) h (by intro q; cases q) rfl (by decide)
  dsimp only [zst] at hz
  split at hz
  · cases hz
    have k1 := kk ls H locs S
    rw [Nat.sub_self, Nat.sub_self, Nat.add_zero, Nat.add_zero] at k1
    exact lv_i2l C.1 C.2.1 hd rfl k1
  · cases hz
theorem zi_l2i (C : zCx r fm D cA H0 X inf tb y d p R s m args meth c) (h : zchk inf tb ny y pc (.l2i, nx, r1, r2, r3, li, v, sw) = true) (hz : zst (.l2i, nx, r1, r2, r3, li, v, sw) L st n w M = some (pc', L', st', n', w', M')) (S : zSt r fm D cA H0 X (tb y).2.1 ls H locs L n M)
    (kk : ∀ (ls' : Array Slot) (H' : Heap) (locs' : List Loc), zSt r fm D cA H0 X (tb y).2.1 ls' H' locs' L' n' M' → W p l e R s m args below meth c H' locs' (cells + (n' - n)) (slots + (w' - w)) Q (F0 m pc' ls' (st'.map (zv r fm)))) : W p l e R s m args below meth c H locs cells slots Q (F0 m pc ls (st.map (zv r fm))) := by
  obtain ⟨rfl, hd, h1⟩ := zdec1 (K := 1) h (by intro q; cases q) rfl (by decide)
  dsimp only [zst] at hz
  split at hz
  · cases hz
    have k1 := kk ls H locs S
    rw [Nat.sub_self, Nat.sub_self, Nat.add_zero, Nat.add_zero] at k1
    exact lv_l2i C.1 C.2.1 hd rfl k1
  · cases hz
theorem zi_i2b (C : zCx r fm D cA H0 X inf tb y d p R s m args meth c) (h : zchk inf tb ny y pc (.i2b, nx, r1, r2, r3, li, v, sw) = true) (hz : zst (.i2b, nx, r1, r2, r3, li, v, sw) L st n w M = some (pc', L', st', n', w', M')) (S : zSt r fm D cA H0 X (tb y).2.1 ls H locs L n M)
    (kk : ∀ (ls' : Array Slot) (H' : Heap) (locs' : List Loc), zSt r fm D cA H0 X (tb y).2.1 ls' H' locs' L' n' M' → W p l e R s m args below meth c H' locs' (cells + (n' - n)) (slots + (w' - w)) Q (F0 m pc' ls' (st'.map (zv r fm)))) : W p l e R s m args below meth c H locs cells slots Q (F0 m pc ls (st.map (zv r fm))) := by
  obtain ⟨rfl, hd, h1⟩ := zdec1 (K := 1) h (by intro q; cases q) rfl (by decide)
  dsimp only [zst] at hz
  split at hz
  · cases hz
    have k1 := kk ls H locs S
    rw [Nat.sub_self, Nat.sub_self, Nat.add_zero, Nat.add_zero] at k1
    exact lv_i2b C.1 C.2.1 hd rfl k1
  · cases hz
theorem zi_i2c (C : zCx r fm D cA H0 X inf tb y d p R s m args meth c) (h : zchk inf tb ny y pc (.i2c, nx, r1, r2, r3, li, v, sw) = true) (hz : zst (.i2c, nx, r1, r2, r3, li, v, sw) L st n w M = some (pc', L', st', n', w', M')) (S : zSt r fm D cA H0 X (tb y).2.1 ls H locs L n M)
    (kk : ∀ (ls' : Array Slot) (H' : Heap) (locs' : List Loc), zSt r fm D cA H0 X (tb y).2.1 ls' H' locs' L' n' M' → W p l e R s m args below meth c H' locs' (cells + (n' - n)) (slots + (w' - w)) Q (F0 m pc' ls' (st'.map (zv r fm)))) : W p l e R s m args below meth c H locs cells slots Q (F0 m pc ls (st.map (zv r fm))) := by
  obtain ⟨rfl, hd, h1⟩ := zdec1 (K := 1) h (by intro q; cases q) rfl (by decide)
  dsimp only [zst] at hz
  split at hz
  · cases hz
    have k1 := kk ls H locs S
    rw [Nat.sub_self, Nat.sub_self, Nat.add_zero, Nat.add_zero] at k1
    exact lv_i2c C.1 C.2.1 hd rfl k1
  · cases hz
theorem zi_lcmp (C : zCx r fm D cA H0 X inf tb y d p R s m args meth c) (h : zchk inf tb ny y pc (.lcmp, nx, r1, r2, r3, li, v, sw) = true) (hz : zst (.lcmp, nx, r1, r2, r3, li, v, sw) L st n w M = some (pc', L', st', n', w', M')) (S : zSt r fm D cA H0 X (tb y).2.1 ls H locs L n M)
    (kk : ∀ (ls' : Array Slot) (H' : Heap) (locs' : List Loc), zSt r fm D cA H0 X (tb y).2.1 ls' H' locs' L' n' M' → W p l e R s m args below meth c H' locs' (cells + (n' - n)) (slots + (w' - w)) Q (F0 m pc' ls' (st'.map (zv r fm)))) : W p l e R s m args below meth c H locs cells slots Q (F0 m pc ls (st.map (zv r fm))) := by
  obtain ⟨rfl, hd, h1⟩ := zdec1 (K := 1) h (by intro q; cases q) rfl (by decide)
  dsimp only [zst] at hz
  split at hz
  · cases hz
    have k1 := kk ls H locs S
    rw [Nat.sub_self, Nat.sub_self, Nat.add_zero, Nat.add_zero] at k1
    exact W.lcmp C.1 C.2.1 hd k1
  · cases hz
theorem zi_idiv (C : zCx r fm D cA H0 X inf tb y d p R s m args meth c) (h : zchk inf tb ny y pc (.idiv, nx, r1, r2, r3, li, v, sw) = true) (hz : zst (.idiv, nx, r1, r2, r3, li, v, sw) L st n w M = some (pc', L', st', n', w', M')) (S : zSt r fm D cA H0 X (tb y).2.1 ls H locs L n M)
    (kk : ∀ (ls' : Array Slot) (H' : Heap) (locs' : List Loc), zSt r fm D cA H0 X (tb y).2.1 ls' H' locs' L' n' M' → W p l e R s m args below meth c H' locs' (cells + (n' - n)) (slots + (w' - w)) Q (F0 m pc' ls' (st'.map (zv r fm)))) : W p l e R s m args below meth c H locs cells slots Q (F0 m pc ls (st.map (zv r fm))) := by
  obtain ⟨rfl, hd, h1⟩ := zdec1 (K := 1) h (by intro q; cases q) rfl (by decide)
  dsimp only [zst] at hz
  split at hz
  · split at hz
    · cases hz
    · rename_i hne
      cases hz
      have k1 := kk ls H locs S
      rw [Nat.sub_self, Nat.sub_self, Nat.add_zero, Nat.add_zero] at k1
      exact lv_idiv C.1 C.2.1 hd hne k1
  · cases hz
theorem zi_irem (C : zCx r fm D cA H0 X inf tb y d p R s m args meth c) (h : zchk inf tb ny y pc (.irem, nx, r1, r2, r3, li, v, sw) = true) (hz : zst (.irem, nx, r1, r2, r3, li, v, sw) L st n w M = some (pc', L', st', n', w', M')) (S : zSt r fm D cA H0 X (tb y).2.1 ls H locs L n M)
    (kk : ∀ (ls' : Array Slot) (H' : Heap) (locs' : List Loc), zSt r fm D cA H0 X (tb y).2.1 ls' H' locs' L' n' M' → W p l e R s m args below meth c H' locs' (cells + (n' - n)) (slots + (w' - w)) Q (F0 m pc' ls' (st'.map (zv r fm)))) : W p l e R s m args below meth c H locs cells slots Q (F0 m pc ls (st.map (zv r fm))) := by
  obtain ⟨rfl, hd, h1⟩ := zdec1 (K := 1) h (by intro q; cases q) rfl (by decide)
  dsimp only [zst] at hz
  split at hz
  · split at hz
    · cases hz
    · rename_i hne
      cases hz
      have k1 := kk ls H locs S
      rw [Nat.sub_self, Nat.sub_self, Nat.add_zero, Nat.add_zero] at k1
      exact lv_irem C.1 C.2.1 hd hne k1
  · cases hz
theorem zi_pop (C : zCx r fm D cA H0 X inf tb y d p R s m args meth c) (h : zchk inf tb ny y pc (.pop, nx, r1, r2, r3, li, v, sw) = true) (hz : zst (.pop, nx, r1, r2, r3, li, v, sw) L st n w M = some (pc', L', st', n', w', M')) (S : zSt r fm D cA H0 X (tb y).2.1 ls H locs L n M)
    (kk : ∀ (ls' : Array Slot) (H' : Heap) (locs' : List Loc), zSt r fm D cA H0 X (tb y).2.1 ls' H' locs' L' n' M' → W p l e R s m args below meth c H' locs' (cells + (n' - n)) (slots + (w' - w)) Q (F0 m pc' ls' (st'.map (zv r fm)))) : W p l e R s m args below meth c H locs cells slots Q (F0 m pc ls (st.map (zv r fm))) := by
  obtain ⟨rfl, hd, h1⟩ := zdec1 (K := 1) h (by intro q; cases q) rfl (by decide)
  dsimp only [zst] at hz
  split at hz
  · cases hz
    have k1 := kk ls H locs S
    rw [Nat.sub_self, Nat.sub_self, Nat.add_zero, Nat.add_zero] at k1
    exact lv_pop C.1 C.2.1 hd rfl k1
  · cases hz
theorem zi_dup2 (C : zCx r fm D cA H0 X inf tb y d p R s m args meth c) (h : zchk inf tb ny y pc (.dup2, nx, r1, r2, r3, li, v, sw) = true) (hz : zst (.dup2, nx, r1, r2, r3, li, v, sw) L st n w M = some (pc', L', st', n', w', M')) (S : zSt r fm D cA H0 X (tb y).2.1 ls H locs L n M)
    (kk : ∀ (ls' : Array Slot) (H' : Heap) (locs' : List Loc), zSt r fm D cA H0 X (tb y).2.1 ls' H' locs' L' n' M' → W p l e R s m args below meth c H' locs' (cells + (n' - n)) (slots + (w' - w)) Q (F0 m pc' ls' (st'.map (zv r fm)))) : W p l e R s m args below meth c H locs cells slots Q (F0 m pc ls (st.map (zv r fm))) := by
  obtain ⟨rfl, hd, h1⟩ := zdec1 (K := 1) h (by intro q; cases q) rfl (by decide)
  dsimp only [zst] at hz
  split at hz
  · cases hz
    have k1 := kk ls H locs S
    rw [Nat.sub_self, Nat.sub_self, Nat.add_zero, Nat.add_zero] at k1
    exact lv_dup2_11 C.1 C.2.1 hd rfl rfl k1
  · cases hz
theorem zi_dup (C : zCx r fm D cA H0 X inf tb y d p R s m args meth c) (h : zchk inf tb ny y pc (.dup, nx, r1, r2, r3, li, v, sw) = true) (hz : zst (.dup, nx, r1, r2, r3, li, v, sw) L st n w M = some (pc', L', st', n', w', M')) (S : zSt r fm D cA H0 X (tb y).2.1 ls H locs L n M)
    (kk : ∀ (ls' : Array Slot) (H' : Heap) (locs' : List Loc), zSt r fm D cA H0 X (tb y).2.1 ls' H' locs' L' n' M' → W p l e R s m args below meth c H' locs' (cells + (n' - n)) (slots + (w' - w)) Q (F0 m pc' ls' (st'.map (zv r fm)))) : W p l e R s m args below meth c H locs cells slots Q (F0 m pc ls (st.map (zv r fm))) := by
  obtain ⟨rfl, hd, h1⟩ := zdec1 (K := 1) h (by intro q; cases q) rfl (by decide)
  dsimp only [zst] at hz
  split at hz
  · cases hz
    have k1 := kk ls H locs S
    rw [Nat.sub_self, Nat.sub_self, Nat.add_zero, Nat.add_zero] at k1
    exact lv_dup C.1 C.2.1 hd rfl k1
  · cases hz
    have k1 := kk ls H locs S
    rw [Nat.sub_self, Nat.sub_self, Nat.add_zero, Nat.add_zero] at k1
    exact lv_dup C.1 C.2.1 hd rfl k1
  · cases hz
theorem zi_aconst_null (C : zCx r fm D cA H0 X inf tb y d p R s m args meth c) (h : zchk inf tb ny y pc (.aconst_null, nx, r1, r2, r3, li, v, sw) = true) (hz : zst (.aconst_null, nx, r1, r2, r3, li, v, sw) L st n w M = some (pc', L', st', n', w', M')) (S : zSt r fm D cA H0 X (tb y).2.1 ls H locs L n M)
    (kk : ∀ (ls' : Array Slot) (H' : Heap) (locs' : List Loc), zSt r fm D cA H0 X (tb y).2.1 ls' H' locs' L' n' M' → W p l e R s m args below meth c H' locs' (cells + (n' - n)) (slots + (w' - w)) Q (F0 m pc' ls' (st'.map (zv r fm)))) : W p l e R s m args below meth c H locs cells slots Q (F0 m pc ls (st.map (zv r fm))) := by
  obtain ⟨rfl, hd, h1⟩ := zdec1 (K := 1) h (by intro q; cases q) rfl (by decide)
  dsimp only [zst] at hz
  simp only [zch1, decide_eq_true_eq] at h1
  subst h1
  cases hz
  have k1 := kk ls H locs S
  rw [Nat.sub_self, Nat.sub_self, Nat.add_zero, Nat.add_zero] at k1
  exact lv_null C.1 C.2.1 hd k1
theorem zi_iconst {z : Int} (C : zCx r fm D cA H0 X inf tb y d p R s m args meth c) (h : zchk inf tb ny y pc (.iconst z, nx, r1, r2, r3, li, v, sw) = true) (hz : zst (.iconst z, nx, r1, r2, r3, li, v, sw) L st n w M = some (pc', L', st', n', w', M')) (S : zSt r fm D cA H0 X (tb y).2.1 ls H locs L n M)
    (kk : ∀ (ls' : Array Slot) (H' : Heap) (locs' : List Loc), zSt r fm D cA H0 X (tb y).2.1 ls' H' locs' L' n' M' → W p l e R s m args below meth c H' locs' (cells + (n' - n)) (slots + (w' - w)) Q (F0 m pc' ls' (st'.map (zv r fm)))) : W p l e R s m args below meth c H locs cells slots Q (F0 m pc ls (st.map (zv r fm))) := by
  obtain ⟨rfl, hd, h1⟩ := zdec1 (K := 1) h (by intro q; cases q) rfl (by decide)
  dsimp only [zst] at hz
  simp only [zch1, decide_eq_true_eq] at h1
  subst h1
  cases hz
  have k1 := kk ls H locs S
  rw [Nat.sub_self, Nat.sub_self, Nat.add_zero, Nat.add_zero] at k1
  exact lv_iconst C.1 C.2.1 hd rfl k1
theorem zi_bipush {z : Int} (C : zCx r fm D cA H0 X inf tb y d p R s m args meth c) (h : zchk inf tb ny y pc (.bipush z, nx, r1, r2, r3, li, v, sw) = true) (hz : zst (.bipush z, nx, r1, r2, r3, li, v, sw) L st n w M = some (pc', L', st', n', w', M')) (S : zSt r fm D cA H0 X (tb y).2.1 ls H locs L n M)
    (kk : ∀ (ls' : Array Slot) (H' : Heap) (locs' : List Loc), zSt r fm D cA H0 X (tb y).2.1 ls' H' locs' L' n' M' → W p l e R s m args below meth c H' locs' (cells + (n' - n)) (slots + (w' - w)) Q (F0 m pc' ls' (st'.map (zv r fm)))) : W p l e R s m args below meth c H locs cells slots Q (F0 m pc ls (st.map (zv r fm))) := by
  obtain ⟨rfl, hd, h1⟩ := zdec1 (K := 2) h (by intro q; cases q) rfl (by decide)
  dsimp only [zst] at hz
  simp only [zch1, decide_eq_true_eq] at h1
  subst h1
  cases hz
  have k1 := kk ls H locs S
  rw [Nat.sub_self, Nat.sub_self, Nat.add_zero, Nat.add_zero] at k1
  exact lv_bipush C.1 C.2.1 hd rfl k1
theorem zi_sipush {z : Int} (C : zCx r fm D cA H0 X inf tb y d p R s m args meth c) (h : zchk inf tb ny y pc (.sipush z, nx, r1, r2, r3, li, v, sw) = true) (hz : zst (.sipush z, nx, r1, r2, r3, li, v, sw) L st n w M = some (pc', L', st', n', w', M')) (S : zSt r fm D cA H0 X (tb y).2.1 ls H locs L n M)
    (kk : ∀ (ls' : Array Slot) (H' : Heap) (locs' : List Loc), zSt r fm D cA H0 X (tb y).2.1 ls' H' locs' L' n' M' → W p l e R s m args below meth c H' locs' (cells + (n' - n)) (slots + (w' - w)) Q (F0 m pc' ls' (st'.map (zv r fm)))) : W p l e R s m args below meth c H locs cells slots Q (F0 m pc ls (st.map (zv r fm))) := by
  obtain ⟨rfl, hd, h1⟩ := zdec1 (K := 3) h (by intro q; cases q) rfl (by decide)
  dsimp only [zst] at hz
  simp only [zch1, decide_eq_true_eq] at h1
  subst h1
  cases hz
  have k1 := kk ls H locs S
  rw [Nat.sub_self, Nat.sub_self, Nat.add_zero, Nat.add_zero] at k1
  exact lv_sipush C.1 C.2.1 hd rfl k1
theorem zi_lconst {z : Fin 2} (C : zCx r fm D cA H0 X inf tb y d p R s m args meth c) (h : zchk inf tb ny y pc (.lconst z, nx, r1, r2, r3, li, v, sw) = true) (hz : zst (.lconst z, nx, r1, r2, r3, li, v, sw) L st n w M = some (pc', L', st', n', w', M')) (S : zSt r fm D cA H0 X (tb y).2.1 ls H locs L n M)
    (kk : ∀ (ls' : Array Slot) (H' : Heap) (locs' : List Loc), zSt r fm D cA H0 X (tb y).2.1 ls' H' locs' L' n' M' → W p l e R s m args below meth c H' locs' (cells + (n' - n)) (slots + (w' - w)) Q (F0 m pc' ls' (st'.map (zv r fm)))) : W p l e R s m args below meth c H locs cells slots Q (F0 m pc ls (st.map (zv r fm))) := by
  obtain ⟨rfl, hd, h1⟩ := zdec1 (K := 1) h (by intro q; cases q) rfl (by decide)
  dsimp only [zst] at hz
  simp only [zch1, decide_eq_true_eq] at h1
  subst h1
  cases hz
  have k1 := kk ls H locs S
  rw [Nat.sub_self, Nat.sub_self, Nat.add_zero, Nat.add_zero] at k1
  exact lv_lconst C.1 C.2.1 hd rfl k1
theorem zi_iload {z : Nat} (C : zCx r fm D cA H0 X inf tb y d p R s m args meth c) (h : zchk inf tb ny y pc (.iload z, nx, r1, r2, r3, li, v, sw) = true) (hz : zst (.iload z, nx, r1, r2, r3, li, v, sw) L st n w M = some (pc', L', st', n', w', M')) (S : zSt r fm D cA H0 X (tb y).2.1 ls H locs L n M)
    (kk : ∀ (ls' : Array Slot) (H' : Heap) (locs' : List Loc), zSt r fm D cA H0 X (tb y).2.1 ls' H' locs' L' n' M' → W p l e R s m args below meth c H' locs' (cells + (n' - n)) (slots + (w' - w)) Q (F0 m pc' ls' (st'.map (zv r fm)))) : W p l e R s m args below meth c H locs cells slots Q (F0 m pc ls (st.map (zv r fm))) := by
  obtain ⟨rfl, hd, h1⟩ := zdec1 (K := 2) h (by intro q; cases q) rfl (by decide)
  dsimp only [zst] at hz
  simp only [zch1, decide_eq_true_eq] at h1
  subst h1
  unfold zldi at hz
  split at hz
  · rename_i hg
    cases hz
    have k1 := kk ls H locs S
    rw [Nat.sub_self, Nat.sub_self, Nat.add_zero, Nat.add_zero] at k1
    exact lv_iload C.1 C.2.1 hd (S.1.2.2 _ _ hg) k1
  · cases hz
theorem zi_iload_n {z : Fin 4} (C : zCx r fm D cA H0 X inf tb y d p R s m args meth c) (h : zchk inf tb ny y pc (.iload_n z, nx, r1, r2, r3, li, v, sw) = true) (hz : zst (.iload_n z, nx, r1, r2, r3, li, v, sw) L st n w M = some (pc', L', st', n', w', M')) (S : zSt r fm D cA H0 X (tb y).2.1 ls H locs L n M)
    (kk : ∀ (ls' : Array Slot) (H' : Heap) (locs' : List Loc), zSt r fm D cA H0 X (tb y).2.1 ls' H' locs' L' n' M' → W p l e R s m args below meth c H' locs' (cells + (n' - n)) (slots + (w' - w)) Q (F0 m pc' ls' (st'.map (zv r fm)))) : W p l e R s m args below meth c H locs cells slots Q (F0 m pc ls (st.map (zv r fm))) := by
  obtain ⟨rfl, hd, h1⟩ := zdec1 (K := 1) h (by intro q; cases q) rfl (by decide)
  dsimp only [zst] at hz
  simp only [zch1, decide_eq_true_eq] at h1
  subst h1
  unfold zldi at hz
  split at hz
  · rename_i hg
    cases hz
    have k1 := kk ls H locs S
    rw [Nat.sub_self, Nat.sub_self, Nat.add_zero, Nat.add_zero] at k1
    exact lv_iload_n C.1 C.2.1 hd rfl (S.1.2.2 _ _ hg) k1
  · cases hz
theorem zi_lload {z : Nat} (C : zCx r fm D cA H0 X inf tb y d p R s m args meth c) (h : zchk inf tb ny y pc (.lload z, nx, r1, r2, r3, li, v, sw) = true) (hz : zst (.lload z, nx, r1, r2, r3, li, v, sw) L st n w M = some (pc', L', st', n', w', M')) (S : zSt r fm D cA H0 X (tb y).2.1 ls H locs L n M)
    (kk : ∀ (ls' : Array Slot) (H' : Heap) (locs' : List Loc), zSt r fm D cA H0 X (tb y).2.1 ls' H' locs' L' n' M' → W p l e R s m args below meth c H' locs' (cells + (n' - n)) (slots + (w' - w)) Q (F0 m pc' ls' (st'.map (zv r fm)))) : W p l e R s m args below meth c H locs cells slots Q (F0 m pc ls (st.map (zv r fm))) := by
  obtain ⟨rfl, hd, h1⟩ := zdec1 (K := 2) h (by intro q; cases q) rfl (by decide)
  dsimp only [zst] at hz
  simp only [zch1, decide_eq_true_eq] at h1
  subst h1
  unfold zldl at hz
  split at hz
  · rename_i hg
    cases hz
    have k1 := kk ls H locs S
    rw [Nat.sub_self, Nat.sub_self, Nat.add_zero, Nat.add_zero] at k1
    exact lv_lload C.1 C.2.1 hd (S.1.2.2 _ _ hg) k1
  · cases hz
theorem zi_lload_n {z : Fin 4} (C : zCx r fm D cA H0 X inf tb y d p R s m args meth c) (h : zchk inf tb ny y pc (.lload_n z, nx, r1, r2, r3, li, v, sw) = true) (hz : zst (.lload_n z, nx, r1, r2, r3, li, v, sw) L st n w M = some (pc', L', st', n', w', M')) (S : zSt r fm D cA H0 X (tb y).2.1 ls H locs L n M)
    (kk : ∀ (ls' : Array Slot) (H' : Heap) (locs' : List Loc), zSt r fm D cA H0 X (tb y).2.1 ls' H' locs' L' n' M' → W p l e R s m args below meth c H' locs' (cells + (n' - n)) (slots + (w' - w)) Q (F0 m pc' ls' (st'.map (zv r fm)))) : W p l e R s m args below meth c H locs cells slots Q (F0 m pc ls (st.map (zv r fm))) := by
  obtain ⟨rfl, hd, h1⟩ := zdec1 (K := 1) h (by intro q; cases q) rfl (by decide)
  dsimp only [zst] at hz
  simp only [zch1, decide_eq_true_eq] at h1
  subst h1
  unfold zldl at hz
  split at hz
  · rename_i hg
    cases hz
    have k1 := kk ls H locs S
    rw [Nat.sub_self, Nat.sub_self, Nat.add_zero, Nat.add_zero] at k1
    exact lv_lload_n C.1 C.2.1 hd rfl (S.1.2.2 _ _ hg) k1
  · cases hz
theorem zi_aload {z : Nat} (C : zCx r fm D cA H0 X inf tb y d p R s m args meth c) (h : zchk inf tb ny y pc (.aload z, nx, r1, r2, r3, li, v, sw) = true) (hz : zst (.aload z, nx, r1, r2, r3, li, v, sw) L st n w M = some (pc', L', st', n', w', M')) (S : zSt r fm D cA H0 X (tb y).2.1 ls H locs L n M)
    (kk : ∀ (ls' : Array Slot) (H' : Heap) (locs' : List Loc), zSt r fm D cA H0 X (tb y).2.1 ls' H' locs' L' n' M' → W p l e R s m args below meth c H' locs' (cells + (n' - n)) (slots + (w' - w)) Q (F0 m pc' ls' (st'.map (zv r fm)))) : W p l e R s m args below meth c H locs cells slots Q (F0 m pc ls (st.map (zv r fm))) := by
  obtain ⟨rfl, hd, h1⟩ := zdec1 (K := 2) h (by intro q; cases q) rfl (by decide)
  dsimp only [zst] at hz
  simp only [zch1, decide_eq_true_eq] at h1
  subst h1
  unfold zlda at hz
  split at hz
  · rename_i hg
    cases hz
    have k1 := kk ls H locs S
    rw [Nat.sub_self, Nat.sub_self, Nat.add_zero, Nat.add_zero] at k1
    exact lv_aload C.1 C.2.1 hd (S.1.2.2 _ _ hg) k1
  · rename_i hg
    cases hz
    have k1 := kk ls H locs S
    rw [Nat.sub_self, Nat.sub_self, Nat.add_zero, Nat.add_zero] at k1
    exact lv_aloadN C.1 C.2.1 hd (S.1.2.2 _ _ hg) k1
  · rename_i hg
    cases hz
    have k1 := kk ls H locs S
    rw [Nat.sub_self, Nat.sub_self, Nat.add_zero, Nat.add_zero] at k1
    exact by
      have hg2 := S.1.2.2 _ _ hg
      rcases C.2.2.2.2.2.2.2.2.2.2 with q | ⟨a, q⟩
      · subst q
        exact lv_aloadN C.1 C.2.1 hd hg2 k1
      · subst q
        exact lv_aload C.1 C.2.1 hd hg2 k1
  · cases hz
theorem zi_aload_n {z : Fin 4} (C : zCx r fm D cA H0 X inf tb y d p R s m args meth c) (h : zchk inf tb ny y pc (.aload_n z, nx, r1, r2, r3, li, v, sw) = true) (hz : zst (.aload_n z, nx, r1, r2, r3, li, v, sw) L st n w M = some (pc', L', st', n', w', M')) (S : zSt r fm D cA H0 X (tb y).2.1 ls H locs L n M)
    (kk : ∀ (ls' : Array Slot) (H' : Heap) (locs' : List Loc), zSt r fm D cA H0 X (tb y).2.1 ls' H' locs' L' n' M' → W p l e R s m args below meth c H' locs' (cells + (n' - n)) (slots + (w' - w)) Q (F0 m pc' ls' (st'.map (zv r fm)))) : W p l e R s m args below meth c H locs cells slots Q (F0 m pc ls (st.map (zv r fm))) := by
  obtain ⟨rfl, hd, h1⟩ := zdec1 (K := 1) h (by intro q; cases q) rfl (by decide)
  dsimp only [zst] at hz
  simp only [zch1, decide_eq_true_eq] at h1
  subst h1
  unfold zlda at hz
  split at hz
  · rename_i hg
    cases hz
    have k1 := kk ls H locs S
    rw [Nat.sub_self, Nat.sub_self, Nat.add_zero, Nat.add_zero] at k1
    exact lv_aload_n C.1 C.2.1 hd rfl (S.1.2.2 _ _ hg) k1
  · rename_i hg
    cases hz
    have k1 := kk ls H locs S
    rw [Nat.sub_self, Nat.sub_self, Nat.add_zero, Nat.add_zero] at k1
    exact lv_aload_nN C.1 C.2.1 hd rfl (S.1.2.2 _ _ hg) k1
  · rename_i hg
    cases hz
    have k1 := kk ls H locs S
    rw [Nat.sub_self, Nat.sub_self, Nat.add_zero, Nat.add_zero] at k1
    exact by
      have hg2 := S.1.2.2 _ _ hg
      rcases C.2.2.2.2.2.2.2.2.2.2 with q | ⟨a, q⟩
      · subst q
        exact lv_aload_nN C.1 C.2.1 hd rfl hg2 k1
      · subst q
        exact lv_aload_n C.1 C.2.1 hd rfl hg2 k1
  · cases hz
theorem zi_istore {z : Nat} (C : zCx r fm D cA H0 X inf tb y d p R s m args meth c) (h : zchk inf tb ny y pc (.istore z, nx, r1, r2, r3, li, v, sw) = true) (hz : zst (.istore z, nx, r1, r2, r3, li, v, sw) L st n w M = some (pc', L', st', n', w', M')) (S : zSt r fm D cA H0 X (tb y).2.1 ls H locs L n M)
    (kk : ∀ (ls' : Array Slot) (H' : Heap) (locs' : List Loc), zSt r fm D cA H0 X (tb y).2.1 ls' H' locs' L' n' M' → W p l e R s m args below meth c H' locs' (cells + (n' - n)) (slots + (w' - w)) Q (F0 m pc' ls' (st'.map (zv r fm)))) : W p l e R s m args below meth c H locs cells slots Q (F0 m pc ls (st.map (zv r fm))) := by
  obtain ⟨rfl, hd, h1⟩ := zdec1 (K := 2) h (by intro q; cases q) rfl (by decide)
  dsimp only [zst] at hz
  simp only [zch1, Bool.and_eq_true, decide_eq_true_eq] at h1
  obtain ⟨rfl, hlt⟩ := h1
  unfold zsti at hz
  split at hz
  · cases hz
    refine lv_istore C.1 C.2.1 hd S.1.has hlt rfl (fun ls' hls => ?_)
    have k1 := kk ls' H locs ⟨zLoc.sto C.2.2.2.2.2.2.2.2.2.2 hls rfl, S.2⟩
    rw [Nat.sub_self, Nat.sub_self, Nat.add_zero, Nat.add_zero] at k1
    exact k1
  · cases hz
theorem zi_istore_n {z : Fin 4} (C : zCx r fm D cA H0 X inf tb y d p R s m args meth c) (h : zchk inf tb ny y pc (.istore_n z, nx, r1, r2, r3, li, v, sw) = true) (hz : zst (.istore_n z, nx, r1, r2, r3, li, v, sw) L st n w M = some (pc', L', st', n', w', M')) (S : zSt r fm D cA H0 X (tb y).2.1 ls H locs L n M)
    (kk : ∀ (ls' : Array Slot) (H' : Heap) (locs' : List Loc), zSt r fm D cA H0 X (tb y).2.1 ls' H' locs' L' n' M' → W p l e R s m args below meth c H' locs' (cells + (n' - n)) (slots + (w' - w)) Q (F0 m pc' ls' (st'.map (zv r fm)))) : W p l e R s m args below meth c H locs cells slots Q (F0 m pc ls (st.map (zv r fm))) := by
  obtain ⟨rfl, hd, h1⟩ := zdec1 (K := 1) h (by intro q; cases q) rfl (by decide)
  dsimp only [zst] at hz
  simp only [zch1, Bool.and_eq_true, decide_eq_true_eq] at h1
  obtain ⟨rfl, hlt⟩ := h1
  unfold zsti at hz
  split at hz
  · cases hz
    refine lv_istore_n C.1 C.2.1 hd rfl S.1.has hlt rfl (fun ls' hls => ?_)
    have k1 := kk ls' H locs ⟨zLoc.sto C.2.2.2.2.2.2.2.2.2.2 hls rfl, S.2⟩
    rw [Nat.sub_self, Nat.sub_self, Nat.add_zero, Nat.add_zero] at k1
    exact k1
  · cases hz
theorem zi_lstore {z : Nat} (C : zCx r fm D cA H0 X inf tb y d p R s m args meth c) (h : zchk inf tb ny y pc (.lstore z, nx, r1, r2, r3, li, v, sw) = true) (hz : zst (.lstore z, nx, r1, r2, r3, li, v, sw) L st n w M = some (pc', L', st', n', w', M')) (S : zSt r fm D cA H0 X (tb y).2.1 ls H locs L n M)
    (kk : ∀ (ls' : Array Slot) (H' : Heap) (locs' : List Loc), zSt r fm D cA H0 X (tb y).2.1 ls' H' locs' L' n' M' → W p l e R s m args below meth c H' locs' (cells + (n' - n)) (slots + (w' - w)) Q (F0 m pc' ls' (st'.map (zv r fm)))) : W p l e R s m args below meth c H locs cells slots Q (F0 m pc ls (st.map (zv r fm))) := by
  obtain ⟨rfl, hd, h1⟩ := zdec1 (K := 2) h (by intro q; cases q) rfl (by decide)
  dsimp only [zst] at hz
  simp only [zch1, Bool.and_eq_true, decide_eq_true_eq] at h1
  obtain ⟨rfl, hlt⟩ := h1
  unfold zstl at hz
  split at hz
  · cases hz
    refine lv_lstore C.1 C.2.1 hd S.1.has hlt rfl (fun ls' hls => ?_)
    have k1 := kk ls' H locs ⟨zLoc.sto2 C.2.2.2.2.2.2.2.2.2.2 hls rfl, S.2⟩
    rw [Nat.sub_self, Nat.sub_self, Nat.add_zero, Nat.add_zero] at k1
    exact k1
  · cases hz
theorem zi_lstore_n {z : Fin 4} (C : zCx r fm D cA H0 X inf tb y d p R s m args meth c) (h : zchk inf tb ny y pc (.lstore_n z, nx, r1, r2, r3, li, v, sw) = true) (hz : zst (.lstore_n z, nx, r1, r2, r3, li, v, sw) L st n w M = some (pc', L', st', n', w', M')) (S : zSt r fm D cA H0 X (tb y).2.1 ls H locs L n M)
    (kk : ∀ (ls' : Array Slot) (H' : Heap) (locs' : List Loc), zSt r fm D cA H0 X (tb y).2.1 ls' H' locs' L' n' M' → W p l e R s m args below meth c H' locs' (cells + (n' - n)) (slots + (w' - w)) Q (F0 m pc' ls' (st'.map (zv r fm)))) : W p l e R s m args below meth c H locs cells slots Q (F0 m pc ls (st.map (zv r fm))) := by
  obtain ⟨rfl, hd, h1⟩ := zdec1 (K := 1) h (by intro q; cases q) rfl (by decide)
  dsimp only [zst] at hz
  simp only [zch1, Bool.and_eq_true, decide_eq_true_eq] at h1
  obtain ⟨rfl, hlt⟩ := h1
  unfold zstl at hz
  split at hz
  · cases hz
    refine lv_lstore_n C.1 C.2.1 hd rfl S.1.has hlt rfl (fun ls' hls => ?_)
    have k1 := kk ls' H locs ⟨zLoc.sto2 C.2.2.2.2.2.2.2.2.2.2 hls rfl, S.2⟩
    rw [Nat.sub_self, Nat.sub_self, Nat.add_zero, Nat.add_zero] at k1
    exact k1
  · cases hz
theorem zi_astore {z : Nat} (C : zCx r fm D cA H0 X inf tb y d p R s m args meth c) (h : zchk inf tb ny y pc (.astore z, nx, r1, r2, r3, li, v, sw) = true) (hz : zst (.astore z, nx, r1, r2, r3, li, v, sw) L st n w M = some (pc', L', st', n', w', M')) (S : zSt r fm D cA H0 X (tb y).2.1 ls H locs L n M)
    (kk : ∀ (ls' : Array Slot) (H' : Heap) (locs' : List Loc), zSt r fm D cA H0 X (tb y).2.1 ls' H' locs' L' n' M' → W p l e R s m args below meth c H' locs' (cells + (n' - n)) (slots + (w' - w)) Q (F0 m pc' ls' (st'.map (zv r fm)))) : W p l e R s m args below meth c H locs cells slots Q (F0 m pc ls (st.map (zv r fm))) := by
  obtain ⟨rfl, hd, h1⟩ := zdec1 (K := 2) h (by intro q; cases q) rfl (by decide)
  dsimp only [zst] at hz
  simp only [zch1, Bool.and_eq_true, decide_eq_true_eq] at h1
  obtain ⟨rfl, hlt⟩ := h1
  unfold zsta at hz
  split at hz
  · cases hz
    refine lv_astore C.1 C.2.1 hd S.1.has hlt rfl (fun ls' hls => ?_)
    have k1 := kk ls' H locs ⟨zLoc.sto C.2.2.2.2.2.2.2.2.2.2 hls rfl, S.2⟩
    rw [Nat.sub_self, Nat.sub_self, Nat.add_zero, Nat.add_zero] at k1
    exact k1
  · cases hz
    refine lv_astoreN C.1 C.2.1 hd S.1.has hlt rfl (fun ls' hls => ?_)
    have k1 := kk ls' H locs ⟨zLoc.sto C.2.2.2.2.2.2.2.2.2.2 hls rfl, S.2⟩
    rw [Nat.sub_self, Nat.sub_self, Nat.add_zero, Nat.add_zero] at k1
    exact k1
  · cases hz
theorem zi_astore_n {z : Fin 4} (C : zCx r fm D cA H0 X inf tb y d p R s m args meth c) (h : zchk inf tb ny y pc (.astore_n z, nx, r1, r2, r3, li, v, sw) = true) (hz : zst (.astore_n z, nx, r1, r2, r3, li, v, sw) L st n w M = some (pc', L', st', n', w', M')) (S : zSt r fm D cA H0 X (tb y).2.1 ls H locs L n M)
    (kk : ∀ (ls' : Array Slot) (H' : Heap) (locs' : List Loc), zSt r fm D cA H0 X (tb y).2.1 ls' H' locs' L' n' M' → W p l e R s m args below meth c H' locs' (cells + (n' - n)) (slots + (w' - w)) Q (F0 m pc' ls' (st'.map (zv r fm)))) : W p l e R s m args below meth c H locs cells slots Q (F0 m pc ls (st.map (zv r fm))) := by
  obtain ⟨rfl, hd, h1⟩ := zdec1 (K := 1) h (by intro q; cases q) rfl (by decide)
  dsimp only [zst] at hz
  simp only [zch1, Bool.and_eq_true, decide_eq_true_eq] at h1
  obtain ⟨rfl, hlt⟩ := h1
  unfold zsta at hz
  split at hz
  · cases hz
    refine lv_astore_n C.1 C.2.1 hd rfl S.1.has hlt rfl (fun ls' hls => ?_)
    have k1 := kk ls' H locs ⟨zLoc.sto C.2.2.2.2.2.2.2.2.2.2 hls rfl, S.2⟩
    rw [Nat.sub_self, Nat.sub_self, Nat.add_zero, Nat.add_zero] at k1
    exact k1
  · cases hz
    refine lv_astore_nN C.1 C.2.1 hd rfl S.1.has hlt rfl (fun ls' hls => ?_)
    have k1 := kk ls' H locs ⟨zLoc.sto C.2.2.2.2.2.2.2.2.2.2 hls rfl, S.2⟩
    rw [Nat.sub_self, Nat.sub_self, Nat.add_zero, Nat.add_zero] at k1
    exact k1
  · cases hz
theorem zi_iinc {z : Nat} {z2 : Int} (C : zCx r fm D cA H0 X inf tb y d p R s m args meth c) (h : zchk inf tb ny y pc (.iinc z z2, nx, r1, r2, r3, li, v, sw) = true) (hz : zst (.iinc z z2, nx, r1, r2, r3, li, v, sw) L st n w M = some (pc', L', st', n', w', M')) (S : zSt r fm D cA H0 X (tb y).2.1 ls H locs L n M)
    (kk : ∀ (ls' : Array Slot) (H' : Heap) (locs' : List Loc), zSt r fm D cA H0 X (tb y).2.1 ls' H' locs' L' n' M' → W p l e R s m args below meth c H' locs' (cells + (n' - n)) (slots + (w' - w)) Q (F0 m pc' ls' (st'.map (zv r fm)))) : W p l e R s m args below meth c H locs cells slots Q (F0 m pc ls (st.map (zv r fm))) := by
  obtain ⟨rfl, hd, h1⟩ := zdec1 (K := 3) h (by intro q; cases q) rfl (by decide)
  dsimp only [zst] at hz
  simp only [zch1, Bool.and_eq_true, decide_eq_true_eq] at h1
  obtain ⟨rfl, hlt, rfl⟩ := h1
  split at hz
  · rename_i hg hv
    cases hv
    cases hz
    have hin := zprs_in (r := r) (fm := fm) _ 0 _ _ hg
    rw [Nat.zero_add] at hin
    obtain ⟨k, hk⟩ := List.getElem?_of_mem hin
    refine lv_iinc C.1 C.2.1 hd S.1.has hk rfl hlt rfl (fun ls' hls => ?_)
    have k1 := kk ls' H locs ⟨zLoc.sto C.2.2.2.2.2.2.2.2.2.2 hls rfl, S.2⟩
    rw [Nat.sub_self, Nat.sub_self, Nat.add_zero, Nat.add_zero] at k1
    exact k1
  · cases hz
theorem zi_goto {z : Int} (C : zCx r fm D cA H0 X inf tb y d p R s m args meth c) (h : zchk inf tb ny y pc (.goto z, nx, r1, r2, r3, li, v, sw) = true) (hz : zst (.goto z, nx, r1, r2, r3, li, v, sw) L st n w M = some (pc', L', st', n', w', M')) (S : zSt r fm D cA H0 X (tb y).2.1 ls H locs L n M)
    (kk : ∀ (ls' : Array Slot) (H' : Heap) (locs' : List Loc), zSt r fm D cA H0 X (tb y).2.1 ls' H' locs' L' n' M' → W p l e R s m args below meth c H' locs' (cells + (n' - n)) (slots + (w' - w)) Q (F0 m pc' ls' (st'.map (zv r fm)))) : W p l e R s m args below meth c H locs cells slots Q (F0 m pc ls (st.map (zv r fm))) := by
  obtain ⟨rfl, hd, h1⟩ := zdec1 (K := 3) h (by intro q; cases q) rfl (by decide)
  dsimp only [zst] at hz
  simp only [zch1, decide_eq_true_eq] at h1
  cases hz
  have k1 := kk ls H locs S
  rw [Nat.sub_self, Nat.sub_self, Nat.add_zero, Nat.add_zero] at k1
  exact lv_goto C.1 C.2.1 hd h1 k1
theorem zi_ifCond {z : Int} {q : ClassFile.Cond} (C : zCx r fm D cA H0 X inf tb y d p R s m args meth c) (h : zchk inf tb ny y pc (.ifCond q z, nx, r1, r2, r3, li, v, sw) = true) (hz : zst (.ifCond q z, nx, r1, r2, r3, li, v, sw) L st n w M = some (pc', L', st', n', w', M')) (S : zSt r fm D cA H0 X (tb y).2.1 ls H locs L n M)
    (kk : ∀ (ls' : Array Slot) (H' : Heap) (locs' : List Loc), zSt r fm D cA H0 X (tb y).2.1 ls' H' locs' L' n' M' → W p l e R s m args below meth c H' locs' (cells + (n' - n)) (slots + (w' - w)) Q (F0 m pc' ls' (st'.map (zv r fm)))) : W p l e R s m args below meth c H locs cells slots Q (F0 m pc ls (st.map (zv r fm))) := by
  obtain ⟨rfl, hd, h1⟩ := zdec1 (K := 3) h (by intro q; cases q) rfl (by decide)
  dsimp only [zst] at hz
  simp only [zch1, decide_eq_true_eq] at h1
  split at hz
  · cases hz
    have k1 := kk ls H locs S
    rw [Nat.sub_self, Nat.sub_self, Nat.add_zero, Nat.add_zero] at k1
    cases q
    · exact lv_if_eq C.1 C.2.1 hd h1 (fun g => by rw [zbc, if_pos g] at k1; exact k1) (fun g => by rw [zbc, if_neg g] at k1; exact k1)
    · exact lv_if_ne C.1 C.2.1 hd h1 (fun g => by rw [zbc, if_neg g] at k1; exact k1) (fun g => by rw [zbc, if_pos g] at k1; exact k1)
    · exact lv_if_lt C.1 C.2.1 hd h1 (fun g => by rw [zbc, if_pos g] at k1; exact k1) (fun g => by rw [zbc, if_neg g] at k1; exact k1)
    · exact lv_if_ge C.1 C.2.1 hd h1 (fun g => by rw [zbc, if_neg (Int32.not_lt.mpr g)] at k1; exact k1) (fun g => by rw [zbc, if_pos (Int32.not_le.mp g)] at k1; exact k1)
    · exact lv_if_gt C.1 C.2.1 hd h1 (fun g => by rw [zbc, if_pos g] at k1; exact k1) (fun g => by rw [zbc, if_neg g] at k1; exact k1)
    · exact lv_if_le C.1 C.2.1 hd h1 (fun g => by rw [zbc, if_neg (Int32.not_lt.mpr g)] at k1; exact k1) (fun g => by rw [zbc, if_pos (Int32.not_le.mp g)] at k1; exact k1)
  · cases hz
theorem zi_if_icmp {z : Int} {q : ClassFile.Cond} (C : zCx r fm D cA H0 X inf tb y d p R s m args meth c) (h : zchk inf tb ny y pc (.if_icmp q z, nx, r1, r2, r3, li, v, sw) = true) (hz : zst (.if_icmp q z, nx, r1, r2, r3, li, v, sw) L st n w M = some (pc', L', st', n', w', M')) (S : zSt r fm D cA H0 X (tb y).2.1 ls H locs L n M)
    (kk : ∀ (ls' : Array Slot) (H' : Heap) (locs' : List Loc), zSt r fm D cA H0 X (tb y).2.1 ls' H' locs' L' n' M' → W p l e R s m args below meth c H' locs' (cells + (n' - n)) (slots + (w' - w)) Q (F0 m pc' ls' (st'.map (zv r fm)))) : W p l e R s m args below meth c H locs cells slots Q (F0 m pc ls (st.map (zv r fm))) := by
  obtain ⟨rfl, hd, h1⟩ := zdec1 (K := 3) h (by intro q; cases q) rfl (by decide)
  dsimp only [zst] at hz
  simp only [zch1, decide_eq_true_eq] at h1
  split at hz
  · cases hz
    have k1 := kk ls H locs S
    rw [Nat.sub_self, Nat.sub_self, Nat.add_zero, Nat.add_zero] at k1
    cases q
    · exact lv_icmp_eq C.1 C.2.1 hd h1 (fun g => by rw [zbc, if_pos g] at k1; exact k1) (fun g => by rw [zbc, if_neg g] at k1; exact k1)
    · exact lv_icmp_ne C.1 C.2.1 hd h1 (fun g => by rw [zbc, if_neg g] at k1; exact k1) (fun g => by rw [zbc, if_pos g] at k1; exact k1)
    · exact lv_icmp_lt C.1 C.2.1 hd h1 (fun g => by rw [zbc, if_pos g] at k1; exact k1) (fun g => by rw [zbc, if_neg g] at k1; exact k1)
    · exact lv_icmp_ge C.1 C.2.1 hd h1 (fun g => by rw [zbc, if_neg (Int32.not_lt.mpr g)] at k1; exact k1) (fun g => by rw [zbc, if_pos (Int32.not_le.mp g)] at k1; exact k1)
    · exact lv_icmp_gt C.1 C.2.1 hd h1 (fun g => by rw [zbc, if_pos g] at k1; exact k1) (fun g => by rw [zbc, if_neg g] at k1; exact k1)
    · exact lv_icmp_le C.1 C.2.1 hd h1 (fun g => by rw [zbc, if_neg (Int32.not_lt.mpr g)] at k1; exact k1) (fun g => by rw [zbc, if_pos (Int32.not_le.mp g)] at k1; exact k1)
  · cases hz
theorem zi_ifnull {z : Int} (C : zCx r fm D cA H0 X inf tb y d p R s m args meth c) (h : zchk inf tb ny y pc (.ifnull z, nx, r1, r2, r3, li, v, sw) = true) (hz : zst (.ifnull z, nx, r1, r2, r3, li, v, sw) L st n w M = some (pc', L', st', n', w', M')) (S : zSt r fm D cA H0 X (tb y).2.1 ls H locs L n M)
    (kk : ∀ (ls' : Array Slot) (H' : Heap) (locs' : List Loc), zSt r fm D cA H0 X (tb y).2.1 ls' H' locs' L' n' M' → W p l e R s m args below meth c H' locs' (cells + (n' - n)) (slots + (w' - w)) Q (F0 m pc' ls' (st'.map (zv r fm)))) : W p l e R s m args below meth c H locs cells slots Q (F0 m pc ls (st.map (zv r fm))) := by
  obtain ⟨rfl, hd, h1⟩ := zdec1 (K := 3) h (by intro q; cases q) rfl (by decide)
  dsimp only [zst] at hz
  simp only [zch1, decide_eq_true_eq] at h1
  split at hz
  · cases hz
    have k1 := kk ls H locs S
    rw [Nat.sub_self, Nat.sub_self, Nat.add_zero, Nat.add_zero] at k1
    exact lv_ifnullN C.1 C.2.1 hd h1 k1
  · cases hz
    have k1 := kk ls H locs S
    rw [Nat.sub_self, Nat.sub_self, Nat.add_zero, Nat.add_zero] at k1
    exact lv_ifnull C.1 C.2.1 hd k1
  · cases hz
theorem zi_ifnonnull {z : Int} (C : zCx r fm D cA H0 X inf tb y d p R s m args meth c) (h : zchk inf tb ny y pc (.ifnonnull z, nx, r1, r2, r3, li, v, sw) = true) (hz : zst (.ifnonnull z, nx, r1, r2, r3, li, v, sw) L st n w M = some (pc', L', st', n', w', M')) (S : zSt r fm D cA H0 X (tb y).2.1 ls H locs L n M)
    (kk : ∀ (ls' : Array Slot) (H' : Heap) (locs' : List Loc), zSt r fm D cA H0 X (tb y).2.1 ls' H' locs' L' n' M' → W p l e R s m args below meth c H' locs' (cells + (n' - n)) (slots + (w' - w)) Q (F0 m pc' ls' (st'.map (zv r fm)))) : W p l e R s m args below meth c H locs cells slots Q (F0 m pc ls (st.map (zv r fm))) := by
  obtain ⟨rfl, hd, h1⟩ := zdec1 (K := 3) h (by intro q; cases q) rfl (by decide)
  dsimp only [zst] at hz
  simp only [zch1, decide_eq_true_eq] at h1
  split at hz
  · cases hz
    have k1 := kk ls H locs S
    rw [Nat.sub_self, Nat.sub_self, Nat.add_zero, Nat.add_zero] at k1
    exact lv_ifnonnullN C.1 C.2.1 hd k1
  · cases hz
    have k1 := kk ls H locs S
    rw [Nat.sub_self, Nat.sub_self, Nat.add_zero, Nat.add_zero] at k1
    exact lv_ifnonnull C.1 C.2.1 hd h1 k1
  · cases hz
end ZE

