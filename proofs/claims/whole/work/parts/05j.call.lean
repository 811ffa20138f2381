/-! RETURNS, CALLS, WHOLE RUNS. -/
theorem zrk_0 {ret : Option FieldType} (h : zrk 0 ret = true) : ret = none := by
  cases ret with
  | none => rfl
  | some t => cases t <;> simp [zrk] at h
theorem zrk_1 {ret : Option FieldType} (h : zrk 1 ret = true) : ret = some .int := by
  cases ret with
  | none => simp [zrk] at h
  | some t => cases t <;> first | rfl | simp [zrk] at h
theorem zrk_2 {ret : Option FieldType} (h : zrk 2 ret = true) : ret = some .boolean := by
  cases ret with
  | none => simp [zrk] at h
  | some t => cases t <;> first | rfl | simp [zrk] at h
theorem zrk_3 {ret : Option FieldType} (h : zrk 3 ret = true) : ∃ t, ret = some t ∧ ((∃ n, t = .object n) ∨ ∃ u, t = .array u) := by
  cases ret with
  | none => simp [zrk] at h
  | some t => cases t <;> first | exact ⟨_, rfl, Or.inl ⟨_, rfl⟩⟩ | exact ⟨_, rfl, Or.inr ⟨_, rfl⟩⟩ | simp [zrk] at h
theorem zrk_4 {ret : Option FieldType} (h : zrk 4 ret = true) : ret = some .byte := by
  cases ret with
  | none => simp [zrk] at h
  | some t => cases t <;> first | rfl | simp [zrk] at h
theorem zrk_5 {ret : Option FieldType} (h : zrk 5 ret = true) : ret = some .char := by
  cases ret with
  | none => simp [zrk] at h
  | some t => cases t <;> first | rfl | simp [zrk] at h
section ZJ
variable {p : Program} {l : Launch} {e : Env} {R : Room} {s : State} {m : MethodId} {args : Array Value} {below : List Frame} {meth : Method} {c : Code} {H : Heap} {locs : List Loc} {cells slots : Nat} {Q : State → Prop}
variable {r : Nat → Nat} {fm : Value} {D : va_G} {cA : Nat → ClassId} {H0 : Heap} {X : Nat → zC} {inf : Nat → zinf} {tb : Nat → zMt} {ny y d : Nat} {pc : Nat} {ls : Array Slot} {st : List Value}
theorem zi_ret {Qc : Array Value → State → Outcome → State → Prop} {free : Addr → Prop} {e0 : zI} {rt : Nat} {v : Option Value} (hx : p.tables.exec = Jvm.exec) (hb : c.code = (inf y).2.1) (hrk : zrk rt (inf y).2.2 = true) (hr : meth.sig.returnType = (inf y).2.2) (hlocks : meth.locks = false) (hchk : zchk inf tb ny y pc e0 = true) (hz : zrt rt e0 st = some v)
    (hq : ∀ t : State, t.heap = H → s.WarmedH t.vm → Qc args s (.returned (v.map (zv r fm))) t) (hf : ∀ q ∈ locs, free q.base) : W p l e R s m args below meth c H locs cells slots (MQ below Qc args s cells slots free) (F0 m pc ls (st.map (zv r fm))) := by
  obtain ⟨i, nx, r1, r2, r3, li, v0, sw⟩ := e0
  unfold zrt at hz
  dsimp only at hz
  split at hz
  · obtain ⟨-, hd, -⟩ := zdec1 (K := 1) hchk (by intro q; cases q) rfl (by decide)
    split at hz
    · cases hz
      exact W.iret hx hb (hr.trans (zrk_1 hrk)) hq hf hd (hlocks := hlocks)
    · split at hz
      · rename_i h01
        cases hz
        refine W.zret (ty := .boolean) hx hb (hr.trans (zrk_2 hrk)) ?_ hq hf hd (hlocks := hlocks)
        rcases h01 with h | h <;> subst h <;> decide
      · cases hz
    · split at hz
      · rename_i h01
        cases hz
        exact W.zret (ty := .byte) hx hb (hr.trans (zrk_4 hrk)) (congrArg Value.int h01) hq hf hd (hlocks := hlocks)
      · cases hz
    · split at hz
      · rename_i h01
        cases hz
        exact W.zret (ty := .char) hx hb (hr.trans (zrk_5 hrk)) (congrArg Value.int h01) hq hf hd (hlocks := hlocks)
      · cases hz
    · cases hz
  · obtain ⟨-, hd, -⟩ := zdec1 (K := 1) hchk (by intro q; cases q) rfl (by decide)
    split at hz
    · cases hz
      obtain ⟨t, h1, h2⟩ := zrk_3 hrk
      exact W.aret hx hb (hr.trans h1) h2 (Or.inl rfl) hq hf hd (hlocks := hlocks)
    · cases hz
      obtain ⟨t, h1, h2⟩ := zrk_3 hrk
      exact W.aret hx hb (hr.trans h1) h2 (Or.inr ⟨_, rfl⟩) hq hf hd (hlocks := hlocks)
    · cases hz
  · obtain ⟨-, hd, -⟩ := zdec1 (K := 1) hchk (by intro q; cases q) rfl (by decide)
    split at hz
    · cases hz
      exact W.vret hx hb (hr.trans (zrk_0 hrk)) hq hf hd (hlocks := hlocks)
    · cases hz
  · cases hz
def zPc (r : Nat → Nat) (fm : Value) (D : va_G) (cA : Nat → ClassId) (H0 : Heap) (X : Nat → zC) (as : List Value) (n : Nat) (M : zM) : Array Value → State → Prop := va_Pc (as.map (zv r fm)) (fun U => zH r fm D cA H0 X U.heap n M ∧ zK r fm D cA H0 X U)
def zQc (r : Nat → Nat) (fm : Value) (D : va_G) (cA : Nat → ClassId) (H0 : Heap) (X : Nat → zC) (v : Option Value) (n : Nat) (M : zM) : Array Value → State → Outcome → State → Prop := fun _ _ o t => o = .returned (v.map (zv r fm)) ∧ zH r fm D cA H0 X t.heap n M
def zws (inf : Nat → zinf) (tb : Nat → zMt) (y : Nat) : List Cond := Cond.code (inf y).1 (inf y).2.1 (tb y).2.1 (inf y).2.2 :: ztbl
def zrm (d mc ms : Nat) : Room := { frames := d + 1, cells := mc, slots := ms, locals := (d + 1) * 64 }
/-- the abstract run from here is a way of the real machine -/
def zSnd (l : Launch) (r : Nat → Nat) (fm : Value) (D : va_G) (cA : Nat → ClassId) (H0 : Heap) (X : Nat → zC) (inf : Nat → zinf) (tb : Nat → zMt) (d y pc : Nat) (L : zL) (st : List Value) (n w : Nat) (M : zM) (pcE : Nat) (v : Option Value) (n1 w1 : Nat) (M1 : zM) : Prop :=
  n ≤ n1 ∧ w ≤ w1 ∧ ∀ (p : Program) (e : Env) (R : Room) (s : State) (m : MethodId) (args : Array Value) (below : List Frame) (meth : Method) (c : Code) (H : Heap) (locs : List Loc) (cells slots : Nat) (Q : State → Prop) (ls : Array Slot),
    zCx r fm D cA H0 X inf tb y d p R s m args meth c → zSt r fm D cA H0 X (tb y).2.1 ls H locs L n M → (cells + (n1 - n) ≤ R.cells ∧ slots + (w1 - w) ≤ R.slots) →
    (∀ (ls' : Array Slot) (H' : Heap) (locs' : List Loc) (stE : List Value), zH r fm D cA H0 X H' n1 M1 → (∀ q ∈ locs', H0.size ≤ q.base) → zrt (tb y).2.2 ((tb y).1 pcE) stE = some v → W p l e R s m args below meth c H' locs' (cells + (n1 - n)) (slots + (w1 - w)) Q (F0 m pcE ls' (stE.map (zv r fm)))) →
    W p l e R s m args below meth c H locs cells slots Q (F0 m pc ls (st.map (zv r fm)))
theorem zmth_spec (h : zmth inf tb y = true) : Cond.code (inf y).1 (inf y).2.1 (tb y).2.1 (inf y).2.2 ∈ lw_tbl ∧ Cond.initialized (inf y).1.cls ∈ lw_tbl ∧ plainFor (inf y).1 = true ∧ ((inf y).1.cls ≠ "java/lang/invoke/MethodHandle" ∧ (inf y).1.cls ≠ "java/lang/invoke/VarHandle") ∧ (tb y).2.1 ≤ 40 ∧ zrk (tb y).2.2 (inf y).2.2 = true := by
  simp only [zmth, Bool.and_eq_true, decide_eq_true_eq] at h
  exact ⟨zat1_mem h.1, zat1_mem h.2.1, h.2.2.1, h.2.2.2.1, h.2.2.2.2.1, h.2.2.2.2.2⟩
theorem zmet {as : List Value} {n w pcE n1 w1 : Nat} {M M1 : zM} {v : Option Value} (hm : zmth inf tb y = true) (hc : ∀ pc, zchk inf tb ny y pc ((tb y).1 pc) = true) (hr : zrho r H0) (hfm : zfm fm) (hz : Nat.ble (zdp as) (tb y).2.1 = true)
    (hS : zSnd l r fm D cA H0 X inf tb d y 0 (zent as (tb y).2.1) [] n w M pcE v n1 w1 M1) : Met l (inf y).1 (zws inf tb y) (zrm d (n1 - n) (w1 - w)) (zPc r fm D cA H0 X as n M) (zQc r fm D cA H0 X v n1 M1) (n1 - n) (w1 - w) (fun q => H0.size ≤ q) := by
  obtain ⟨w1', w2, w3, w4, w5, w6⟩ := zmth_spec hm
  refine va_MetF (cc := (inf y).2.1) (maxL := (tb y).2.1) (ret := (inf y).2.2) w3 rfl ?_
  intro p e s m args below meth c s₁ B hml hv
  obtain ⟨rfl, hH, hK⟩ := hv
  have hts := atoms_spec (ws := zws inf tb y) B.pre
  rw [lg_entry_eq]
  have hkk := hS.2.2 p e (zrm d (n1 - n) (w1 - w)) s m (as.map (zv r fm)).toArray below meth c s.heap [] 0 0 (MQ below (zQc r fm D cA H0 X v n1 M1) (as.map (zv r fm)).toArray s (n1 - n) (w1 - w) (fun q => H0.size ≤ q)) _
    ⟨B.exec, B.bytes, hml, findClass_of_methodNamed B.named, fun w hw => hts w (List.mem_cons_of_mem _ hw), hK, fun h => by rw [← h]; exact (name_of_methodNamed B.named B.method).1, Nat.le_refl _, Nat.le_refl _, hr, hfm⟩
    ⟨zLoc.entry hfm as hz, hH, fun _ h => by cases h⟩ ⟨by rw [Nat.zero_add]; exact Nat.le_refl _, by rw [Nat.zero_add]; exact Nat.le_refl _⟩
  refine hkk (fun ls' H' locs' stE h1 h2 h3 => ?_)
  rw [Nat.zero_add, Nat.zero_add]
  exact zi_ret B.exec B.bytes w6 B.returns B.notSynchronized (hc pcE) h3 (fun t ht hW => ⟨rfl, by rw [ht]; exact h1⟩) h2
theorem zgo {v : Option Value} {n1 : Nat} {M1 : zM} {rest st0 : List Value} {a : Array Value} {mc ms : Nat} (hr : va_Run p l e R s m args below meth c H locs cells slots mc ms (F0 m pc ls st0) rest (zQc r fm D cA H0 X v n1 M1 a) (fun q => H0.size ≤ q)) (hl : ∀ q ∈ locs, H0.size ≤ q.base)
    (kk : ∀ (H1 : Heap) (locs1 : List Loc), zH r fm D cA H0 X H1 n1 M1 → (∀ q ∈ locs1, H0.size ≤ q.base) → W p l e R s m args below meth c H1 locs1 (cells + mc) (slots + ms) Q (F0 m (pc + 3) ls ((v.map (zv r fm)).toList ++ rest))) : W p l e R s m args below meth c H locs cells slots Q (F0 m pc ls st0) := by
  intro T hT XX
  obtain ⟨v', st₀, t, T', L, h0, X', hL, e1, e2, ⟨hv, hq⟩, st9⟩ := hr T hT XX
  cases hv
  obtain ⟨t2, a1, b1⟩ := kk T'.heap (locs ++ L) (by rw [e1]; exact hq) (fun q hq => (List.mem_append.mp hq).elim (hl q) (hL q)) T' rfl X'
  exact ⟨t2, st9 t2 a1, b1⟩
theorem zgood (hm : zmth inf tb y = true) : GoodIn ztbl (zws inf tb y) := by
  intro w hw
  rcases List.mem_cons.mp hw with h | h
  · subst h
    exact ⟨ztbl_in (zmth_spec hm).1 rfl, good_of_word rfl⟩
  · exact ⟨h, good_of_word (List.mem_filter.mp h).2⟩
theorem zblind {as : List Value} {n : Nat} {M : zM} : FrameBlind (zPc r fm D cA H0 X as n M) := fun a U g mk q => ⟨q.1, q.2.1, zK.same (u := U) (U := U.calling g mk a) rfl q.2.2⟩
theorem ztoList (v : Option Value) (q : List Value) : (v.map (zv r fm)).toList ++ q.map (zv r fm) = (v.toList ++ q).map (zv r fm) := by
  cases v <;> rfl
theorem zcls_recv {a ci cc n : Nat} {fs : List Value} {L : zL} {M : zM} (hK : zK r fm D cA H0 X s) (hS : zH r fm D cA H0 X H n M) (hM : M a = .inr (ci, fs)) (hcc : ci = cc) (hlt : cc < 14) : ∃ cell : Cell, H[r a]? = some cell ∧ cell.vm.isStatics = false ∧ s.vm.findClass (zcls cc) = some cell.cls := by
  subst hcc
  by_cases h13 : ci = 13
  · subst h13
    rcases hS.look (U := s) hK.2.2.2.2.2 a with z | ⟨-, -, z⟩ | z
    · rw [hM] at z
      unfold zext at z
      split at z
      · rename_i heq
        cases heq
      · rename_i heq
        cases heq
        obtain ⟨cell, e1, e2, e3, -⟩ := z.1
        exact ⟨cell, by rw [hS.2.2.1 _ (Array.getElem?_eq_some_iff.mp e1).1]; exact e1, e2, e3⟩
      · exact z.elim
    · rw [hM] at z
      obtain ⟨q', g1, -⟩ := z
      simp [zcl] at g1
    · rw [hM] at z
      cases z
  · have hq : ∃ q, zcl[ci]? = some q := ⟨zcl[ci]'(by show ci < 13; omega), List.getElem?_eq_getElem _⟩
    obtain ⟨q, hq⟩ := hq
    obtain ⟨-, -, cell, e1, e2, e3, -⟩ := hS.obj (U := s) hK.2.2.2.2.2 hM hq
    refine ⟨cell, e1, by rw [e3]; rfl, ?_⟩
    unfold zcls
    rw [if_neg h13, hq, e2]
    exact (hK.1.1 ci q hq).2.1
end ZJ
