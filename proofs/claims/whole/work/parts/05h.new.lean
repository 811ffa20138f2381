/-! LENGTHS, NEW CELLS, CASTS, NATIVES. -/
section ZH
variable {p : Program} {l : Launch} {e : Env} {R : Room} {s : State} {m : MethodId} {args : Array Value} {below : List Frame} {meth : Method} {c : Code} {H : Heap} {locs : List Loc} {cells slots : Nat} {Q : State → Prop}
variable {r : Nat → Nat} {fm : Value} {D : va_G} {cA : Nat → ClassId} {H0 : Heap} {X : Nat → zC} {inf : Nat → zinf} {tb : Nat → zMt} {ny y d : Nat}
variable {pc nx r1 r2 r3 li : Nat} {v : Value} {sw : List (Int32 × Nat)} {L L' : zL} {st st' : List Value} {n w n' w' pc' : Nat} {M M' : zM} {ls : Array Slot}
theorem zi_arraylength (C : zCx r fm D cA H0 X inf tb y d p R s m args meth c) (h : zchk inf tb ny y pc (.arraylength, nx, r1, r2, r3, li, v, sw) = true) (hz : zst (.arraylength, nx, r1, r2, r3, li, v, sw) L st n w M = some (pc', L', st', n', w', M')) (S : zSt r fm D cA H0 X (tb y).2.1 ls H locs L n M)
    (kk : ∀ (ls' : Array Slot) (H' : Heap) (locs' : List Loc), zSt r fm D cA H0 X (tb y).2.1 ls' H' locs' L' n' M' → W p l e R s m args below meth c H' locs' (cells + (n' - n)) (slots + (w' - w)) Q (F0 m pc' ls' (st'.map (zv r fm)))) : W p l e R s m args below meth c H locs cells slots Q (F0 m pc ls (st.map (zv r fm))) := by
  obtain ⟨rfl, hd, h1⟩ := zdec1 (K := 1) h (by intro q; cases q) rfl (by decide)
  dsimp only [zst] at hz
  split at hz
  · rename_i a q
    unfold zlen at hz
    split at hz
    · rename_i t len x hM
      cases hz
      have k1 := kk ls H locs S
      rw [Nat.sub_self, Nat.sub_self, Nat.add_zero, Nat.add_zero] at k1
      by_cases ht : t < 7
      · obtain ⟨-, -, hc⟩ := S.2.1.arr (U := s) C.2.2.2.2.2.1.2.2.2.2.2 hM ht
        rcases x with f | f
        · exact W.alen (g := F0 m pc ls _) (n := Int32.ofNat len) C.1 C.2.1 hc (zof ht C.2.2.2.2.2.1.1 _ _) (by rw [zac_i, arrV_size] <;> rfl) rfl rfl hd k1
        · exact W.alen (g := F0 m pc ls _) (n := Int32.ofNat len) C.1 C.2.1 hc (zof ht C.2.2.2.2.2.1.1 _ _) (by rw [zac_q, arrV_size] <;> rfl) rfl rfl hd k1
      · rcases x with f | f
        · obtain ⟨cell, e1, e2, e3, e4, e5, e6⟩ := S.2.1.ext (U := s) C.2.2.2.2.2.1.2.2.2.2.2 hM (by omega)
          exact W.alen (g := F0 m pc ls _) (n := Int32.ofNat len) C.1 C.2.1 e1 e2 e5 rfl rfl hd k1
        · exfalso
          rcases S.2.1.look (U := s) C.2.2.2.2.2.1.2.2.2.2.2 a with z | ⟨-, -, z⟩ | z
          · rw [hM] at z; exact z
          · rw [hM] at z; exact ht z.1
          · rw [hM] at z; cases z
    · cases hz
  · cases hz
theorem zname {t : Nat} (ht : t < 7) (K : va_K D zcl (ztys cA) s) : s.vm.findClass ("[" ++ (zty t).toString) = some (cA t) := by
  have h := (K.2 t _ (ztys_at ht)).2
  match t, ht, h with
  | 0, _, h => exact h
  | 1, _, h => exact h
  | 2, _, h => exact h
  | 3, _, ⟨_, _, _, _, _, h⟩ => exact h
  | 4, _, ⟨_, _, _, _, _, h⟩ => exact h
  | 5, _, ⟨_, _, _, _, _, h⟩ => exact h
  | 6, _, ⟨_, _, _, _, _, h⟩ => exact h
theorem zi_newarray {z : ArrayType} (C : zCx r fm D cA H0 X inf tb y d p R s m args meth c) (h : zchk inf tb ny y pc (.newarray z, nx, r1, r2, r3, li, v, sw) = true) (hz : zst (.newarray z, nx, r1, r2, r3, li, v, sw) L st n w M = some (pc', L', st', n', w', M')) (S : zSt r fm D cA H0 X (tb y).2.1 ls H locs L n M) (hR : cells + (n' - n) ≤ R.cells ∧ slots + (w' - w) ≤ R.slots)
    (kk : ∀ (ls' : Array Slot) (H' : Heap) (locs' : List Loc), zSt r fm D cA H0 X (tb y).2.1 ls' H' locs' L' n' M' → W p l e R s m args below meth c H' locs' (cells + (n' - n)) (slots + (w' - w)) Q (F0 m pc' ls' (st'.map (zv r fm)))) : W p l e R s m args below meth c H locs cells slots Q (F0 m pc ls (st.map (zv r fm))) := by
  obtain ⟨rfl, hd, h1⟩ := zdec1 (K := 2) h (by intro q; cases q) rfl (by decide)
  dsimp only [zst] at hz
  simp only [zch1, zat1, Bool.and_eq_true, decide_eq_true_eq] at h1
  obtain ⟨h2, h3, h4⟩ := h1
  split at hz
  · rename_i x q
    split at hz
    · rename_i hc
      cases hz
      obtain ⟨hn, hb⟩ := hc
      rw [Nat.add_sub_cancel_left, Nat.add_sub_cancel_left] at hR
      have hcb : componentBytes (newarray.typeOf z) ≤ 8 := by cases z <;> decide
      refine va_newaK (g := F0 m pc ls _) C.1 C.2.1 (C.2.2.2.2.1 _ (ztbl_of h4 rfl)) rfl hd rfl hn rfl (Nat.le_trans (Nat.mul_le_mul hb hcb) (by decide)) hR.1 hR.2 rfl (fun H' cA' e1 e2 e3 e4 e5 => ?_)
      rw [h3] at e1 e5
      have hcA : cA' = cA r1 := Option.some.inj (e5.symm.trans (zname (by omega) C.2.2.2.2.2.1.1))
      subst hcA
      have hdv : (fun _ : Nat => defaultValue (zty r1)) = fun _ : Nat => Value.int 0 := by
        match r1, h2 with
        | 0, _ => rfl
        | 1, _ => rfl
        | 2, _ => rfl
      rw [hdv] at e1
      obtain ⟨hH, hrn⟩ := S.2.1.push C.2.2.2.2.2.2.2.2.2.1 (H1 := H') (c := .inl (r1, x.toNatClampNeg, .inl (fun _ => 0))) ⟨by omega, e1⟩ e2 e3
      have k1 := kk ls H' locs ⟨S.1, hH, S.2.2⟩
      rw [Nat.add_sub_cancel_left, Nat.add_sub_cancel_left] at k1
      rw [← hrn]
      exact k1
    · cases hz
  · cases hz
theorem zi_anewarray {z : Nat} (C : zCx r fm D cA H0 X inf tb y d p R s m args meth c) (h : zchk inf tb ny y pc (.anewarray z, nx, r1, r2, r3, li, v, sw) = true) (hz : zst (.anewarray z, nx, r1, r2, r3, li, v, sw) L st n w M = some (pc', L', st', n', w', M')) (S : zSt r fm D cA H0 X (tb y).2.1 ls H locs L n M) (hR : cells + (n' - n) ≤ R.cells ∧ slots + (w' - w) ≤ R.slots)
    (kk : ∀ (ls' : Array Slot) (H' : Heap) (locs' : List Loc), zSt r fm D cA H0 X (tb y).2.1 ls' H' locs' L' n' M' → W p l e R s m args below meth c H' locs' (cells + (n' - n)) (slots + (w' - w)) Q (F0 m pc' ls' (st'.map (zv r fm)))) : W p l e R s m args below meth c H locs cells slots Q (F0 m pc ls (st.map (zv r fm))) := by
  obtain ⟨rfl, hd, h1⟩ := zdec1 (K := 3) h (by intro q; cases q) rfl (by decide)
  dsimp only [zst] at hz
  simp only [zch1, Bool.and_eq_true, decide_eq_true_eq] at h1
  obtain ⟨h2, h3⟩ := h1
  split at h3
  · rename_i C1 hC1
    simp only [zat1, Bool.and_eq_true, decide_eq_true_eq] at h3
    obtain ⟨h3, h4⟩ := h3
    split at hz
    · rename_i x q
      split at hz
      · rename_i hc
        cases hz
        obtain ⟨hn, hb⟩ := hc
        rw [Nat.add_sub_cancel_left, Nat.add_sub_cancel_left] at hR
        refine W.anew (g := F0 m pc ls _) C.1 C.2.1 C.2.2.2.1 (C.2.2.2.2.1 _ (ztbl_of h3 rfl)) (va_AO.use (C.2.2.2.2.2.1.2.1 _ h4)) rfl hd rfl hn (Nat.le_trans (Nat.mul_le_mul hb (Nat.le_refl 4)) (by decide)) hR.1 hR.2 (fun cA' kA comp f1 f2 f3 f4 => ?_)
        have hcA : cA' = cA r1 := Option.some.inj (f1.symm.trans (by rw [← hC1]; exact zname (by omega) C.2.2.2.2.2.1.1))
        subst hcA
        generalize hH1 : H.push ({ cls := cA r1, slots := Array.replicate x.toNatClampNeg .null, vm := .none } : Cell) = H1
        have z1 : H1.size = H.size + 1 := by rw [← hH1, Array.size_push]
        have e1 : H1[H.size]? = some (arrV (cA r1) x.toNatClampNeg (fun _ => .null)) := by rw [← hH1, Array.getElem?_push_size, ← arrV_new]
        have o1 : ∀ q : Nat, q < H.size → H1[q]? = H[q]? := fun q hq => by rw [← hH1, Array.getElem?_push, if_neg (Nat.ne_of_lt hq)]
        obtain ⟨hH, hrn⟩ := S.2.1.push C.2.2.2.2.2.2.2.2.2.1 (H1 := H1) (c := .inl (r1, x.toNatClampNeg, .inr (fun _ => none))) ⟨by omega, e1⟩ z1 o1
        have k1 := kk ls H1 locs ⟨S.1, hH, S.2.2⟩
        rw [Nat.add_sub_cancel_left, Nat.add_sub_cancel_left] at k1
        rw [← hrn]
        exact k1
      · cases hz
    · cases hz
  · cases h3
theorem zdef_map (ci : Nat) : (zdef ci).map (zv r fm) = zdef ci := by
  unfold zdef
  split <;> rfl
theorem zi_new {z : Nat} (C : zCx r fm D cA H0 X inf tb y d p R s m args meth c) (h : zchk inf tb ny y pc (.new z, nx, r1, r2, r3, li, v, sw) = true) (hz : zst (.new z, nx, r1, r2, r3, li, v, sw) L st n w M = some (pc', L', st', n', w', M')) (S : zSt r fm D cA H0 X (tb y).2.1 ls H locs L n M) (hR : cells + (n' - n) ≤ R.cells ∧ slots + (w' - w) ≤ R.slots)
    (kk : ∀ (ls' : Array Slot) (H' : Heap) (locs' : List Loc), zSt r fm D cA H0 X (tb y).2.1 ls' H' locs' L' n' M' → W p l e R s m args below meth c H' locs' (cells + (n' - n)) (slots + (w' - w)) Q (F0 m pc' ls' (st'.map (zv r fm)))) : W p l e R s m args below meth c H locs cells slots Q (F0 m pc ls (st.map (zv r fm))) := by
  obtain ⟨rfl, hd, h1⟩ := zdec1 (K := 3) h (by intro q; cases q) rfl (by decide)
  dsimp only [zst] at hz
  dsimp only [zch1] at h1
  split at h1
  · rename_i g hg
    simp only [zat1, Bool.and_eq_true, decide_eq_true_eq] at h1
    obtain ⟨rfl, h3⟩ := h1
    obtain ⟨ty, o1, o2, o3, o4, o5, o6⟩ := zok_all _ _ hg
    cases hz
    rw [Nat.add_sub_cancel_left, Nat.add_sub_cancel_left] at hR
    have hKn := C.2.2.2.2.2.1.1.1 _ _ hg
    refine W.newcK (g := F0 m pc ls _) C.1 C.2.1 C.2.2.2.1 (C.2.2.2.2.1 _ (ztbl_of h3 rfl)) (C.2.2.2.2.1 _ (ztbl_in o5 rfl)) (C.2.2.2.2.1 _ (ztbl_in o6 rfl)) rfl hd hR.1 hR.2 hKn.2.1 rfl (fun H1 kC hkC e1 z1 q1 => ?_)
    obtain ⟨hH, hrn⟩ := S.2.1.push C.2.2.2.2.2.2.2.2.2.1 (H1 := H1) (c := .inr (r1, zdef r1)) ⟨g, hg, by rw [zdef_map]; exact (u_born ty C.2.2.2.2.1 (zlay_in o1) hKn hkC e1 o2).to o4⟩ z1 q1
    have k1 := kk ls H1 locs ⟨S.1, hH, S.2.2⟩
    rw [Nat.add_sub_cancel_left, Nat.add_sub_cancel_left] at k1
    rw [← hrn]
    exact k1
  · cases h1
theorem zi_checkcast {z : Nat} (C : zCx r fm D cA H0 X inf tb y d p R s m args meth c) (h : zchk inf tb ny y pc (.checkcast z, nx, r1, r2, r3, li, v, sw) = true) (hz : zst (.checkcast z, nx, r1, r2, r3, li, v, sw) L st n w M = some (pc', L', st', n', w', M')) (S : zSt r fm D cA H0 X (tb y).2.1 ls H locs L n M)
    (kk : ∀ (ls' : Array Slot) (H' : Heap) (locs' : List Loc), zSt r fm D cA H0 X (tb y).2.1 ls' H' locs' L' n' M' → W p l e R s m args below meth c H' locs' (cells + (n' - n)) (slots + (w' - w)) Q (F0 m pc' ls' (st'.map (zv r fm)))) : W p l e R s m args below meth c H locs cells slots Q (F0 m pc ls (st.map (zv r fm))) := by
  obtain ⟨rfl, hd, h1⟩ := zdec1 (K := 3) h (by intro q; cases q) rfl (by decide)
  dsimp only [zst] at hz
  simp only [zch1, zat1, decide_eq_true_eq] at h1
  split at hz
  · rename_i a q
    unfold zcst at hz
    split at hz
    · rename_i len f hM
      cases hz
      have k1 := kk ls H locs S
      rw [Nat.sub_self, Nat.sub_self, Nat.add_zero, Nat.add_zero] at k1
      obtain ⟨-, -, hc⟩ := S.2.1.arr (U := s) C.2.2.2.2.2.1.2.2.2.2.2 hM (by decide)
      have hnm : s.vm.findClass "[I" = some (cA 0) := zname (t := 0) (by decide) C.2.2.2.2.2.1.1
      intro T hT XX
      obtain ⟨vm', X', st9⟩ := XX.checkcastYes C.1 C.2.2.2.1 (C.2.2.2.2.1 _ (ztbl_of h1 rfl)) (by rw [hT]; exact hc) rfl hnm (va_asg _ _) (g := F0 m pc ls _) rfl rfl (by rw [C.2.1]; exact hd)
      obtain ⟨t, a1, b1⟩ := k1 (T.setVm vm') hT X'
      exact ⟨t, st9 t a1, b1⟩
    · cases hz
  · cases hz
theorem zobj_words : Cond.instanceMethod objectInit ∈ lw_tbl ∧ Cond.code objectInit ⟨#[0xb1]⟩ 1 none ∈ lw_tbl := ⟨by decide +kernel, by decide +kernel⟩
theorem zcpy_words : Cond.native arraycopyName ∈ lw_tbl ∧ Cond.static arraycopyName ∈ lw_tbl ∧ Cond.initialized "java/lang/System" ∈ lw_tbl := ⟨by decide +kernel, by decide +kernel, by decide +kernel⟩
theorem zcln_words : Cond.sameMethod "[I" "java/lang/Object" "clone" "()Ljava/lang/Object;" ∈ lw_tbl ∧ Cond.native ⟨"java/lang/Object", "clone", "()Ljava/lang/Object;"⟩ ∈ lw_tbl ∧ Cond.instanceMethod ⟨"java/lang/Object", "clone", "()Ljava/lang/Object;"⟩ ∈ lw_tbl ∧ Cond.selects "[I" ⟨"[I", "clone", "()Ljava/lang/Object;"⟩ ⟨"java/lang/Object", "clone", "()Ljava/lang/Object;"⟩ ∈ lw_tbl ∧ Cond.castable "[I" "java/lang/Cloneable" ∈ znst := ⟨by decide +kernel, by decide +kernel, by decide +kernel, by decide +kernel, by decide +kernel⟩
theorem zdp_map (hf : zfm fm) (st : List Value) : ((st.map (zv r fm)).map fun v => v.category).sum = zdp st := by
  unfold zdp
  rw [List.map_map]
  congr 1
  exact List.map_congr_left (fun v _ => zv_cat hf v)
theorem zi_objinit {z : Nat} (h9 : r3 = 9) (C : zCx r fm D cA H0 X inf tb y d p R s m args meth c) (h : zchk inf tb ny y pc (.invokespecial z, nx, r1, r2, r3, li, v, sw) = true) (hz : zst (.invokespecial z, nx, r1, r2, r3, li, v, sw) L st n w M = some (pc', L', st', n', w', M')) (S : zSt r fm D cA H0 X (tb y).2.1 ls H locs L n M)
    (kk : ∀ (ls' : Array Slot) (H' : Heap) (locs' : List Loc), zSt r fm D cA H0 X (tb y).2.1 ls' H' locs' L' n' M' → W p l e R s m args below meth c H' locs' (cells + (n' - n)) (slots + (w' - w)) Q (F0 m pc' ls' (st'.map (zv r fm)))) : W p l e R s m args below meth c H locs cells slots Q (F0 m pc ls (st.map (zv r fm))) := by
  obtain ⟨rfl, hd, h1⟩ := zdec1 (K := 3) h (by intro q; cases q) rfl (by decide)
  subst h9
  dsimp only [zst] at hz
  simp only [zch1, zat1, if_pos, decide_eq_true_eq] at h1
  split at hz
  · rename_i q9 a q hq9
    cases hdp : Nat.ble (zdp q) 8 with
    | false => rw [hdp] at hz; cases hz
    | true =>
      rw [hdp] at hz
      cases hz
      have hdp := Nat.le_of_ble_eq_true hdp
      have k1 := kk ls H locs S
      rw [Nat.sub_self, Nat.sub_self, Nat.add_zero, Nat.add_zero] at k1
      have hf := C.2.2.2.2.2.2.2.1
      have hlo := C.2.2.2.2.2.2.2.2.1
      exact W.objInit (g := F0 m pc ls _) C.1 C.2.1 C.2.2.2.1 (C.2.2.2.2.1 _ (ztbl_of h1 rfl)) (C.2.2.2.2.1 _ (ztbl_in zobj_words.1 rfl)) (C.2.2.2.2.1 _ (ztbl_in zobj_words.2 rfl)) rfl (by rw [C.2.2.1]; exact S.1.1) rfl hd (by omega) (by rw [zdp_map C.2.2.2.2.2.2.2.2.2.2]; show 2 * 0 + _ + 12 ≤ _; omega) k1
  · cases hz
theorem znn {z : Int32} (hz : ¬ z < 0) : z.toInt = (z.toNatClampNeg : Int) := by
  have hz0 : (0 : Int) ≤ z.toInt := by
    have := Int32.not_lt.mp hz
    simpa using Int32.le_iff_toInt_le.mp this
  show z.toInt = ((z.toInt.toNat : Nat) : Int)
  omega
theorem zi_arraycopy {z : Nat} (h9 : r3 = 8) (C : zCx r fm D cA H0 X inf tb y d p R s m args meth c) (h : zchk inf tb ny y pc (.invokestatic z, nx, r1, r2, r3, li, v, sw) = true) (hz : zst (.invokestatic z, nx, r1, r2, r3, li, v, sw) L st n w M = some (pc', L', st', n', w', M')) (S : zSt r fm D cA H0 X (tb y).2.1 ls H locs L n M)
    (kk : ∀ (ls' : Array Slot) (H' : Heap) (locs' : List Loc), zSt r fm D cA H0 X (tb y).2.1 ls' H' locs' L' n' M' → W p l e R s m args below meth c H' locs' (cells + (n' - n)) (slots + (w' - w)) Q (F0 m pc' ls' (st'.map (zv r fm)))) : W p l e R s m args below meth c H locs cells slots Q (F0 m pc ls (st.map (zv r fm))) := by
  obtain ⟨rfl, hd, h1⟩ := zdec1 (K := 3) h (by intro q; cases q) rfl (by decide)
  subst h9
  dsimp only [zst] at hz
  simp only [zch1, zat1, if_pos, decide_eq_true_eq] at h1
  split at hz
  · rename_i q9 cn dp b sp a q hq9
    cases hdp : Nat.ble (zdp q) 8 with
    | false => rw [hdp] at hz; cases hz
    | true =>
      rw [hdp, cond_true] at hz
      have hdp := Nat.le_of_ble_eq_true hdp
      unfold zcpy at hz
      split at hz
      · rename_i la f lb g hM hM2
        split at hz
        · rename_i hc
          cases hz
          obtain ⟨⟨n1, n2, n3⟩, l1, l2⟩ := hc
          obtain ⟨-, -, hc0⟩ := S.2.1.arr (U := s) C.2.2.2.2.2.1.2.2.2.2.2 hM (by decide)
          obtain ⟨hb1, hb2, hc1⟩ := S.2.1.arr (U := s) C.2.2.2.2.2.1.2.2.2.2.2 hM2 (by decide)
          have hf := C.2.2.2.2.2.2.2.1
          have hlo := C.2.2.2.2.2.2.2.2.1
          have hnat : nativeFrameWords "java/lang/System" "arraycopy" 5 ≤ 40 := by decide
          intro T hT XX
          obtain ⟨-, k0, hk0, cm0, hkk0⟩ := zof (t := 0) (by decide) C.2.2.2.2.2.1.1 la (fun j => .int (f j))
          obtain ⟨-, k9, hk1, cm1, hkk1⟩ := zof (t := 0) (by decide) C.2.2.2.2.2.1.1 lb (fun j => .int (g j))
          obtain ⟨vm', X', step⟩ := XX.arraycopy C.1 C.2.2.2.1 (C.2.2.2.2.1 _ (ztbl_of h1 rfl)) (C.2.2.2.2.1 _ (ztbl_in zcpy_words.1 rfl)) (C.2.2.2.2.1 _ (ztbl_in zcpy_words.2.1 rfl)) (C.2.2.2.2.1 _ (ztbl_in zcpy_words.2.2 rfl)) (src := r a) (dst := r b) (cs := zac r cA 0 la (.inl f)) (cd := zac r cA 0 lb (.inl g)) (srcPos := sp) (destPos := dp) (n := cn) (by rw [hT]; exact hc0) (by rw [hT]; exact hc1)
            (fun _ h => by cases h) (fun _ h => by cases h) (fun h => by cases h) (fun h => by cases h) hk0 hk1 hkk0 hkk1 (by simp [zty, refKind]) n1 n2 n3
            (by rw [znn n1, znn n3]; show ¬ _ > ((arrV (cA 0) la (fun j => .int (f j))).slots.size : Int); rw [arrV_size]; omega)
            (by rw [znn n2, znn n3]; show ¬ _ > ((arrV (cA 0) lb (fun j => .int (g j))).slots.size : Int); rw [arrV_size]; omega)
            (fun vm₁ _ i hi => by
              have e : (zac r cA 0 la (.inl f)).slots.getD (sp.toNatClampNeg + i) .null = .int (f (sp.toNatClampNeg + i)) := by
                show (arrV (cA 0) la (fun j => .int (f j))).slots.getD _ _ = _
                rw [Array.getD_eq_getD_getElem?, arrV_read _ _ (by omega)]
                rfl
              refine ⟨?_, ?_⟩
              · rw [e]
                rfl
              · rw [e]
                exact trivial)
            (g := F0 m pc ls (.int cn :: .int dp :: .ref (r b) :: .int sp :: .ref (r a) :: st'.map (zv r fm))) rfl (by rw [C.2.2.1]; exact S.1.1) (rest := st'.map (zv r fm)) rfl (by rw [C.2.1]; exact hd) (by omega) (by rw [zdp_map C.2.2.2.2.2.2.2.2.2.2]; show 2 * 0 + _ + _ ≤ _; omega)
          have e1 : copied (zac r cA 0 la (.inl f)) (zac r cA 0 lb (.inl g)) sp dp cn = zac r cA 0 lb (.inl (va_cpy f g sp.toNatClampNeg dp.toNatClampNeg cn.toNatClampNeg)) := va_copied (fun z => .int z) (cA 0) (cA 0) f g l1
          rw [e1] at X' step
          have hl : r b < H.size := (Array.getElem?_eq_some_iff.mp hc1).1
          have hheap : ((T.setVm vm').setCell (r b) (zac r cA 0 lb (.inl (va_cpy f g sp.toNatClampNeg dp.toNatClampNeg cn.toNatClampNeg)))).heap = H.setIfInBounds (r b) (zac r cA 0 lb (.inl (va_cpy f g sp.toNatClampNeg dp.toNatClampNeg cn.toNatClampNeg))) := by rw [← hT]; rfl
          have oq : ∀ q : Nat, q ≠ r b → (H.setIfInBounds (r b) (zac r cA 0 lb (.inl (va_cpy f g sp.toNatClampNeg dp.toNatClampNeg cn.toNatClampNeg))))[q]? = H[q]? := fun q hq => by simp [Array.getElem?_setIfInBounds, Ne.symm hq]
          have k1 := fun lc hlc => kk ls _ lc ⟨S.1, S.2.1.put C.2.2.2.2.2.2.2.2.2.1 hb1 hb2 (c := .inl (0, lb, .inl (va_cpy f g sp.toNatClampNeg dp.toNatClampNeg cn.toNatClampNeg))) ⟨by decide, by simp [Array.getElem?_setIfInBounds, hl]⟩ (by simp) oq, hlc⟩
          rw [Nat.sub_self, Nat.sub_self, Nat.add_zero, Nat.add_zero] at k1
          obtain ⟨t, a1, b1⟩ := k1 _ (fun q hq => by
            rcases List.mem_append.mp hq with h | h
            · exact S.2.2 q h
            · obtain ⟨z, -, hz⟩ := List.mem_map.mp h
              rw [← hz]
              show H0.size ≤ r b
              rw [(C.2.2.2.2.2.2.2.2.2.1).1 b hb1]
              omega) _ hheap X'
          exact ⟨t, step t a1, b1⟩
        · cases hz
      · cases hz
  · cases hz
theorem zi_clone {z : Nat} (h9 : r3 = 7) (C : zCx r fm D cA H0 X inf tb y d p R s m args meth c) (h : zchk inf tb ny y pc (.invokevirtual z, nx, r1, r2, r3, li, v, sw) = true) (hz : zst (.invokevirtual z, nx, r1, r2, r3, li, v, sw) L st n w M = some (pc', L', st', n', w', M')) (S : zSt r fm D cA H0 X (tb y).2.1 ls H locs L n M) (hR : cells + (n' - n) ≤ R.cells ∧ slots + (w' - w) ≤ R.slots)
    (kk : ∀ (ls' : Array Slot) (H' : Heap) (locs' : List Loc), zSt r fm D cA H0 X (tb y).2.1 ls' H' locs' L' n' M' → W p l e R s m args below meth c H' locs' (cells + (n' - n)) (slots + (w' - w)) Q (F0 m pc' ls' (st'.map (zv r fm)))) : W p l e R s m args below meth c H locs cells slots Q (F0 m pc ls (st.map (zv r fm))) := by
  obtain ⟨rfl, hd, h1⟩ := zdec1 (K := 3) h (by intro q; cases q) rfl (by decide)
  subst h9
  dsimp only [zst] at hz
  simp only [zch1, zat1, if_pos, decide_eq_true_eq] at h1
  split at hz
  · rename_i q9 a q hq9
    cases hdp : Nat.ble (zdp q) 8 with
    | false => rw [hdp] at hz; cases hz
    | true =>
      rw [hdp, cond_true] at hz
      have hdp := Nat.le_of_ble_eq_true hdp
      unfold zcln at hz
      split at hz
      · rename_i la f hM
        cases hz
        rw [Nat.add_sub_cancel_left, Nat.add_sub_cancel_left] at hR
        obtain ⟨ha1, ha2, hc0⟩ := S.2.1.arr (U := s) C.2.2.2.2.2.1.2.2.2.2.2 hM (by decide)
        have hf := C.2.2.2.2.2.2.2.1
        have hlo := C.2.2.2.2.2.2.2.2.1
        have hnm : s.vm.findClass "[I" = some (cA 0) := zname (t := 0) (by decide) C.2.2.2.2.2.1.1
        obtain ⟨c0, t0', f1, f2, f3⟩ := Cond.castable_spec (va_Nw.use (A := args) rfl (C.2.2.2.2.2.1.2.2.1 _ zcln_words.2.2.2.2))
        cases hnm.symm.trans f1
        intro T hT XX
        have hcellT : T.heap[r a]? = some (zac r cA 0 la (.inl f)) := by rw [hT]; exact hc0
        obtain ⟨-, kA, hkA, comp, hkind⟩ := State.isArrayOf_alike XX.warmed.alike (zof (t := 0) (by decide) C.2.2.2.2.2.1.1 0 (fun _ => .null))
        obtain ⟨-, kS, hkS, compS, hkindS⟩ := zof (t := 0) (by decide) C.2.2.2.2.2.1.1 0 (fun _ => .null)
        obtain ⟨vm', X', st9⟩ := XX.cloneArray C.1 C.2.2.2.1 (C.2.2.2.2.1 _ (ztbl_of h1 rfl)) (C.2.2.2.2.1 _ (ztbl_in zcln_words.1 rfl)) (C.2.2.2.2.1 _ (ztbl_in zcln_words.2.1 rfl)) (C.2.2.2.2.1 _ (ztbl_in zcln_words.2.2.1 rfl)) (C.2.2.2.2.1 _ (ztbl_in zcln_words.2.2.2.1 rfl)) (a := r a) (cell := zac r cA 0 la (.inl f)) hcellT (fun k h => by cases h) (fun h => by cases h) hnm f2 f3
          (fun i v hv => by
            have hk' : T.vm.classes[cA 0]? = some kA := hkA
            have hsz : i < la := by
              have := (Array.getElem?_eq_some_iff.mp hv).1
              rw [zac_i, arrV_size] at this
              exact this
            rw [zac_i, arrV_read _ _ hsz] at hv
            cases hv
            simp [zac_i, arrV, State.fitsSlot, State.slotType?, hk', hkind, zty, fits])
          (g := F0 m pc ls (.ref (r a) :: q.map (zv r fm))) rfl (by rw [C.2.2.1]; exact S.1.1) rfl (by rw [C.2.1]; exact hd) (by omega) (by rw [zdp_map C.2.2.2.2.2.2.2.2.2.2]; show 2 * 0 + _ + 14 ≤ _; omega) hR.1 (by rw [zac_i, arrV_size]; exact hR.2) (hloader := Vm.clonesLoader_of_array hkS hkindS)
        have hcellE : ({ cls := (zac r cA 0 la (.inl f)).cls, slots := (zac r cA 0 la (.inl f)).slots } : Cell) = zac r cA 0 la (.inl f) := rfl
        have hsz : (zac r cA 0 la (.inl f)).slots.size = la := arrV_size _ _ _
        rw [hcellE, hsz] at X'
        generalize hH1 : H.push (zac r cA 0 la (.inl f)) = H1
        have z1 : H1.size = H.size + 1 := by rw [← hH1, Array.size_push]
        have e1 : H1[H.size]? = some (zac r cA 0 la (.inl f)) := by rw [← hH1, Array.getElem?_push_size]
        have o1 : ∀ q : Nat, q < H.size → H1[q]? = H[q]? := fun q hq => by rw [← hH1, Array.getElem?_push, if_neg (Nat.ne_of_lt hq)]
        obtain ⟨hH, hrn⟩ := S.2.1.push C.2.2.2.2.2.2.2.2.2.1 (H1 := H1) (c := .inl (0, la, .inl f)) ⟨by decide, e1⟩ z1 o1
        have k1 := kk ls H1 locs ⟨S.1, hH, S.2.2⟩
        rw [Nat.add_sub_cancel_left, Nat.add_sub_cancel_left] at k1
        obtain ⟨t, b1, b2⟩ := k1 ((T.setVm vm').pushCell (zac r cA 0 la (.inl f))) (by rw [← hH1, ← hT]; rfl) X'
        refine ⟨t, st9 t ?_, b2⟩
        rw [hcellE, hT, ← hrn]
        exact b1
      · cases hz
  · cases hz
end ZH

