/-! FIELDS WRITTEN, ARRAYS, NEW CELLS, THE LIBRARY'S OWN CALLS. -/
section ZG
variable {p : Program} {l : Launch} {e : Env} {R : Room} {s : State} {m : MethodId} {args : Array Value} {below : List Frame} {meth : Method} {c : Code} {H : Heap} {locs : List Loc} {cells slots : Nat} {Q : State → Prop}
variable {r : Nat → Nat} {fm : Value} {D : va_G} {cA : Nat → ClassId} {H0 : Heap} {X : Nat → zC} {inf : Nat → zinf} {tb : Nat → zMt} {ny y d : Nat}
variable {pc nx r1 r2 r3 li : Nat} {v : Value} {sw : List (Int32 × Nat)} {L L' : zL} {st st' : List Value} {n w n' w' pc' : Nat} {M M' : zM} {ls : Array Slot}
theorem zlocs {locs : List Loc} {k i : Nat} (hr : zrho r H0) (h : ∀ q ∈ locs, H0.size ≤ q.base) (hk : 25 ≤ k) : ∀ q ∈ locs ++ [(⟨r k, i⟩ : Loc)], H0.size ≤ q.base := by
  intro q hq
  rcases List.mem_append.mp hq with h1 | h1
  · exact h q h1
  · rw [List.mem_singleton.mp h1]
    show H0.size ≤ r k
    rw [hr.1 k hk]
    omega
theorem zfit_ok {k : Nat} {u : Value} {ty : FieldType} (h : zfit k u = true) (hk : zkd k ty = true) : narrow ty (zv r fm u) = zv r fm u ∧ fits ty (zv r fm u) = true := by
  unfold zfit at h
  unfold zkd at hk
  split at h
  · split at hk <;> first | exact ⟨rfl, rfl⟩ | (rename_i q1; cases q1) | cases hk
  · split at hk
    · rename_i q1; cases q1
    · rename_i x _
      simp only [Bool.or_eq_true, beq_iff_eq] at h
      rcases h with h | h
      · subst h
        show narrow .boolean (.int 0) = .int 0 ∧ fits .boolean (.int 0) = true
        decide
      · subst h
        show narrow .boolean (.int 1) = .int 1 ∧ fits .boolean (.int 1) = true
        decide
    · rename_i q1; cases q1
    · rename_i q1; cases q1
    · cases hk
  · split at hk <;> first | exact ⟨rfl, rfl⟩ | (rename_i q1; cases q1) | cases hk
  · split at hk <;> first | exact ⟨rfl, rfl⟩ | (rename_i q1; cases q1) | cases hk
  · cases h
theorem zi_putfield {z : Nat} (C : zCx r fm D cA H0 X inf tb y d p R s m args meth c) (h : zchk inf tb ny y pc (.putfield z, nx, r1, r2, r3, li, v, sw) = true) (hz : zst (.putfield z, nx, r1, r2, r3, li, v, sw) L st n w M = some (pc', L', st', n', w', M')) (S : zSt r fm D cA H0 X (tb y).2.1 ls H locs L n M)
    (kk : ∀ (ls' : Array Slot) (H' : Heap) (locs' : List Loc), zSt r fm D cA H0 X (tb y).2.1 ls' H' locs' L' n' M' → W p l e R s m args below meth c H' locs' (cells + (n' - n)) (slots + (w' - w)) Q (F0 m pc' ls' (st'.map (zv r fm)))) : W p l e R s m args below meth c H locs cells slots Q (F0 m pc ls (st.map (zv r fm))) := by
  obtain ⟨rfl, hd, h1⟩ := zdec1 (K := 3) h (by intro q; cases q) rfl (by decide)
  dsimp only [zst] at hz
  split at hz
  · rename_i u a q
    unfold zpf at hz
    split at hz
    · rename_i ci fs hM
      cases hb : (Nat.beq ci r1 && (zfit r3 u && Nat.blt r2 fs.length)) with
      | false => rw [hb] at hz; cases hz
      | true =>
        rw [hb, cond_true] at hz
        cases hz
        simp only [Bool.and_eq_true] at hb
        obtain ⟨hb1, hb2, hb3⟩ := hb
        cases beq_of_beq hb1
        have hl : r2 < fs.length := Nat.le_of_ble_eq_true hb3
        dsimp only [zch1] at h1
        split at h1
        · rename_i q0 hq0
          obtain ⟨g, hg, hk, rfl⟩ := zfld_spec hq0
          obtain ⟨ty0, o1, o2, o3, -⟩ := zok_all _ _ hg
          simp only [zat1, Bool.and_eq_true, decide_eq_true_eq, Bool.or_eq_true] at h1
          obtain ⟨h2, h3, h4⟩ := h1
          split at h3
          · rename_i ty hty
            obtain ⟨hn, hfit⟩ := zfit_ok (r := r) (fm := fm) hb2 h3
            obtain ⟨ha1, ha2, cell, q1, q2, q3, q4⟩ := S.2.1.obj (U := s) C.2.2.2.2.2.1.2.2.2.2.2 hM hg
            have hap := va_apart (own := (inf y).1.cls) C.2.2.2.2.1 (zlay_in o1) ty0 o2 o3 C.2.2.2.2.2.1.1 hg
            obtain ⟨hS, hfc, kC, hkC, hkind⟩ := C.2.2.2.2.2.1.1.1 _ _ hg
            obtain ⟨cf, kf, fi, f, hi, hsl⟩ := hS _ hk
            have hlay := C.2.2.2.2.1 _ (zlay_in o1 _ (u_in_lay hk))
            have hst := (u_facts hfc hkC (u_lays C.2.2.2.2.1 (zlay_in o1) hk) hi).1
            have fin : ∀ (H' : Heap), H'[r a]? = some (cell.setSlot f.slot (zv r fm u)) → H'.size = H.size → (∀ q, q ≠ r a → H'[q]? = H[q]?) → W p l e R s m args below meth c H' (locs ++ [⟨r a, f.slot⟩]) cells slots Q (F0 m (pc + 3) ls (st'.map (zv r fm))) := by
              intro H' e1 e2 e3
              rw [hsl] at e1
              have k1 := kk ls H' (locs ++ [⟨r a, f.slot⟩]) ⟨S.1, S.2.1.put C.2.2.2.2.2.2.2.2.2.1 ha1 ha2 ⟨g, hg, t_OB.to (V := updV (vp_V (fs.map (zv r fm))) r2 (zv r fm u)) ⟨_, e1, q2, q3, t_set q4 hap hk _⟩ (fun j _ => by rw [zfs_map]; exact vp_updV_set (by rw [List.length_map]; exact hl) _ j)⟩ e2 e3, zlocs C.2.2.2.2.2.2.2.2.2.1 S.2.2 ha1⟩
              rw [Nat.sub_self, Nat.sub_self, Nat.add_zero, Nat.add_zero] at k1
              exact k1
            unfold u_lay at hlay
            by_cases hf : (g.2.1 r2).2.2.2 = true
            · rw [if_pos hf] at hlay
              rcases h4 with h4 | ⟨h4, h5⟩
              · rw [hf] at h4; cases h4
              · have hcf : m.cls = cf := by
                  obtain ⟨_, _, c', _, _, _, -, -, hf', -, -, -, hown2, -⟩ := Cond.laysFinal_spec hlay
                  have e1 : c' = cf := by have := hi.symm.trans hf'; simp at this; exact this.1.symm
                  rw [h5] at hown2
                  rw [← e1]; exact Option.some.inj (C.2.2.2.1.symm.trans hown2)
                have h6 := u_fits hfc hkC hkind (Or.inr hlay) hi hty hn hfit
                exact W.putFinK (g := F0 m pc ls _) C.1 C.2.1 C.2.2.2.1 (C.2.2.2.2.1 _ (ztbl_of h2 rfl)) hi hst hcf (C.2.2.2.2.2.2.1 h4) (by rw [q2]; exact h6) q1 q3 (by rw [hsl]; exact k2_hasslot (q4 _ hk)) rfl rfl hd fin
            · rw [if_neg hf] at hlay
              have h6 := u_store hfc hkC hkind hlay hi hty hn hfit
              exact W.putK (g := F0 m pc ls _) C.1 C.2.1 (f := f) ⟨C.2.2.2.1, C.2.2.2.2.1 _ (ztbl_of h2 rfl), ⟨_, _, _, hi⟩, hst⟩ (by rw [q2]; exact h6) q1 q3 (by rw [hsl]; exact k2_hasslot (q4 _ hk)) rfl rfl hd fin
          · cases h3
        · cases h1
    · cases hz
  · cases hz
theorem ztys_at {t : Nat} (ht : t < 7) : (ztys cA)[t]? = some (cA t, zty t) := by
  match t, ht with
  | 0, _ => rfl
  | 1, _ => rfl
  | 2, _ => rfl
  | 3, _ => rfl
  | 4, _ => rfl
  | 5, _ => rfl
  | 6, _ => rfl
theorem zof {t : Nat} (ht : t < 7) (K : va_K D zcl (ztys cA) s) (n : Nat) (z : Nat → Value) : s.isArrayOf (arrV (cA t) n z) (zty t) := (K.2 t _ (ztys_at ht)).1 n z
theorem zi_iaload (C : zCx r fm D cA H0 X inf tb y d p R s m args meth c) (h : zchk inf tb ny y pc (.iaload, nx, r1, r2, r3, li, v, sw) = true) (hz : zst (.iaload, nx, r1, r2, r3, li, v, sw) L st n w M = some (pc', L', st', n', w', M')) (S : zSt r fm D cA H0 X (tb y).2.1 ls H locs L n M)
    (kk : ∀ (ls' : Array Slot) (H' : Heap) (locs' : List Loc), zSt r fm D cA H0 X (tb y).2.1 ls' H' locs' L' n' M' → W p l e R s m args below meth c H' locs' (cells + (n' - n)) (slots + (w' - w)) Q (F0 m pc' ls' (st'.map (zv r fm)))) : W p l e R s m args below meth c H locs cells slots Q (F0 m pc ls (st.map (zv r fm))) := by
  obtain ⟨rfl, hd, h1⟩ := zdec1 (K := 1) h (by intro q; cases q) rfl (by decide)
  dsimp only [zst] at hz
  split at hz
  · rename_i j a q
    unfold zald at hz
    split at hz
    · rename_i t len f hM
      split at hz
      · rename_i hc
        cases hz
        have k1 := kk ls H locs S
        rw [Nat.sub_self, Nat.sub_self, Nat.add_zero, Nat.add_zero] at k1
        obtain ⟨ht, hin⟩ := hc
        rcases ht with rfl | rfl
        · obtain ⟨-, -, hc⟩ := S.2.1.arr (U := s) C.2.2.2.2.2.1.2.2.2.2.2 hM (by decide)
          exact W.iald (g := F0 m pc ls _) C.1 C.2.1 hc (zof (t := 0) (by decide) C.2.2.2.2.2.1.1 _ _) (fun q => by cases q) (by show ¬ (_ ∨ (arrV _ _ _).slots.size ≤ _); rw [arrV_size]; exact zin_of hin) (by show (arrV _ _ _).slots[_]? = _; rw [arrV_read _ _ hin.2] <;> rfl) rfl rfl hd k1
        · obtain ⟨cell, e1, e2, e3, e4, e5, e6⟩ := S.2.1.ext (U := s) C.2.2.2.2.2.1.2.2.2.2.2 hM (by decide)
          exact W.iald (g := F0 m pc ls _) C.1 C.2.1 e1 e2 e3 (zin_of ⟨hin.1, Nat.lt_of_lt_of_le hin.2 e4⟩) (e6 _ hin.2) rfl rfl hd k1
      · cases hz
    · cases hz
  · cases hz
theorem zi_baload (C : zCx r fm D cA H0 X inf tb y d p R s m args meth c) (h : zchk inf tb ny y pc (.baload, nx, r1, r2, r3, li, v, sw) = true) (hz : zst (.baload, nx, r1, r2, r3, li, v, sw) L st n w M = some (pc', L', st', n', w', M')) (S : zSt r fm D cA H0 X (tb y).2.1 ls H locs L n M)
    (kk : ∀ (ls' : Array Slot) (H' : Heap) (locs' : List Loc), zSt r fm D cA H0 X (tb y).2.1 ls' H' locs' L' n' M' → W p l e R s m args below meth c H' locs' (cells + (n' - n)) (slots + (w' - w)) Q (F0 m pc' ls' (st'.map (zv r fm)))) : W p l e R s m args below meth c H locs cells slots Q (F0 m pc ls (st.map (zv r fm))) := by
  obtain ⟨rfl, hd, h1⟩ := zdec1 (K := 1) h (by intro q; cases q) rfl (by decide)
  dsimp only [zst] at hz
  split at hz
  · rename_i j a q
    unfold zbld at hz
    split at hz
    · rename_i t len f hM
      split at hz
      · rename_i hc
        cases hz
        have k1 := kk ls H locs S
        rw [Nat.sub_self, Nat.sub_self, Nat.add_zero, Nat.add_zero] at k1
        obtain ⟨ht, hin⟩ := hc
        rcases ht with rfl | rfl | rfl
        · obtain ⟨-, -, hc⟩ := S.2.1.arr (U := s) C.2.2.2.2.2.1.2.2.2.2.2 hM (by decide)
          exact W.bald (g := F0 m pc ls _) C.1 C.2.1 hc (zof (t := 1) (by decide) C.2.2.2.2.2.1.1 _ _) (fun q => by cases q) (by show ¬ (_ ∨ (arrV _ _ _).slots.size ≤ _); rw [arrV_size]; exact zin_of hin) (by show (arrV _ _ _).slots[_]? = _; rw [arrV_read _ _ hin.2] <;> rfl) rfl rfl hd k1
        · obtain ⟨-, -, hc⟩ := S.2.1.arr (U := s) C.2.2.2.2.2.1.2.2.2.2.2 hM (by decide)
          exact W.zald (g := F0 m pc ls _) C.1 C.2.1 hc (zof (t := 2) (by decide) C.2.2.2.2.2.1.1 _ _) (fun q => by cases q) (by show ¬ (_ ∨ (arrV _ _ _).slots.size ≤ _); rw [arrV_size]; exact zin_of hin) (by show (arrV _ _ _).slots[_]? = _; rw [arrV_read _ _ hin.2] <;> rfl) rfl rfl hd k1
        · obtain ⟨cell, e1, e2, e3, e4, e5, e6⟩ := S.2.1.ext (U := s) C.2.2.2.2.2.1.2.2.2.2.2 hM (by decide)
          exact W.bald (g := F0 m pc ls _) C.1 C.2.1 e1 e2 e3 (zin_of ⟨hin.1, Nat.lt_of_lt_of_le hin.2 e4⟩) (e6 _ hin.2) rfl rfl hd k1
      · cases hz
    · cases hz
  · cases hz
theorem zrf_map (g : Option Nat) : va_rf (g.map r) = zv r fm (zrf g) := by cases g <;> rfl
theorem zref_ty {t : Nat} (h : t = 3 ∨ t = 4 ∨ t = 5 ∨ t = 6) : t < 7 ∧ ∃ C, zty t = .object C := by
  rcases h with rfl | rfl | rfl | rfl <;> exact ⟨by decide, _, rfl⟩
theorem zi_aaload (C : zCx r fm D cA H0 X inf tb y d p R s m args meth c) (h : zchk inf tb ny y pc (.aaload, nx, r1, r2, r3, li, v, sw) = true) (hz : zst (.aaload, nx, r1, r2, r3, li, v, sw) L st n w M = some (pc', L', st', n', w', M')) (S : zSt r fm D cA H0 X (tb y).2.1 ls H locs L n M)
    (kk : ∀ (ls' : Array Slot) (H' : Heap) (locs' : List Loc), zSt r fm D cA H0 X (tb y).2.1 ls' H' locs' L' n' M' → W p l e R s m args below meth c H' locs' (cells + (n' - n)) (slots + (w' - w)) Q (F0 m pc' ls' (st'.map (zv r fm)))) : W p l e R s m args below meth c H locs cells slots Q (F0 m pc ls (st.map (zv r fm))) := by
  obtain ⟨rfl, hd, h1⟩ := zdec1 (K := 1) h (by intro q; cases q) rfl (by decide)
  dsimp only [zst] at hz
  split at hz
  · rename_i j a q
    unfold zqld at hz
    split at hz
    · rename_i t len f hM
      split at hz
      · rename_i hc
        cases hz
        have k1 := kk ls H locs S
        rw [Nat.sub_self, Nat.sub_self, Nat.add_zero, Nat.add_zero] at k1
        obtain ⟨ht, hin⟩ := hc
        obtain ⟨ht7, C1, hC1⟩ := zref_ty ht
        obtain ⟨-, -, hc⟩ := S.2.1.arr (U := s) C.2.2.2.2.2.1.2.2.2.2.2 hM ht7
        exact W.aald (g := F0 m pc ls _) C.1 C.2.1 (ty := zty t) hc (zof ht7 C.2.2.2.2.2.1.1 _ _) (by rw [hC1]; rfl) (fun q => by cases q) (by show ¬ (_ ∨ (arrV _ _ _).slots.size ≤ _); rw [arrV_size]; exact zin_of hin) (by show (arrV _ _ _).slots[_]? = _; rw [arrV_read _ _ hin.2, zrf_map (fm := fm)]) rfl rfl hd k1
      · cases hz
    · cases hz
  · cases hz
theorem zac_i (t n : Nat) (f : Nat → Int32) : zac r cA t n (.inl f) = arrV (cA t) n (fun j => .int (f j)) := rfl
theorem zac_q (t n : Nat) (f : Nat → Option Nat) : zac r cA t n (.inr f) = arrV (cA t) n (fun j => va_rf ((f j).map r)) := rfl
theorem zuf_int (f : Nat → Int32) (i : Nat) (x : Int32) : updV (fun j => Value.int (f j)) i (.int x) = fun j => Value.int (zuf f i x j) := by
  funext q
  by_cases hq : q = i <;> simp [updV, zuf, hq]
theorem zuf_ref (f : Nat → Option Nat) (i : Nat) (x : Option Nat) : updV (fun j => va_rf ((f j).map r)) i (va_rf (x.map r)) = fun j => va_rf ((zuf f i x j).map r) := by
  funext q
  by_cases hq : q = i <;> simp [updV, zuf, hq]
theorem zi_iastore (C : zCx r fm D cA H0 X inf tb y d p R s m args meth c) (h : zchk inf tb ny y pc (.iastore, nx, r1, r2, r3, li, v, sw) = true) (hz : zst (.iastore, nx, r1, r2, r3, li, v, sw) L st n w M = some (pc', L', st', n', w', M')) (S : zSt r fm D cA H0 X (tb y).2.1 ls H locs L n M)
    (kk : ∀ (ls' : Array Slot) (H' : Heap) (locs' : List Loc), zSt r fm D cA H0 X (tb y).2.1 ls' H' locs' L' n' M' → W p l e R s m args below meth c H' locs' (cells + (n' - n)) (slots + (w' - w)) Q (F0 m pc' ls' (st'.map (zv r fm)))) : W p l e R s m args below meth c H locs cells slots Q (F0 m pc ls (st.map (zv r fm))) := by
  obtain ⟨rfl, hd, h1⟩ := zdec1 (K := 1) h (by intro q; cases q) rfl (by decide)
  dsimp only [zst] at hz
  split at hz
  · rename_i x j a q
    unfold zast at hz
    split at hz
    · rename_i t len f hM
      split at hz
      · rename_i hc
        cases hz
        obtain ⟨rfl, hin⟩ := hc
        obtain ⟨ha1, ha2, hc⟩ := S.2.1.arr (U := s) C.2.2.2.2.2.1.2.2.2.2.2 hM (by decide)
        refine W.iast (g := F0 m pc ls _) C.1 C.2.1 hc (zof (t := 0) (by decide) C.2.2.2.2.2.1.1 _ _) (fun q => by cases q) (by show ¬ (_ ∨ (arrV _ _ _).slots.size ≤ _); rw [arrV_size]; exact zin_of hin) rfl rfl hd (fun H' e1 e2 e3 => ?_)
        have k1 := kk ls H' (locs ++ [⟨r a, j.toNatClampNeg⟩]) ⟨S.1, S.2.1.put C.2.2.2.2.2.2.2.2.2.1 ha1 ha2 (c := .inl (0, len, .inl (zuf f j.toNatClampNeg x))) ⟨by decide, e1.trans (by rw [zac_i, zac_i, arrV_store, zuf_int])⟩ e2 e3, zlocs C.2.2.2.2.2.2.2.2.2.1 S.2.2 ha1⟩
        rw [Nat.sub_self, Nat.sub_self, Nat.add_zero, Nat.add_zero] at k1
        exact k1
      · cases hz
    · cases hz
  · cases hz
theorem zi_bastore (C : zCx r fm D cA H0 X inf tb y d p R s m args meth c) (h : zchk inf tb ny y pc (.bastore, nx, r1, r2, r3, li, v, sw) = true) (hz : zst (.bastore, nx, r1, r2, r3, li, v, sw) L st n w M = some (pc', L', st', n', w', M')) (S : zSt r fm D cA H0 X (tb y).2.1 ls H locs L n M)
    (kk : ∀ (ls' : Array Slot) (H' : Heap) (locs' : List Loc), zSt r fm D cA H0 X (tb y).2.1 ls' H' locs' L' n' M' → W p l e R s m args below meth c H' locs' (cells + (n' - n)) (slots + (w' - w)) Q (F0 m pc' ls' (st'.map (zv r fm)))) : W p l e R s m args below meth c H locs cells slots Q (F0 m pc ls (st.map (zv r fm))) := by
  obtain ⟨rfl, hd, h1⟩ := zdec1 (K := 1) h (by intro q; cases q) rfl (by decide)
  dsimp only [zst] at hz
  split at hz
  · rename_i x j a q
    unfold zbst at hz
    split at hz
    · rename_i len f hM
      split at hz
      · rename_i hin
        cases hz
        obtain ⟨ha1, ha2, hc⟩ := S.2.1.arr (U := s) C.2.2.2.2.2.1.2.2.2.2.2 hM (by decide)
        refine W.bast (g := F0 m pc ls _) C.1 C.2.1 hc (zof (t := 1) (by decide) C.2.2.2.2.2.1.1 _ _) (fun q => by cases q) (by show ¬ (_ ∨ (arrV _ _ _).slots.size ≤ _); rw [arrV_size]; exact zin_of hin) rfl rfl hd (fun H' e1 e2 e3 => ?_)
        have k1 := kk ls H' (locs ++ [⟨r a, j.toNatClampNeg⟩]) ⟨S.1, S.2.1.put C.2.2.2.2.2.2.2.2.2.1 ha1 ha2 (c := .inl (1, len, .inl (zuf f j.toNatClampNeg x.toInt8.toInt32))) ⟨by decide, e1.trans (by show some ((zac r cA 1 len (.inl f)).setSlot _ (.int x.toInt8.toInt32)) = _; rw [zac_i, zac_i, arrV_store, zuf_int])⟩ e2 e3, zlocs C.2.2.2.2.2.2.2.2.2.1 S.2.2 ha1⟩
        rw [Nat.sub_self, Nat.sub_self, Nat.add_zero, Nat.add_zero] at k1
        exact k1
      · cases hz
    · rename_i len f hM
      split at hz
      · rename_i hin
        cases hz
        obtain ⟨ha1, ha2, hc⟩ := S.2.1.arr (U := s) C.2.2.2.2.2.1.2.2.2.2.2 hM (by decide)
        refine W.zast (g := F0 m pc ls _) C.1 C.2.1 hc (zof (t := 2) (by decide) C.2.2.2.2.2.1.1 _ _) (fun q => by cases q) (by show ¬ (_ ∨ (arrV _ _ _).slots.size ≤ _); rw [arrV_size]; exact zin_of hin) rfl rfl hd (fun H' e1 e2 e3 => ?_)
        have k1 := kk ls H' (locs ++ [⟨r a, j.toNatClampNeg⟩]) ⟨S.1, S.2.1.put C.2.2.2.2.2.2.2.2.2.1 ha1 ha2 (c := .inl (2, len, .inl (zuf f j.toNatClampNeg (x &&& 1)))) ⟨by decide, e1.trans (by show some ((zac r cA 2 len (.inl f)).setSlot _ (.int (x &&& 1))) = _; rw [zac_i, zac_i, arrV_store, zuf_int])⟩ e2 e3, zlocs C.2.2.2.2.2.2.2.2.2.1 S.2.2 ha1⟩
        rw [Nat.sub_self, Nat.sub_self, Nat.add_zero, Nat.add_zero] at k1
        exact k1
      · cases hz
    · cases hz
  · cases hz
theorem zelt_ok {t ci : Nat} (h : ci = zelt t) {q : vw_C} (hq : zcl[ci]? = some q) : (t = 3 ∨ t = 4 ∨ t = 5 ∨ t = 6) ∧ zty t = .object q.1 := by
  subst h
  unfold zelt at hq
  split at hq
  · cases hq; exact ⟨by decide, rfl⟩
  · cases hq; exact ⟨by decide, rfl⟩
  · cases hq; exact ⟨by decide, rfl⟩
  · cases hq; exact ⟨by decide, rfl⟩
  · simp [zcl] at hq
theorem zi_aastore (C : zCx r fm D cA H0 X inf tb y d p R s m args meth c) (h : zchk inf tb ny y pc (.aastore, nx, r1, r2, r3, li, v, sw) = true) (hz : zst (.aastore, nx, r1, r2, r3, li, v, sw) L st n w M = some (pc', L', st', n', w', M')) (S : zSt r fm D cA H0 X (tb y).2.1 ls H locs L n M)
    (kk : ∀ (ls' : Array Slot) (H' : Heap) (locs' : List Loc), zSt r fm D cA H0 X (tb y).2.1 ls' H' locs' L' n' M' → W p l e R s m args below meth c H' locs' (cells + (n' - n)) (slots + (w' - w)) Q (F0 m pc' ls' (st'.map (zv r fm)))) : W p l e R s m args below meth c H locs cells slots Q (F0 m pc ls (st.map (zv r fm))) := by
  obtain ⟨rfl, hd, h1⟩ := zdec1 (K := 1) h (by intro q; cases q) rfl (by decide)
  dsimp only [zst] at hz
  split at hz
  · rename_i b j a q
    unfold zqst at hz
    split at hz
    · rename_i t len f ci vs hM hB
      split at hz
      · rename_i hc
        cases hz
        obtain ⟨ht, hci, hin⟩ := hc
        have hci2 : ∃ q : vw_C, zcl[ci]? = some q := by
          rw [hci]
          rcases ht with rfl | rfl | rfl | rfl <;> exact ⟨_, rfl⟩
        obtain ⟨g, hg⟩ := hci2
        obtain ⟨-, hty⟩ := zelt_ok hci hg
        obtain ⟨ht7, -⟩ := zref_ty ht
        obtain ⟨ha1, ha2, hc⟩ := S.2.1.arr (U := s) C.2.2.2.2.2.1.2.2.2.2.2 hM ht7
        obtain ⟨hb1, hb2, cellV, g1, g2, g3, -⟩ := S.2.1.obj (U := s) C.2.2.2.2.2.1.2.2.2.2.2 hB hg
        have hcls := (C.2.2.2.2.2.1.1.1 ci g hg).2
        obtain ⟨kA, comp, k1, k2, k3, -⟩ : va_RA s (cA t) (.object g.1) := by rw [← hty]; exact (C.2.2.2.2.2.1.1.2 t _ (ztys_at ht7)).2
        have hcomp : comp = D.1 ci := Option.some.inj (k3.symm.trans hcls.1)
        subst hcomp
        obtain ⟨kC, hkC, -⟩ := hcls.2
        refine W.aast (g := F0 m pc ls _) C.1 C.2.1 hc (fun q h => by cases h) (fun h => by cases h) k1 k2 rfl hkC ⟨hin.1, by show _ < (arrV _ _ _).slots.size; rw [arrV_size]; exact hin.2⟩ g1 (fun q h => by rw [g3] at h; cases h) (by rw [g2]; exact hkC) (by rw [g2]; exact va_assign hcls) rfl rfl hd (fun H' e1 e2 e3 => ?_)
        have k1 := kk ls H' (locs ++ [⟨r a, j.toNatClampNeg⟩]) ⟨S.1, S.2.1.put C.2.2.2.2.2.2.2.2.2.1 ha1 ha2 (c := .inl (t, len, .inr (zuf f j.toNatClampNeg (some b)))) ⟨ht7, e1.trans (by show some ((zac r cA t len (.inr f)).setSlot _ (va_rf ((some b).map r))) = _; rw [zac_q, zac_q, arrV_store, zuf_ref])⟩ e2 e3, zlocs C.2.2.2.2.2.2.2.2.2.1 S.2.2 ha1⟩
        rw [Nat.sub_self, Nat.sub_self, Nat.add_zero, Nat.add_zero] at k1
        exact k1
      · cases hz
    · cases hz
  · rename_i j a q
    unfold zqsn at hz
    split at hz
    · rename_i t len f hM
      split at hz
      · rename_i hc
        cases hz
        obtain ⟨ht, hin⟩ := hc
        obtain ⟨ht7, C1, hC1⟩ := zref_ty ht
        obtain ⟨ha1, ha2, hc⟩ := S.2.1.arr (U := s) C.2.2.2.2.2.1.2.2.2.2.2 hM ht7
        refine va_WaastN (g := F0 m pc ls _) (C := C1) C.1 C.2.1 hc (by rw [← hC1]; exact zof ht7 C.2.2.2.2.2.1.1 _ _) (fun h => by cases h) (by show ¬ (_ ∨ (arrV _ _ _).slots.size ≤ _); rw [arrV_size]; exact zin_of hin) rfl rfl hd (fun H' e1 e2 e3 => ?_)
        have k1 := kk ls H' (locs ++ [⟨r a, j.toNatClampNeg⟩]) ⟨S.1, S.2.1.put C.2.2.2.2.2.2.2.2.2.1 ha1 ha2 (c := .inl (t, len, .inr (zuf f j.toNatClampNeg none))) ⟨ht7, e1.trans (by show some ((zac r cA t len (.inr f)).setSlot _ (va_rf ((none : Option Nat).map r))) = _; rw [zac_q, zac_q, arrV_store, zuf_ref])⟩ e2 e3, zlocs C.2.2.2.2.2.2.2.2.2.1 S.2.2 ha1⟩
        rw [Nat.sub_self, Nat.sub_self, Nat.add_zero, Nat.add_zero] at k1
        exact k1
      · cases hz
    · cases hz
  · cases hz
end ZG

