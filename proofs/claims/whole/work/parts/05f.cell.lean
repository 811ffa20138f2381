/-! CONSTANTS, STATICS, SWITCHES, CELLS. -/
section ZF
variable {p : Program} {l : Launch} {e : Env} {R : Room} {s : State} {m : MethodId} {args : Array Value} {below : List Frame} {meth : Method} {c : Code} {H : Heap} {locs : List Loc} {cells slots : Nat} {Q : State → Prop}
variable {r : Nat → Nat} {fm : Value} {D : va_G} {cA : Nat → ClassId} {H0 : Heap} {X : Nat → zC} {inf : Nat → zinf} {tb : Nat → zMt} {ny y d : Nat}
variable {pc nx r1 r2 r3 li : Nat} {v : Value} {sw : List (Int32 × Nat)} {L L' : zL} {st st' : List Value} {n w n' w' pc' : Nat} {M M' : zM} {ls : Array Slot}
theorem zi_ldc {z : Nat} (C : zCx r fm D cA H0 X inf tb y d p R s m args meth c) (h : zchk inf tb ny y pc (.ldc z, nx, r1, r2, r3, li, v, sw) = true) (hz : zst (.ldc z, nx, r1, r2, r3, li, v, sw) L st n w M = some (pc', L', st', n', w', M')) (S : zSt r fm D cA H0 X (tb y).2.1 ls H locs L n M)
    (kk : ∀ (ls' : Array Slot) (H' : Heap) (locs' : List Loc), zSt r fm D cA H0 X (tb y).2.1 ls' H' locs' L' n' M' → W p l e R s m args below meth c H' locs' (cells + (n' - n)) (slots + (w' - w)) Q (F0 m pc' ls' (st'.map (zv r fm)))) : W p l e R s m args below meth c H locs cells slots Q (F0 m pc ls (st.map (zv r fm))) := by
  obtain ⟨rfl, hd, h1⟩ := zdec1 (K := 2) h (by intro q; cases q) rfl (by decide)
  dsimp only [zst] at hz
  cases hz
  have k1 := kk ls H locs S
  rw [Nat.sub_self, Nat.sub_self, Nat.add_zero, Nat.add_zero] at k1
  dsimp only [zch1] at h1
  split at h1
  · simp only [Bool.and_eq_true, decide_eq_true_eq] at h1
    obtain ⟨h2, rfl, h4⟩ := h1
    cases hq : zstrs[r1]? with
    | none => rw [hq] at h2; cases h2
    | some q =>
      rw [hq] at h2
      obtain ⟨q1, q2⟩ := q
      cases h2
      have h5 := C.2.2.2.2.2.1.2.2.2.2.1 r1 _ hq
      exact va_ldcS C.1 C.2.1 (by rw [← h4]; exact C.2.2.2.1) h5 hd k1
  · split at h1
    · simp only [zat1, decide_eq_true_eq] at h1
      exact lv_ldc C.1 C.2.1 C.2.2.2.1 (C.2.2.2.2.1 _ (ztbl_of h1 rfl)) hd k1
    · cases h1
theorem zi_ldc_w {z : Nat} (C : zCx r fm D cA H0 X inf tb y d p R s m args meth c) (h : zchk inf tb ny y pc (.ldc_w z, nx, r1, r2, r3, li, v, sw) = true) (hz : zst (.ldc_w z, nx, r1, r2, r3, li, v, sw) L st n w M = some (pc', L', st', n', w', M')) (S : zSt r fm D cA H0 X (tb y).2.1 ls H locs L n M)
    (kk : ∀ (ls' : Array Slot) (H' : Heap) (locs' : List Loc), zSt r fm D cA H0 X (tb y).2.1 ls' H' locs' L' n' M' → W p l e R s m args below meth c H' locs' (cells + (n' - n)) (slots + (w' - w)) Q (F0 m pc' ls' (st'.map (zv r fm)))) : W p l e R s m args below meth c H locs cells slots Q (F0 m pc ls (st.map (zv r fm))) := by
  obtain ⟨rfl, hd, h1⟩ := zdec1 (K := 3) h (by intro q; cases q) rfl (by decide)
  dsimp only [zst] at hz
  cases hz
  have k1 := kk ls H locs S
  rw [Nat.sub_self, Nat.sub_self, Nat.add_zero, Nat.add_zero] at k1
  dsimp only [zch1] at h1
  split at h1
  · simp only [zat1, decide_eq_true_eq] at h1
    exact lv_ldcw C.1 C.2.1 C.2.2.2.1 (C.2.2.2.2.1 _ (ztbl_of h1 rfl)) hd k1
  · cases h1
theorem zi_ldc2_w {z : Nat} (C : zCx r fm D cA H0 X inf tb y d p R s m args meth c) (h : zchk inf tb ny y pc (.ldc2_w z, nx, r1, r2, r3, li, v, sw) = true) (hz : zst (.ldc2_w z, nx, r1, r2, r3, li, v, sw) L st n w M = some (pc', L', st', n', w', M')) (S : zSt r fm D cA H0 X (tb y).2.1 ls H locs L n M)
    (kk : ∀ (ls' : Array Slot) (H' : Heap) (locs' : List Loc), zSt r fm D cA H0 X (tb y).2.1 ls' H' locs' L' n' M' → W p l e R s m args below meth c H' locs' (cells + (n' - n)) (slots + (w' - w)) Q (F0 m pc' ls' (st'.map (zv r fm)))) : W p l e R s m args below meth c H locs cells slots Q (F0 m pc ls (st.map (zv r fm))) := by
  obtain ⟨rfl, hd, h1⟩ := zdec1 (K := 3) h (by intro q; cases q) rfl (by decide)
  dsimp only [zst] at hz
  cases hz
  have k1 := kk ls H locs S
  rw [Nat.sub_self, Nat.sub_self, Nat.add_zero, Nat.add_zero] at k1
  dsimp only [zch1] at h1
  split at h1
  · simp only [zat1, decide_eq_true_eq] at h1
    exact lv_ldc2 C.1 C.2.1 C.2.2.2.1 (C.2.2.2.2.1 _ (ztbl_of h1 rfl)) hd k1
  · cases h1
theorem zi_getstatic {z : Nat} (C : zCx r fm D cA H0 X inf tb y d p R s m args meth c) (h : zchk inf tb ny y pc (.getstatic z, nx, r1, r2, r3, li, v, sw) = true) (hz : zst (.getstatic z, nx, r1, r2, r3, li, v, sw) L st n w M = some (pc', L', st', n', w', M')) (S : zSt r fm D cA H0 X (tb y).2.1 ls H locs L n M)
    (kk : ∀ (ls' : Array Slot) (H' : Heap) (locs' : List Loc), zSt r fm D cA H0 X (tb y).2.1 ls' H' locs' L' n' M' → W p l e R s m args below meth c H' locs' (cells + (n' - n)) (slots + (w' - w)) Q (F0 m pc' ls' (st'.map (zv r fm)))) : W p l e R s m args below meth c H locs cells slots Q (F0 m pc ls (st.map (zv r fm))) := by
  obtain ⟨rfl, hd, h1⟩ := zdec1 (K := 3) h (by intro q; cases q) rfl (by decide)
  dsimp only [zst] at hz
  cases hz
  have k1 := kk ls H locs S
  rw [Nat.sub_self, Nat.sub_self, Nat.add_zero, Nat.add_zero] at k1
  dsimp only [zch1] at h1
  split at h1
  · rename_i q hq
    simp only [Bool.and_eq_true, decide_eq_true_eq] at h1
    obtain ⟨rfl, h2⟩ := h1
    obtain ⟨cf, kf, fi, f, a, cell, g1, g2, g3, g4, g5, g6, g7, g8⟩ := C.2.2.2.2.2.1.2.2.2.1 q (List.mem_of_getElem? hq)
    have g5' : H[a]? = some cell := by rw [S.2.1.2.2.1 a (Array.getElem?_eq_some_iff.mp g5).1]; exact g5
    have g6' : cell.vm ≠ .unknown := fun e => by rw [e] at g6; cases g6
    split at h2
    · simp only [zat1, decide_eq_true_eq] at h2
      exact W.gets (g := F0 m pc ls (st.map (zv r fm))) C.1 C.2.1 C.2.2.2.1 (C.2.2.2.2.1 _ (ztbl_of h2 rfl)) g1 g2 g3 g4 g5' g6' g7 rfl hd k1
    · simp only [zat1, decide_eq_true_eq] at h2
      exact va_WgetsN (g := F0 m pc ls (st.map (zv r fm))) C.1 C.2.1 C.2.2.2.1 (va_Nw.use (A := args) rfl (C.2.2.2.2.2.1.2.2.1 _ (znst_of h2 rfl))) g1 g2 g3 g4 g5' g6' g7 rfl hd k1
  · cases h1
theorem zlk_ok {pc r1 : Nat} {d : Int} (hd : (pc : Int) + d = (r1 : Int)) (x : Int32) : ∀ (ps : List (Int × Int)) (sw : List (Int32 × Nat)), zlk pc ps sw = true → (pc : Int) + Op.lookupswitch.offset ps d x.toInt = ((zsw x sw r1 : Nat) : Int)
  | [], [], _ => hd
  | [], _ :: _, h => by cases h
  | _ :: _, [], h => by cases h
  | (a, o) :: ps, (k, t) :: sw, h => by
    simp only [zlk, Bool.and_eq_true, decide_eq_true_eq] at h
    obtain ⟨h1, h2, h3⟩ := h
    unfold zsw
    by_cases hx : x = k
    · subst hx
      rw [if_pos rfl, ← h2]
      congr 1
      simp [Op.lookupswitch.offset, h1]
    · rw [if_neg hx, lv_osw hx h1]
      exact zlk_ok hd x ps sw h3
theorem ztk_out {pc : Nat} {x : Int32} {r1 : Nat} : ∀ (lo : Int) (os : List Int) (sw : List (Int32 × Nat)), ztk pc lo os sw = true → (x.toInt < lo ∨ lo + os.length ≤ x.toInt) → zsw x sw r1 = r1
  | _, [], [], _, _ => rfl
  | _, [], _ :: _, h, _ => by cases h
  | _, _ :: _, [], h, _ => by cases h
  | lo, o :: os, (k, t) :: sw, h, hx => by
    simp only [ztk, Bool.and_eq_true, decide_eq_true_eq] at h
    obtain ⟨h1, h2, h3⟩ := h
    have hl : (o :: os).length = os.length + 1 := rfl
    rw [hl] at hx
    unfold zsw
    rw [if_neg (by rintro rfl; rw [h1] at hx; omega)]
    exact ztk_out (lo + 1) os sw h3 (by omega)
theorem ztk_in {pc : Nat} {x : Int32} {r1 : Nat} : ∀ (lo : Int) (os : List Int) (sw : List (Int32 × Nat)), ztk pc lo os sw = true → lo ≤ x.toInt → x.toInt < lo + os.length → ∃ off, os[(x.toInt - lo).toNat]? = some off ∧ (pc : Int) + off = ((zsw x sw r1 : Nat) : Int)
  | lo, [], _, _, h1, h2 => by
    have : ((([] : List Int).length : Nat) : Int) = 0 := rfl
    omega
  | _, _ :: _, [], h, _, _ => by cases h
  | lo, o :: os, (k, t) :: sw, h, hx1, hx2 => by
    simp only [ztk, Bool.and_eq_true, decide_eq_true_eq] at h
    obtain ⟨h1, h2, h3⟩ := h
    have hl : (o :: os).length = os.length + 1 := rfl
    rw [hl] at hx2
    unfold zsw
    by_cases hx : x = k
    · subst hx
      refine ⟨o, ?_, by rw [if_pos rfl]; exact h2⟩
      rw [h1, Int.sub_self]
      rfl
    · have hne : ¬ x.toInt = lo := fun q => hx (Int32.toInt_inj.mp (q.trans h1.symm))
      obtain ⟨off, g1, g2⟩ := ztk_in (x := x) (r1 := r1) (lo + 1) os sw h3 (by omega) (by omega)
      refine ⟨off, ?_, by rw [if_neg hx]; exact g2⟩
      have : (x.toInt - lo).toNat = (x.toInt - (lo + 1)).toNat + 1 := by omega
      rw [this]
      exact g1
theorem zi_lookupswitch {z : Int} {zs : Array (Int × Int)} (C : zCx r fm D cA H0 X inf tb y d p R s m args meth c) (h : zchk inf tb ny y pc (.lookupswitch z zs, nx, r1, r2, r3, li, v, sw) = true) (hz : zst (.lookupswitch z zs, nx, r1, r2, r3, li, v, sw) L st n w M = some (pc', L', st', n', w', M')) (S : zSt r fm D cA H0 X (tb y).2.1 ls H locs L n M)
    (kk : ∀ (ls' : Array Slot) (H' : Heap) (locs' : List Loc), zSt r fm D cA H0 X (tb y).2.1 ls' H' locs' L' n' M' → W p l e R s m args below meth c H' locs' (cells + (n' - n)) (slots + (w' - w)) Q (F0 m pc' ls' (st'.map (zv r fm)))) : W p l e R s m args below meth c H locs cells slots Q (F0 m pc ls (st.map (zv r fm))) := by
  obtain ⟨hlt, hd, -, h1⟩ := zchk_dec h (by intro q; cases q)
  dsimp only at hlt hd
  dsimp only [zst] at hz
  simp only [zch1, Bool.and_eq_true, decide_eq_true_eq] at h1
  obtain ⟨h2, h3, h4⟩ := h1
  split at hz
  · cases hz
    have k1 := kk ls H locs S
    rw [Nat.sub_self, Nat.sub_self, Nat.add_zero, Nat.add_zero] at k1
    exact lv_lookup C.1 C.2.1 hd h3 rfl (zlk_ok h2 _ _ _ h4) k1
  · cases hz
theorem zi_tableswitch {z lo hi : Int} {zs : Array Int} (C : zCx r fm D cA H0 X inf tb y d p R s m args meth c) (h : zchk inf tb ny y pc (.tableswitch z lo hi zs, nx, r1, r2, r3, li, v, sw) = true) (hz : zst (.tableswitch z lo hi zs, nx, r1, r2, r3, li, v, sw) L st n w M = some (pc', L', st', n', w', M')) (S : zSt r fm D cA H0 X (tb y).2.1 ls H locs L n M)
    (kk : ∀ (ls' : Array Slot) (H' : Heap) (locs' : List Loc), zSt r fm D cA H0 X (tb y).2.1 ls' H' locs' L' n' M' → W p l e R s m args below meth c H' locs' (cells + (n' - n)) (slots + (w' - w)) Q (F0 m pc' ls' (st'.map (zv r fm)))) : W p l e R s m args below meth c H locs cells slots Q (F0 m pc ls (st.map (zv r fm))) := by
  obtain ⟨hlt, hd, -, h1⟩ := zchk_dec h (by intro q; cases q)
  dsimp only at hlt hd
  dsimp only [zst] at hz
  simp only [zch1, Bool.and_eq_true, decide_eq_true_eq] at h1
  obtain ⟨h2, h3, h4⟩ := h1
  split at hz
  · rename_i x q
    cases hz
    have k1 := kk ls H locs S
    rw [Nat.sub_self, Nat.sub_self, Nat.add_zero, Nat.add_zero] at k1
    by_cases hx : x.toInt < lo ∨ hi < x.toInt
    · rw [ztk_out lo _ _ h4 (by omega)] at k1
      exact lv_tableOut C.1 C.2.1 hd hx h2 k1
    · obtain ⟨off, g1, g2⟩ := ztk_in (r1 := r1) lo _ _ h4 (x := x) (by omega) (by omega)
      exact lv_tableIn C.1 C.2.1 hd (by omega) (by omega) (by simpa using g1) g2 k1
  · cases hz
theorem zfld_spec {ci k : Nat} {q : String × String × String × Bool} (h : zfld ci k = some q) : ∃ g : vw_C, zcl[ci]? = some g ∧ k < g.2.2 ∧ g.2.1 k = q := by
  unfold zfld at h
  split at h
  · rename_i g hg
    split at h
    · rename_i hk
      cases h
      exact ⟨g, hg, hk, rfl⟩
    · cases h
  · cases h
theorem beq_of_beq {a b : Nat} (h : Nat.beq a b = true) : a = b := Nat.eq_of_beq_eq_true h
theorem zi_getfield {z : Nat} (C : zCx r fm D cA H0 X inf tb y d p R s m args meth c) (h : zchk inf tb ny y pc (.getfield z, nx, r1, r2, r3, li, v, sw) = true) (hz : zst (.getfield z, nx, r1, r2, r3, li, v, sw) L st n w M = some (pc', L', st', n', w', M')) (S : zSt r fm D cA H0 X (tb y).2.1 ls H locs L n M)
    (kk : ∀ (ls' : Array Slot) (H' : Heap) (locs' : List Loc), zSt r fm D cA H0 X (tb y).2.1 ls' H' locs' L' n' M' → W p l e R s m args below meth c H' locs' (cells + (n' - n)) (slots + (w' - w)) Q (F0 m pc' ls' (st'.map (zv r fm)))) : W p l e R s m args below meth c H locs cells slots Q (F0 m pc ls (st.map (zv r fm))) := by
  obtain ⟨rfl, hd, h1⟩ := zdec1 (K := 3) h (by intro q; cases q) rfl (by decide)
  dsimp only [zst] at hz
  split at hz
  · rename_i a q
    unfold zgf at hz
    split at hz
    · rename_i ci fs hM
      cases hb : Nat.beq ci r1 with
      | false => rw [hb] at hz; cases hz
      | true =>
        rw [hb, cond_true] at hz
        cases beq_of_beq hb
        split at hz
        · rename_i u hu
          cases hz
          have k1 := kk ls H locs S
          rw [Nat.sub_self, Nat.sub_self, Nat.add_zero, Nat.add_zero] at k1
          dsimp only [zch1] at h1
          split at h1
          · rename_i h13
            subst h13
            have hX := S.2.1.look (U := s) C.2.2.2.2.2.1.2.2.2.2.2 a
            rw [hM] at hX
            rcases hX with hX | ⟨-, -, hX⟩ | hX
            · unfold zext at hX
              split at hX
              · rename_i heq
                cases heq
              · rename_i heq
                cases heq
                obtain ⟨x1, x2, x3⟩ := hX
                split at h1
                · rename_i h0
                  subst h0
                  cases hu
                  simp only [zat1, decide_eq_true_eq] at h1
                  obtain ⟨cf, k, fi, f, cell, e1, e2, e3, e4, e5, -⟩ := x3
                  exact W.getf (g := F0 m pc ls _) C.1 C.2.1 C.2.2.2.1 (C.2.2.2.2.1 _ (ztbl_of h1 rfl)) e1 e2 (by rw [S.2.1.2.2.1 _ (Array.getElem?_eq_some_iff.mp e3).1]; exact e3) e4 e5 rfl rfl hd k1
                · simp only [zat1, Bool.and_eq_true, decide_eq_true_eq] at h1
                  obtain ⟨h0, h1⟩ := h1
                  subst h0
                  cases hu
                  obtain ⟨cf, k, fi, f, cell, e1, e2, e3, e4, e5, -⟩ := x2
                  exact W.getf (g := F0 m pc ls _) C.1 C.2.1 C.2.2.2.1 (C.2.2.2.2.1 _ (ztbl_of h1 rfl)) e1 e2 (by rw [S.2.1.2.2.1 _ (Array.getElem?_eq_some_iff.mp e3).1]; exact e3) e4 e5 rfl rfl hd k1
              · exact hX.elim
            · obtain ⟨q', g1, -⟩ := hX
              simp [zcl] at g1
            · cases hX
          · split at h1
            · rename_i q0 hq0
              obtain ⟨g, hg, hk, rfl⟩ := zfld_spec hq0
              obtain ⟨ty, o1, -⟩ := zok_all _ _ hg
              simp only [zat1, decide_eq_true_eq] at h1
              obtain ⟨-, -, cell, q1, q2, q3, q4⟩ := S.2.1.obj (U := s) C.2.2.2.2.2.1.2.2.2.2.2 hM hg
              obtain ⟨hS, hfc, kC, hkC, hkind⟩ := C.2.2.2.2.2.1.1.1 _ _ hg
              obtain ⟨cf, kf, fi, f, hi, hsl⟩ := hS _ hk
              refine W.getf (g := F0 m pc ls _) C.1 C.2.1 C.2.2.2.1 (C.2.2.2.2.1 _ (ztbl_of h1 rfl)) hi (u_facts hfc hkC (u_lays C.2.2.2.2.1 (zlay_in o1) hk) hi).1 q1 (by rw [q3]; exact fun h => by cases h) (v := zv r fm u) ?_ rfl rfl hd k1
              rw [hsl, q4 _ hk]
              simp [vp_V, List.getD_eq_getElem?_getD, zfg_map fs r2 u hu]
            · cases h1
        · cases hz
    · cases hz
  · cases hz
end ZF

