/-! SOUNDNESS: a run of the abstract machine is a way of the real one. -/
section ZK9
variable {p : Program} {l : Launch} {e : Env} {R : Room} {s : State} {m : MethodId} {args : Array Value} {below : List Frame} {meth : Method} {c : Code} {H : Heap} {locs : List Loc} {cells slots : Nat} {Q : State → Prop}
variable {r : Nat → Nat} {fm : Value} {D : va_G} {cA : Nat → ClassId} {H0 : Heap} {X : Nat → zC} {inf : Nat → zinf} {tb : Nat → zMt} {ny y d : Nat} {pc : Nat} {ls : Array Slot} {st : List Value}
theorem zi_call {e0 : zI} {L : zL} {n w n1 w1 y' : Nat} {M M1 : zM} {v : Option Value} {as q : List Value} (hA : zall inf tb ny) (C : zCx r fm D cA H0 X inf tb y (d + 1) p R s m args meth c) (h : zchk inf tb ny y pc e0 = true) (hz : zcall e0 st M = some (y', as, q)) (hdp : Nat.ble (zdp as) (tb y').2.1 = true) (S : zSt r fm D cA H0 X (tb y).2.1 ls H locs L n M) (hR : cells + (n1 - n) ≤ R.cells ∧ slots + (w1 - w) ≤ R.slots)
    (hM : Met l (inf y').1 (zws inf tb y') (zrm d (n1 - n) (w1 - w)) (zPc r fm D cA H0 X as n M) (zQc r fm D cA H0 X v n1 M1) (n1 - n) (w1 - w) (fun q => H0.size ≤ q))
    (kk : ∀ (H1 : Heap) (locs1 : List Loc), zH r fm D cA H0 X H1 n1 M1 → (∀ q ∈ locs1, H0.size ≤ q.base) → W p l e R s m args below meth c H1 locs1 (cells + (n1 - n)) (slots + (w1 - w)) Q (F0 m e0.2.1 ls ((v.toList ++ q).map (zv r fm)))) : W p l e R s m args below meth c H locs cells slots Q (F0 m pc ls (st.map (zv r fm))) := by
  obtain ⟨i, nx, r1, r2, r3, li, v0, sw⟩ := e0
  have hfr := C.2.2.2.2.2.2.2.1
  have hlo := C.2.2.2.2.2.2.2.2.1
  have hpre : ∀ U : State, U.heap = H → s.WarmedH U.vm → zPc r fm D cA H0 X as n M (as.map (zv r fm)).toArray U := fun U hU hW => ⟨rfl, by rw [hU]; exact S.2.1, C.2.2.2.2.2.1.warm hW⟩
  have hS5 : CallFix p m c (inf y).2.1 (tb y).2.1 s args ztbl (inf y).1.cls := ⟨C.1, C.2.1, C.2.2.1, C.2.2.2.1, C.2.2.2.2.1⟩
  have hsz : ls.size = (tb y).2.1 := S.1.1
  have room : ∀ t : Nat, t ≤ 40 → (zrm d (n1 - n) (w1 - w)).frames + 1 ≤ R.frames ∧ 8 + (t + 11) + (zrm d (n1 - n) (w1 - w)).locals ≤ R.locals := fun t ht => by
    show d + 1 + 1 ≤ R.frames ∧ 8 + (t + 11) + (d + 1) * 64 ≤ R.locals
    omega
  cases i
  case invokestatic z =>
    obtain ⟨rfl, hd, h1⟩ := zdec1 (K := 3) h (by intro q; cases q) rfl (by decide)
    dsimp only [zcall] at hz
    split at hz
    · rename_i as' q' hpop
      cases hb : (Nat.ble r3 6 && Nat.ble (zdp q') 8) with
      | false => rw [hb] at hz; cases hz
      | true =>
        rw [hb] at hz
        cases hz
        simp only [Bool.and_eq_true] at hb
        have h36 := Nat.le_of_ble_eq_true hb.1
        have hq8 := Nat.le_of_ble_eq_true hb.2
        obtain ⟨hst, hlen⟩ := zpop_eq hpop
        dsimp only [zch1] at h1
        rw [if_neg (by omega)] at h1
        simp only [Bool.and_eq_true, decide_eq_true_eq] at h1
        obtain ⟨hy', h3, h4, h5, h6⟩ := h1
        have h5 : Cond.static (inf y').1 ∈ lw_tbl := by
          have := hA.2.1 y' hy'
          unfold zkm at this
          rw [h5] at this
          exact zat1_mem this
        have hm := hA.1 y' hy'
        obtain ⟨w1', w2, w3, w4, w5, w6⟩ := zmth_spec hm
        have hstk : st.map (zv r fm) = (as.map (zv r fm)).reverse ++ q.map (zv r fm) := by rw [hst, List.map_append, List.map_reverse]
        have hl9 : (as.map (zv r fm)).length = r2 := by rw [List.length_map]; exact hlen
        unfold zcw at h4
        rw [hstk]
        split at h4
        · simp only [zat1, decide_eq_true_eq] at h4
          refine zgo (va_runS (g := F0 m pc ls _) (As := as.map (zv r fm)) (rest := q.map (zv r fm)) hS5 hM ⟨callB_of r2 C.2.2.2.2.1 (zgood hm) rfl rfl rfl (C.2.2.2.2.1 _ (ztbl_in w2 rfl)) (C.2.2.2.2.1 _ (ztbl_of h4 rfl)) ⟨w4.1, w4.2, h6⟩ (room _ w5), C.2.2.2.2.1 _ (ztbl_in h5 rfl)⟩ ⟨zblind, hpre⟩ rfl hl9 hsz rfl (by rw [zdp_map C.2.2.2.2.2.2.2.2.2.2]; show 2 * 0 + _ ≤ 8; omega) hd hR) S.2.2 (fun H1 locs1 g1 g2 => ?_)
          rw [ztoList]
          exact kk H1 locs1 g1 g2
        · simp only [zat1, decide_eq_true_eq] at h4
          refine zgo (va_runSN (g := F0 m pc ls _) (As := as.map (zv r fm)) (rest := q.map (zv r fm)) hS5 hM ⟨va_cnB r2 C.2.2.2.2.1 (zgood hm) rfl rfl rfl (C.2.2.2.2.2.1.2.2.1 _ (znst_of h4 rfl)) (C.2.2.2.2.1 _ (ztbl_in w2 rfl)) ⟨w4.1, w4.2, h6⟩ (room _ w5), C.2.2.2.2.1 _ (ztbl_in h5 rfl), trivial⟩ ⟨zblind, hpre⟩ rfl hl9 hsz rfl (by rw [zdp_map C.2.2.2.2.2.2.2.2.2.2]; show 2 * 0 + _ ≤ 8; omega) hd hR) S.2.2 (fun H1 locs1 g1 g2 => ?_)
          rw [ztoList]
          exact kk H1 locs1 g1 g2
    · cases hz
  case invokespecial z =>
    obtain ⟨rfl, hd, h1⟩ := zdec1 (K := 3) h (by intro q; cases q) rfl (by decide)
    dsimp only [zcall] at hz
    split at hz
    · rename_i a as' q' hpop
      cases hb : (Nat.ble r3 6 && Nat.ble (zdp q') 8) with
      | false => rw [hb] at hz; cases hz
      | true =>
        rw [hb] at hz
        cases hz
        simp only [Bool.and_eq_true] at hb
        have h36 := Nat.le_of_ble_eq_true hb.1
        have hq8 := Nat.le_of_ble_eq_true hb.2
        obtain ⟨hst, hlen⟩ := zpop_eq hpop
        dsimp only [zch1] at h1
        rw [if_neg (by omega)] at h1
        simp only [Bool.and_eq_true, decide_eq_true_eq] at h1
        obtain ⟨hy', h3, h4, h5, h7, h8⟩ := h1
        obtain ⟨h5, h6⟩ : (inf y').1.name = "<init>" ∧ Cond.instanceMethod (inf y').1 ∈ lw_tbl := by
          have := hA.2.1 y' hy'
          unfold zkm at this
          rw [h5] at this
          simp only [Bool.and_eq_true, decide_eq_true_eq] at this
          exact ⟨this.1, zat1_mem this.2⟩
        have hm := hA.1 y' hy'
        obtain ⟨w1', w2, w3, w4, w5, w6⟩ := zmth_spec hm
        have hstk : st.map (zv r fm) = (as'.map (zv r fm)).reverse ++ .ref (r a) :: q.map (zv r fm) := by rw [hst]; simp [zv]
        have hl9 : (as'.map (zv r fm)).length = r2 := by
          rw [List.length_map]
          have : (Value.ref a :: as').length = as'.length + 1 := rfl
          omega
        have hws : zws inf tb y' = Cond.code (inf y').1 (inf y').2.1 (tb y').2.1 none :: ztbl := by unfold zws; rw [h8]
        unfold zcw at h4
        rw [hstk]
        split at h4
        · simp only [zat1, decide_eq_true_eq] at h4
          refine zgo (va_runI (g := F0 m pc ls _) (As := as'.map (zv r fm)) (rest := q.map (zv r fm)) (b := r a) hS5 hM ⟨callB_of r2 C.2.2.2.2.1 (zgood hm) hws rfl rfl (C.2.2.2.2.1 _ (ztbl_in w2 rfl)) (C.2.2.2.2.1 _ (ztbl_of h4 rfl)) ⟨w4.1, w4.2, h7⟩ (room _ w5), h5, C.2.2.2.2.1 _ (ztbl_in h6 rfl)⟩ ⟨zblind, hpre⟩ rfl hl9 hsz rfl (by rw [zdp_map C.2.2.2.2.2.2.2.2.2.2]; show 2 * 0 + _ ≤ 8; omega) hd hR) S.2.2 (fun H1 locs1 g1 g2 => ?_)
          rw [ztoList]
          exact kk H1 locs1 g1 g2
        · simp only [zat1, decide_eq_true_eq] at h4
          refine zgo (va_runIN (g := F0 m pc ls _) (As := as'.map (zv r fm)) (rest := q.map (zv r fm)) (b := r a) hS5 hM ⟨va_cnB r2 C.2.2.2.2.1 (zgood hm) hws rfl rfl (C.2.2.2.2.2.1.2.2.1 _ (znst_of h4 rfl)) (C.2.2.2.2.1 _ (ztbl_in w2 rfl)) ⟨w4.1, w4.2, h7⟩ (room _ w5), h5, C.2.2.2.2.1 _ (ztbl_in h6 rfl)⟩ ⟨zblind, hpre⟩ rfl hl9 hsz rfl (by rw [zdp_map C.2.2.2.2.2.2.2.2.2.2]; show 2 * 0 + _ ≤ 8; omega) hd hR) S.2.2 (fun H1 locs1 g1 g2 => ?_)
          rw [ztoList]
          exact kk H1 locs1 g1 g2
    · cases hz
  case invokevirtual z =>
    obtain ⟨rfl, hd, h1⟩ := zdec1 (K := 3) h (by intro q; cases q) rfl (by decide)
    dsimp only [zcall] at hz
    split at hz
    · rename_i pr hpop
      cases h36 : Nat.ble r3 6 with
      | false => rw [h36] at hz; cases hz
      | true =>
        rw [h36, cond_true] at hz
        have h36 := Nat.le_of_ble_eq_true h36
        unfold zcv at hz
        split at hz
        · rename_i a as' q'
          split at hz
          · rename_i ci fs cc hMa
            cases hb : (Nat.beq ci cc && Nat.ble (zdp q') 8) with
            | false => rw [hb] at hz; cases hz
            | true =>
              rw [hb] at hz
              cases hz
              simp only [Bool.and_eq_true] at hb
              have hcc := Nat.eq_of_beq_eq_true hb.1
              have hq8 := Nat.le_of_ble_eq_true hb.2
              obtain ⟨hst, hlen⟩ := zpop_eq hpop
              dsimp only [zch1] at h1
              rw [if_neg (by omega)] at h1
              simp only [Bool.and_eq_true, decide_eq_true_eq] at h1
              obtain ⟨hy', h3, h4, h5, h6, h7⟩ := h1
              obtain ⟨h9, h7⟩ := h7
              obtain ⟨h7, h8⟩ : Cond.instanceMethod (inf y').1 ∈ lw_tbl ∧ Cond.selects (zcls cc) (inf y').1 (inf y').1 ∈ lw_tbl := by
                have := hA.2.1 y' hy'
                unfold zkm at this
                rw [h7, h9] at this
                simp only [Bool.and_eq_true] at this
                exact ⟨zat1_mem this.1, zat1_mem this.2⟩
              have hm := hA.1 y' hy'
              obtain ⟨w1', w2, w3, w4, w5, w6⟩ := zmth_spec hm
              have hstk : st.map (zv r fm) = (as'.map (zv r fm)).reverse ++ .ref (r a) :: q.map (zv r fm) := by rw [hst]; simp [zv]
              have hl9 : (as'.map (zv r fm)).length = r2 := by
                rw [List.length_map]
                have : (Value.ref a :: as').length = as'.length + 1 := rfl
                omega
              have hrc := zcls_recv (L := L) C.2.2.2.2.2.1 S.2.1 hMa hcc h6
              unfold zcw at h4
              rw [hstk]
              split at h4
              · simp only [zat1, decide_eq_true_eq] at h4
                refine zgo (va_runV (g := F0 m pc ls _) (As := as'.map (zv r fm)) (rest := q.map (zv r fm)) (b := r a) (C := zcls cc) hS5 hM ⟨callB_of r2 C.2.2.2.2.1 (zgood hm) rfl rfl rfl (C.2.2.2.2.1 _ (ztbl_in w2 rfl)) (C.2.2.2.2.1 _ (ztbl_of h4 rfl)) ⟨w4.1, w4.2, h5⟩ (room _ w5), C.2.2.2.2.1 _ (ztbl_in h7 rfl), C.2.2.2.2.1 _ (ztbl_in h8 rfl)⟩ ⟨zblind, hrc, hpre⟩ rfl hl9 hsz rfl (by rw [zdp_map C.2.2.2.2.2.2.2.2.2.2]; show 2 * 0 + _ ≤ 8; omega) hd hR) S.2.2 (fun H1 locs1 g1 g2 => ?_)
                rw [ztoList]
                exact kk H1 locs1 g1 g2
              · simp only [zat1, decide_eq_true_eq] at h4
                refine zgo (va_runVN (g := F0 m pc ls _) (As := as'.map (zv r fm)) (rest := q.map (zv r fm)) (b := r a) (C := zcls cc) hS5 hM ⟨va_cnB r2 C.2.2.2.2.1 (zgood hm) rfl rfl rfl (C.2.2.2.2.2.1.2.2.1 _ (znst_of h4 rfl)) (C.2.2.2.2.1 _ (ztbl_in w2 rfl)) ⟨w4.1, w4.2, h5⟩ (room _ w5), C.2.2.2.2.1 _ (ztbl_in h7 rfl), C.2.2.2.2.1 _ (ztbl_in h8 rfl)⟩ ⟨zblind, hrc, hpre⟩ rfl hl9 hsz rfl (by rw [zdp_map C.2.2.2.2.2.2.2.2.2.2]; show 2 * 0 + _ ≤ 8; omega) hd hR) S.2.2 (fun H1 locs1 g1 g2 => ?_)
                rw [ztoList]
                exact kk H1 locs1 g1 g2
          · cases hz
        · cases hz
    · cases hz
  all_goals (exfalso; dsimp only [zcall] at hz; cases hz)
theorem zcall_lt {e0 : zI} {M : zM} {y' : Nat} {as q : List Value} (h : zchk inf tb ny y pc e0 = true) (hz : zcall e0 st M = some (y', as, q)) : y' < ny := by
  obtain ⟨i, nx, r1, r2, r3, li, v0, sw⟩ := e0
  cases i
  case invokestatic z =>
    obtain ⟨rfl, hd, h1⟩ := zdec1 (K := 3) h (by intro q; cases q) rfl (by decide)
    dsimp only [zcall] at hz
    split at hz
    · rename_i as' q' hpop
      cases hb : (Nat.ble r3 6 && Nat.ble (zdp q') 8) with
      | false => rw [hb] at hz; cases hz
      | true =>
        rw [hb] at hz
        cases hz
        simp only [Bool.and_eq_true] at hb
        have h36 := Nat.le_of_ble_eq_true hb.1
        dsimp only [zch1] at h1
        rw [if_neg (by omega)] at h1
        simp only [Bool.and_eq_true, decide_eq_true_eq] at h1
        exact h1.1
    · cases hz
  case invokespecial z =>
    obtain ⟨rfl, hd, h1⟩ := zdec1 (K := 3) h (by intro q; cases q) rfl (by decide)
    dsimp only [zcall] at hz
    split at hz
    · rename_i a as' q' hpop
      cases hb : (Nat.ble r3 6 && Nat.ble (zdp q') 8) with
      | false => rw [hb] at hz; cases hz
      | true =>
        rw [hb] at hz
        cases hz
        simp only [Bool.and_eq_true] at hb
        have h36 := Nat.le_of_ble_eq_true hb.1
        dsimp only [zch1] at h1
        rw [if_neg (by omega)] at h1
        simp only [Bool.and_eq_true, decide_eq_true_eq] at h1
        exact h1.1
    · cases hz
  case invokevirtual z =>
    obtain ⟨rfl, hd, h1⟩ := zdec1 (K := 3) h (by intro q; cases q) rfl (by decide)
    dsimp only [zcall] at hz
    split at hz
    · rename_i pr hpop
      cases h36 : Nat.ble r3 6 with
      | false => rw [h36] at hz; cases hz
      | true =>
        rw [h36, cond_true] at hz
        have h36 := Nat.le_of_ble_eq_true h36
        unfold zcv at hz
        split at hz
        · rename_i a as' q'
          split at hz
          · rename_i ci fs cc hMa
            cases hb : (Nat.beq ci cc && Nat.ble (zdp q') 8) with
            | false => rw [hb] at hz; cases hz
            | true =>
              rw [hb] at hz
              cases hz
              dsimp only [zch1] at h1
              rw [if_neg (by omega)] at h1
              simp only [Bool.and_eq_true, decide_eq_true_eq] at h1
              exact h1.1
          · cases hz
        · cases hz
    · cases hz
  all_goals (exfalso; dsimp only [zcall] at hz; cases hz)
end ZK9
theorem zsound {l : Launch} {r : Nat → Nat} {fm : Value} {D : va_G} {cA : Nat → ClassId} {H0 : Heap} {X : Nat → zC} {inf : Nat → zinf} {tb : Nat → zMt} {ny : Nat} (hA : zall inf tb ny) (hr : zrho r H0) (hfm : zfm fm) : ∀ (f d y pc : Nat) (L : zL) (st : List Value) (n w : Nat) (M : zM) (pcE : Nat) (v : Option Value) (n1 w1 : Nat) (M1 : zM), y < ny + 1 → zex tb f d (tb y).1 (tb y).2.2 pc L st n w M = some (pcE, v, n1, w1, M1) → zSnd l r fm D cA H0 X inf tb d y pc L st n w M pcE v n1 w1 M1
  | 0, _, _, _, _, _, _, _, _, _, _, _, _, _, _, h => by cases h
  | f + 1, d, y, pc, L, st, n, w, M, pcE, v, n1, w1, M1, hy, h => by
    rw [zex] at h
    split at h
    · rename_i pc2 L2 st2 n2 w2 M2 hz
      obtain ⟨a1, a2, a3⟩ := zsound hA hr hfm f d y pc2 L2 st2 n2 w2 M2 pcE v n1 w1 M1 hy h
      obtain ⟨b1, b2⟩ := zmono hz
      refine ⟨by omega, by omega, fun p e R s m args below meth c H locs cells slots Q ls C S hR kk => ?_⟩
      refine zi_all C (hA.2.2 y pc hy) hz S ⟨by omega, by omega⟩ (fun ls' H' locs' S' => ?_)
      refine a3 p e R s m args below meth c H' locs' _ _ Q ls' C S' ⟨by omega, by omega⟩ (fun ls3 H3 locs3 stE g1 g2 g3 => ?_)
      rw [show cells + (n2 - n) + (n1 - n2) = cells + (n1 - n) by omega, show slots + (w2 - w) + (w1 - w2) = slots + (w1 - w) by omega]
      exact kk ls3 H3 locs3 stE g1 g2 g3
    · split at h
      · rename_i rv hz
        cases h
        refine ⟨Nat.le_refl _, Nat.le_refl _, fun p e R s m args below meth c H locs cells slots Q ls C S hR kk => ?_⟩
        have k1 := kk ls H locs st S.2.1 S.2.2 hz
        rw [Nat.sub_self, Nat.sub_self, Nat.add_zero, Nat.add_zero] at k1
        exact k1
      · split at h
        · cases h
        · rename_i y2 as q hz
          split at h
          · cases h
          · rename_i d2
            revert h
            cases hb : Nat.ble (zdp as) (tb y2).2.1 with
            | false => intro h; cases h
            | true =>
              intro h
              rw [cond_true] at h
              split at h
              · cases h
              · rename_i pc3 v3 n3 w3 M3 h3
                have hy2 : y2 < ny := zcall_lt (hA.2.2 y pc hy) hz
                have i1 := zsound (l := l) (D := D) (cA := cA) (X := X) hA hr hfm f d2 y2 0 _ _ n w M pc3 v3 n3 w3 M3 (by omega) h3
                have i2 := zsound (l := l) (D := D) (cA := cA) (X := X) hA hr hfm f (d2 + 1) y _ _ _ n3 w3 M3 pcE v n1 w1 M1 hy h
                obtain ⟨a1, a2, a3⟩ := i2
                have b1 := i1.1
                have b2 := i1.2.1
                have hM := zmet (hA.1 y2 hy2) (fun pc => hA.2.2 y2 pc (by omega)) hr hfm hb i1
                refine ⟨by omega, by omega, fun p e R s m args below meth c H locs cells slots Q ls C S hR kk => ?_⟩
                refine zi_call hA C (hA.2.2 y pc hy) hz hb S ⟨by omega, by omega⟩ hM (fun H1 locs1 g1 g2 => ?_)
                refine a3 p e R s m args below meth c H1 locs1 _ _ Q ls C ⟨S.1, g1, g2⟩ ⟨by omega, by omega⟩ (fun ls3 H3 locs3 stE e1 e2 e3 => ?_)
                rw [show cells + (n3 - n) + (n1 - n3) = cells + (n1 - n) by omega, show slots + (w3 - w) + (w1 - w3) = slots + (w1 - w) by omega]
                exact kk ls3 H3 locs3 stE e1 e2 e3
