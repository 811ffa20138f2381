theorem zext_arr {r : Nat → Nat} {U : State} {H : Heap} {a t n : Nat} {f : Nat → Int32} (ht : t = 7 ∨ t = 8) (h : va_T (zty t) a n (fun j => .int (f j)) (fun _ => False) U H) : zext r U H a (.inl (t, n, .inl f)) := by
  obtain ⟨cell, h1, h2, h3, h4, h5, h6, -⟩ := h
  exact ⟨ht, cell, h1, h2, h3, h4, h5, h6⟩
set_option maxHeartbeats 1000000 in
theorem z_start {p : Program} {e : Env} {s : State} {m : MethodId} {below : List Frame} {meth : Method} {c : Code} (l : Launch) {b L : Nat} {xs : Nat → Int32} (hA : zall zin1 ztb 238) (C0 : lw_At p s m meth c b L xs) (hL : L ≤ 2560)
    (hrun : zR ztb 1000 kL_law 2 0 [some (.ref 0), none, none, none] [] 25 0 (zX L xs) (fun v n w M => v = some (.int 1) ∧ n ≤ 700000 ∧ w ≤ 6700000)) : W p l e room_1 s m #[Value.ref b] below meth c s.heap [] 0 0 (lw_Z below #[Value.ref b] s) (entryFrame m ([Value.ref b] : List Value).toArray 4) := by
  obtain ⟨hx, hb, hr, hml, hown, hts, hX, hbl, hlocks, hgv⟩ := id C0
  have hs := flat_of_before _ hgv
  have hnA : ∀ a : Nat, a < s.heap.size → ¬ (fun _ : Nat => False) a := fun _ _ h => h
  obtain ⟨D, cA, hK⟩ := z_vaK hts
  obtain ⟨adK, adV, hS, hev⟩ := vk_Sof (args := #[Value.ref b]) (s := s) (N := 11) (tm := ztm) (len := zslen) (byt := zsbyt) (A := fun _ => False) (by decide) (fun i hi => hs _ (z_atoms.1 i hi)) (fun i hi => hs _ (z_atoms.2.1 i hi)) (fun i hi => hs _ (z_atoms.2.2.1 i hi)) (fun i hi => hs _ (z_atoms.2.2.2.1 i hi)) (fun i hi j hj => hs _ (z_atoms.2.2.2.2.1 i hi j hj)) (fun i j hi hj hij => (z_atoms.2.2.2.2.2 i hi j hj hij).imp (hs _) (hs _)) hnA
  obtain ⟨tA, hevA, hTA⟩ := va_Tof (args := #[Value.ref b]) (s := s) (tm := .static "GardenBoxes" "ABOVE" "[I") (ty := .int) (N := 6) (f := fun j => .int (zabove.getD j 0)) (A := fun _ => False) (by decide) (hs _ z_tabs.1.1) (va_eqt (hs _ z_tabs.1.2.1)) (fun j hj => va_eqt (hs _ (z_tabs.1.2.2 j hj))) hnA
  obtain ⟨tB, hevB, hTB⟩ := va_Tof (args := #[Value.ref b]) (s := s) (tm := .static "GardenBoxes" "BODIES" "[I") (ty := .int) (N := 24) (f := fun j => .int (zbodies.getD j 0)) (A := fun _ => False) (by decide) (hs _ z_tabs.2.1.1) (va_eqt (hs _ z_tabs.2.1.2.1)) (fun j hj => va_eqt (hs _ (z_tabs.2.1.2.2 j hj))) hnA
  have hw := z_words.2.2.1
  have sZ : ∀ q ∈ zstat, ∀ v, (Term.static q.1 q.2.1 q.2.2.1).eval #[Value.ref b] s none [] s = some v → va_Z q.1 q.2.1 q.2.2.1 v (fun _ => False) s s.heap := fun q hq v hv => va_Zof (hts _ (hw q hq).1) (hts _ (hw q hq).2) hv hnA
  obtain ⟨fm, hfm, hZf⟩ : ∃ fm, zfm fm ∧ va_Z "jdk/internal/util/Preconditions" "SIOOBE_FORMATTER" "Ljava/util/function/BiFunction;" fm (fun _ => False) s s.heap := by
    have hq : (("jdk/internal/util/Preconditions", "SIOOBE_FORMATTER", "Ljava/util/function/BiFunction;", Value.retAddr 0) : String × String × String × Value) ∈ zstat := by decide
    rcases va_Zqof (A := fun _ => False) (hts _ (hw _ hq).1) (hts _ (hw _ hq).2) (hs _ z_tabs.2.2.2) hnA with h | ⟨t, h⟩
    · exact ⟨_, Or.inl rfl, h⟩
    · exact ⟨_, Or.inr ⟨t, rfl⟩, h⟩
  have lt_of : ∀ {a : Nat} {cell : Cell}, s.heap[a]? = some cell → a < s.heap.size := fun h => (Array.getElem?_eq_some_iff.mp h).1
  have hrho : zrho (zrr s b tA tB adK adV) s.heap := by
    refine ⟨fun k hk => ?_, fun k hk => ?_⟩
    · unfold zrr
      rw [if_neg (by omega), if_neg (by omega), if_neg (by omega), if_neg (by omega)]
    · unfold zrr
      split
      · exact hbl
      · split
        · obtain ⟨cell, h1, -⟩ := hTA
          exact lt_of h1
        · split
          · obtain ⟨cell, h1, -⟩ := hTB
            exact lt_of h1
          · split
            · obtain ⟨cell, h1, -⟩ := (hS.1 ((k - 3) / 2) (by omega)).1
              exact lt_of h1
            · obtain ⟨cell, h1, -⟩ := (hS.1 ((k - 4) / 2) (by omega)).2.2.2
              exact lt_of h1
  have hext : ∀ k, k < 25 → zext (zrr s b tA tB adK adV) s s.heap (zrr s b tA tB adK adV k) (zX L xs k) := by
    intro k hk
    unfold zX
    by_cases h0 : k = 0
    · rw [if_pos h0, h0]
      obtain ⟨scr, g1, g2, g3, g4, g5⟩ := hX
      exact ⟨Or.inl rfl, scr, g1, g2, g3, Nat.le_of_eq g4.symm, (by rw [g4] <;> rfl), g5⟩
    · rw [if_neg h0]
      by_cases h1 : k = 1
      · rw [if_pos h1, h1]
        exact zext_arr (Or.inl rfl) hTA
      · rw [if_neg h1]
        by_cases h2 : k = 2
        · rw [if_pos h2, h2]
          exact zext_arr (Or.inl rfl) hTB
        · rw [if_neg h2, if_pos hk]
          by_cases h3 : k % 2 = 1
          · rw [if_pos h3]
            have hi : (k - 3) / 2 < 11 := by omega
            obtain ⟨q1, q2, q3, q4⟩ := hS.1 _ hi
            have e1 : zrr s b tA tB adK adV k = adK ((k - 3) / 2) := by unfold zrr; rw [if_neg h0, if_neg h1, if_neg h2, if_pos hk, if_pos h3]
            have e2 : zrr s b tA tB adK adV (k + 1) = adV ((k - 3) / 2) := by
              unfold zrr
              rw [if_neg (by omega), if_neg (by omega), if_neg (by omega), if_pos (by omega), if_neg (by omega)]
              congr 2
            rw [e1]
            refine ⟨q1, q2, ?_⟩
            rw [e2]
            exact q3
          · rw [if_neg h3]
            have hi : (k - 4) / 2 < 11 := by omega
            have e1 : zrr s b tA tB adK adV k = adV ((k - 4) / 2) := by unfold zrr; rw [if_neg h0, if_neg h1, if_neg h2, if_pos hk, if_neg h3]
            rw [e1]
            exact zext_arr (Or.inr rfl) (hS.1 _ hi).2.2.2
  have hZK : zK (zrr s b tA tB adK adV) fm D cA s.heap (zX L xs) s := by
    refine ⟨hK, fun C hC => va_AO.of (A := #[Value.ref b]) (by have := hts _ (z_words.2.1 C hC); exact this), z_znst hts, fun q hq => ?_, fun i q hq => ?_, hext⟩
    · have hq2 : q ∈ zstat := hq
      simp only [zstat, List.mem_cons, List.not_mem_nil, or_false] at hq
      rcases hq with rfl | rfl | rfl | rfl
      · exact sZ _ hq2 _ hevA
      · exact sZ _ hq2 _ hevB
      · exact sZ _ hq2 _ (va_eqi (hs _ z_tabs.2.2.1))
      · exact hZf
    · have hi : i < 11 := (List.getElem?_eq_some_iff.mp hq).1
      have hgd : zstrs.getD i (0, "") = q := by rw [List.getD_eq_getElem?_getD, hq]; rfl
      have e1 : zrr s b tA tB adK adV (3 + 2 * i) = adK i := by
        unfold zrr
        rw [if_neg (by omega), if_neg (by omega), if_neg (by omega), if_pos (by omega), if_pos (by omega)]
        congr 1
        omega
      have h1 := hts _ (z_words.2.2.2 i hi)
      have h2 := hev i hi
      unfold ztm at h2
      rw [hgd] at h1 h2
      rw [e1]
      refine vk_R.of (A := #[Value.ref b]) ?_ h2
      exact h1
  have hzH : zH (zrr s b tA tB adK adV) fm D cA s.heap (zX L xs) s.heap 25 (zX L xs) := by
    refine ⟨Nat.le_refl _, by omega, fun _ _ => rfl, fun _ _ => rfl, fun k h1 h2 => by omega, fun k hk => ?_⟩
    unfold zX
    rw [if_neg (by omega), if_neg (by omega), if_neg (by omega), if_neg (by omega)]
  obtain ⟨f, pcE, v, n1, w1, M1, hex, rfl, hn, hwn⟩ := hrun
  have hsnd := zsound (l := l) (D := D) (cA := cA) (X := zX L xs) hA hrho hfm f 1000 238 0 _ _ 25 0 _ pcE _ n1 w1 M1 (by decide) hex
  obtain ⟨a1, a2, a3⟩ := hsnd
  rw [lg_entry_eq]
  have hv0 : ([Value.ref 0] : List Value).map (zv (zrr s b tA tB adK adV) fm) = [Value.ref b] := rfl
  have hent := zLoc.entry (r := zrr s b tA tB adK adV) hfm [Value.ref 0] (n := 4) rfl
  rw [hv0] at hent
  refine a3 p e room_1 s m #[Value.ref b] below meth c s.heap [] 0 0 _ _ ⟨hx, hb, hml, hown, fun w hw => hts w (List.mem_filter.mp hw).1, hZK, fun h => absurd (show ("law" : String) = "<init>" from h) (by decide), by decide, by decide, hrho, hfm⟩ ⟨hent, hzH, fun _ h => by cases h⟩ ⟨by show 0 + (n1 - 25) ≤ 772737; omega, by show 0 + (w1 - 0) ≤ 6784038; omega⟩ (fun ls' H' locs' stE g1 g2 g3 => ?_)
  refine va_forget g2 ?_
  refine W.widen (k := 772737) (n := 6784038) (by omega) (by omega) ?_
  have hst : stE = [.int 1] ∧ (kL_law pcE).1 = .ireturn := by
    unfold zrt at g3
    split at g3
    · rename_i hi
      split at g3
      · cases g3; exact ⟨rfl, hi⟩
      · split at g3 <;> cases g3
        exact ⟨rfl, hi⟩
      · split at g3 <;> cases g3
        exact ⟨rfl, hi⟩
      · split at g3 <;> cases g3
        exact ⟨rfl, hi⟩
      · cases g3
    · split at g3 <;> cases g3
    · split at g3 <;> cases g3
    · cases g3
  obtain ⟨rfl, hi⟩ := hst
  have hck := hA.2.2 238 pcE (by decide)
  obtain ⟨h1, h2, h3, -⟩ := zchk_dec hck (by show (kL_law pcE).1 ≠ _; rw [hi]; intro q; cases q)
  have hi' : ((ztb 238).1 pcE).1 = .ireturn := hi
  rw [hi'] at h2 h3
  have hd : decode code pcE = .ok (.ireturn, 1) := by
    rcases h3 with h3 | h3
    · cases h3
    · rw [h3, show zlnk Instr.ireturn = 1 from rfl, Nat.add_sub_cancel_left] at h2
      exact h2
  exact lw_ret hx hb hr hlocks hd
