/-! THE LAW'S LOOP. Inv: what holds between two calls; a pair of methods is ok if both answer alike and keep it. -/
def opOK (Inv : zM → mS → Nat → Nat → Prop) (y yr : Nat) (as : List Value) : Prop := ∀ (M : zM) (σ : mS) (n w : Nat), Inv M σ n w → zCalP 999 y (.ref 25 :: as) n w M (fun v n1 w1 M1 => ∃ x : Int32, v = some (.int x) ∧ (∃ fs, M1 287 = .inr (12, fs)) ∧ M1 0 = M 0 ∧ zCalP 999 yr (.ref 287 :: as) n1 w1 M1 (fun v' n2 w2 M2 => v' = some (.int x) ∧ n2 ≤ n + 9 ∧ w2 ≤ w + 1000 ∧ ∃ σ', Inv M2 σ' n2 w2))
def op_crop (Inv : zM → mS → Nat → Nat → Prop) : Prop := ∀ (a b c e : Int32), opOK Inv 84 140 [.int a, .int b, .int c, .int e]
def op_sow (Inv : zM → mS → Nat → Nat → Prop) : Prop := ∀ (a b : Int32), opOK Inv 85 141 [.int a, .int b]
def op_buy (Inv : zM → mS → Nat → Nat → Prop) : Prop := ∀ (a b : Int32), opOK Inv 86 143 [.int a, .int b]
def op_hands (Inv : zM → mS → Nat → Nat → Prop) : Prop := ∀ (a : Int32), opOK Inv 87 144 [.int a]
def op_house (Inv : zM → mS → Nat → Nat → Prop) : Prop := ∀ (a b : Int32), opOK Inv 88 145 [.int a, .int b]
def op_away (Inv : zM → mS → Nat → Nat → Prop) : Prop := ∀ (a b : Int32), opOK Inv 89 146 [.int a, .int b]
def op_dislike (Inv : zM → mS → Nat → Nat → Prop) : Prop := ∀ (a b x : Int32), x = 0 ∨ x = 1 → opOK Inv 90 147 [.int a, .int b, .int x]
def op_feed (Inv : zM → mS → Nat → Nat → Prop) : Prop := ∀ (a : Int32) (b : Int64), opOK Inv 91 148 [.int a, .long b]
def op_lines (Inv : zM → mS → Nat → Nat → Prop) : Prop := opOK Inv 92 168 []
def op_fault (Inv : zM → mS → Nat → Nat → Prop) : Prop := ∀ (a : Int32), opOK Inv 93 169 [.int a]
def op_warm (Inv : zM → mS → Nat → Nat → Prop) : Prop := ∀ (a b : Int32), opOK Inv 94 215 [.int a, .int b]
def op_week (Inv : zM → mS → Nat → Nat → Prop) : Prop := opOK Inv 95 186 []
def op_ahead (Inv : zM → mS → Nat → Nat → Prop) : Prop := ∀ (a b : Int32), opOK Inv 96 188 [.int a, .int b]
def op_image (Inv : zM → mS → Nat → Nat → Prop) : Prop := opOK Inv 97 189 []
def op_back (Inv : zM → mS → Nat → Nat → Prop) : Prop := opOK Inv 98 190 []
def op_told (Inv : zM → mS → Nat → Nat → Prop) : Prop := ∀ (a b : Int32), opOK Inv 99 191 [.int a, .int b]
def op_bed (Inv : zM → mS → Nat → Nat → Prop) : Prop := ∀ (a b : Int32), opOK Inv 100 192 [.int a, .int b]
def op_ripens (Inv : zM → mS → Nat → Nat → Prop) : Prop := ∀ (a : Int32), opOK Inv 101 193 [.int a]
def op_lot (Inv : zM → mS → Nat → Nat → Prop) : Prop := ∀ (a b : Int32), opOK Inv 102 194 [.int a, .int b]
def op_box (Inv : zM → mS → Nat → Nat → Prop) : Prop := ∀ (a b : Int32), opOK Inv 103 196 [.int a, .int b]
def op_why (Inv : zM → mS → Nat → Nat → Prop) : Prop := ∀ (a b : Int32), opOK Inv 104 197 [.int a, .int b]
def op_lead (Inv : zM → mS → Nat → Nat → Prop) : Prop := ∀ (a b : Int32), opOK Inv 105 198 [.int a, .int b]
def op_houseTold (Inv : zM → mS → Nat → Nat → Prop) : Prop := ∀ (a b : Int32), opOK Inv 106 199 [.int a, .int b]
def op_fair (Inv : zM → mS → Nat → Nat → Prop) : Prop := opOK Inv 107 200 []
def op_holds (Inv : zM → mS → Nat → Nat → Prop) : Prop := ∀ (a b : Int32), opOK Inv 108 201 [.int a, .int b]
def op_count (Inv : zM → mS → Nat → Nat → Prop) : Prop := ∀ (a : Int32), opOK Inv 109 202 [.int a]
def op_act (Inv : zM → mS → Nat → Nat → Prop) : Prop := ∀ (a b c : Int32), opOK Inv 110 212 [.int a, .int b, .int c]
def op_trace (Inv : zM → mS → Nat → Nat → Prop) : Prop := ∀ (a : Int32), opOK Inv 111 213 [.int a]
def op_sheet (Inv : zM → mS → Nat → Nat → Prop) : Prop := ∀ (a b c : Int32), opOK Inv 112 216 [.int a, .int b, .int c]
def op_cell (Inv : zM → mS → Nat → Nat → Prop) : Prop := ∀ (a b c : Int32), opOK Inv 113 217 [.int a, .int b, .int c]
def op_none (Inv : zM → mS → Nat → Nat → Prop) : Prop := ∀ (a b : Int32), opOK Inv 114 218 [.int a, .int b]
def op_forge (Inv : zM → mS → Nat → Nat → Prop) : Prop := ∀ (a b c : Int32), opOK Inv 115 222 [.int a, .int b, .int c]
def op_status (Inv : zM → mS → Nat → Nat → Prop) : Prop := opOK Inv 116 223 []
def opsOK (Inv : zM → mS → Nat → Nat → Prop) : Prop := op_crop Inv ∧ op_sow Inv ∧ op_buy Inv ∧ op_hands Inv ∧ op_house Inv ∧ op_away Inv ∧ op_dislike Inv ∧ op_feed Inv ∧ op_lines Inv ∧ op_fault Inv ∧ op_warm Inv ∧ op_week Inv ∧ op_ahead Inv ∧ op_image Inv ∧ op_back Inv ∧ op_told Inv ∧ op_bed Inv ∧ op_ripens Inv ∧ op_lot Inv ∧ op_box Inv ∧ op_why Inv ∧ op_lead Inv ∧ op_houseTold Inv ∧ op_fair Inv ∧ op_holds Inv ∧ op_count Inv ∧ op_act Inv ∧ op_trace Inv ∧ op_sheet Inv ∧ op_cell Inv ∧ op_none Inv ∧ op_forge Inv ∧ op_status Inv
theorem zbc_self (x : Int32) (t f : Nat) : zbc .eq x x t f = t := if_pos rfl
theorem zR.swc {d : Nat} {k : Nat → zI} {rt t dflt : Nat} {L : zL} {st : List Value} {n w : Nat} {M : zM} {Q : Option Value → Nat → Nat → zM → Prop} {x key : Int32} {l : List (Int32 × Nat)} (h1 : x = key → zR ztb d k rt t L st n w M Q) (h2 : ¬ x = key → zR ztb d k rt (zsw x l dflt) L st n w M Q) : zR ztb d k rt (zsw x ((key, t) :: l) dflt) L st n w M Q := zR.ite h1 h2
theorem law_lt {L i : Nat} (hL : L ≤ 2560) (hi : i ≤ 2600) : (nI L - 5 < nI i) ↔ L < i + 5 := by
  have h5 : (5 : Int32).toInt = 5 := by decide
  rw [Int32.lt_iff_toInt_lt, Int32.toInt_sub, nI_toInt (by omega), nI_toInt (by omega), h5, Int.bmod_eq_of_le (by omega) (by omega)]
  omega
theorem law_loop {L : Nat} {xs : Nat → Int32} (Inv : zM → mS → Nat → Nat → Prop) (hL : L ≤ 2560) (h0 : ∀ M σ n w, Inv M σ n w → M 0 = .inl (7, L, .inl xs) ∧ ∃ fs, M 25 = .inr (11, fs)) (ho : opsOK Inv) : ∀ (t i : Nat) (M : zM) (σ : mS) (n w : Nat), i ≤ 2600 → L < i + 5 * t + 5 → Inv M σ n w → zR ztb 1000 kL_law 2 18 [some (.ref 0), some (.ref 25), some (.ref 287), some (.int (nI i))] [] n w M (fun v n' w' M' => v = some (.int 1) ∧ n' ≤ n + 9 * t ∧ w' ≤ w + 1000 * t)
  | t, i, M, σ, n, w, hi9, ht, hI => by
    obtain ⟨hM0, fs, h25⟩ := h0 M σ n w hI
    have hL9 : L ≤ 100000 := by omega
    repeat (first | refine zR.step rfl ?_ | refine zR.alen rfl hM0 ?_)
    refine zR.ite (fun h => ?_) (fun h => ?_)
    · repeat (refine zR.step rfl ?_)
      exact zR.ret rfl rfl ⟨rfl, by omega, by omega⟩
    · have hi : i + 5 ≤ L := by
        have := mt (law_lt hL hi9).mpr h
        omega
      match t, ht with
      | 0, ht => omega
      | t + 1, ht =>
        have fin : ∀ (x : Int32) (M2 : zM) (σ' : mS) (n2 w2 : Nat) (f : Nat), n2 ≤ n + 9 → w2 ≤ w + 1000 → Inv M2 σ' n2 w2 → zR ztb 1000 kL_law 2 (zbc .eq x x 1215 f) [some (.ref 0), some (.ref 25), some (.ref 287), some (.int (nI i))] [] n2 w2 M2 (fun v n' w' M' => v = some (.int 1) ∧ n' ≤ n + 9 * (t + 1) ∧ w' ≤ w + 1000 * (t + 1)) := by
          intro x M2 σ' n2 w2 f hn hw hI2
          rw [zbc_self]
          refine zR.step rfl ?_
          refine zR.step rfl ?_
          have ih := law_loop Inv hL h0 ho t (i + 5) M2 σ' n2 w2 (by omega) (by omega) hI2
          rw [show nI (i + 5) = nI i + 5 from (zn_add i 5).symm] at ih
          exact zR.mono ih (fun v n' w' M' q => ⟨q.1, by omega, by omega⟩)
        repeat (first | refine zR.step rfl ?_ | refine zR.iald rfl hM0 (Or.inr rfl) (by (try simp only [zn_lit, zn_add, zn_mul]); rfl) (by omega) (by omega) ?_)
        refine zR.swc (fun _ => ?_) (fun _ => ?_)
        · repeat (first | refine zR.step rfl ?_ | refine zR.iald rfl hM0 (Or.inr rfl) (by (try simp only [zn_lit, zn_add, zn_mul]); rfl) (by omega) (by omega) ?_)
          refine zR.cv rfl rfl rfl h25 rfl rfl ?_
          refine zR.mono (ho.1 _ _ _ _ M σ n w hI) (fun v n1 w1 M1 hv => ?_)
          obtain ⟨x, rfl, ⟨fs2, h287⟩, hM1, hr⟩ := hv
          rw [hM0] at hM1
          repeat (first | refine zR.step rfl ?_ | refine zR.iald rfl hM1 (Or.inr rfl) (by (try simp only [zn_lit, zn_add, zn_mul]); rfl) (by omega) (by omega) ?_)
          refine zR.cv rfl rfl rfl h287 rfl rfl ?_
          refine zR.mono hr (fun v' n2 w2 M2 hv => ?_)
          obtain ⟨rfl, hn, hw, σ', hI2⟩ := hv
          refine zR.step rfl ?_
          exact fin x M2 σ' n2 w2 _ hn hw hI2
        refine zR.swc (fun _ => ?_) (fun _ => ?_)
        · repeat (first | refine zR.step rfl ?_ | refine zR.iald rfl hM0 (Or.inr rfl) (by (try simp only [zn_lit, zn_add, zn_mul]); rfl) (by omega) (by omega) ?_)
          refine zR.cv rfl rfl rfl h25 rfl rfl ?_
          refine zR.mono (ho.2.1 _ _ M σ n w hI) (fun v n1 w1 M1 hv => ?_)
          obtain ⟨x, rfl, ⟨fs2, h287⟩, hM1, hr⟩ := hv
          rw [hM0] at hM1
          repeat (first | refine zR.step rfl ?_ | refine zR.iald rfl hM1 (Or.inr rfl) (by (try simp only [zn_lit, zn_add, zn_mul]); rfl) (by omega) (by omega) ?_)
          refine zR.cv rfl rfl rfl h287 rfl rfl ?_
          refine zR.mono hr (fun v' n2 w2 M2 hv => ?_)
          obtain ⟨rfl, hn, hw, σ', hI2⟩ := hv
          refine zR.step rfl ?_
          exact fin x M2 σ' n2 w2 _ hn hw hI2
        refine zR.swc (fun _ => ?_) (fun _ => ?_)
        · repeat (first | refine zR.step rfl ?_ | refine zR.iald rfl hM0 (Or.inr rfl) (by (try simp only [zn_lit, zn_add, zn_mul]); rfl) (by omega) (by omega) ?_)
          refine zR.cv rfl rfl rfl h25 rfl rfl ?_
          refine zR.mono (ho.2.2.1 _ _ M σ n w hI) (fun v n1 w1 M1 hv => ?_)
          obtain ⟨x, rfl, ⟨fs2, h287⟩, hM1, hr⟩ := hv
          rw [hM0] at hM1
          repeat (first | refine zR.step rfl ?_ | refine zR.iald rfl hM1 (Or.inr rfl) (by (try simp only [zn_lit, zn_add, zn_mul]); rfl) (by omega) (by omega) ?_)
          refine zR.cv rfl rfl rfl h287 rfl rfl ?_
          refine zR.mono hr (fun v' n2 w2 M2 hv => ?_)
          obtain ⟨rfl, hn, hw, σ', hI2⟩ := hv
          refine zR.step rfl ?_
          exact fin x M2 σ' n2 w2 _ hn hw hI2
        refine zR.swc (fun _ => ?_) (fun _ => ?_)
        · repeat (first | refine zR.step rfl ?_ | refine zR.iald rfl hM0 (Or.inr rfl) (by (try simp only [zn_lit, zn_add, zn_mul]); rfl) (by omega) (by omega) ?_)
          refine zR.cv rfl rfl rfl h25 rfl rfl ?_
          refine zR.mono (ho.2.2.2.1 _ M σ n w hI) (fun v n1 w1 M1 hv => ?_)
          obtain ⟨x, rfl, ⟨fs2, h287⟩, hM1, hr⟩ := hv
          rw [hM0] at hM1
          repeat (first | refine zR.step rfl ?_ | refine zR.iald rfl hM1 (Or.inr rfl) (by (try simp only [zn_lit, zn_add, zn_mul]); rfl) (by omega) (by omega) ?_)
          refine zR.cv rfl rfl rfl h287 rfl rfl ?_
          refine zR.mono hr (fun v' n2 w2 M2 hv => ?_)
          obtain ⟨rfl, hn, hw, σ', hI2⟩ := hv
          refine zR.step rfl ?_
          exact fin x M2 σ' n2 w2 _ hn hw hI2
        refine zR.swc (fun _ => ?_) (fun _ => ?_)
        · repeat (first | refine zR.step rfl ?_ | refine zR.iald rfl hM0 (Or.inr rfl) (by (try simp only [zn_lit, zn_add, zn_mul]); rfl) (by omega) (by omega) ?_)
          refine zR.cv rfl rfl rfl h25 rfl rfl ?_
          refine zR.mono (ho.2.2.2.2.1 _ _ M σ n w hI) (fun v n1 w1 M1 hv => ?_)
          obtain ⟨x, rfl, ⟨fs2, h287⟩, hM1, hr⟩ := hv
          rw [hM0] at hM1
          repeat (first | refine zR.step rfl ?_ | refine zR.iald rfl hM1 (Or.inr rfl) (by (try simp only [zn_lit, zn_add, zn_mul]); rfl) (by omega) (by omega) ?_)
          refine zR.cv rfl rfl rfl h287 rfl rfl ?_
          refine zR.mono hr (fun v' n2 w2 M2 hv => ?_)
          obtain ⟨rfl, hn, hw, σ', hI2⟩ := hv
          refine zR.step rfl ?_
          exact fin x M2 σ' n2 w2 _ hn hw hI2
        refine zR.swc (fun _ => ?_) (fun _ => ?_)
        · repeat (first | refine zR.step rfl ?_ | refine zR.iald rfl hM0 (Or.inr rfl) (by (try simp only [zn_lit, zn_add, zn_mul]); rfl) (by omega) (by omega) ?_)
          refine zR.cv rfl rfl rfl h25 rfl rfl ?_
          refine zR.mono (ho.2.2.2.2.2.1 _ _ M σ n w hI) (fun v n1 w1 M1 hv => ?_)
          obtain ⟨x, rfl, ⟨fs2, h287⟩, hM1, hr⟩ := hv
          rw [hM0] at hM1
          repeat (first | refine zR.step rfl ?_ | refine zR.iald rfl hM1 (Or.inr rfl) (by (try simp only [zn_lit, zn_add, zn_mul]); rfl) (by omega) (by omega) ?_)
          refine zR.cv rfl rfl rfl h287 rfl rfl ?_
          refine zR.mono hr (fun v' n2 w2 M2 hv => ?_)
          obtain ⟨rfl, hn, hw, σ', hI2⟩ := hv
          refine zR.step rfl ?_
          exact fin x M2 σ' n2 w2 _ hn hw hI2
        refine zR.swc (fun _ => ?_) (fun _ => ?_)
        · repeat (first | refine zR.step rfl ?_ | refine zR.iald rfl hM0 (Or.inr rfl) (by (try simp only [zn_lit, zn_add, zn_mul]); rfl) (by omega) (by omega) ?_)
          refine zR.ite (fun hb => ?_) (fun hb => ?_)
          · repeat (first | refine zR.step rfl ?_ | refine zR.iald rfl hM0 (Or.inr rfl) (by (try simp only [zn_lit, zn_add, zn_mul]); rfl) (by omega) (by omega) ?_)
            refine zR.cv rfl rfl rfl h25 rfl rfl ?_
            refine zR.mono (ho.2.2.2.2.2.2.1 _ _ _ (Or.inl rfl) M σ n w hI) (fun v n1 w1 M1 hv => ?_)
            obtain ⟨x, rfl, ⟨fs2, h287⟩, hM1, hr⟩ := hv
            rw [hM0] at hM1
            repeat (first | refine zR.step rfl ?_ | refine zR.iald rfl hM1 (Or.inr rfl) (by (try simp only [zn_lit, zn_add, zn_mul]); rfl) (by omega) (by omega) ?_)
            refine zR.ite (fun _ => ?_) (fun hb2 => absurd hb hb2)
            repeat (first | refine zR.step rfl ?_ | refine zR.iald rfl hM1 (Or.inr rfl) (by (try simp only [zn_lit, zn_add, zn_mul]); rfl) (by omega) (by omega) ?_)
            refine zR.cv rfl rfl rfl h287 rfl rfl ?_
            refine zR.mono hr (fun v' n2 w2 M2 hv => ?_)
            obtain ⟨rfl, hn, hw, σ', hI2⟩ := hv
            refine zR.step rfl ?_
            exact fin x M2 σ' n2 w2 _ hn hw hI2
          · repeat (first | refine zR.step rfl ?_ | refine zR.iald rfl hM0 (Or.inr rfl) (by (try simp only [zn_lit, zn_add, zn_mul]); rfl) (by omega) (by omega) ?_)
            refine zR.cv rfl rfl rfl h25 rfl rfl ?_
            refine zR.mono (ho.2.2.2.2.2.2.1 _ _ _ (Or.inr rfl) M σ n w hI) (fun v n1 w1 M1 hv => ?_)
            obtain ⟨x, rfl, ⟨fs2, h287⟩, hM1, hr⟩ := hv
            rw [hM0] at hM1
            repeat (first | refine zR.step rfl ?_ | refine zR.iald rfl hM1 (Or.inr rfl) (by (try simp only [zn_lit, zn_add, zn_mul]); rfl) (by omega) (by omega) ?_)
            refine zR.ite (fun hb2 => absurd hb2 hb) (fun _ => ?_)
            repeat (first | refine zR.step rfl ?_ | refine zR.iald rfl hM1 (Or.inr rfl) (by (try simp only [zn_lit, zn_add, zn_mul]); rfl) (by omega) (by omega) ?_)
            refine zR.cv rfl rfl rfl h287 rfl rfl ?_
            refine zR.mono hr (fun v' n2 w2 M2 hv => ?_)
            obtain ⟨rfl, hn, hw, σ', hI2⟩ := hv
            refine zR.step rfl ?_
            exact fin x M2 σ' n2 w2 _ hn hw hI2
        refine zR.swc (fun _ => ?_) (fun _ => ?_)
        · repeat (first | refine zR.step rfl ?_ | refine zR.iald rfl hM0 (Or.inr rfl) (by (try simp only [zn_lit, zn_add, zn_mul]); rfl) (by omega) (by omega) ?_)
          refine zR.cv rfl rfl rfl h25 rfl rfl ?_
          refine zR.mono (ho.2.2.2.2.2.2.2.1 _ _ M σ n w hI) (fun v n1 w1 M1 hv => ?_)
          obtain ⟨x, rfl, ⟨fs2, h287⟩, hM1, hr⟩ := hv
          rw [hM0] at hM1
          repeat (first | refine zR.step rfl ?_ | refine zR.iald rfl hM1 (Or.inr rfl) (by (try simp only [zn_lit, zn_add, zn_mul]); rfl) (by omega) (by omega) ?_)
          refine zR.cv rfl rfl rfl h287 rfl rfl ?_
          refine zR.mono hr (fun v' n2 w2 M2 hv => ?_)
          obtain ⟨rfl, hn, hw, σ', hI2⟩ := hv
          refine zR.step rfl ?_
          exact fin x M2 σ' n2 w2 _ hn hw hI2
        refine zR.swc (fun _ => ?_) (fun _ => ?_)
        · repeat (first | refine zR.step rfl ?_ | refine zR.iald rfl hM0 (Or.inr rfl) (by (try simp only [zn_lit, zn_add, zn_mul]); rfl) (by omega) (by omega) ?_)
          refine zR.cv rfl rfl rfl h25 rfl rfl ?_
          refine zR.mono (ho.2.2.2.2.2.2.2.2.1 M σ n w hI) (fun v n1 w1 M1 hv => ?_)
          obtain ⟨x, rfl, ⟨fs2, h287⟩, hM1, hr⟩ := hv
          rw [hM0] at hM1
          repeat (first | refine zR.step rfl ?_ | refine zR.iald rfl hM1 (Or.inr rfl) (by (try simp only [zn_lit, zn_add, zn_mul]); rfl) (by omega) (by omega) ?_)
          refine zR.cv rfl rfl rfl h287 rfl rfl ?_
          refine zR.mono hr (fun v' n2 w2 M2 hv => ?_)
          obtain ⟨rfl, hn, hw, σ', hI2⟩ := hv
          refine zR.step rfl ?_
          exact fin x M2 σ' n2 w2 _ hn hw hI2
        refine zR.swc (fun _ => ?_) (fun _ => ?_)
        · repeat (first | refine zR.step rfl ?_ | refine zR.iald rfl hM0 (Or.inr rfl) (by (try simp only [zn_lit, zn_add, zn_mul]); rfl) (by omega) (by omega) ?_)
          refine zR.cv rfl rfl rfl h25 rfl rfl ?_
          refine zR.mono (ho.2.2.2.2.2.2.2.2.2.1 _ M σ n w hI) (fun v n1 w1 M1 hv => ?_)
          obtain ⟨x, rfl, ⟨fs2, h287⟩, hM1, hr⟩ := hv
          rw [hM0] at hM1
          repeat (first | refine zR.step rfl ?_ | refine zR.iald rfl hM1 (Or.inr rfl) (by (try simp only [zn_lit, zn_add, zn_mul]); rfl) (by omega) (by omega) ?_)
          refine zR.cv rfl rfl rfl h287 rfl rfl ?_
          refine zR.mono hr (fun v' n2 w2 M2 hv => ?_)
          obtain ⟨rfl, hn, hw, σ', hI2⟩ := hv
          refine zR.step rfl ?_
          exact fin x M2 σ' n2 w2 _ hn hw hI2
        refine zR.swc (fun _ => ?_) (fun _ => ?_)
        · repeat (first | refine zR.step rfl ?_ | refine zR.iald rfl hM0 (Or.inr rfl) (by (try simp only [zn_lit, zn_add, zn_mul]); rfl) (by omega) (by omega) ?_)
          refine zR.cv rfl rfl rfl h25 rfl rfl ?_
          refine zR.mono (ho.2.2.2.2.2.2.2.2.2.2.1 _ _ M σ n w hI) (fun v n1 w1 M1 hv => ?_)
          obtain ⟨x, rfl, ⟨fs2, h287⟩, hM1, hr⟩ := hv
          rw [hM0] at hM1
          repeat (first | refine zR.step rfl ?_ | refine zR.iald rfl hM1 (Or.inr rfl) (by (try simp only [zn_lit, zn_add, zn_mul]); rfl) (by omega) (by omega) ?_)
          refine zR.cv rfl rfl rfl h287 rfl rfl ?_
          refine zR.mono hr (fun v' n2 w2 M2 hv => ?_)
          obtain ⟨rfl, hn, hw, σ', hI2⟩ := hv
          refine zR.step rfl ?_
          exact fin x M2 σ' n2 w2 _ hn hw hI2
        refine zR.swc (fun _ => ?_) (fun _ => ?_)
        · repeat (first | refine zR.step rfl ?_ | refine zR.iald rfl hM0 (Or.inr rfl) (by (try simp only [zn_lit, zn_add, zn_mul]); rfl) (by omega) (by omega) ?_)
          refine zR.cv rfl rfl rfl h25 rfl rfl ?_
          refine zR.mono (ho.2.2.2.2.2.2.2.2.2.2.2.1 M σ n w hI) (fun v n1 w1 M1 hv => ?_)
          obtain ⟨x, rfl, ⟨fs2, h287⟩, hM1, hr⟩ := hv
          rw [hM0] at hM1
          repeat (first | refine zR.step rfl ?_ | refine zR.iald rfl hM1 (Or.inr rfl) (by (try simp only [zn_lit, zn_add, zn_mul]); rfl) (by omega) (by omega) ?_)
          refine zR.cv rfl rfl rfl h287 rfl rfl ?_
          refine zR.mono hr (fun v' n2 w2 M2 hv => ?_)
          obtain ⟨rfl, hn, hw, σ', hI2⟩ := hv
          refine zR.step rfl ?_
          exact fin x M2 σ' n2 w2 _ hn hw hI2
        refine zR.swc (fun _ => ?_) (fun _ => ?_)
        · repeat (first | refine zR.step rfl ?_ | refine zR.iald rfl hM0 (Or.inr rfl) (by (try simp only [zn_lit, zn_add, zn_mul]); rfl) (by omega) (by omega) ?_)
          refine zR.cv rfl rfl rfl h25 rfl rfl ?_
          refine zR.mono (ho.2.2.2.2.2.2.2.2.2.2.2.2.1 _ _ M σ n w hI) (fun v n1 w1 M1 hv => ?_)
          obtain ⟨x, rfl, ⟨fs2, h287⟩, hM1, hr⟩ := hv
          rw [hM0] at hM1
          repeat (first | refine zR.step rfl ?_ | refine zR.iald rfl hM1 (Or.inr rfl) (by (try simp only [zn_lit, zn_add, zn_mul]); rfl) (by omega) (by omega) ?_)
          refine zR.cv rfl rfl rfl h287 rfl rfl ?_
          refine zR.mono hr (fun v' n2 w2 M2 hv => ?_)
          obtain ⟨rfl, hn, hw, σ', hI2⟩ := hv
          refine zR.step rfl ?_
          exact fin x M2 σ' n2 w2 _ hn hw hI2
        refine zR.swc (fun _ => ?_) (fun _ => ?_)
        · repeat (first | refine zR.step rfl ?_ | refine zR.iald rfl hM0 (Or.inr rfl) (by (try simp only [zn_lit, zn_add, zn_mul]); rfl) (by omega) (by omega) ?_)
          refine zR.cv rfl rfl rfl h25 rfl rfl ?_
          refine zR.mono (ho.2.2.2.2.2.2.2.2.2.2.2.2.2.1 M σ n w hI) (fun v n1 w1 M1 hv => ?_)
          obtain ⟨x, rfl, ⟨fs2, h287⟩, hM1, hr⟩ := hv
          rw [hM0] at hM1
          repeat (first | refine zR.step rfl ?_ | refine zR.iald rfl hM1 (Or.inr rfl) (by (try simp only [zn_lit, zn_add, zn_mul]); rfl) (by omega) (by omega) ?_)
          refine zR.cv rfl rfl rfl h287 rfl rfl ?_
          refine zR.mono hr (fun v' n2 w2 M2 hv => ?_)
          obtain ⟨rfl, hn, hw, σ', hI2⟩ := hv
          refine zR.step rfl ?_
          exact fin x M2 σ' n2 w2 _ hn hw hI2
        refine zR.swc (fun _ => ?_) (fun _ => ?_)
        · repeat (first | refine zR.step rfl ?_ | refine zR.iald rfl hM0 (Or.inr rfl) (by (try simp only [zn_lit, zn_add, zn_mul]); rfl) (by omega) (by omega) ?_)
          refine zR.cv rfl rfl rfl h25 rfl rfl ?_
          refine zR.mono (ho.2.2.2.2.2.2.2.2.2.2.2.2.2.2.1 M σ n w hI) (fun v n1 w1 M1 hv => ?_)
          obtain ⟨x, rfl, ⟨fs2, h287⟩, hM1, hr⟩ := hv
          rw [hM0] at hM1
          repeat (first | refine zR.step rfl ?_ | refine zR.iald rfl hM1 (Or.inr rfl) (by (try simp only [zn_lit, zn_add, zn_mul]); rfl) (by omega) (by omega) ?_)
          refine zR.cv rfl rfl rfl h287 rfl rfl ?_
          refine zR.mono hr (fun v' n2 w2 M2 hv => ?_)
          obtain ⟨rfl, hn, hw, σ', hI2⟩ := hv
          refine zR.step rfl ?_
          exact fin x M2 σ' n2 w2 _ hn hw hI2
        refine zR.swc (fun _ => ?_) (fun _ => ?_)
        · repeat (first | refine zR.step rfl ?_ | refine zR.iald rfl hM0 (Or.inr rfl) (by (try simp only [zn_lit, zn_add, zn_mul]); rfl) (by omega) (by omega) ?_)
          refine zR.cv rfl rfl rfl h25 rfl rfl ?_
          refine zR.mono (ho.2.2.2.2.2.2.2.2.2.2.2.2.2.2.2.1 _ _ M σ n w hI) (fun v n1 w1 M1 hv => ?_)
          obtain ⟨x, rfl, ⟨fs2, h287⟩, hM1, hr⟩ := hv
          rw [hM0] at hM1
          repeat (first | refine zR.step rfl ?_ | refine zR.iald rfl hM1 (Or.inr rfl) (by (try simp only [zn_lit, zn_add, zn_mul]); rfl) (by omega) (by omega) ?_)
          refine zR.cv rfl rfl rfl h287 rfl rfl ?_
          refine zR.mono hr (fun v' n2 w2 M2 hv => ?_)
          obtain ⟨rfl, hn, hw, σ', hI2⟩ := hv
          refine zR.step rfl ?_
          exact fin x M2 σ' n2 w2 _ hn hw hI2
        refine zR.swc (fun _ => ?_) (fun _ => ?_)
        · repeat (first | refine zR.step rfl ?_ | refine zR.iald rfl hM0 (Or.inr rfl) (by (try simp only [zn_lit, zn_add, zn_mul]); rfl) (by omega) (by omega) ?_)
          refine zR.cv rfl rfl rfl h25 rfl rfl ?_
          refine zR.mono (ho.2.2.2.2.2.2.2.2.2.2.2.2.2.2.2.2.1 _ _ M σ n w hI) (fun v n1 w1 M1 hv => ?_)
          obtain ⟨x, rfl, ⟨fs2, h287⟩, hM1, hr⟩ := hv
          rw [hM0] at hM1
          repeat (first | refine zR.step rfl ?_ | refine zR.iald rfl hM1 (Or.inr rfl) (by (try simp only [zn_lit, zn_add, zn_mul]); rfl) (by omega) (by omega) ?_)
          refine zR.cv rfl rfl rfl h287 rfl rfl ?_
          refine zR.mono hr (fun v' n2 w2 M2 hv => ?_)
          obtain ⟨rfl, hn, hw, σ', hI2⟩ := hv
          refine zR.step rfl ?_
          exact fin x M2 σ' n2 w2 _ hn hw hI2
        refine zR.swc (fun _ => ?_) (fun _ => ?_)
        · repeat (first | refine zR.step rfl ?_ | refine zR.iald rfl hM0 (Or.inr rfl) (by (try simp only [zn_lit, zn_add, zn_mul]); rfl) (by omega) (by omega) ?_)
          refine zR.cv rfl rfl rfl h25 rfl rfl ?_
          refine zR.mono (ho.2.2.2.2.2.2.2.2.2.2.2.2.2.2.2.2.2.1 _ M σ n w hI) (fun v n1 w1 M1 hv => ?_)
          obtain ⟨x, rfl, ⟨fs2, h287⟩, hM1, hr⟩ := hv
          rw [hM0] at hM1
          repeat (first | refine zR.step rfl ?_ | refine zR.iald rfl hM1 (Or.inr rfl) (by (try simp only [zn_lit, zn_add, zn_mul]); rfl) (by omega) (by omega) ?_)
          refine zR.cv rfl rfl rfl h287 rfl rfl ?_
          refine zR.mono hr (fun v' n2 w2 M2 hv => ?_)
          obtain ⟨rfl, hn, hw, σ', hI2⟩ := hv
          refine zR.step rfl ?_
          exact fin x M2 σ' n2 w2 _ hn hw hI2
        refine zR.swc (fun _ => ?_) (fun _ => ?_)
        · repeat (first | refine zR.step rfl ?_ | refine zR.iald rfl hM0 (Or.inr rfl) (by (try simp only [zn_lit, zn_add, zn_mul]); rfl) (by omega) (by omega) ?_)
          refine zR.cv rfl rfl rfl h25 rfl rfl ?_
          refine zR.mono (ho.2.2.2.2.2.2.2.2.2.2.2.2.2.2.2.2.2.2.1 _ _ M σ n w hI) (fun v n1 w1 M1 hv => ?_)
          obtain ⟨x, rfl, ⟨fs2, h287⟩, hM1, hr⟩ := hv
          rw [hM0] at hM1
          repeat (first | refine zR.step rfl ?_ | refine zR.iald rfl hM1 (Or.inr rfl) (by (try simp only [zn_lit, zn_add, zn_mul]); rfl) (by omega) (by omega) ?_)
          refine zR.cv rfl rfl rfl h287 rfl rfl ?_
          refine zR.mono hr (fun v' n2 w2 M2 hv => ?_)
          obtain ⟨rfl, hn, hw, σ', hI2⟩ := hv
          refine zR.step rfl ?_
          exact fin x M2 σ' n2 w2 _ hn hw hI2
        refine zR.swc (fun _ => ?_) (fun _ => ?_)
        · repeat (first | refine zR.step rfl ?_ | refine zR.iald rfl hM0 (Or.inr rfl) (by (try simp only [zn_lit, zn_add, zn_mul]); rfl) (by omega) (by omega) ?_)
          refine zR.cv rfl rfl rfl h25 rfl rfl ?_
          refine zR.mono (ho.2.2.2.2.2.2.2.2.2.2.2.2.2.2.2.2.2.2.2.1 _ _ M σ n w hI) (fun v n1 w1 M1 hv => ?_)
          obtain ⟨x, rfl, ⟨fs2, h287⟩, hM1, hr⟩ := hv
          rw [hM0] at hM1
          repeat (first | refine zR.step rfl ?_ | refine zR.iald rfl hM1 (Or.inr rfl) (by (try simp only [zn_lit, zn_add, zn_mul]); rfl) (by omega) (by omega) ?_)
          refine zR.cv rfl rfl rfl h287 rfl rfl ?_
          refine zR.mono hr (fun v' n2 w2 M2 hv => ?_)
          obtain ⟨rfl, hn, hw, σ', hI2⟩ := hv
          refine zR.step rfl ?_
          exact fin x M2 σ' n2 w2 _ hn hw hI2
        refine zR.swc (fun _ => ?_) (fun _ => ?_)
        · repeat (first | refine zR.step rfl ?_ | refine zR.iald rfl hM0 (Or.inr rfl) (by (try simp only [zn_lit, zn_add, zn_mul]); rfl) (by omega) (by omega) ?_)
          refine zR.cv rfl rfl rfl h25 rfl rfl ?_
          refine zR.mono (ho.2.2.2.2.2.2.2.2.2.2.2.2.2.2.2.2.2.2.2.2.1 _ _ M σ n w hI) (fun v n1 w1 M1 hv => ?_)
          obtain ⟨x, rfl, ⟨fs2, h287⟩, hM1, hr⟩ := hv
          rw [hM0] at hM1
          repeat (first | refine zR.step rfl ?_ | refine zR.iald rfl hM1 (Or.inr rfl) (by (try simp only [zn_lit, zn_add, zn_mul]); rfl) (by omega) (by omega) ?_)
          refine zR.cv rfl rfl rfl h287 rfl rfl ?_
          refine zR.mono hr (fun v' n2 w2 M2 hv => ?_)
          obtain ⟨rfl, hn, hw, σ', hI2⟩ := hv
          refine zR.step rfl ?_
          exact fin x M2 σ' n2 w2 _ hn hw hI2
        refine zR.swc (fun _ => ?_) (fun _ => ?_)
        · repeat (first | refine zR.step rfl ?_ | refine zR.iald rfl hM0 (Or.inr rfl) (by (try simp only [zn_lit, zn_add, zn_mul]); rfl) (by omega) (by omega) ?_)
          refine zR.cv rfl rfl rfl h25 rfl rfl ?_
          refine zR.mono (ho.2.2.2.2.2.2.2.2.2.2.2.2.2.2.2.2.2.2.2.2.2.1 _ _ M σ n w hI) (fun v n1 w1 M1 hv => ?_)
          obtain ⟨x, rfl, ⟨fs2, h287⟩, hM1, hr⟩ := hv
          rw [hM0] at hM1
          repeat (first | refine zR.step rfl ?_ | refine zR.iald rfl hM1 (Or.inr rfl) (by (try simp only [zn_lit, zn_add, zn_mul]); rfl) (by omega) (by omega) ?_)
          refine zR.cv rfl rfl rfl h287 rfl rfl ?_
          refine zR.mono hr (fun v' n2 w2 M2 hv => ?_)
          obtain ⟨rfl, hn, hw, σ', hI2⟩ := hv
          refine zR.step rfl ?_
          exact fin x M2 σ' n2 w2 _ hn hw hI2
        refine zR.swc (fun _ => ?_) (fun _ => ?_)
        · repeat (first | refine zR.step rfl ?_ | refine zR.iald rfl hM0 (Or.inr rfl) (by (try simp only [zn_lit, zn_add, zn_mul]); rfl) (by omega) (by omega) ?_)
          refine zR.cv rfl rfl rfl h25 rfl rfl ?_
          refine zR.mono (ho.2.2.2.2.2.2.2.2.2.2.2.2.2.2.2.2.2.2.2.2.2.2.1 _ _ M σ n w hI) (fun v n1 w1 M1 hv => ?_)
          obtain ⟨x, rfl, ⟨fs2, h287⟩, hM1, hr⟩ := hv
          rw [hM0] at hM1
          repeat (first | refine zR.step rfl ?_ | refine zR.iald rfl hM1 (Or.inr rfl) (by (try simp only [zn_lit, zn_add, zn_mul]); rfl) (by omega) (by omega) ?_)
          refine zR.cv rfl rfl rfl h287 rfl rfl ?_
          refine zR.mono hr (fun v' n2 w2 M2 hv => ?_)
          obtain ⟨rfl, hn, hw, σ', hI2⟩ := hv
          refine zR.step rfl ?_
          exact fin x M2 σ' n2 w2 _ hn hw hI2
        refine zR.swc (fun _ => ?_) (fun _ => ?_)
        · repeat (first | refine zR.step rfl ?_ | refine zR.iald rfl hM0 (Or.inr rfl) (by (try simp only [zn_lit, zn_add, zn_mul]); rfl) (by omega) (by omega) ?_)
          refine zR.cv rfl rfl rfl h25 rfl rfl ?_
          refine zR.mono (ho.2.2.2.2.2.2.2.2.2.2.2.2.2.2.2.2.2.2.2.2.2.2.2.1 M σ n w hI) (fun v n1 w1 M1 hv => ?_)
          obtain ⟨x, rfl, ⟨fs2, h287⟩, hM1, hr⟩ := hv
          rw [hM0] at hM1
          repeat (first | refine zR.step rfl ?_ | refine zR.iald rfl hM1 (Or.inr rfl) (by (try simp only [zn_lit, zn_add, zn_mul]); rfl) (by omega) (by omega) ?_)
          refine zR.cv rfl rfl rfl h287 rfl rfl ?_
          refine zR.mono hr (fun v' n2 w2 M2 hv => ?_)
          obtain ⟨rfl, hn, hw, σ', hI2⟩ := hv
          refine zR.step rfl ?_
          exact fin x M2 σ' n2 w2 _ hn hw hI2
        refine zR.swc (fun _ => ?_) (fun _ => ?_)
        · repeat (first | refine zR.step rfl ?_ | refine zR.iald rfl hM0 (Or.inr rfl) (by (try simp only [zn_lit, zn_add, zn_mul]); rfl) (by omega) (by omega) ?_)
          refine zR.cv rfl rfl rfl h25 rfl rfl ?_
          refine zR.mono (ho.2.2.2.2.2.2.2.2.2.2.2.2.2.2.2.2.2.2.2.2.2.2.2.2.1 _ _ M σ n w hI) (fun v n1 w1 M1 hv => ?_)
          obtain ⟨x, rfl, ⟨fs2, h287⟩, hM1, hr⟩ := hv
          rw [hM0] at hM1
          repeat (first | refine zR.step rfl ?_ | refine zR.iald rfl hM1 (Or.inr rfl) (by (try simp only [zn_lit, zn_add, zn_mul]); rfl) (by omega) (by omega) ?_)
          refine zR.cv rfl rfl rfl h287 rfl rfl ?_
          refine zR.mono hr (fun v' n2 w2 M2 hv => ?_)
          obtain ⟨rfl, hn, hw, σ', hI2⟩ := hv
          refine zR.step rfl ?_
          exact fin x M2 σ' n2 w2 _ hn hw hI2
        refine zR.swc (fun _ => ?_) (fun _ => ?_)
        · repeat (first | refine zR.step rfl ?_ | refine zR.iald rfl hM0 (Or.inr rfl) (by (try simp only [zn_lit, zn_add, zn_mul]); rfl) (by omega) (by omega) ?_)
          refine zR.cv rfl rfl rfl h25 rfl rfl ?_
          refine zR.mono (ho.2.2.2.2.2.2.2.2.2.2.2.2.2.2.2.2.2.2.2.2.2.2.2.2.2.1 _ M σ n w hI) (fun v n1 w1 M1 hv => ?_)
          obtain ⟨x, rfl, ⟨fs2, h287⟩, hM1, hr⟩ := hv
          rw [hM0] at hM1
          repeat (first | refine zR.step rfl ?_ | refine zR.iald rfl hM1 (Or.inr rfl) (by (try simp only [zn_lit, zn_add, zn_mul]); rfl) (by omega) (by omega) ?_)
          refine zR.cv rfl rfl rfl h287 rfl rfl ?_
          refine zR.mono hr (fun v' n2 w2 M2 hv => ?_)
          obtain ⟨rfl, hn, hw, σ', hI2⟩ := hv
          refine zR.step rfl ?_
          exact fin x M2 σ' n2 w2 _ hn hw hI2
        refine zR.swc (fun _ => ?_) (fun _ => ?_)
        · repeat (first | refine zR.step rfl ?_ | refine zR.iald rfl hM0 (Or.inr rfl) (by (try simp only [zn_lit, zn_add, zn_mul]); rfl) (by omega) (by omega) ?_)
          refine zR.cv rfl rfl rfl h25 rfl rfl ?_
          refine zR.mono (ho.2.2.2.2.2.2.2.2.2.2.2.2.2.2.2.2.2.2.2.2.2.2.2.2.2.2.1 _ _ _ M σ n w hI) (fun v n1 w1 M1 hv => ?_)
          obtain ⟨x, rfl, ⟨fs2, h287⟩, hM1, hr⟩ := hv
          rw [hM0] at hM1
          repeat (first | refine zR.step rfl ?_ | refine zR.iald rfl hM1 (Or.inr rfl) (by (try simp only [zn_lit, zn_add, zn_mul]); rfl) (by omega) (by omega) ?_)
          refine zR.cv rfl rfl rfl h287 rfl rfl ?_
          refine zR.mono hr (fun v' n2 w2 M2 hv => ?_)
          obtain ⟨rfl, hn, hw, σ', hI2⟩ := hv
          refine zR.step rfl ?_
          exact fin x M2 σ' n2 w2 _ hn hw hI2
        refine zR.swc (fun _ => ?_) (fun _ => ?_)
        · repeat (first | refine zR.step rfl ?_ | refine zR.iald rfl hM0 (Or.inr rfl) (by (try simp only [zn_lit, zn_add, zn_mul]); rfl) (by omega) (by omega) ?_)
          refine zR.cv rfl rfl rfl h25 rfl rfl ?_
          refine zR.mono (ho.2.2.2.2.2.2.2.2.2.2.2.2.2.2.2.2.2.2.2.2.2.2.2.2.2.2.2.1 _ M σ n w hI) (fun v n1 w1 M1 hv => ?_)
          obtain ⟨x, rfl, ⟨fs2, h287⟩, hM1, hr⟩ := hv
          rw [hM0] at hM1
          repeat (first | refine zR.step rfl ?_ | refine zR.iald rfl hM1 (Or.inr rfl) (by (try simp only [zn_lit, zn_add, zn_mul]); rfl) (by omega) (by omega) ?_)
          refine zR.cv rfl rfl rfl h287 rfl rfl ?_
          refine zR.mono hr (fun v' n2 w2 M2 hv => ?_)
          obtain ⟨rfl, hn, hw, σ', hI2⟩ := hv
          refine zR.step rfl ?_
          exact fin x M2 σ' n2 w2 _ hn hw hI2
        refine zR.swc (fun _ => ?_) (fun _ => ?_)
        · repeat (first | refine zR.step rfl ?_ | refine zR.iald rfl hM0 (Or.inr rfl) (by (try simp only [zn_lit, zn_add, zn_mul]); rfl) (by omega) (by omega) ?_)
          refine zR.cv rfl rfl rfl h25 rfl rfl ?_
          refine zR.mono (ho.2.2.2.2.2.2.2.2.2.2.2.2.2.2.2.2.2.2.2.2.2.2.2.2.2.2.2.2.1 _ _ _ M σ n w hI) (fun v n1 w1 M1 hv => ?_)
          obtain ⟨x, rfl, ⟨fs2, h287⟩, hM1, hr⟩ := hv
          rw [hM0] at hM1
          repeat (first | refine zR.step rfl ?_ | refine zR.iald rfl hM1 (Or.inr rfl) (by (try simp only [zn_lit, zn_add, zn_mul]); rfl) (by omega) (by omega) ?_)
          refine zR.cv rfl rfl rfl h287 rfl rfl ?_
          refine zR.mono hr (fun v' n2 w2 M2 hv => ?_)
          obtain ⟨rfl, hn, hw, σ', hI2⟩ := hv
          refine zR.step rfl ?_
          exact fin x M2 σ' n2 w2 _ hn hw hI2
        refine zR.swc (fun _ => ?_) (fun _ => ?_)
        · repeat (first | refine zR.step rfl ?_ | refine zR.iald rfl hM0 (Or.inr rfl) (by (try simp only [zn_lit, zn_add, zn_mul]); rfl) (by omega) (by omega) ?_)
          refine zR.cv rfl rfl rfl h25 rfl rfl ?_
          refine zR.mono (ho.2.2.2.2.2.2.2.2.2.2.2.2.2.2.2.2.2.2.2.2.2.2.2.2.2.2.2.2.2.1 _ _ _ M σ n w hI) (fun v n1 w1 M1 hv => ?_)
          obtain ⟨x, rfl, ⟨fs2, h287⟩, hM1, hr⟩ := hv
          rw [hM0] at hM1
          repeat (first | refine zR.step rfl ?_ | refine zR.iald rfl hM1 (Or.inr rfl) (by (try simp only [zn_lit, zn_add, zn_mul]); rfl) (by omega) (by omega) ?_)
          refine zR.cv rfl rfl rfl h287 rfl rfl ?_
          refine zR.mono hr (fun v' n2 w2 M2 hv => ?_)
          obtain ⟨rfl, hn, hw, σ', hI2⟩ := hv
          refine zR.step rfl ?_
          exact fin x M2 σ' n2 w2 _ hn hw hI2
        refine zR.swc (fun _ => ?_) (fun _ => ?_)
        · repeat (first | refine zR.step rfl ?_ | refine zR.iald rfl hM0 (Or.inr rfl) (by (try simp only [zn_lit, zn_add, zn_mul]); rfl) (by omega) (by omega) ?_)
          refine zR.cv rfl rfl rfl h25 rfl rfl ?_
          refine zR.mono (ho.2.2.2.2.2.2.2.2.2.2.2.2.2.2.2.2.2.2.2.2.2.2.2.2.2.2.2.2.2.2.1 _ _ M σ n w hI) (fun v n1 w1 M1 hv => ?_)
          obtain ⟨x, rfl, ⟨fs2, h287⟩, hM1, hr⟩ := hv
          rw [hM0] at hM1
          repeat (first | refine zR.step rfl ?_ | refine zR.iald rfl hM1 (Or.inr rfl) (by (try simp only [zn_lit, zn_add, zn_mul]); rfl) (by omega) (by omega) ?_)
          refine zR.cv rfl rfl rfl h287 rfl rfl ?_
          refine zR.mono hr (fun v' n2 w2 M2 hv => ?_)
          obtain ⟨rfl, hn, hw, σ', hI2⟩ := hv
          refine zR.step rfl ?_
          exact fin x M2 σ' n2 w2 _ hn hw hI2
        refine zR.swc (fun _ => ?_) (fun _ => ?_)
        · repeat (first | refine zR.step rfl ?_ | refine zR.iald rfl hM0 (Or.inr rfl) (by (try simp only [zn_lit, zn_add, zn_mul]); rfl) (by omega) (by omega) ?_)
          refine zR.cv rfl rfl rfl h25 rfl rfl ?_
          refine zR.mono (ho.2.2.2.2.2.2.2.2.2.2.2.2.2.2.2.2.2.2.2.2.2.2.2.2.2.2.2.2.2.2.2.1 _ _ _ M σ n w hI) (fun v n1 w1 M1 hv => ?_)
          obtain ⟨x, rfl, ⟨fs2, h287⟩, hM1, hr⟩ := hv
          rw [hM0] at hM1
          repeat (first | refine zR.step rfl ?_ | refine zR.iald rfl hM1 (Or.inr rfl) (by (try simp only [zn_lit, zn_add, zn_mul]); rfl) (by omega) (by omega) ?_)
          refine zR.cv rfl rfl rfl h287 rfl rfl ?_
          refine zR.mono hr (fun v' n2 w2 M2 hv => ?_)
          obtain ⟨rfl, hn, hw, σ', hI2⟩ := hv
          refine zR.step rfl ?_
          exact fin x M2 σ' n2 w2 _ hn hw hI2
        refine zR.swc (fun _ => ?_) (fun _ => ?_)
        · repeat (first | refine zR.step rfl ?_ | refine zR.iald rfl hM0 (Or.inr rfl) (by (try simp only [zn_lit, zn_add, zn_mul]); rfl) (by omega) (by omega) ?_)
          refine zR.cv rfl rfl rfl h25 rfl rfl ?_
          refine zR.mono (ho.2.2.2.2.2.2.2.2.2.2.2.2.2.2.2.2.2.2.2.2.2.2.2.2.2.2.2.2.2.2.2.2 M σ n w hI) (fun v n1 w1 M1 hv => ?_)
          obtain ⟨x, rfl, ⟨fs2, h287⟩, hM1, hr⟩ := hv
          rw [hM0] at hM1
          repeat (first | refine zR.step rfl ?_ | refine zR.iald rfl hM1 (Or.inr rfl) (by (try simp only [zn_lit, zn_add, zn_mul]); rfl) (by omega) (by omega) ?_)
          refine zR.cv rfl rfl rfl h287 rfl rfl ?_
          refine zR.mono hr (fun v' n2 w2 M2 hv => ?_)
          obtain ⟨rfl, hn, hw, σ', hI2⟩ := hv
          refine zR.step rfl ?_
          exact fin x M2 σ' n2 w2 _ hn hw hI2
        show zR ztb 1000 kL_law 2 1215 _ _ _ _ _ _
        have q := fin 0 M σ n w 0 (by omega) (by omega) hI
        rw [zbc_self] at q
        exact q

