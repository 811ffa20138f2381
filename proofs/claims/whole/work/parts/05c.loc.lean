/-! LOCALS. -/
def zfm (fm : Value) : Prop := fm = .null ∨ ∃ a, fm = .ref a
theorem zv_cat {r : Nat → Nat} {fm : Value} (hf : zfm fm) (v : Value) : (zv r fm v).category = v.category := by
  cases v <;> try rfl
  rcases hf with h | ⟨a, h⟩ <;> rw [zv, h] <;> rfl
def zLoc (r : Nat → Nat) (fm : Value) (ls : Array Slot) (nL : Nat) (L : zL) : Prop := ls.size = nL ∧ lv_wf ls ∧ ∀ (i : Nat) (v : Value), zget L i = some v → ls[i]? = some (.val (zv r fm v))
def zprs (r : Nat → Nat) (fm : Value) : zL → Nat → List (Nat × Value)
  | [], _ => []
  | none :: l, i => zprs r fm l (i + 1)
  | some v :: l, i => (i, zv r fm v) :: zprs r fm l (i + 1)
theorem zprs_mem {r : Nat → Nat} {fm : Value} : ∀ (L : zL) (i : Nat) (q : Nat × Value), q ∈ zprs r fm L i → ∃ k v, q = (i + k, zv r fm v) ∧ zget L k = some v
  | [], _, _, h => by cases h
  | none :: l, i, q, h => by
    obtain ⟨k, v, h1, h2⟩ := zprs_mem l (i + 1) q h
    exact ⟨k + 1, v, by rw [h1]; congr 1; omega, h2⟩
  | some u :: l, i, q, h => by
    rcases List.mem_cons.mp h with h | h
    · exact ⟨0, u, h, rfl⟩
    · obtain ⟨k, v, h1, h2⟩ := zprs_mem l (i + 1) q h
      exact ⟨k + 1, v, by rw [h1]; congr 1; omega, h2⟩
theorem zprs_in {r : Nat → Nat} {fm : Value} : ∀ (L : zL) (i k : Nat) (v : Value), zget L k = some v → (i + k, zv r fm v) ∈ zprs r fm L i
  | [], _, _, _, h => by cases h
  | none :: l, i, 0, v, h => by cases h
  | none :: l, i, k + 1, v, h => by
    have := zprs_in (r := r) (fm := fm) l (i + 1) k v h
    rw [show i + (k + 1) = i + 1 + k by omega]
    exact this
  | some u :: l, i, 0, v, h => by
    cases h
    exact List.mem_cons_self
  | some u :: l, i, k + 1, v, h => by
    have := zprs_in (r := r) (fm := fm) l (i + 1) k v h
    rw [show i + (k + 1) = i + 1 + k by omega]
    exact List.mem_cons_of_mem _ this
theorem zLoc.has {r : Nat → Nat} {fm : Value} {ls : Array Slot} {nL : Nat} {L : zL} (h : zLoc r fm ls nL L) : lv_has ls nL (zprs r fm L 0) := by
  refine ⟨h.1, h.2.1, fun q hq => ?_⟩
  obtain ⟨k, v, rfl, h2⟩ := zprs_mem L 0 q hq
  rw [Nat.zero_add]
  exact h.2.2 k v h2
theorem zget_set (L : zL) (i j : Nat) (o : Option Value) (v : Value) (h : zget (zset L i o) j = some v) : (j = i ∧ o = some v) ∨ (j ≠ i ∧ zget L j = some v) := by
  induction L generalizing i j with
  | nil => simp [zset, zget] at h
  | cons a l ih =>
    cases i with
    | zero =>
      cases j with
      | zero => exact Or.inl ⟨rfl, h⟩
      | succ j => exact Or.inr ⟨by omega, h⟩
    | succ i =>
      cases j with
      | zero => exact Or.inr ⟨by omega, h⟩
      | succ j =>
        rcases ih i j h with ⟨h1, h2⟩ | ⟨h1, h2⟩
        · exact Or.inl ⟨by omega, h2⟩
        · exact Or.inr ⟨by omega, h2⟩
theorem zget_clr (L : zL) (i j : Nat) (v : Value) (h : zget (zclr L i) j = some v) : zget L j = some v ∧ ¬ (j + 1 = i ∧ v.category = 2) := by
  cases i with
  | zero => exact ⟨h, by omega⟩
  | succ i =>
    unfold zclr at h
    dsimp only at h
    cases hc : zc2 (zget L i) with
    | true =>
      rw [hc, cond_true] at h
      rcases zget_set L i j none v h with ⟨h1, h2⟩ | ⟨h1, h2⟩
      · cases h2
      · exact ⟨h2, by omega⟩
    | false =>
      rw [hc, cond_false] at h
      refine ⟨h, fun q => ?_⟩
      obtain ⟨q1, q2⟩ := q
      have : j = i := by omega
      subst this
      rw [h] at hc
      cases v <;> simp [Value.category, zc2] at q2 hc
theorem zLoc.sto {r : Nat → Nat} {fm : Value} (hf : zfm fm) {ls : Array Slot} {nL i : Nat} {L : zL} {v : Value} {l : List (Nat × Value)} (h : lv_has ls nL l) (hl : (i, zv r fm v) :: (zprs r fm L 0).filter (fun q => !(q.1 == i) && !(q.1 + 1 == i && q.2.category == 2)) = l) : zLoc r fm ls nL (zsto L i v) := by
  subst hl
  refine ⟨h.1, h.2.1, fun j u hu => ?_⟩
  rcases zget_set _ _ _ _ _ hu with ⟨h1, h2⟩ | ⟨h1, h2⟩
  · cases h2
    subst h1
    exact h.2.2 (j, zv r fm v) List.mem_cons_self
  · obtain ⟨h3, h4⟩ := zget_clr _ _ _ _ h2
    refine h.2.2 (j, zv r fm u) (List.mem_cons_of_mem _ (List.mem_filter.mpr ⟨?_, ?_⟩))
    · have := zprs_in (r := r) (fm := fm) L 0 j u h3
      rwa [Nat.zero_add] at this
    · simp only [Bool.and_eq_true, Bool.not_eq_true', beq_eq_false_iff_ne, ne_eq, Bool.and_eq_false_iff, zv_cat hf]
      refine ⟨h1, ?_⟩
      by_cases hj : j + 1 = i
      · exact Or.inr (fun q => h4 ⟨hj, q⟩)
      · exact Or.inl hj
theorem zLoc.sto2 {r : Nat → Nat} {fm : Value} (hf : zfm fm) {ls : Array Slot} {nL i : Nat} {L : zL} {v : Value} {l : List (Nat × Value)} (h : lv_has ls nL l) (hl : (i, zv r fm v) :: (zprs r fm L 0).filter (fun q => !(q.1 == i) && (!(q.1 == i + 1) && !(q.1 + 1 == i && q.2.category == 2))) = l) : zLoc r fm ls nL (zsto2 L i v) := by
  subst hl
  refine ⟨h.1, h.2.1, fun j u hu => ?_⟩
  rcases zget_set _ _ _ _ _ hu with ⟨h1, h2⟩ | ⟨h0, h2⟩
  · cases h2
  rcases zget_set _ _ _ _ _ h2 with ⟨h1, h2⟩ | ⟨h1, h2⟩
  · cases h2
    subst h1
    exact h.2.2 (j, zv r fm v) List.mem_cons_self
  · obtain ⟨h3, h4⟩ := zget_clr _ _ _ _ h2
    refine h.2.2 (j, zv r fm u) (List.mem_cons_of_mem _ (List.mem_filter.mpr ⟨?_, ?_⟩))
    · have := zprs_in (r := r) (fm := fm) L 0 j u h3
      rwa [Nat.zero_add] at this
    · simp only [Bool.and_eq_true, Bool.not_eq_true', beq_eq_false_iff_ne, ne_eq, Bool.and_eq_false_iff, zv_cat hf]
      refine ⟨h1, h0, ?_⟩
      by_cases hj : j + 1 = i
      · exact Or.inr (fun q => h4 ⟨hj, q⟩)
      · exact Or.inl hj
theorem zget_pad : ∀ (n k : Nat), zget (zpad n) k = none
  | 0, _ => rfl
  | _ + 1, 0 => rfl
  | n + 1, k + 1 => zget_pad n k
theorem zent_args {r : Nat → Nat} {fm : Value} (hf : zfm fm) : ∀ (as : List Value) (n i k : Nat) (v : Value), zget (zent as n) k = some v → (i + k, zv r fm v) ∈ lv_args i (as.map (zv r fm))
  | [], n, i, k, v, h => by
    rw [zent, zget_pad] at h
    cases h
  | a :: as, n, i, k, v, h => by
    by_cases hc : a.category = 2
    · have hl : zent (a :: as) n = some a :: none :: zent as (n - 2) := by
        cases a <;> first | rfl | cases hc
      rw [hl] at h
      show _ ∈ (i, zv r fm a) :: lv_args (if (zv r fm a).category = 2 then i + 2 else i + 1) (as.map (zv r fm))
      rw [zv_cat hf, if_pos hc]
      match k, h with
      | 0, h => cases h; exact List.mem_cons_self
      | 1, h => cases h
      | k + 2, h =>
        have := zent_args (r := r) hf as (n - 2) (i + 2) k v h
        rw [show i + (k + 2) = i + 2 + k by omega]
        exact List.mem_cons_of_mem _ this
    · have hl : zent (a :: as) n = some a :: zent as (n - 1) := by
        cases a <;> first | rfl | exact absurd rfl hc
      rw [hl] at h
      show _ ∈ (i, zv r fm a) :: lv_args (if (zv r fm a).category = 2 then i + 2 else i + 1) (as.map (zv r fm))
      rw [zv_cat hf, if_neg hc]
      match k, h with
      | 0, h => cases h; exact List.mem_cons_self
      | k + 1, h =>
        have := zent_args (r := r) hf as (n - 1) (i + 1) k v h
        rw [show i + (k + 1) = i + 1 + k by omega]
        exact List.mem_cons_of_mem _ this
theorem zlg_len {r : Nat → Nat} {fm : Value} (hf : zfm fm) : ∀ as : List Value, (lg_sl (as.map (zv r fm))).length = zdp as
  | [] => rfl
  | a :: as => by
    have ih := zlg_len (r := r) hf as
    show ((if (zv r fm a).category = 2 then [Slot.val (zv r fm a), .second] else [.val (zv r fm a)]) ++ lg_sl (as.map (zv r fm))).length = a.category + zdp as
    rw [List.length_append, ih, zv_cat hf]
    rcases lv_cat a with h | h <;> rw [h] <;> rfl
theorem zLoc.entry {r : Nat → Nat} {fm : Value} (hf : zfm fm) (as : List Value) {n : Nat} (h : Nat.ble (zdp as) n = true) : zLoc r fm ((lg_sl (as.map (zv r fm)) ++ List.replicate (n - (lg_sl (as.map (zv r fm))).length) Slot.unset).toArray) n (zent as n) := by
  have hle : (lg_sl (as.map (zv r fm))).length ≤ n := by rw [zlg_len hf]; exact Nat.le_of_ble_eq_true h
  have h1 := lv_entry (as.map (zv r fm)) hle
  refine ⟨h1.1, h1.2.1, fun i v hv => ?_⟩
  have := zent_args (r := r) hf as n 0 i v hv
  rw [Nat.zero_add] at this
  exact h1.2.2 _ this
