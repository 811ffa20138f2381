/-! HOW THE ABSTRACT MACHINE STANDS TO THE REAL ONE. r: where a number's cell lies; fm: a static that nobody asks; D, cA: the classes' numbers; H0: the heap at the law's start; X: the cells that were there. -/
def zv (r : Nat → Nat) (fm : Value) : Value → Value
  | .ref k => .ref (r k)
  | .retAddr _ => fm
  | v => v
def zty (t : Nat) : FieldType := match t with
  | 0 => .int
  | 1 => .byte
  | 2 => .boolean
  | 3 => .object "GardenBoxes$Crop"
  | 4 => .object "GardenBoxes$Bed"
  | 5 => .object "GardenBoxes$House"
  | 6 => .object "GardenBoxes$Sheet"
  | 7 => .int
  | _ => .byte
def ztys (cA : Nat → ClassId) : List (ClassId × FieldType) := [(cA 0, zty 0), (cA 1, zty 1), (cA 2, zty 2), (cA 3, zty 3), (cA 4, zty 4), (cA 5, zty 5), (cA 6, zty 6)]
def zac (r : Nat → Nat) (cA : Nat → ClassId) (t n : Nat) (c : (Nat → Int32) ⊕ (Nat → Option Nat)) : Cell := match c with
  | .inl f => arrV (cA t) n (fun j => .int (f j))
  | .inr g => arrV (cA t) n (fun j => va_rf ((g j).map r))
def zat (r : Nat → Nat) (fm : Value) (D : va_G) (cA : Nat → ClassId) (H : Heap) (a : Nat) (c : zC) : Prop := match c with
  | .inl (t, n, x) => t < 7 ∧ H[a]? = some (zac r cA t n x)
  | .inr (ci, fs) => ∃ q : vw_C, zcl[ci]? = some q ∧ t_OB a (D.1 ci) q.2.2 (D.2 ci) H (vp_V (fs.map (zv r fm)))
def zext (r : Nat → Nat) (U : State) (H0 : Heap) (a : Nat) (c : zC) : Prop := match c with
  | .inl (t, n, .inl f) => (t = 7 ∨ t = 8) ∧ ∃ cell : Cell, H0[a]? = some cell ∧ U.isArrayOf cell (zty t) ∧ cell.vm ≠ .unknown ∧ n ≤ cell.slots.size ∧ cell.slots.size.toInt32 = Int32.ofNat n ∧ ∀ j : Nat, j < n → cell.slots[j]? = some (.int (f j))
  | .inr (13, [.ref b, .int 0]) => va_O "java/lang/String" a (fun _ => False) U H0 ∧ va_OF "java/lang/String" "coder" "B" (.int 0) a (fun _ => False) U H0 ∧ va_OF "java/lang/String" "value" "[B" (.ref (r b)) a (fun _ => False) U H0
  | _ => False
def zabs : zC := .inr (99, [])
def zH (r : Nat → Nat) (fm : Value) (D : va_G) (cA : Nat → ClassId) (H0 : Heap) (X : Nat → zC) (H : Heap) (n : Nat) (M : zM) : Prop :=
  25 ≤ n ∧ H.size = H0.size + (n - 25) ∧ (∀ q : Nat, q < H0.size → H[q]? = H0[q]?) ∧ (∀ k, k < 25 → M k = X k) ∧ (∀ k, 25 ≤ k → k < n → zat r fm D cA H (r k) (M k)) ∧ ∀ k, n ≤ k → M k = zabs
/-- where the numbers lie -/
def zrho (r : Nat → Nat) (H0 : Heap) : Prop := (∀ k, 25 ≤ k → r k = H0.size + (k - 25)) ∧ ∀ k, k < 25 → r k < H0.size
def zaos : List String := ["GardenBoxes$Crop", "GardenBoxes$Bed", "GardenBoxes$House", "GardenBoxes$Sheet"]
def znw : Cond → Bool
  | .fieldLinkNest .. => true
  | .methodLinkNest .. => true
  | .castable .. => true
  | _ => false
def znst : List Cond := tables_1.filter znw
def zstat : List (String × String × String × Value) := [("GardenBoxes", "ABOVE", "[I", .ref 1), ("GardenBoxes", "BODIES", "[I", .ref 2), ("java/lang/String", "COMPACT_STRINGS", "Z", .int 1), ("jdk/internal/util/Preconditions", "SIOOBE_FORMATTER", "Ljava/util/function/BiFunction;", .retAddr 0)]
def zstrs : List (Nat × String) := [(82, "give"), (84, "bar"), (86, "when"), (88, "and"), (90, "or"), (92, "not"), (94, "stock"), (96, "had"), (98, "week"), (100, "size"), (101, "")]
def zK (r : Nat → Nat) (fm : Value) (D : va_G) (cA : Nat → ClassId) (H0 : Heap) (X : Nat → zC) (U : State) : Prop :=
  va_K D zcl (ztys cA) U ∧ (∀ C ∈ zaos, va_AO C U) ∧ (∀ w ∈ znst, va_Nw w U) ∧ (∀ q ∈ zstat, va_Z q.1 q.2.1 q.2.2.1 (zv r fm q.2.2.2) (fun _ => False) U H0) ∧ (∀ (i : Nat) (q : Nat × String), zstrs[i]? = some q → vk_R "GardenBoxes$Tokens" q.1 q.2 (r (3 + 2 * i)) U) ∧ ∀ k, k < 25 → zext r U H0 (r k) (X k)
theorem zext.moved {r : Nat → Nat} {u U : State} {H0 : Heap} {a : Nat} {c : zC} (hvm : u.vm.Alike U.vm) (h : zext r u H0 a c) : zext r U H0 a c := by
  unfold zext at h ⊢
  split at h
  · obtain ⟨h0, cell, h1, h2, h3⟩ := h
    exact ⟨h0, cell, h1, State.isArrayOf_alike hvm h2, h3⟩
  · obtain ⟨h1, h2, h3⟩ := h
    exact ⟨va_O.moved hvm h1, va_OF.moved hvm h2, va_OF.moved hvm h3⟩
  · exact h.elim
theorem zK.same {r : Nat → Nat} {fm : Value} {D : va_G} {cA : Nat → ClassId} {H0 : Heap} {X : Nat → zC} {u U : State} (hv : u.vm = U.vm) (h : zK r fm D cA H0 X u) : zK r fm D cA H0 X U := by
  obtain ⟨k1, k2, k3, k4, k5, k6⟩ := h
  have hvm : u.vm.Alike U.vm := by rw [← hv]; exact Vm.Alike.refl _
  refine ⟨k1.moved hvm, fun C hC => (k2 C hC).moved hvm, fun w hw => ?_, fun q hq => (k4 q hq).moved hvm, fun i q hq => vk_R.same hv.symm (k5 i q hq), fun k hk => (k6 k hk).moved hvm⟩
  have hz := (List.mem_filter.mp hw).2
  refine va_Nw.same ?_ hv (k3 w hw)
  cases w <;> first | rfl | cases hz
theorem zK.warm {r : Nat → Nat} {fm : Value} {D : va_G} {cA : Nat → ClassId} {H0 : Heap} {X : Nat → zC} {s U : State} (hW : s.WarmedH U.vm) (h : zK r fm D cA H0 X s) : zK r fm D cA H0 X U := by
  obtain ⟨k1, k2, k3, k4, k5, k6⟩ := h
  have hvm : s.vm.Alike U.vm := hW.alike
  refine ⟨k1.moved hvm, fun C hC => (k2 C hC).moved hvm, fun w hw => ?_, fun q hq => (k4 q hq).moved hvm, fun i q hq => vk_R.warm hW (k5 i q hq), fun k hk => (k6 k hk).moved hvm⟩
  have hz := (List.mem_filter.mp hw).2
  have h3 := k3 w hw
  cases w <;> first | exact va_Nw.warmF hW h3 | exact va_Nw.warmM hW h3 | exact va_Nw.warmC hW h3 | cases hz
/-- the words that go along -/
def ztbl : List Cond := lw_tbl.filter goodWord
theorem ztbl_of {i : Nat} {w : Cond} (h : lw_tbl[i]? = some w) (hg : goodWord w = true) : w ∈ ztbl := List.mem_filter.mpr ⟨List.mem_of_getElem? h, hg⟩
theorem ztbl_in {w : Cond} (h : w ∈ lw_tbl) (hg : goodWord w = true) : w ∈ ztbl := List.mem_filter.mpr ⟨h, hg⟩
theorem zlay_in {C : String} {T : u_T} {N : Nat} (h : ∀ w ∈ u_ws C T N, w ∈ lw_tbl) : ∀ w ∈ u_ws C T N, w ∈ ztbl := by
  intro w hw
  refine ztbl_in (h w hw) ?_
  obtain ⟨k, -, rfl⟩ := List.mem_map.mp hw
  unfold u_lay
  split <;> rfl
