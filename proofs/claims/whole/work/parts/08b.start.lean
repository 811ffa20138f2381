/-! THE START: from the law's entry to the abstract machine. -/
def zabove : List Int32 := [-1, 0, 0, 1, 0, 3]
def zbodies : List Int32 := [10, 11, 12, 13, 20, 0, 0, 21, 0, 30, 0, 0, 0, 41, 40, 0, 0, 0, 0, 50, 60, 0, 61, 0]
def zslen : List Nat := [4, 3, 4, 3, 2, 3, 5, 3, 4, 4, 0]
def zsbyt : List (List Int32) := [[103, 105, 118, 101], [98, 97, 114], [119, 104, 101, 110], [97, 110, 100], [111, 114], [110, 111, 116], [115, 116, 111, 99, 107], [104, 97, 100], [119, 101, 101, 107], [115, 105, 122, 101], []]
/-- the cells that are there before the law begins: the script, two tables, the words -/
def zX (L : Nat) (xs : Nat → Int32) (k : Nat) : zC :=
  if k = 0 then .inl (7, L, .inl xs) else if k = 1 then .inl (7, 6, .inl (fun j => zabove.getD j 0)) else if k = 2 then .inl (7, 24, .inl (fun j => zbodies.getD j 0)) else if k < 25 then (if k % 2 = 1 then .inr (13, [.ref (k + 1), .int 0]) else .inl (8, zslen.getD ((k - 4) / 2) 0, .inl (fun j => (zsbyt.getD ((k - 4) / 2) []).getD j 0))) else zabs
def zrr (s : State) (b tA tB : Nat) (adK adV : Nat → Nat) (k : Nat) : Nat :=
  if k = 0 then b else if k = 1 then tA else if k = 2 then tB else if k < 25 then (if k % 2 = 1 then adK ((k - 3) / 2) else adV ((k - 4) / 2)) else s.heap.size + (k - 25)
def ztm (i : Nat) : Term := .string "GardenBoxes$Tokens" (zstrs.getD i (0, "")).1
set_option maxRecDepth 20000 in
theorem z_atoms : (∀ i, i < 11 → Cond.exactly (ztm i) "java/lang/String" ∈ flatC (Cond.and given_1 narrow_1)) ∧ (∀ i, i < 11 → Cond.eq (.field (ztm i) "java/lang/String" "coder" "B") (.int 0) ∈ flatC (Cond.and given_1 narrow_1)) ∧ (∀ i, i < 11 → Cond.arrayOf (.field (ztm i) "java/lang/String" "value" "[B") .byte ∈ flatC (Cond.and given_1 narrow_1)) ∧ (∀ i, i < 11 → Cond.eq (.length (.field (ztm i) "java/lang/String" "value" "[B")) (.int (Int32.ofNat (zslen.getD i 0))) ∈ flatC (Cond.and given_1 narrow_1)) ∧ (∀ i, i < 11 → ∀ j, j < zslen.getD i 0 → Cond.eq (.elem (.field (ztm i) "java/lang/String" "value" "[B") (.int (Int32.ofNat j))) (.int ((zsbyt.getD i []).getD j 0)) ∈ flatC (Cond.and given_1 narrow_1)) ∧ (∀ i, i < 11 → ∀ j, j < 11 → i ≠ j → Cond.not (Cond.eq (ztm i) (ztm j)) ∈ flatC (Cond.and given_1 narrow_1) ∨ Cond.not (Cond.eq (ztm j) (ztm i)) ∈ flatC (Cond.and given_1 narrow_1)) := ⟨by decide +kernel, by decide +kernel, by decide +kernel, by decide +kernel, by decide +kernel, by decide +kernel⟩
set_option maxRecDepth 20000 in
theorem z_tabs : (Cond.arrayOf (.static "GardenBoxes" "ABOVE" "[I") .int ∈ flatC (Cond.and given_1 narrow_1) ∧ Cond.eq (.length (.static "GardenBoxes" "ABOVE" "[I")) (.int (Int32.ofNat 6)) ∈ flatC (Cond.and given_1 narrow_1) ∧ ∀ j, j < 6 → Cond.eq (.elem (.static "GardenBoxes" "ABOVE" "[I") (.int (Int32.ofNat j))) (.int (zabove.getD j 0)) ∈ flatC (Cond.and given_1 narrow_1)) ∧ (Cond.arrayOf (.static "GardenBoxes" "BODIES" "[I") .int ∈ flatC (Cond.and given_1 narrow_1) ∧ Cond.eq (.length (.static "GardenBoxes" "BODIES" "[I")) (.int (Int32.ofNat 24)) ∈ flatC (Cond.and given_1 narrow_1) ∧ ∀ j, j < 24 → Cond.eq (.elem (.static "GardenBoxes" "BODIES" "[I") (.int (Int32.ofNat j))) (.int (zbodies.getD j 0)) ∈ flatC (Cond.and given_1 narrow_1)) ∧ Cond.eq (.static "java/lang/String" "COMPACT_STRINGS" "Z") (.int 1) ∈ flatC (Cond.and given_1 narrow_1) ∧ Cond.isRef (.static "jdk/internal/util/Preconditions" "SIOOBE_FORMATTER" "Ljava/util/function/BiFunction;") ∈ flatC (Cond.and given_1 narrow_1) := ⟨⟨by decide +kernel, by decide +kernel, by decide +kernel⟩, ⟨by decide +kernel, by decide +kernel, by decide +kernel⟩, by decide +kernel, by decide +kernel⟩
theorem z_words : (∀ t, t < 3 → Cond.arrayClass (zty t) ∈ lw_tbl) ∧ (∀ C ∈ zaos, Cond.arrayOver (.object C) ∈ lw_tbl) ∧ (∀ q ∈ zstat, Cond.laysStatic q.1 q.2.1 q.2.2.1 ∈ lw_tbl ∧ Cond.initialized q.1 ∈ lw_tbl) ∧ (∀ i, i < 11 → Cond.stringRef "GardenBoxes$Tokens" (zstrs.getD i (0, "")).1 (zstrs.getD i (0, "")).2 ∈ lw_tbl) := ⟨by decide +kernel, by decide +kernel, by decide +kernel, by decide +kernel⟩
theorem z_znst {s : State} {args : Array Value} (hts : ∀ w ∈ lw_tbl, w.before args s = true) : ∀ w ∈ znst, va_Nw w s := by
  intro w hw
  obtain ⟨h1, h2⟩ := List.mem_filter.mp hw
  refine va_Nw.of ?_ (hts w (List.mem_append_right _ h1))
  cases w <;> first | rfl | cases h2
theorem z_vaK {s : State} {args : Array Value} (hts : ∀ w ∈ lw_tbl, w.before args s = true) : ∃ (D : va_G) (cA : Nat → ClassId), va_K D zcl (ztys cA) s := by
  have hkn : ∀ ci : Nat, ∃ x : ClassId × (Nat → Nat), ∀ q, zcl[ci]? = some q → u_Kn s q.1 q.2.1 q.2.2 x.1 x.2 := by
    intro ci
    cases hq : zcl[ci]? with
    | none => exact ⟨((0 : Nat), fun _ => 0), fun q h => by cases h⟩
    | some q =>
      obtain ⟨ty, o1, o2, o3, o4, o5, o6⟩ := zok_all ci q hq
      obtain ⟨c0, i0, h0⟩ := u_known (C := q.1) (T := q.2.1) (N := q.2.2) (n := q.2.2) hts o1 (hts _ o5)
      exact ⟨(c0, i0), fun q' h => by cases h; exact h0⟩
  obtain ⟨f, hf⟩ := Classical.axiomOfChoice hkn
  have prim : ∀ t : Nat, (Cond.arrayClass (zty t)).before args s = true → (∀ c : ClassId, s.vm.findClass ("[" ++ (zty t).toString) = some c → va_RA s c (zty t)) → ∃ c : ClassId, ArrOfT s c (zty t) ∧ va_RA s c (zty t) := by
    intro t h h2
    obtain ⟨c, k, comp, h1, h3, h4⟩ := Cond.arrayClass_spec h
    exact ⟨c, fun n z => ⟨(fun k h => by cases h), k, h3, comp, h4⟩, h2 c h1⟩
  have refs : ∀ C : String, C ∈ zaos → ∃ c : ClassId, ArrOfT s c (.object C) ∧ va_RA s c (.object C) := by
    intro C hC
    obtain ⟨comp, c, k, h1, h2, h3, h4, h5⟩ := Cond.arrayOver_spec (hts _ (z_words.2.1 C hC))
    exact ⟨c, fun n z => ⟨(fun k h => by cases h), k, h3, comp, h4⟩, k, comp, h3, h4, h1, h5⟩
  have hca : ∀ t : Nat, ∃ c : ClassId, t < 7 → ArrOfT s c (zty t) ∧ va_RA s c (zty t) := by
    intro t
    match t with
    | 0 => obtain ⟨c, h⟩ := prim 0 (hts _ (z_words.1 0 (by decide))) (fun c h => h); exact ⟨c, fun _ => h⟩
    | 1 => obtain ⟨c, h⟩ := prim 1 (hts _ (z_words.1 1 (by decide))) (fun c h => h); exact ⟨c, fun _ => h⟩
    | 2 => obtain ⟨c, h⟩ := prim 2 (hts _ (z_words.1 2 (by decide))) (fun c h => h); exact ⟨c, fun _ => h⟩
    | 3 => obtain ⟨c, h⟩ := refs "GardenBoxes$Crop" (by decide); exact ⟨c, fun _ => h⟩
    | 4 => obtain ⟨c, h⟩ := refs "GardenBoxes$Bed" (by decide); exact ⟨c, fun _ => h⟩
    | 5 => obtain ⟨c, h⟩ := refs "GardenBoxes$House" (by decide); exact ⟨c, fun _ => h⟩
    | 6 => obtain ⟨c, h⟩ := refs "GardenBoxes$Sheet" (by decide); exact ⟨c, fun _ => h⟩
    | t + 7 => exact ⟨(0 : Nat), fun h => by omega⟩
  obtain ⟨g, hg⟩ := Classical.axiomOfChoice hca
  refine ⟨(fun ci => (f ci).1, fun ci => (f ci).2), g, fun ci q hq => hf ci q hq, fun k q hq => ?_⟩
  match k, hq with
  | 0, hq => cases hq; exact hg 0 (by decide)
  | 1, hq => cases hq; exact hg 1 (by decide)
  | 2, hq => cases hq; exact hg 2 (by decide)
  | 3, hq => cases hq; exact hg 3 (by decide)
  | 4, hq => cases hq; exact hg 4 (by decide)
  | 5, hq => cases hq; exact hg 5 (by decide)
  | 6, hq => cases hq; exact hg 6 (by decide)
  | k + 7, hq => simp [ztys] at hq
