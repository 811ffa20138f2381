/-! WHAT THE TABLES OF CODE MUST KEEP: by a program. -/
abbrev zinf : Type := MethodName × ByteArray × Option FieldType
/-- how long an instruction is; 0: a switch -/
def zlnk : Instr → Nat
  | .bipush _ => 2
  | .sipush _ => 3
  | .ldc _ => 2
  | .ldc_w _ => 3
  | .ldc2_w _ => 3
  | .getstatic _ => 3
  | .iload _ => 2
  | .lload _ => 2
  | .aload _ => 2
  | .istore _ => 2
  | .lstore _ => 2
  | .astore _ => 2
  | .iinc _ _ => 3
  | .goto _ => 3
  | .ifCond _ _ => 3
  | .if_icmp _ _ => 3
  | .ifnull _ => 3
  | .ifnonnull _ => 3
  | .tableswitch _ _ _ _ => 0
  | .lookupswitch _ _ => 0
  | .getfield _ => 3
  | .putfield _ => 3
  | .newarray _ => 2
  | .anewarray _ => 3
  | .new _ => 3
  | .checkcast _ => 3
  | .invokespecial _ => 3
  | .invokestatic _ => 3
  | .invokevirtual _ => 3
  | _ => 1
/-- the pairs of a lookupswitch, as keys and places -/
def zlk (pc : Nat) : List (Int × Int) → List (Int32 × Nat) → Bool
  | [], [] => true
  | p :: ps, q :: qs => decide (q.1.toInt = p.1) && (decide ((pc : Int) + p.2 = (q.2 : Int)) && zlk pc ps qs)
  | _, _ => false
/-- the offsets of a tableswitch from the key lo on -/
def ztk (pc : Nat) : Int → List Int → List (Int32 × Nat) → Bool
  | _, [], [] => true
  | lo, p :: ps, q :: qs => decide (q.1.toInt = lo) && (decide ((pc : Int) + p = (q.2 : Int)) && ztk pc (lo + 1) ps qs)
  | _, _, _ => false
def zkd (k : Nat) (ty : FieldType) : Bool := match k, ty with
  | 0, .int => true
  | 1, .boolean => true
  | 2, .object _ => true
  | 2, .array _ => true
  | _, _ => false
def zat1 (li : Nat) (w : Cond) : Bool := decide (lw_tbl[li]? = some w)
def zfld (ci k : Nat) : Option (String × String × String × Bool) := match zcl[ci]? with
  | some q => if k < q.2.2 then some (q.2.1 k) else none
  | none => none
def zcls (cc : Nat) : String := if cc = 13 then "java/lang/String" else match zcl[cc]? with
  | some q => q.1
  | none => ""
/-- the words of a call -/
def zcw (inf : Nat → zinf) (own : String) (idx r1 r3 li : Nat) : Bool := if r3 < 3 then zat1 li (.methodLink own idx (inf r1).1) else zat1 li (.methodLinkNest own idx (inf r1).1 "GardenBoxes")
def zch1 (inf : Nat → zinf) (tb : Nat → zMt) (ny y pc : Nat) (e : zI) : Bool := match e with
  | (i, nx, r1, r2, r3, li, v, sw) => match i with
    | .aconst_null => decide (v = .null)
    | .iconst c => decide (v = .int (Int32.ofInt c))
    | .bipush c => decide (v = .int (Int8.ofInt c).toInt32)
    | .sipush c => decide (v = .int (Int16.ofInt c).toInt32)
    | .lconst c => decide (v = .long (Int64.ofNat c))
    | .ldc idx => if r3 = 1 then decide ((zstrs[r1]?).map Prod.fst = some idx) && (decide (v = .ref (3 + 2 * r1)) && decide ((inf y).1.cls = "GardenBoxes$Tokens")) else (match v with
      | .int x => zat1 li (.constant (inf y).1.cls idx x)
      | _ => false)
    | .ldc_w idx => match v with
      | .int x => zat1 li (.constant (inf y).1.cls idx x)
      | _ => false
    | .ldc2_w idx => match v with
      | .long x => zat1 li (.constantLong (inf y).1.cls idx x)
      | _ => false
    | .getstatic idx => match zstat[r1]? with
      | some q => decide (v = q.2.2.2) && (if r3 = 0 then zat1 li (.fieldLink (inf y).1.cls idx q.1 q.2.1 q.2.2.1) else zat1 li (.fieldLinkNest (inf y).1.cls idx q.1 q.2.1 q.2.2.1 "GardenBoxes"))
      | none => false
    | .iload a => decide (a = r1)
    | .iload_n a => decide ((a : Nat) = r1)
    | .lload a => decide (a = r1)
    | .lload_n a => decide ((a : Nat) = r1)
    | .aload a => decide (a = r1)
    | .aload_n a => decide ((a : Nat) = r1)
    | .istore a => decide (a = r1) && decide (r1 < (tb y).2.1)
    | .istore_n a => decide ((a : Nat) = r1) && decide (r1 < (tb y).2.1)
    | .lstore a => decide (a = r1) && decide (r1 + 1 < (tb y).2.1)
    | .lstore_n a => decide ((a : Nat) = r1) && decide (r1 + 1 < (tb y).2.1)
    | .astore a => decide (a = r1) && decide (r1 < (tb y).2.1)
    | .astore_n a => decide ((a : Nat) = r1) && decide (r1 < (tb y).2.1)
    | .iinc a c => decide (a = r1) && (decide (r1 < (tb y).2.1) && decide (v = .int (Int32.ofInt c)))
    | .goto o => decide ((pc : Int) + o = (r1 : Int))
    | .ifCond _ o => decide ((pc : Int) + o = (r1 : Int))
    | .if_icmp _ o => decide ((pc : Int) + o = (r1 : Int))
    | .ifnull o => decide ((pc : Int) + o = (r1 : Int))
    | .ifnonnull o => decide ((pc : Int) + o = (r1 : Int))
    | .tableswitch d lo hi offs => decide ((pc : Int) + d = (r1 : Int)) && (decide (lo + offs.toList.length = hi + 1) && ztk pc lo offs.toList sw)
    | .lookupswitch d ps => decide ((pc : Int) + d = (r1 : Int)) && ((ps.toList.zip (ps.toList.drop 1)).all (fun (a, next) => a.1 < next.1) && zlk pc ps.toList sw)
    | .getfield idx => if r1 = 13 then (if r2 = 0 then zat1 li (.fieldLink (inf y).1.cls idx "java/lang/String" "value" "[B") else decide (r2 = 1) && zat1 li (.fieldLink (inf y).1.cls idx "java/lang/String" "coder" "B")) else (match zfld r1 r2 with
      | some q => zat1 li (.fieldLink (inf y).1.cls idx q.1 q.2.1 q.2.2.1)
      | none => false)
    | .putfield idx => match zfld r1 r2 with
      | some q => zat1 li (.fieldLink (inf y).1.cls idx q.1 q.2.1 q.2.2.1) && ((match parseFieldDescriptor q.2.2.1 with
        | some ty => zkd r3 ty
        | none => false) && (decide (q.2.2.2 = false) || (decide ((inf y).1.name = "<init>") && decide (q.1 = (inf y).1.cls))))
      | none => false
    | .newarray at_ => decide (r1 < 3) && (decide (newarray.typeOf at_ = zty r1) && zat1 li (.arrayClass (newarray.typeOf at_)))
    | .anewarray idx => decide (2 < r1 ∧ r1 < 7) && (match zty r1 with
      | .object C => zat1 li (.classLink (inf y).1.cls idx C) && decide (C ∈ zaos)
      | _ => false)
    | .new idx => match zcl[r1]? with
      | some q => decide (r2 = q.2.2) && zat1 li (.classLink (inf y).1.cls idx q.1)
      | none => false
    | .checkcast idx => zat1 li (.classLink (inf y).1.cls idx "[I")
    | .invokespecial idx => if r3 = 9 then zat1 li (.methodLink (inf y).1.cls idx objectInit) else decide (r1 < ny) && (decide (r3 = 2 ∨ r3 = 5) && (zcw inf (inf y).1.cls idx r1 r3 li && (decide (zkq r1 = 2) && (decide ((parseMethodDescriptor (inf r1).1.desc).map (fun d => d.parameters.length) = some r2) && decide ((inf r1).2.2 = none)))))
    | .invokestatic idx => if r3 = 8 then zat1 li (.methodLink (inf y).1.cls idx arraycopyName) else decide (r1 < ny) && (decide (r3 = 1 ∨ r3 = 4) && (zcw inf (inf y).1.cls idx r1 r3 li && (decide (zkq r1 = 1) && decide ((parseMethodDescriptor (inf r1).1.desc).map (fun d => d.parameters.length) = some r2))))
    | .invokevirtual idx => if r3 = 7 then zat1 li (.methodLink (inf y).1.cls idx ⟨"[I", "clone", "()Ljava/lang/Object;"⟩) else decide (r1 < ny) && (decide (r3 = 0 ∨ r3 = 3) && (zcw inf (inf y).1.cls idx r1 r3 li && (decide ((parseMethodDescriptor (inf r1).1.desc).map (fun d => d.parameters.length) = some r2) && (match v with
      | .ref cc => decide (cc < 14) && (decide ((inf r1).1.cls = zcls cc) && decide (zkq r1 = 0))
      | _ => false))))
    | _ => true
/-- one entry -/
def zchk (inf : Nat → zinf) (tb : Nat → zMt) (ny y pc : Nat) (e : zI) : Bool := match e.1 with
  | .nop => true
  | _ => decide (pc < e.2.1) && (decide (decode (inf y).2.1 pc = .ok (e.1, e.2.1 - pc)) && (decide (zlnk e.1 = 0 ∨ e.2.1 = pc + zlnk e.1) && zch1 inf tb ny y pc e))
/-- the kind of answer -/
def zrk (rt : Nat) (ret : Option FieldType) : Bool := match rt, ret with
  | 0, none => true
  | 1, some .int => true
  | 2, some .boolean => true
  | 3, some (.object _) => true
  | 3, some (.array _) => true
  | 4, some .byte => true
  | 5, some .char => true
  | _, _ => false
/-- one method: its words -/
def zmth (inf : Nat → zinf) (tb : Nat → zMt) (y : Nat) : Bool := zat1 (zix y).1 (Cond.code (inf y).1 (inf y).2.1 (tb y).2.1 (inf y).2.2) && (zat1 (zix y).2.1 (Cond.initialized (inf y).1.cls) && (plainFor (inf y).1 && (decide ((inf y).1.cls ≠ "java/lang/invoke/MethodHandle" ∧ (inf y).1.cls ≠ "java/lang/invoke/VarHandle") && (decide ((tb y).2.1 ≤ 40) && zrk (tb y).2.2 (inf y).2.2))))
/-- one method: the words of its kind -/
def zkm (inf : Nat → zinf) (y : Nat) : Bool := match zkq y with
  | 0 => zat1 (zix y).2.2.1 (Cond.instanceMethod (inf y).1) && zat1 (zix y).2.2.2 (Cond.selects (inf y).1.cls (inf y).1 (inf y).1)
  | 1 => zat1 (zix y).2.2.1 (Cond.static (inf y).1)
  | _ => decide ((inf y).1.name = "<init>") && zat1 (zix y).2.2.1 (Cond.instanceMethod (inf y).1)
/-- all of them -/
def zall (inf : Nat → zinf) (tb : Nat → zMt) (ny : Nat) : Prop := (∀ y, y < ny → zmth inf tb y = true) ∧ (∀ y, y < ny → zkm inf y = true) ∧ ∀ y pc, y < ny + 1 → zchk inf tb ny y pc ((tb y).1 pc) = true
theorem znst_of {i : Nat} {w : Cond} (h : lw_tbl[i]? = some w) (hg : znw w = true) : w ∈ znst := by
  rcases List.mem_append.mp (List.mem_of_getElem? h) with q | q
  · exfalso
    unfold k2_sels at q
    obtain ⟨x, -, rfl⟩ := List.mem_map.mp q
    cases hg
  · exact List.mem_filter.mpr ⟨q, hg⟩
theorem zat1_mem {i : Nat} {w : Cond} (h : zat1 i w = true) : w ∈ lw_tbl := List.mem_of_getElem? (of_decide_eq_true h)
