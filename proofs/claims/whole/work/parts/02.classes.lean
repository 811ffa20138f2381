def zT0 : u_T := fun k => match k with
  | 0 => ("GardenBoxes$Bed", "crop", "LGardenBoxes$Crop;", false)
  | 1 => ("GardenBoxes$Bed", "came", "I", false)
  | 2 => ("GardenBoxes$Bed", "heat", "I", false)
  | 3 => ("GardenBoxes$Bed", "offered", "I", false)
  | 4 => ("GardenBoxes$Bed", "ripe", "I", false)
  | 5 => ("GardenBoxes$Bed", "rests", "I", false)
  | 6 => ("GardenBoxes$Bed", "lastCrop", "I", false)
  | 7 => ("GardenBoxes$Bed", "fresh", "Z", false)
  | _ => ("GardenBoxes$Bed", "pickedNow", "Z", false)
def zY0 : Nat → FieldType := fun k => match k with
  | 0 => .object "GardenBoxes$Crop"
  | 1 => .int
  | 2 => .int
  | 3 => .int
  | 4 => .int
  | 5 => .int
  | 6 => .int
  | 7 => .boolean
  | _ => .boolean
def zT1 : u_T := fun k => match k with
  | 0 => ("GardenBoxes$Crop", "number", "I", true)
  | 1 => ("GardenBoxes$Crop", "kind", "I", true)
  | 2 => ("GardenBoxes$Crop", "need", "I", true)
  | 3 => ("GardenBoxes$Crop", "bears", "I", true)
  | 4 => ("GardenBoxes$Crop", "last", "I", true)
  | 5 => ("GardenBoxes$Crop", "keep", "I", true)
  | _ => ("GardenBoxes$Crop", "worth", "I", true)
def zY1 : Nat → FieldType := fun k => match k with
  | 0 => .int
  | 1 => .int
  | 2 => .int
  | 3 => .int
  | 4 => .int
  | 5 => .int
  | _ => .int
def zT2 : u_T := fun k => match k with
  | 0 => ("GardenBoxes$Garden", "crops", "[LGardenBoxes$Crop;", true)
  | 1 => ("GardenBoxes$Garden", "cropCount", "I", false)
  | 2 => ("GardenBoxes$Garden", "beds", "[LGardenBoxes$Bed;", true)
  | 3 => ("GardenBoxes$Garden", "houses", "[LGardenBoxes$House;", true)
  | 4 => ("GardenBoxes$Garden", "houseCount", "I", false)
  | 5 => ("GardenBoxes$Garden", "lots", "LGardenBoxes$Lots;", true)
  | 6 => ("GardenBoxes$Garden", "lines", "LGardenBoxes$Lines;", false)
  | 7 => ("GardenBoxes$Garden", "warmths", "[I", true)
  | 8 => ("GardenBoxes$Garden", "week", "I", false)
  | 9 => ("GardenBoxes$Garden", "hands", "I", false)
  | 10 => ("GardenBoxes$Garden", "stock", "[I", true)
  | 11 => ("GardenBoxes$Garden", "picked", "[I", true)
  | 12 => ("GardenBoxes$Garden", "lost", "[I", true)
  | 13 => ("GardenBoxes$Garden", "boxed", "[I", true)
  | 14 => ("GardenBoxes$Garden", "spoilt", "[I", true)
  | _ => ("GardenBoxes$Garden", "sums", "[I", true)
def zY2 : Nat → FieldType := fun k => match k with
  | 0 => .array (.object "GardenBoxes$Crop")
  | 1 => .int
  | 2 => .array (.object "GardenBoxes$Bed")
  | 3 => .array (.object "GardenBoxes$House")
  | 4 => .int
  | 5 => .object "GardenBoxes$Lots"
  | 6 => .object "GardenBoxes$Lines"
  | 7 => .array .int
  | 8 => .int
  | 9 => .int
  | 10 => .array .int
  | 11 => .array .int
  | 12 => .array .int
  | 13 => .array .int
  | 14 => .array .int
  | _ => .array .int
def zT3 : u_T := fun k => match k with
  | 0 => ("GardenBoxes$House", "size", "I", false)
  | 1 => ("GardenBoxes$House", "dislikes", "I", false)
  | 2 => ("GardenBoxes$House", "weeksAway", "I", false)
  | 3 => ("GardenBoxes$House", "got", "I", false)
  | 4 => ("GardenBoxes$House", "holes", "I", false)
  | 5 => ("GardenBoxes$House", "boxes", "I", false)
  | 6 => ("GardenBoxes$House", "hasBox", "Z", false)
  | 7 => ("GardenBoxes$House", "hadIn", "[I", true)
  | 8 => ("GardenBoxes$House", "cropsIn", "[I", true)
  | 9 => ("GardenBoxes$House", "reasons", "[I", true)
  | _ => ("GardenBoxes$House", "lotsIn", "[I", true)
def zY3 : Nat → FieldType := fun k => match k with
  | 0 => .int
  | 1 => .int
  | 2 => .int
  | 3 => .int
  | 4 => .int
  | 5 => .int
  | 6 => .boolean
  | 7 => .array .int
  | 8 => .array .int
  | 9 => .array .int
  | _ => .array .int
def zT4 : u_T := fun k => match k with
  | 0 => ("GardenBoxes$LineReader", "tokens", "LGardenBoxes$Tokens;", false)
  | 1 => ("GardenBoxes$LineReader", "at", "I", false)
  | 2 => ("GardenBoxes$LineReader", "token", "I", false)
  | 3 => ("GardenBoxes$LineReader", "value", "I", false)
  | 4 => ("GardenBoxes$LineReader", "faultKind", "I", false)
  | 5 => ("GardenBoxes$LineReader", "faultPlace", "I", false)
  | 6 => ("GardenBoxes$LineReader", "lineCount", "I", false)
  | 7 => ("GardenBoxes$LineReader", "stepCount", "I", false)
  | 8 => ("GardenBoxes$LineReader", "verbs", "[I", true)
  | 9 => ("GardenBoxes$LineReader", "crops", "[I", true)
  | 10 => ("GardenBoxes$LineReader", "ends", "[I", true)
  | 11 => ("GardenBoxes$LineReader", "operators", "[I", true)
  | 12 => ("GardenBoxes$LineReader", "subjects", "[I", true)
  | 13 => ("GardenBoxes$LineReader", "subjectCrops", "[I", true)
  | _ => ("GardenBoxes$LineReader", "limits", "[I", true)
def zY4 : Nat → FieldType := fun k => match k with
  | 0 => .object "GardenBoxes$Tokens"
  | 1 => .int
  | 2 => .int
  | 3 => .int
  | 4 => .int
  | 5 => .int
  | 6 => .int
  | 7 => .int
  | 8 => .array .int
  | 9 => .array .int
  | 10 => .array .int
  | 11 => .array .int
  | 12 => .array .int
  | 13 => .array .int
  | _ => .array .int
def zT5 : u_T := fun k => match k with
  | 0 => ("GardenBoxes$Lines", "size", "I", true)
  | 1 => ("GardenBoxes$Lines", "verbs", "[I", true)
  | 2 => ("GardenBoxes$Lines", "crops", "[I", true)
  | 3 => ("GardenBoxes$Lines", "ends", "[I", true)
  | 4 => ("GardenBoxes$Lines", "operators", "[I", true)
  | 5 => ("GardenBoxes$Lines", "subjects", "[I", true)
  | 6 => ("GardenBoxes$Lines", "subjectCrops", "[I", true)
  | _ => ("GardenBoxes$Lines", "limits", "[I", true)
def zY5 : Nat → FieldType := fun k => match k with
  | 0 => .int
  | 1 => .array .int
  | 2 => .array .int
  | 3 => .array .int
  | 4 => .array .int
  | 5 => .array .int
  | 6 => .array .int
  | _ => .array .int
def zT6 : u_T := fun k => match k with
  | 0 => ("GardenBoxes$Lots", "size", "I", false)
  | 1 => ("GardenBoxes$Lots", "crops", "[I", true)
  | 2 => ("GardenBoxes$Lots", "beds", "[I", true)
  | 3 => ("GardenBoxes$Lots", "sownIn", "[I", true)
  | 4 => ("GardenBoxes$Lots", "pickedIn", "[I", true)
  | 5 => ("GardenBoxes$Lots", "amounts", "[I", true)
  | _ => ("GardenBoxes$Lots", "left", "[I", true)
def zY6 : Nat → FieldType := fun k => match k with
  | 0 => .int
  | 1 => .array .int
  | 2 => .array .int
  | 3 => .array .int
  | 4 => .array .int
  | 5 => .array .int
  | _ => .array .int
def zT7 : u_T := fun k => match k with
  | 0 => ("GardenBoxes$Performer", "bodies", "[I", true)
  | _ => ("GardenBoxes$Performer", "traceSize", "I", false)
def zY7 : Nat → FieldType := fun k => match k with
  | 0 => .array .int
  | _ => .int
def zT8 : u_T := fun k => match k with
  | 0 => ("GardenBoxes$Sheet", "sort", "I", false)
  | 1 => ("GardenBoxes$Sheet", "size", "I", false)
  | _ => ("GardenBoxes$Sheet", "numbers", "[I", true)
def zY8 : Nat → FieldType := fun k => match k with
  | 0 => .int
  | 1 => .int
  | _ => .array .int
def zT9 : u_T := fun k => match k with
  | 0 => ("GardenBoxes$Tape", "bytes", "[B", true)
  | _ => ("GardenBoxes$Tape", "length", "I", false)
def zY9 : Nat → FieldType := fun k => match k with
  | 0 => .array .byte
  | _ => .int
def zT10 : u_T := fun k => match k with
  | 0 => ("GardenBoxes$Tokens", "size", "I", false)
  | 1 => ("GardenBoxes$Tokens", "kinds", "[I", true)
  | 2 => ("GardenBoxes$Tokens", "starts", "[I", true)
  | _ => ("GardenBoxes$Tokens", "values", "[I", true)
def zY10 : Nat → FieldType := fun k => match k with
  | 0 => .int
  | 1 => .array .int
  | 2 => .array .int
  | _ => .array .int
def zT11 : u_T := fun k => match k with
  | 0 => ("GardenBoxes", "tape", "LGardenBoxes$Tape;", true)
  | 1 => ("GardenBoxes", "tokens", "LGardenBoxes$Tokens;", true)
  | 2 => ("GardenBoxes", "reader", "LGardenBoxes$LineReader;", true)
  | 3 => ("GardenBoxes", "now", "LGardenBoxes$Garden;", true)
  | 4 => ("GardenBoxes", "kept", "LGardenBoxes$Garden;", true)
  | 5 => ("GardenBoxes", "trial", "LGardenBoxes$Garden;", true)
  | 6 => ("GardenBoxes", "performer", "LGardenBoxes$Performer;", true)
  | 7 => ("GardenBoxes", "sheets", "[LGardenBoxes$Sheet;", true)
  | 8 => ("GardenBoxes", "hasImage", "Z", false)
  | 9 => ("GardenBoxes", "timesBack", "I", false)
  | _ => ("GardenBoxes", "latestStatus", "I", false)
def zY11 : Nat → FieldType := fun k => match k with
  | 0 => .object "GardenBoxes$Tape"
  | 1 => .object "GardenBoxes$Tokens"
  | 2 => .object "GardenBoxes$LineReader"
  | 3 => .object "GardenBoxes$Garden"
  | 4 => .object "GardenBoxes$Garden"
  | 5 => .object "GardenBoxes$Garden"
  | 6 => .object "GardenBoxes$Performer"
  | 7 => .array (.object "GardenBoxes$Sheet")
  | 8 => .boolean
  | 9 => .int
  | _ => .int
def zT12 : u_T := fun k => match k with
  | 0 => ("GardenBoxesModel", "s", "[I", true)
  | 1 => ("GardenBoxesModel", "image", "[I", true)
  | 2 => ("GardenBoxesModel", "kept", "[I", true)
  | 3 => ("GardenBoxesModel", "hasImage", "Z", false)
  | 4 => ("GardenBoxesModel", "backs", "I", false)
  | 5 => ("GardenBoxesModel", "tape", "[I", true)
  | 6 => ("GardenBoxesModel", "taped", "I", false)
  | 7 => ("GardenBoxesModel", "faultKind", "I", false)
  | 8 => ("GardenBoxesModel", "faultPlace", "I", false)
  | 9 => ("GardenBoxesModel", "sort", "[I", true)
  | 10 => ("GardenBoxesModel", "sheetSize", "[I", true)
  | 11 => ("GardenBoxesModel", "cells", "[I", true)
  | 12 => ("GardenBoxesModel", "status", "I", false)
  | 13 => ("GardenBoxesModel", "traced", "[I", true)
  | 14 => ("GardenBoxesModel", "traces", "I", false)
  | 15 => ("GardenBoxesModel", "at", "I", false)
  | 16 => ("GardenBoxesModel", "token", "I", false)
  | 17 => ("GardenBoxesModel", "value", "I", false)
  | 18 => ("GardenBoxesModel", "begun", "I", false)
  | 19 => ("GardenBoxesModel", "nots", "I", false)
  | 20 => ("GardenBoxesModel", "lineMany", "I", false)
  | 21 => ("GardenBoxesModel", "line", "[I", true)
  | 22 => ("GardenBoxesModel", "codes", "I", false)
  | 23 => ("GardenBoxesModel", "code", "[I", true)
  | 24 => ("GardenBoxesModel", "pile", "[Z", true)
  | 25 => ("GardenBoxesModel", "wasPicked", "[Z", true)
  | 26 => ("GardenBoxesModel", "chosen", "I", false)
  | 27 => ("GardenBoxesModel", "worths", "I", false)
  | _ => ("GardenBoxesModel", "spoilts", "I", false)
def zY12 : Nat → FieldType := fun k => match k with
  | 0 => .array .int
  | 1 => .array .int
  | 2 => .array .int
  | 3 => .boolean
  | 4 => .int
  | 5 => .array .int
  | 6 => .int
  | 7 => .int
  | 8 => .int
  | 9 => .array .int
  | 10 => .array .int
  | 11 => .array .int
  | 12 => .int
  | 13 => .array .int
  | 14 => .int
  | 15 => .int
  | 16 => .int
  | 17 => .int
  | 18 => .int
  | 19 => .int
  | 20 => .int
  | 21 => .array .int
  | 22 => .int
  | 23 => .array .int
  | 24 => .array .boolean
  | 25 => .array .boolean
  | 26 => .int
  | 27 => .int
  | _ => .int
/-- the classes whose objects the worlds hold -/
def zcl : List vw_C := [("GardenBoxes$Bed", zT0, 9), ("GardenBoxes$Crop", zT1, 7), ("GardenBoxes$Garden", zT2, 16), ("GardenBoxes$House", zT3, 11), ("GardenBoxes$LineReader", zT4, 15), ("GardenBoxes$Lines", zT5, 8), ("GardenBoxes$Lots", zT6, 7), ("GardenBoxes$Performer", zT7, 2), ("GardenBoxes$Sheet", zT8, 3), ("GardenBoxes$Tape", zT9, 2), ("GardenBoxes$Tokens", zT10, 4), ("GardenBoxes", zT11, 11), ("GardenBoxesModel", zT12, 29)]
/-- the fields of a new object -/
def zdef (ci : Nat) : List Value := match ci with
  | 0 => [.null, .int 0, .int 0, .int 0, .int 0, .int 0, .int 0, .int 0, .int 0]
  | 1 => [.int 0, .int 0, .int 0, .int 0, .int 0, .int 0, .int 0]
  | 2 => [.null, .int 0, .null, .null, .int 0, .null, .null, .null, .int 0, .int 0, .null, .null, .null, .null, .null, .null]
  | 3 => [.int 0, .int 0, .int 0, .int 0, .int 0, .int 0, .int 0, .null, .null, .null, .null]
  | 4 => [.null, .int 0, .int 0, .int 0, .int 0, .int 0, .int 0, .int 0, .null, .null, .null, .null, .null, .null, .null]
  | 5 => [.int 0, .null, .null, .null, .null, .null, .null, .null]
  | 6 => [.int 0, .null, .null, .null, .null, .null, .null]
  | 7 => [.null, .int 0]
  | 8 => [.int 0, .int 0, .null]
  | 9 => [.null, .int 0]
  | 10 => [.int 0, .null, .null, .null]
  | 11 => [.null, .null, .null, .null, .null, .null, .null, .null, .int 0, .int 0, .int 0]
  | 12 => [.null, .null, .null, .int 0, .int 0, .null, .int 0, .int 0, .int 0, .null, .null, .null, .int 0, .null, .int 0, .int 0, .int 0, .int 0, .int 0, .int 0, .int 0, .null, .int 0, .null, .null, .null, .int 0, .int 0, .int 0]
  | _ => []
theorem zok0 : (∀ w ∈ u_ws "GardenBoxes$Bed" zT0 9, w ∈ lw_tbl) ∧ (∀ k, k < 9 → parseFieldDescriptor (zT0 k).2.2.1 = some (zY0 k)) ∧ (∀ a, a < 9 → ∀ b, b < 9 → a ≠ b → (zT0 a).2.1 ≠ (zT0 b).2.1) ∧ (∀ k, k < 9 → defaultValue (zY0 k) = vp_V (zdef 0) k) ∧ Cond.instantiable "GardenBoxes$Bed" 9 ∈ lw_tbl ∧ Cond.initialized "GardenBoxes$Bed" ∈ lw_tbl := ⟨by decide +kernel, by decide +kernel, by decide +kernel, by decide +kernel, by decide +kernel, by decide +kernel⟩
theorem zok1 : (∀ w ∈ u_ws "GardenBoxes$Crop" zT1 7, w ∈ lw_tbl) ∧ (∀ k, k < 7 → parseFieldDescriptor (zT1 k).2.2.1 = some (zY1 k)) ∧ (∀ a, a < 7 → ∀ b, b < 7 → a ≠ b → (zT1 a).2.1 ≠ (zT1 b).2.1) ∧ (∀ k, k < 7 → defaultValue (zY1 k) = vp_V (zdef 1) k) ∧ Cond.instantiable "GardenBoxes$Crop" 7 ∈ lw_tbl ∧ Cond.initialized "GardenBoxes$Crop" ∈ lw_tbl := ⟨by decide +kernel, by decide +kernel, by decide +kernel, by decide +kernel, by decide +kernel, by decide +kernel⟩
theorem zok2 : (∀ w ∈ u_ws "GardenBoxes$Garden" zT2 16, w ∈ lw_tbl) ∧ (∀ k, k < 16 → parseFieldDescriptor (zT2 k).2.2.1 = some (zY2 k)) ∧ (∀ a, a < 16 → ∀ b, b < 16 → a ≠ b → (zT2 a).2.1 ≠ (zT2 b).2.1) ∧ (∀ k, k < 16 → defaultValue (zY2 k) = vp_V (zdef 2) k) ∧ Cond.instantiable "GardenBoxes$Garden" 16 ∈ lw_tbl ∧ Cond.initialized "GardenBoxes$Garden" ∈ lw_tbl := ⟨by decide +kernel, by decide +kernel, by decide +kernel, by decide +kernel, by decide +kernel, by decide +kernel⟩
theorem zok3 : (∀ w ∈ u_ws "GardenBoxes$House" zT3 11, w ∈ lw_tbl) ∧ (∀ k, k < 11 → parseFieldDescriptor (zT3 k).2.2.1 = some (zY3 k)) ∧ (∀ a, a < 11 → ∀ b, b < 11 → a ≠ b → (zT3 a).2.1 ≠ (zT3 b).2.1) ∧ (∀ k, k < 11 → defaultValue (zY3 k) = vp_V (zdef 3) k) ∧ Cond.instantiable "GardenBoxes$House" 11 ∈ lw_tbl ∧ Cond.initialized "GardenBoxes$House" ∈ lw_tbl := ⟨by decide +kernel, by decide +kernel, by decide +kernel, by decide +kernel, by decide +kernel, by decide +kernel⟩
theorem zok4 : (∀ w ∈ u_ws "GardenBoxes$LineReader" zT4 15, w ∈ lw_tbl) ∧ (∀ k, k < 15 → parseFieldDescriptor (zT4 k).2.2.1 = some (zY4 k)) ∧ (∀ a, a < 15 → ∀ b, b < 15 → a ≠ b → (zT4 a).2.1 ≠ (zT4 b).2.1) ∧ (∀ k, k < 15 → defaultValue (zY4 k) = vp_V (zdef 4) k) ∧ Cond.instantiable "GardenBoxes$LineReader" 15 ∈ lw_tbl ∧ Cond.initialized "GardenBoxes$LineReader" ∈ lw_tbl := ⟨by decide +kernel, by decide +kernel, by decide +kernel, by decide +kernel, by decide +kernel, by decide +kernel⟩
theorem zok5 : (∀ w ∈ u_ws "GardenBoxes$Lines" zT5 8, w ∈ lw_tbl) ∧ (∀ k, k < 8 → parseFieldDescriptor (zT5 k).2.2.1 = some (zY5 k)) ∧ (∀ a, a < 8 → ∀ b, b < 8 → a ≠ b → (zT5 a).2.1 ≠ (zT5 b).2.1) ∧ (∀ k, k < 8 → defaultValue (zY5 k) = vp_V (zdef 5) k) ∧ Cond.instantiable "GardenBoxes$Lines" 8 ∈ lw_tbl ∧ Cond.initialized "GardenBoxes$Lines" ∈ lw_tbl := ⟨by decide +kernel, by decide +kernel, by decide +kernel, by decide +kernel, by decide +kernel, by decide +kernel⟩
theorem zok6 : (∀ w ∈ u_ws "GardenBoxes$Lots" zT6 7, w ∈ lw_tbl) ∧ (∀ k, k < 7 → parseFieldDescriptor (zT6 k).2.2.1 = some (zY6 k)) ∧ (∀ a, a < 7 → ∀ b, b < 7 → a ≠ b → (zT6 a).2.1 ≠ (zT6 b).2.1) ∧ (∀ k, k < 7 → defaultValue (zY6 k) = vp_V (zdef 6) k) ∧ Cond.instantiable "GardenBoxes$Lots" 7 ∈ lw_tbl ∧ Cond.initialized "GardenBoxes$Lots" ∈ lw_tbl := ⟨by decide +kernel, by decide +kernel, by decide +kernel, by decide +kernel, by decide +kernel, by decide +kernel⟩
theorem zok7 : (∀ w ∈ u_ws "GardenBoxes$Performer" zT7 2, w ∈ lw_tbl) ∧ (∀ k, k < 2 → parseFieldDescriptor (zT7 k).2.2.1 = some (zY7 k)) ∧ (∀ a, a < 2 → ∀ b, b < 2 → a ≠ b → (zT7 a).2.1 ≠ (zT7 b).2.1) ∧ (∀ k, k < 2 → defaultValue (zY7 k) = vp_V (zdef 7) k) ∧ Cond.instantiable "GardenBoxes$Performer" 2 ∈ lw_tbl ∧ Cond.initialized "GardenBoxes$Performer" ∈ lw_tbl := ⟨by decide +kernel, by decide +kernel, by decide +kernel, by decide +kernel, by decide +kernel, by decide +kernel⟩
theorem zok8 : (∀ w ∈ u_ws "GardenBoxes$Sheet" zT8 3, w ∈ lw_tbl) ∧ (∀ k, k < 3 → parseFieldDescriptor (zT8 k).2.2.1 = some (zY8 k)) ∧ (∀ a, a < 3 → ∀ b, b < 3 → a ≠ b → (zT8 a).2.1 ≠ (zT8 b).2.1) ∧ (∀ k, k < 3 → defaultValue (zY8 k) = vp_V (zdef 8) k) ∧ Cond.instantiable "GardenBoxes$Sheet" 3 ∈ lw_tbl ∧ Cond.initialized "GardenBoxes$Sheet" ∈ lw_tbl := ⟨by decide +kernel, by decide +kernel, by decide +kernel, by decide +kernel, by decide +kernel, by decide +kernel⟩
theorem zok9 : (∀ w ∈ u_ws "GardenBoxes$Tape" zT9 2, w ∈ lw_tbl) ∧ (∀ k, k < 2 → parseFieldDescriptor (zT9 k).2.2.1 = some (zY9 k)) ∧ (∀ a, a < 2 → ∀ b, b < 2 → a ≠ b → (zT9 a).2.1 ≠ (zT9 b).2.1) ∧ (∀ k, k < 2 → defaultValue (zY9 k) = vp_V (zdef 9) k) ∧ Cond.instantiable "GardenBoxes$Tape" 2 ∈ lw_tbl ∧ Cond.initialized "GardenBoxes$Tape" ∈ lw_tbl := ⟨by decide +kernel, by decide +kernel, by decide +kernel, by decide +kernel, by decide +kernel, by decide +kernel⟩
theorem zok10 : (∀ w ∈ u_ws "GardenBoxes$Tokens" zT10 4, w ∈ lw_tbl) ∧ (∀ k, k < 4 → parseFieldDescriptor (zT10 k).2.2.1 = some (zY10 k)) ∧ (∀ a, a < 4 → ∀ b, b < 4 → a ≠ b → (zT10 a).2.1 ≠ (zT10 b).2.1) ∧ (∀ k, k < 4 → defaultValue (zY10 k) = vp_V (zdef 10) k) ∧ Cond.instantiable "GardenBoxes$Tokens" 4 ∈ lw_tbl ∧ Cond.initialized "GardenBoxes$Tokens" ∈ lw_tbl := ⟨by decide +kernel, by decide +kernel, by decide +kernel, by decide +kernel, by decide +kernel, by decide +kernel⟩
theorem zok11 : (∀ w ∈ u_ws "GardenBoxes" zT11 11, w ∈ lw_tbl) ∧ (∀ k, k < 11 → parseFieldDescriptor (zT11 k).2.2.1 = some (zY11 k)) ∧ (∀ a, a < 11 → ∀ b, b < 11 → a ≠ b → (zT11 a).2.1 ≠ (zT11 b).2.1) ∧ (∀ k, k < 11 → defaultValue (zY11 k) = vp_V (zdef 11) k) ∧ Cond.instantiable "GardenBoxes" 11 ∈ lw_tbl ∧ Cond.initialized "GardenBoxes" ∈ lw_tbl := ⟨by decide +kernel, by decide +kernel, by decide +kernel, by decide +kernel, by decide +kernel, by decide +kernel⟩
theorem zok12 : (∀ w ∈ u_ws "GardenBoxesModel" zT12 29, w ∈ lw_tbl) ∧ (∀ k, k < 29 → parseFieldDescriptor (zT12 k).2.2.1 = some (zY12 k)) ∧ (∀ a, a < 29 → ∀ b, b < 29 → a ≠ b → (zT12 a).2.1 ≠ (zT12 b).2.1) ∧ (∀ k, k < 29 → defaultValue (zY12 k) = vp_V (zdef 12) k) ∧ Cond.instantiable "GardenBoxesModel" 29 ∈ lw_tbl ∧ Cond.initialized "GardenBoxesModel" ∈ lw_tbl := ⟨by decide +kernel, by decide +kernel, by decide +kernel, by decide +kernel, by decide +kernel, by decide +kernel⟩
/-- what holds of each of the classes -/
theorem zok_all (ci : Nat) (r : vw_C) (h : zcl[ci]? = some r) : ∃ ty : Nat → FieldType, (∀ w ∈ u_ws r.1 r.2.1 r.2.2, w ∈ lw_tbl) ∧ (∀ k, k < r.2.2 → parseFieldDescriptor (r.2.1 k).2.2.1 = some (ty k)) ∧ (∀ a, a < r.2.2 → ∀ b, b < r.2.2 → a ≠ b → (r.2.1 a).2.1 ≠ (r.2.1 b).2.1) ∧ (∀ k, k < r.2.2 → defaultValue (ty k) = vp_V (zdef ci) k) ∧ Cond.instantiable r.1 r.2.2 ∈ lw_tbl ∧ Cond.initialized r.1 ∈ lw_tbl := by
  match ci, h with
  | 0, h => cases h; exact ⟨_, zok0⟩
  | 1, h => cases h; exact ⟨_, zok1⟩
  | 2, h => cases h; exact ⟨_, zok2⟩
  | 3, h => cases h; exact ⟨_, zok3⟩
  | 4, h => cases h; exact ⟨_, zok4⟩
  | 5, h => cases h; exact ⟨_, zok5⟩
  | 6, h => cases h; exact ⟨_, zok6⟩
  | 7, h => cases h; exact ⟨_, zok7⟩
  | 8, h => cases h; exact ⟨_, zok8⟩
  | 9, h => cases h; exact ⟨_, zok9⟩
  | 10, h => cases h; exact ⟨_, zok10⟩
  | 11, h => cases h; exact ⟨_, zok11⟩
  | 12, h => cases h; exact ⟨_, zok12⟩
  | (_ + 13), h => simp [zcl] at h
