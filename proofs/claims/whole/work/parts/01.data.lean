def RX0 : String := "StepsAhead$Call"
def TX0 : u_T := fun k => match k with
  | 0 => ("StepsAhead$Counted", "first", "[I", true)
  | 1 => ("StepsAhead$Op", "ownKind", "I", true)
  | 2 => ("StepsAhead$Op", "place", "I", true)
  | 3 => ("StepsAhead$Op", "loopsAround", "I", true)
  | 4 => ("StepsAhead$Op", "opener", "I", true)
  | 5 => ("StepsAhead$Call", "second", "[I", true)
  | _ => ("StepsAhead$Call", "target", "LStepsAhead$Routine;", true)
def tyX0 : Nat → FieldType := fun k => match k with
  | 0 => .array .int
  | 1 => .int
  | 2 => .int
  | 3 => .int
  | 4 => .int
  | 5 => .array .int
  | _ => .object "StepsAhead$Routine"
theorem nmX0 : ∀ a, a < 7 → ∀ b, b < 7 → a ≠ b → (TX0 a).2.1 ≠ (TX0 b).2.1 := by decide +kernel
theorem tyX0_ok : ∀ k, k < 7 → parseFieldDescriptor (TX0 k).2.2.1 = some (tyX0 k) := by decide +kernel
def RX2 : String := "StepsAhead$Either"
def TX2 : u_T := fun k => match k with
  | 0 => ("StepsAhead$Op", "ownKind", "I", true)
  | 1 => ("StepsAhead$Op", "place", "I", true)
  | 2 => ("StepsAhead$Op", "loopsAround", "I", true)
  | 3 => ("StepsAhead$Op", "opener", "I", true)
  | 4 => ("StepsAhead$Either", "or", "I", false)
  | 5 => ("StepsAhead$Either", "done", "I", false)
  | 6 => ("StepsAhead$Either", "stepsBefore", "I", false)
  | _ => ("StepsAhead$Either", "stepsOfFirst", "I", false)
def tyX2 : Nat → FieldType := fun k => match k with
  | 0 => .int
  | 1 => .int
  | 2 => .int
  | 3 => .int
  | 4 => .int
  | 5 => .int
  | 6 => .int
  | _ => .int
theorem nmX2 : ∀ a, a < 8 → ∀ b, b < 8 → a ≠ b → (TX2 a).2.1 ≠ (TX2 b).2.1 := by decide +kernel
theorem tyX2_ok : ∀ k, k < 8 → parseFieldDescriptor (TX2 k).2.2.1 = some (tyX2 k) := by decide +kernel
def RX3 : String := "StepsAhead$Loop"
def TX3 : u_T := fun k => match k with
  | 0 => ("StepsAhead$Counted", "first", "[I", true)
  | 1 => ("StepsAhead$Op", "ownKind", "I", true)
  | 2 => ("StepsAhead$Op", "place", "I", true)
  | 3 => ("StepsAhead$Op", "loopsAround", "I", true)
  | 4 => ("StepsAhead$Op", "opener", "I", true)
  | _ => ("StepsAhead$Loop", "end", "I", false)
def tyX3 : Nat → FieldType := fun k => match k with
  | 0 => .array .int
  | 1 => .int
  | 2 => .int
  | 3 => .int
  | 4 => .int
  | _ => .int
theorem nmX3 : ∀ a, a < 6 → ∀ b, b < 6 → a ≠ b → (TX3 a).2.1 ≠ (TX3 b).2.1 := by decide +kernel
theorem tyX3_ok : ∀ k, k < 6 → parseFieldDescriptor (TX3 k).2.2.1 = some (tyX3 k) := by decide +kernel
def RX4 : String := "StepsAhead$Op"
def TX4 : u_T := fun k => match k with
  | 0 => ("StepsAhead$Op", "ownKind", "I", true)
  | 1 => ("StepsAhead$Op", "place", "I", true)
  | 2 => ("StepsAhead$Op", "loopsAround", "I", true)
  | _ => ("StepsAhead$Op", "opener", "I", true)
def tyX4 : Nat → FieldType := fun k => match k with
  | 0 => .int
  | 1 => .int
  | 2 => .int
  | _ => .int
theorem nmX4 : ∀ a, a < 4 → ∀ b, b < 4 → a ≠ b → (TX4 a).2.1 ≠ (TX4 b).2.1 := by decide +kernel
theorem tyX4_ok : ∀ k, k < 4 → parseFieldDescriptor (TX4 k).2.2.1 = some (tyX4 k) := by decide +kernel
def RX5 : String := "StepsAhead$Products"
def TX5 : u_T := fun k => match k with
  | 0 => ("StepsAhead$Products", "times", "[[I", true)
  | _ => ("StepsAhead$Products", "lastVariable", "[I", true)
def tyX5 : Nat → FieldType := fun k => match k with
  | 0 => .array (.array .int)
  | _ => .array .int
theorem nmX5 : ∀ a, a < 2 → ∀ b, b < 2 → a ≠ b → (TX5 a).2.1 ≠ (TX5 b).2.1 := by decide +kernel
theorem tyX5_ok : ∀ k, k < 2 → parseFieldDescriptor (TX5 k).2.2.1 = some (tyX5 k) := by decide +kernel
def RX6 : String := "StepsAhead$Reckoner"
def TX6 : u_T := fun k => match k with
  | 0 => ("StepsAhead$Reckoner", "table", "LStepsAhead$Products;", true)
  | 1 => ("StepsAhead$Reckoner", "rows", "[[J", true)
  | 2 => ("StepsAhead$Reckoner", "top", "I", false)
  | 3 => ("StepsAhead$Reckoner", "ofOp", "[J", true)
  | 4 => ("StepsAhead$Reckoner", "part", "[J", true)
  | 5 => ("StepsAhead$Reckoner", "side", "I", false)
  | _ => ("StepsAhead$Reckoner", "full", "Z", false)
def tyX6 : Nat → FieldType := fun k => match k with
  | 0 => .object "StepsAhead$Products"
  | 1 => .array (.array .long)
  | 2 => .int
  | 3 => .array .long
  | 4 => .array .long
  | 5 => .int
  | _ => .boolean
theorem nmX6 : ∀ a, a < 7 → ∀ b, b < 7 → a ≠ b → (TX6 a).2.1 ≠ (TX6 b).2.1 := by decide +kernel
theorem tyX6_ok : ∀ k, k < 7 → parseFieldDescriptor (TX6 k).2.2.1 = some (tyX6 k) := by decide +kernel
def RX7 : String := "StepsAhead$Routine"
def TX7 : u_T := fun k => match k with
  | 0 => ("StepsAhead$Routine", "number", "I", true)
  | 1 => ("StepsAhead$Routine", "ops", "[LStepsAhead$Op;", true)
  | 2 => ("StepsAhead$Routine", "size", "I", false)
  | 3 => ("StepsAhead$Routine", "open", "[I", true)
  | 4 => ("StepsAhead$Routine", "openSize", "I", false)
  | 5 => ("StepsAhead$Routine", "calledBits", "I", false)
  | 6 => ("StepsAhead$Routine", "formulas", "[[J", true)
  | 7 => ("StepsAhead$Routine", "standings", "[I", true)
  | 8 => ("StepsAhead$Routine", "variables", "[J", true)
  | 9 => ("StepsAhead$Routine", "rounds", "[J", true)
  | 10 => ("StepsAhead$Routine", "caller", "LStepsAhead$Routine;", false)
  | _ => ("StepsAhead$Routine", "placeInCaller", "I", false)
def tyX7 : Nat → FieldType := fun k => match k with
  | 0 => .int
  | 1 => .array (.object "StepsAhead$Op")
  | 2 => .int
  | 3 => .array .int
  | 4 => .int
  | 5 => .int
  | 6 => .array (.array .long)
  | 7 => .array .int
  | 8 => .array .long
  | 9 => .array .long
  | 10 => .object "StepsAhead$Routine"
  | _ => .int
theorem nmX7 : ∀ a, a < 12 → ∀ b, b < 12 → a ≠ b → (TX7 a).2.1 ≠ (TX7 b).2.1 := by decide +kernel
theorem tyX7_ok : ∀ k, k < 12 → parseFieldDescriptor (TX7 k).2.2.1 = some (tyX7 k) := by decide +kernel
def RX8 : String := "StepsAhead$Runner"
def TX8 : u_T := fun k => match k with
  | 0 => ("StepsAhead$Runner", "lotNow", "I", false)
  | 1 => ("StepsAhead$Runner", "way", "I", false)
  | 2 => ("StepsAhead$Runner", "steps", "I", false)
  | 3 => ("StepsAhead$Runner", "comings", "I", false)
  | 4 => ("StepsAhead$Runner", "spent", "Z", false)
  | 5 => ("StepsAhead$Runner", "here", "LStepsAhead$Routine;", false)
  | _ => ("StepsAhead$Runner", "place", "I", false)
def tyX8 : Nat → FieldType := fun k => match k with
  | 0 => .int
  | 1 => .int
  | 2 => .int
  | 3 => .int
  | 4 => .boolean
  | 5 => .object "StepsAhead$Routine"
  | _ => .int
theorem nmX8 : ∀ a, a < 7 → ∀ b, b < 7 → a ≠ b → (TX8 a).2.1 ≠ (TX8 b).2.1 := by decide +kernel
theorem tyX8_ok : ∀ k, k < 7 → parseFieldDescriptor (TX8 k).2.2.1 = some (tyX8 k) := by decide +kernel
def RX9 : String := "StepsAhead$Trace"
def TX9 : u_T := fun k => match k with
  | 0 => ("StepsAhead$Trace", "numbers", "[I", true)
  | _ => ("StepsAhead$Trace", "length", "I", false)
def tyX9 : Nat → FieldType := fun k => match k with
  | 0 => .array .int
  | _ => .int
theorem nmX9 : ∀ a, a < 2 → ∀ b, b < 2 → a ≠ b → (TX9 a).2.1 ≠ (TX9 b).2.1 := by decide +kernel
theorem tyX9_ok : ∀ k, k < 2 → parseFieldDescriptor (TX9 k).2.2.1 = some (tyX9 k) := by decide +kernel
def RX10 : String := "StepsAhead$Work"
def TX10 : u_T := fun k => match k with
  | 0 => ("StepsAhead$Op", "ownKind", "I", true)
  | 1 => ("StepsAhead$Op", "place", "I", true)
  | 2 => ("StepsAhead$Op", "loopsAround", "I", true)
  | 3 => ("StepsAhead$Op", "opener", "I", true)
  | _ => ("StepsAhead$Work", "c", "I", true)
def tyX10 : Nat → FieldType := fun k => match k with
  | 0 => .int
  | 1 => .int
  | 2 => .int
  | 3 => .int
  | _ => .int
theorem nmX10 : ∀ a, a < 5 → ∀ b, b < 5 → a ≠ b → (TX10 a).2.1 ≠ (TX10 b).2.1 := by decide +kernel
theorem tyX10_ok : ∀ k, k < 5 → parseFieldDescriptor (TX10 k).2.2.1 = some (tyX10 k) := by decide +kernel
def RX11 : String := "StepsAhead"
def TX11 : u_T := fun k => match k with
  | 0 => ("StepsAhead", "routines", "[LStepsAhead$Routine;", true)
  | 1 => ("StepsAhead", "made", "I", false)
  | 2 => ("StepsAhead", "firstExpression", "[I", true)
  | 3 => ("StepsAhead", "secondExpression", "[I", true)
  | 4 => ("StepsAhead", "left", "LStepsAhead$Trace;", true)
  | 5 => ("StepsAhead", "reckoner", "LStepsAhead$Reckoner;", true)
  | _ => ("StepsAhead", "runner", "LStepsAhead$Runner;", true)
def tyX11 : Nat → FieldType := fun k => match k with
  | 0 => .array (.object "StepsAhead$Routine")
  | 1 => .int
  | 2 => .array .int
  | 3 => .array .int
  | 4 => .object "StepsAhead$Trace"
  | 5 => .object "StepsAhead$Reckoner"
  | _ => .object "StepsAhead$Runner"
theorem nmX11 : ∀ a, a < 7 → ∀ b, b < 7 → a ≠ b → (TX11 a).2.1 ≠ (TX11 b).2.1 := by decide +kernel
theorem tyX11_ok : ∀ k, k < 7 → parseFieldDescriptor (TX11 k).2.2.1 = some (tyX11 k) := by decide +kernel
def RX12 : String := "StepsAheadModel"
def TX12 : u_T := fun k => match k with
  | 0 => ("StepsAheadModel", "routines", "I", false)
  | 1 => ("StepsAheadModel", "many", "[I", true)
  | 2 => ("StepsAheadModel", "kind", "[I", true)
  | 3 => ("StepsAheadModel", "work", "[I", true)
  | 4 => ("StepsAheadModel", "called", "[I", true)
  | 5 => ("StepsAheadModel", "told", "[I", true)
  | 6 => ("StepsAheadModel", "next", "[I", true)
  | 7 => ("StepsAheadModel", "lot", "I", false)
  | 8 => ("StepsAheadModel", "trace", "[I", true)
  | 9 => ("StepsAheadModel", "traced", "I", false)
  | 10 => ("StepsAheadModel", "isKnown", "Z", false)
  | 11 => ("StepsAheadModel", "powers", "[I", true)
  | 12 => ("StepsAheadModel", "rowOf", "[I", true)
  | 13 => ("StepsAheadModel", "open", "I", false)
  | 14 => ("StepsAheadModel", "openKind", "[I", true)
  | 15 => ("StepsAheadModel", "openAt", "[I", true)
  | 16 => ("StepsAheadModel", "openLoops", "I", false)
  | 17 => ("StepsAheadModel", "poly", "[J", true)
  | 18 => ("StepsAheadModel", "isWhole", "[Z", true)
  | 19 => ("StepsAheadModel", "isClosed", "[Z", true)
  | 20 => ("StepsAheadModel", "isFull", "[Z", true)
  | 21 => ("StepsAheadModel", "made", "[J", true)
  | 22 => ("StepsAheadModel", "other", "[J", true)
  | 23 => ("StepsAheadModel", "sums", "[I", true)
  | 24 => ("StepsAheadModel", "pileOp", "[I", true)
  | 25 => ("StepsAheadModel", "pileRow", "[I", true)
  | 26 => ("StepsAheadModel", "looks", "I", false)
  | 27 => ("StepsAheadModel", "steps", "J", false)
  | 28 => ("StepsAheadModel", "at", "I", false)
  | 29 => ("StepsAheadModel", "in0", "I", false)
  | 30 => ("StepsAheadModel", "in1", "I", false)
  | 31 => ("StepsAheadModel", "loopsOn", "I", false)
  | 32 => ("StepsAheadModel", "counter", "[I", true)
  | 33 => ("StepsAheadModel", "high", "I", false)
  | 34 => ("StepsAheadModel", "runOp", "[I", true)
  | 35 => ("StepsAheadModel", "runCount", "[I", true)
  | 36 => ("StepsAheadModel", "runEnd", "[I", true)
  | 37 => ("StepsAheadModel", "runSteps", "[J", true)
  | 38 => ("StepsAheadModel", "runOther", "[J", true)
  | _ => ("StepsAheadModel", "kept", "[I", true)
def tyX12 : Nat → FieldType := fun k => match k with
  | 0 => .int
  | 1 => .array .int
  | 2 => .array .int
  | 3 => .array .int
  | 4 => .array .int
  | 5 => .array .int
  | 6 => .array .int
  | 7 => .int
  | 8 => .array .int
  | 9 => .int
  | 10 => .boolean
  | 11 => .array .int
  | 12 => .array .int
  | 13 => .int
  | 14 => .array .int
  | 15 => .array .int
  | 16 => .int
  | 17 => .array .long
  | 18 => .array .boolean
  | 19 => .array .boolean
  | 20 => .array .boolean
  | 21 => .array .long
  | 22 => .array .long
  | 23 => .array .int
  | 24 => .array .int
  | 25 => .array .int
  | 26 => .int
  | 27 => .long
  | 28 => .int
  | 29 => .int
  | 30 => .int
  | 31 => .int
  | 32 => .array .int
  | 33 => .int
  | 34 => .array .int
  | 35 => .array .int
  | 36 => .array .int
  | 37 => .array .long
  | 38 => .array .long
  | _ => .array .int
theorem nmX12 : ∀ a, a < 40 → ∀ b, b < 40 → a ≠ b → (TX12 a).2.1 ≠ (TX12 b).2.1 := by decide +kernel
theorem tyX12_ok : ∀ k, k < 40 → parseFieldDescriptor (TX12 k).2.2.1 = some (tyX12 k) := by decide +kernel
abbrev vwCl : List vw_C := [(RX0, TX0, 7), (RX2, TX2, 8), (RX3, TX3, 6), (RX4, TX4, 4), (RX5, TX5, 2), (RX6, TX6, 7), (RX7, TX7, 12), (RX8, TX8, 7), (RX9, TX9, 2), (RX10, TX10, 5), (RX11, TX11, 7), (RX12, TX12, 40)]
/-- the words that stay true while tables warm -/
def GT : List Cond := lw_tbl.filter goodWord
theorem GT_in : ∀ w ∈ GT, w ∈ lw_tbl := fun _ h => (List.mem_filter.mp h).1
theorem GT_of {w : Cond} (i : Nat) (h : tables_1[i]? = some w) (g : goodWord w = true) : w ∈ GT := List.mem_filter.mpr ⟨List.mem_append_right _ (List.mem_of_getElem? h), g⟩
theorem GT_sel {w : Cond} (i : Nat) (h : (k2_sels lw_privs)[i]? = some w) (g : goodWord w = true) : w ∈ GT := List.mem_filter.mpr ⟨List.mem_append_left _ (List.mem_of_getElem? h), g⟩
theorem GT_good {w : Cond} (h : w ∈ GT) : (w.onTables && w.keeps) = true ∨ ∃ ty, w = .arrayClass ty := good_of_word (List.mem_filter.mp h).2
