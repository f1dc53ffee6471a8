/-! fields by number: declaring class, name, descriptor, final; type: 0 int, 1 long, 2 reference, 3 boolean -/
def FNL : List (String × String × String × Bool) := [("StepsAhead$Counted", "first", "[I", true), ("StepsAhead$Op", "ownKind", "I", true), ("StepsAhead$Op", "place", "I", true), ("StepsAhead$Op", "loopsAround", "I", true), ("StepsAhead$Op", "opener", "I", true), ("StepsAhead$Call", "second", "[I", true), ("StepsAhead$Call", "target", "LStepsAhead$Routine;", true), ("StepsAhead$Either", "or", "I", false), ("StepsAhead$Either", "done", "I", false), ("StepsAhead$Either", "stepsBefore", "I", false), ("StepsAhead$Either", "stepsOfFirst", "I", false), ("StepsAhead$Loop", "end", "I", false), ("StepsAhead$Products", "times", "[[I", true), ("StepsAhead$Products", "lastVariable", "[I", true), ("StepsAhead$Reckoner", "table", "LStepsAhead$Products;", true), ("StepsAhead$Reckoner", "rows", "[[J", true), ("StepsAhead$Reckoner", "top", "I", false), ("StepsAhead$Reckoner", "ofOp", "[J", true), ("StepsAhead$Reckoner", "part", "[J", true), ("StepsAhead$Reckoner", "side", "I", false), ("StepsAhead$Reckoner", "full", "Z", false), ("StepsAhead$Routine", "number", "I", true), ("StepsAhead$Routine", "ops", "[LStepsAhead$Op;", true), ("StepsAhead$Routine", "size", "I", false), ("StepsAhead$Routine", "open", "[I", true), ("StepsAhead$Routine", "openSize", "I", false), ("StepsAhead$Routine", "calledBits", "I", false), ("StepsAhead$Routine", "formulas", "[[J", true), ("StepsAhead$Routine", "standings", "[I", true), ("StepsAhead$Routine", "variables", "[J", true), ("StepsAhead$Routine", "rounds", "[J", true), ("StepsAhead$Routine", "caller", "LStepsAhead$Routine;", false), ("StepsAhead$Routine", "placeInCaller", "I", false), ("StepsAhead$Runner", "lotNow", "I", false), ("StepsAhead$Runner", "way", "I", false), ("StepsAhead$Runner", "steps", "I", false), ("StepsAhead$Runner", "comings", "I", false), ("StepsAhead$Runner", "spent", "Z", false), ("StepsAhead$Runner", "here", "LStepsAhead$Routine;", false), ("StepsAhead$Runner", "place", "I", false), ("StepsAhead$Trace", "numbers", "[I", true), ("StepsAhead$Trace", "length", "I", false), ("StepsAhead$Work", "c", "I", true), ("StepsAhead", "routines", "[LStepsAhead$Routine;", true), ("StepsAhead", "made", "I", false), ("StepsAhead", "firstExpression", "[I", true), ("StepsAhead", "secondExpression", "[I", true), ("StepsAhead", "left", "LStepsAhead$Trace;", true), ("StepsAhead", "reckoner", "LStepsAhead$Reckoner;", true), ("StepsAhead", "runner", "LStepsAhead$Runner;", true), ("StepsAheadModel", "routines", "I", false), ("StepsAheadModel", "many", "[I", true), ("StepsAheadModel", "kind", "[I", true), ("StepsAheadModel", "work", "[I", true), ("StepsAheadModel", "called", "[I", true), ("StepsAheadModel", "told", "[I", true), ("StepsAheadModel", "next", "[I", true), ("StepsAheadModel", "lot", "I", false), ("StepsAheadModel", "trace", "[I", true), ("StepsAheadModel", "traced", "I", false), ("StepsAheadModel", "isKnown", "Z", false), ("StepsAheadModel", "powers", "[I", true), ("StepsAheadModel", "rowOf", "[I", true), ("StepsAheadModel", "open", "I", false), ("StepsAheadModel", "openKind", "[I", true), ("StepsAheadModel", "openAt", "[I", true), ("StepsAheadModel", "openLoops", "I", false), ("StepsAheadModel", "poly", "[J", true), ("StepsAheadModel", "isWhole", "[Z", true), ("StepsAheadModel", "isClosed", "[Z", true), ("StepsAheadModel", "isFull", "[Z", true), ("StepsAheadModel", "made", "[J", true), ("StepsAheadModel", "other", "[J", true), ("StepsAheadModel", "sums", "[I", true), ("StepsAheadModel", "pileOp", "[I", true), ("StepsAheadModel", "pileRow", "[I", true), ("StepsAheadModel", "looks", "I", false), ("StepsAheadModel", "steps", "J", false), ("StepsAheadModel", "at", "I", false), ("StepsAheadModel", "in0", "I", false), ("StepsAheadModel", "in1", "I", false), ("StepsAheadModel", "loopsOn", "I", false), ("StepsAheadModel", "counter", "[I", true), ("StepsAheadModel", "high", "I", false), ("StepsAheadModel", "runOp", "[I", true), ("StepsAheadModel", "runCount", "[I", true), ("StepsAheadModel", "runEnd", "[I", true), ("StepsAheadModel", "runSteps", "[J", true), ("StepsAheadModel", "runOther", "[J", true), ("StepsAheadModel", "kept", "[I", true)]
def FN (f : Nat) : String × String × String × Bool := FNL.getD f ("", "", "", false)
def FTC : List Nat := [2, 0, 0, 0, 0, 2, 2, 0, 0, 0, 0, 0, 2, 2, 2, 2, 0, 2, 2, 0, 3, 0, 2, 0, 2, 0, 0, 2, 2, 2, 2, 2, 0, 0, 0, 0, 0, 3, 2, 0, 2, 0, 0, 2, 0, 2, 2, 2, 2, 2, 0, 2, 2, 2, 2, 2, 2, 0, 2, 0, 3, 2, 2, 0, 2, 2, 0, 2, 2, 2, 2, 2, 2, 2, 2, 2, 0, 1, 0, 0, 0, 0, 2, 0, 2, 2, 2, 2, 2, 2]
def ftc (f : Nat) : Nat := FTC.getD f 0
def fls : List (List Nat) := [[0, 1, 2, 3, 4, 5, 6], [1, 2, 3, 4, 7, 8, 9, 10], [0, 1, 2, 3, 4, 11], [1, 2, 3, 4], [12, 13], [14, 15, 16, 17, 18, 19, 20], [21, 22, 23, 24, 25, 26, 27, 28, 29, 30, 31, 32], [33, 34, 35, 36, 37, 38, 39], [40, 41], [1, 2, 3, 4, 42], [43, 44, 45, 46, 47, 48, 49], [50, 51, 52, 53, 54, 55, 56, 57, 58, 59, 60, 61, 62, 63, 64, 65, 66, 67, 68, 69, 70, 71, 72, 73, 74, 75, 76, 77, 78, 79, 80, 81, 82, 83, 84, 85, 86, 87, 88, 89]]
def fl (ci : Nat) : List Nat := fls.getD ci []
def hasF (kd f : Nat) : Bool := match kd with
  | 0 => false
  | k + 1 => (fl k).any (Nat.beq f)
def tyok (f : Nat) (t : FieldType) : Prop := (ftc f = 0 ∧ t = .int) ∨ (ftc f = 1 ∧ t = .long) ∨ (ftc f = 3 ∧ t = .boolean) ∨ (ftc f = 2 ∧ ((∃ n, t = .object n) ∨ ∃ u, t = .array u))
set_option maxRecDepth 100000 in
theorem inX0 : ∀ w ∈ u_ws RX0 TX0 7, w ∈ GT := by
  show ∀ w ∈ [u_lay RX0 TX0 0, u_lay RX0 TX0 1, u_lay RX0 TX0 2, u_lay RX0 TX0 3, u_lay RX0 TX0 4, u_lay RX0 TX0 5, u_lay RX0 TX0 6], w ∈ GT
  simp only [List.forall_mem_cons]
  exact ⟨GT_of 388 rfl rfl, GT_of 389 rfl rfl, GT_of 390 rfl rfl, GT_of 391 rfl rfl, GT_of 392 rfl rfl, GT_of 384 rfl rfl, GT_of 386 rfl rfl, fun _ h => by cases h⟩
theorem fkX0 : ∀ k, k < 7 → ∃ f, (fl 0)[k]? = some f ∧ TX0 k = FN f ∧ tyok f (tyX0 k) := fun k hk => match k, hk with
  | 0, _ => ⟨0, rfl, rfl, Or.inr (Or.inr (Or.inr ⟨rfl, Or.inr ⟨_, rfl⟩⟩))⟩
  | 1, _ => ⟨1, rfl, rfl, Or.inl ⟨rfl, rfl⟩⟩
  | 2, _ => ⟨2, rfl, rfl, Or.inl ⟨rfl, rfl⟩⟩
  | 3, _ => ⟨3, rfl, rfl, Or.inl ⟨rfl, rfl⟩⟩
  | 4, _ => ⟨4, rfl, rfl, Or.inl ⟨rfl, rfl⟩⟩
  | 5, _ => ⟨5, rfl, rfl, Or.inr (Or.inr (Or.inr ⟨rfl, Or.inr ⟨_, rfl⟩⟩))⟩
  | 6, _ => ⟨6, rfl, rfl, Or.inr (Or.inr (Or.inr ⟨rfl, Or.inl ⟨_, rfl⟩⟩))⟩
  | k + 7, h => absurd h (by omega)
set_option maxRecDepth 100000 in
theorem inX2 : ∀ w ∈ u_ws RX2 TX2 8, w ∈ GT := by
  show ∀ w ∈ [u_lay RX2 TX2 0, u_lay RX2 TX2 1, u_lay RX2 TX2 2, u_lay RX2 TX2 3, u_lay RX2 TX2 4, u_lay RX2 TX2 5, u_lay RX2 TX2 6, u_lay RX2 TX2 7], w ∈ GT
  simp only [List.forall_mem_cons]
  exact ⟨GT_of 420 rfl rfl, GT_of 421 rfl rfl, GT_of 422 rfl rfl, GT_of 423 rfl rfl, GT_of 412 rfl rfl, GT_of 414 rfl rfl, GT_of 416 rfl rfl, GT_of 418 rfl rfl, fun _ h => by cases h⟩
theorem fkX2 : ∀ k, k < 8 → ∃ f, (fl 1)[k]? = some f ∧ TX2 k = FN f ∧ tyok f (tyX2 k) := fun k hk => match k, hk with
  | 0, _ => ⟨1, rfl, rfl, Or.inl ⟨rfl, rfl⟩⟩
  | 1, _ => ⟨2, rfl, rfl, Or.inl ⟨rfl, rfl⟩⟩
  | 2, _ => ⟨3, rfl, rfl, Or.inl ⟨rfl, rfl⟩⟩
  | 3, _ => ⟨4, rfl, rfl, Or.inl ⟨rfl, rfl⟩⟩
  | 4, _ => ⟨7, rfl, rfl, Or.inl ⟨rfl, rfl⟩⟩
  | 5, _ => ⟨8, rfl, rfl, Or.inl ⟨rfl, rfl⟩⟩
  | 6, _ => ⟨9, rfl, rfl, Or.inl ⟨rfl, rfl⟩⟩
  | 7, _ => ⟨10, rfl, rfl, Or.inl ⟨rfl, rfl⟩⟩
  | k + 8, h => absurd h (by omega)
set_option maxRecDepth 100000 in
theorem inX3 : ∀ w ∈ u_ws RX3 TX3 6, w ∈ GT := by
  show ∀ w ∈ [u_lay RX3 TX3 0, u_lay RX3 TX3 1, u_lay RX3 TX3 2, u_lay RX3 TX3 3, u_lay RX3 TX3 4, u_lay RX3 TX3 5], w ∈ GT
  simp only [List.forall_mem_cons]
  exact ⟨GT_of 360 rfl rfl, GT_of 362 rfl rfl, GT_of 363 rfl rfl, GT_of 364 rfl rfl, GT_of 365 rfl rfl, GT_of 358 rfl rfl, fun _ h => by cases h⟩
theorem fkX3 : ∀ k, k < 6 → ∃ f, (fl 2)[k]? = some f ∧ TX3 k = FN f ∧ tyok f (tyX3 k) := fun k hk => match k, hk with
  | 0, _ => ⟨0, rfl, rfl, Or.inr (Or.inr (Or.inr ⟨rfl, Or.inr ⟨_, rfl⟩⟩))⟩
  | 1, _ => ⟨1, rfl, rfl, Or.inl ⟨rfl, rfl⟩⟩
  | 2, _ => ⟨2, rfl, rfl, Or.inl ⟨rfl, rfl⟩⟩
  | 3, _ => ⟨3, rfl, rfl, Or.inl ⟨rfl, rfl⟩⟩
  | 4, _ => ⟨4, rfl, rfl, Or.inl ⟨rfl, rfl⟩⟩
  | 5, _ => ⟨11, rfl, rfl, Or.inl ⟨rfl, rfl⟩⟩
  | k + 6, h => absurd h (by omega)
set_option maxRecDepth 100000 in
theorem inX4 : ∀ w ∈ u_ws RX4 TX4 4, w ∈ GT := by
  show ∀ w ∈ [u_lay RX4 TX4 0, u_lay RX4 TX4 1, u_lay RX4 TX4 2, u_lay RX4 TX4 3], w ∈ GT
  simp only [List.forall_mem_cons]
  exact ⟨GT_of 449 rfl rfl, GT_of 450 rfl rfl, GT_of 451 rfl rfl, GT_of 452 rfl rfl, fun _ h => by cases h⟩
theorem fkX4 : ∀ k, k < 4 → ∃ f, (fl 3)[k]? = some f ∧ TX4 k = FN f ∧ tyok f (tyX4 k) := fun k hk => match k, hk with
  | 0, _ => ⟨1, rfl, rfl, Or.inl ⟨rfl, rfl⟩⟩
  | 1, _ => ⟨2, rfl, rfl, Or.inl ⟨rfl, rfl⟩⟩
  | 2, _ => ⟨3, rfl, rfl, Or.inl ⟨rfl, rfl⟩⟩
  | 3, _ => ⟨4, rfl, rfl, Or.inl ⟨rfl, rfl⟩⟩
  | k + 4, h => absurd h (by omega)
set_option maxRecDepth 100000 in
theorem inX5 : ∀ w ∈ u_ws RX5 TX5 2, w ∈ GT := by
  show ∀ w ∈ [u_lay RX5 TX5 0, u_lay RX5 TX5 1], w ∈ GT
  simp only [List.forall_mem_cons]
  exact ⟨GT_of 73 rfl rfl, GT_of 75 rfl rfl, fun _ h => by cases h⟩
theorem fkX5 : ∀ k, k < 2 → ∃ f, (fl 4)[k]? = some f ∧ TX5 k = FN f ∧ tyok f (tyX5 k) := fun k hk => match k, hk with
  | 0, _ => ⟨12, rfl, rfl, Or.inr (Or.inr (Or.inr ⟨rfl, Or.inr ⟨_, rfl⟩⟩))⟩
  | 1, _ => ⟨13, rfl, rfl, Or.inr (Or.inr (Or.inr ⟨rfl, Or.inr ⟨_, rfl⟩⟩))⟩
  | k + 2, h => absurd h (by omega)
set_option maxRecDepth 100000 in
theorem inX6 : ∀ w ∈ u_ws RX6 TX6 7, w ∈ GT := by
  show ∀ w ∈ [u_lay RX6 TX6 0, u_lay RX6 TX6 1, u_lay RX6 TX6 2, u_lay RX6 TX6 3, u_lay RX6 TX6 4, u_lay RX6 TX6 5, u_lay RX6 TX6 6], w ∈ GT
  simp only [List.forall_mem_cons]
  exact ⟨GT_of 87 rfl rfl, GT_of 89 rfl rfl, GT_of 91 rfl rfl, GT_of 93 rfl rfl, GT_of 95 rfl rfl, GT_of 97 rfl rfl, GT_of 99 rfl rfl, fun _ h => by cases h⟩
theorem fkX6 : ∀ k, k < 7 → ∃ f, (fl 5)[k]? = some f ∧ TX6 k = FN f ∧ tyok f (tyX6 k) := fun k hk => match k, hk with
  | 0, _ => ⟨14, rfl, rfl, Or.inr (Or.inr (Or.inr ⟨rfl, Or.inl ⟨_, rfl⟩⟩))⟩
  | 1, _ => ⟨15, rfl, rfl, Or.inr (Or.inr (Or.inr ⟨rfl, Or.inr ⟨_, rfl⟩⟩))⟩
  | 2, _ => ⟨16, rfl, rfl, Or.inl ⟨rfl, rfl⟩⟩
  | 3, _ => ⟨17, rfl, rfl, Or.inr (Or.inr (Or.inr ⟨rfl, Or.inr ⟨_, rfl⟩⟩))⟩
  | 4, _ => ⟨18, rfl, rfl, Or.inr (Or.inr (Or.inr ⟨rfl, Or.inr ⟨_, rfl⟩⟩))⟩
  | 5, _ => ⟨19, rfl, rfl, Or.inl ⟨rfl, rfl⟩⟩
  | 6, _ => ⟨20, rfl, rfl, Or.inr (Or.inr (Or.inl ⟨rfl, rfl⟩))⟩
  | k + 7, h => absurd h (by omega)
set_option maxRecDepth 100000 in
theorem inX7 : ∀ w ∈ u_ws RX7 TX7 12, w ∈ GT := by
  show ∀ w ∈ [u_lay RX7 TX7 0, u_lay RX7 TX7 1, u_lay RX7 TX7 2, u_lay RX7 TX7 3, u_lay RX7 TX7 4, u_lay RX7 TX7 5, u_lay RX7 TX7 6, u_lay RX7 TX7 7, u_lay RX7 TX7 8, u_lay RX7 TX7 9, u_lay RX7 TX7 10, u_lay RX7 TX7 11], w ∈ GT
  simp only [List.forall_mem_cons]
  exact ⟨GT_of 163 rfl rfl, GT_of 165 rfl rfl, GT_of 167 rfl rfl, GT_of 169 rfl rfl, GT_of 171 rfl rfl, GT_of 173 rfl rfl, GT_of 175 rfl rfl, GT_of 177 rfl rfl, GT_of 179 rfl rfl, GT_of 181 rfl rfl, GT_of 183 rfl rfl, GT_of 185 rfl rfl, fun _ h => by cases h⟩
theorem fkX7 : ∀ k, k < 12 → ∃ f, (fl 6)[k]? = some f ∧ TX7 k = FN f ∧ tyok f (tyX7 k) := fun k hk => match k, hk with
  | 0, _ => ⟨21, rfl, rfl, Or.inl ⟨rfl, rfl⟩⟩
  | 1, _ => ⟨22, rfl, rfl, Or.inr (Or.inr (Or.inr ⟨rfl, Or.inr ⟨_, rfl⟩⟩))⟩
  | 2, _ => ⟨23, rfl, rfl, Or.inl ⟨rfl, rfl⟩⟩
  | 3, _ => ⟨24, rfl, rfl, Or.inr (Or.inr (Or.inr ⟨rfl, Or.inr ⟨_, rfl⟩⟩))⟩
  | 4, _ => ⟨25, rfl, rfl, Or.inl ⟨rfl, rfl⟩⟩
  | 5, _ => ⟨26, rfl, rfl, Or.inl ⟨rfl, rfl⟩⟩
  | 6, _ => ⟨27, rfl, rfl, Or.inr (Or.inr (Or.inr ⟨rfl, Or.inr ⟨_, rfl⟩⟩))⟩
  | 7, _ => ⟨28, rfl, rfl, Or.inr (Or.inr (Or.inr ⟨rfl, Or.inr ⟨_, rfl⟩⟩))⟩
  | 8, _ => ⟨29, rfl, rfl, Or.inr (Or.inr (Or.inr ⟨rfl, Or.inr ⟨_, rfl⟩⟩))⟩
  | 9, _ => ⟨30, rfl, rfl, Or.inr (Or.inr (Or.inr ⟨rfl, Or.inr ⟨_, rfl⟩⟩))⟩
  | 10, _ => ⟨31, rfl, rfl, Or.inr (Or.inr (Or.inr ⟨rfl, Or.inl ⟨_, rfl⟩⟩))⟩
  | 11, _ => ⟨32, rfl, rfl, Or.inl ⟨rfl, rfl⟩⟩
  | k + 12, h => absurd h (by omega)
set_option maxRecDepth 100000 in
theorem inX8 : ∀ w ∈ u_ws RX8 TX8 7, w ∈ GT := by
  show ∀ w ∈ [u_lay RX8 TX8 0, u_lay RX8 TX8 1, u_lay RX8 TX8 2, u_lay RX8 TX8 3, u_lay RX8 TX8 4, u_lay RX8 TX8 5, u_lay RX8 TX8 6], w ∈ GT
  simp only [List.forall_mem_cons]
  exact ⟨GT_of 117 rfl rfl, GT_of 119 rfl rfl, GT_of 121 rfl rfl, GT_of 123 rfl rfl, GT_of 125 rfl rfl, GT_of 127 rfl rfl, GT_of 129 rfl rfl, fun _ h => by cases h⟩
theorem fkX8 : ∀ k, k < 7 → ∃ f, (fl 7)[k]? = some f ∧ TX8 k = FN f ∧ tyok f (tyX8 k) := fun k hk => match k, hk with
  | 0, _ => ⟨33, rfl, rfl, Or.inl ⟨rfl, rfl⟩⟩
  | 1, _ => ⟨34, rfl, rfl, Or.inl ⟨rfl, rfl⟩⟩
  | 2, _ => ⟨35, rfl, rfl, Or.inl ⟨rfl, rfl⟩⟩
  | 3, _ => ⟨36, rfl, rfl, Or.inl ⟨rfl, rfl⟩⟩
  | 4, _ => ⟨37, rfl, rfl, Or.inr (Or.inr (Or.inl ⟨rfl, rfl⟩))⟩
  | 5, _ => ⟨38, rfl, rfl, Or.inr (Or.inr (Or.inr ⟨rfl, Or.inl ⟨_, rfl⟩⟩))⟩
  | 6, _ => ⟨39, rfl, rfl, Or.inl ⟨rfl, rfl⟩⟩
  | k + 7, h => absurd h (by omega)
set_option maxRecDepth 100000 in
theorem inX9 : ∀ w ∈ u_ws RX9 TX9 2, w ∈ GT := by
  show ∀ w ∈ [u_lay RX9 TX9 0, u_lay RX9 TX9 1], w ∈ GT
  simp only [List.forall_mem_cons]
  exact ⟨GT_of 34 rfl rfl, GT_of 36 rfl rfl, fun _ h => by cases h⟩
theorem fkX9 : ∀ k, k < 2 → ∃ f, (fl 8)[k]? = some f ∧ TX9 k = FN f ∧ tyok f (tyX9 k) := fun k hk => match k, hk with
  | 0, _ => ⟨40, rfl, rfl, Or.inr (Or.inr (Or.inr ⟨rfl, Or.inr ⟨_, rfl⟩⟩))⟩
  | 1, _ => ⟨41, rfl, rfl, Or.inl ⟨rfl, rfl⟩⟩
  | k + 2, h => absurd h (by omega)
set_option maxRecDepth 100000 in
theorem inX10 : ∀ w ∈ u_ws RX10 TX10 5, w ∈ GT := by
  show ∀ w ∈ [u_lay RX10 TX10 0, u_lay RX10 TX10 1, u_lay RX10 TX10 2, u_lay RX10 TX10 3, u_lay RX10 TX10 4], w ∈ GT
  simp only [List.forall_mem_cons]
  exact ⟨GT_of 278 rfl rfl, GT_of 280 rfl rfl, GT_of 282 rfl rfl, GT_of 284 rfl rfl, GT_of 276 rfl rfl, fun _ h => by cases h⟩
theorem fkX10 : ∀ k, k < 5 → ∃ f, (fl 9)[k]? = some f ∧ TX10 k = FN f ∧ tyok f (tyX10 k) := fun k hk => match k, hk with
  | 0, _ => ⟨1, rfl, rfl, Or.inl ⟨rfl, rfl⟩⟩
  | 1, _ => ⟨2, rfl, rfl, Or.inl ⟨rfl, rfl⟩⟩
  | 2, _ => ⟨3, rfl, rfl, Or.inl ⟨rfl, rfl⟩⟩
  | 3, _ => ⟨4, rfl, rfl, Or.inl ⟨rfl, rfl⟩⟩
  | 4, _ => ⟨42, rfl, rfl, Or.inl ⟨rfl, rfl⟩⟩
  | k + 5, h => absurd h (by omega)
set_option maxRecDepth 100000 in
theorem inX11 : ∀ w ∈ u_ws RX11 TX11 7, w ∈ GT := by
  show ∀ w ∈ [u_lay RX11 TX11 0, u_lay RX11 TX11 1, u_lay RX11 TX11 2, u_lay RX11 TX11 3, u_lay RX11 TX11 4, u_lay RX11 TX11 5, u_lay RX11 TX11 6], w ∈ GT
  simp only [List.forall_mem_cons]
  exact ⟨GT_of 195 rfl rfl, GT_of 197 rfl rfl, GT_of 199 rfl rfl, GT_of 201 rfl rfl, GT_of 203 rfl rfl, GT_of 205 rfl rfl, GT_of 207 rfl rfl, fun _ h => by cases h⟩
theorem fkX11 : ∀ k, k < 7 → ∃ f, (fl 10)[k]? = some f ∧ TX11 k = FN f ∧ tyok f (tyX11 k) := fun k hk => match k, hk with
  | 0, _ => ⟨43, rfl, rfl, Or.inr (Or.inr (Or.inr ⟨rfl, Or.inr ⟨_, rfl⟩⟩))⟩
  | 1, _ => ⟨44, rfl, rfl, Or.inl ⟨rfl, rfl⟩⟩
  | 2, _ => ⟨45, rfl, rfl, Or.inr (Or.inr (Or.inr ⟨rfl, Or.inr ⟨_, rfl⟩⟩))⟩
  | 3, _ => ⟨46, rfl, rfl, Or.inr (Or.inr (Or.inr ⟨rfl, Or.inr ⟨_, rfl⟩⟩))⟩
  | 4, _ => ⟨47, rfl, rfl, Or.inr (Or.inr (Or.inr ⟨rfl, Or.inl ⟨_, rfl⟩⟩))⟩
  | 5, _ => ⟨48, rfl, rfl, Or.inr (Or.inr (Or.inr ⟨rfl, Or.inl ⟨_, rfl⟩⟩))⟩
  | 6, _ => ⟨49, rfl, rfl, Or.inr (Or.inr (Or.inr ⟨rfl, Or.inl ⟨_, rfl⟩⟩))⟩
  | k + 7, h => absurd h (by omega)
set_option maxRecDepth 100000 in
theorem inX12 : ∀ w ∈ u_ws RX12 TX12 40, w ∈ GT := by
  show ∀ w ∈ [u_lay RX12 TX12 0, u_lay RX12 TX12 1, u_lay RX12 TX12 2, u_lay RX12 TX12 3, u_lay RX12 TX12 4, u_lay RX12 TX12 5, u_lay RX12 TX12 6, u_lay RX12 TX12 7, u_lay RX12 TX12 8, u_lay RX12 TX12 9, u_lay RX12 TX12 10, u_lay RX12 TX12 11, u_lay RX12 TX12 12, u_lay RX12 TX12 13, u_lay RX12 TX12 14, u_lay RX12 TX12 15, u_lay RX12 TX12 16, u_lay RX12 TX12 17, u_lay RX12 TX12 18, u_lay RX12 TX12 19, u_lay RX12 TX12 20, u_lay RX12 TX12 21, u_lay RX12 TX12 22, u_lay RX12 TX12 23, u_lay RX12 TX12 24, u_lay RX12 TX12 25, u_lay RX12 TX12 26, u_lay RX12 TX12 27, u_lay RX12 TX12 28, u_lay RX12 TX12 29, u_lay RX12 TX12 30, u_lay RX12 TX12 31, u_lay RX12 TX12 32, u_lay RX12 TX12 33, u_lay RX12 TX12 34, u_lay RX12 TX12 35, u_lay RX12 TX12 36, u_lay RX12 TX12 37, u_lay RX12 TX12 38, u_lay RX12 TX12 39], w ∈ GT
  simp only [List.forall_mem_cons]
  exact ⟨GT_of 874 rfl rfl, GT_of 876 rfl rfl, GT_of 878 rfl rfl, GT_of 880 rfl rfl, GT_of 882 rfl rfl, GT_of 884 rfl rfl, GT_of 886 rfl rfl, GT_of 888 rfl rfl, GT_of 890 rfl rfl, GT_of 892 rfl rfl, GT_of 894 rfl rfl, GT_of 896 rfl rfl, GT_of 898 rfl rfl, GT_of 900 rfl rfl, GT_of 902 rfl rfl, GT_of 904 rfl rfl, GT_of 906 rfl rfl, GT_of 908 rfl rfl, GT_of 910 rfl rfl, GT_of 912 rfl rfl, GT_of 914 rfl rfl, GT_of 916 rfl rfl, GT_of 918 rfl rfl, GT_of 920 rfl rfl, GT_of 922 rfl rfl, GT_of 924 rfl rfl, GT_of 926 rfl rfl, GT_of 928 rfl rfl, GT_of 930 rfl rfl, GT_of 932 rfl rfl, GT_of 934 rfl rfl, GT_of 936 rfl rfl, GT_of 938 rfl rfl, GT_of 940 rfl rfl, GT_of 942 rfl rfl, GT_of 944 rfl rfl, GT_of 946 rfl rfl, GT_of 948 rfl rfl, GT_of 950 rfl rfl, GT_of 952 rfl rfl, fun _ h => by cases h⟩
theorem fkX12 : ∀ k, k < 40 → ∃ f, (fl 11)[k]? = some f ∧ TX12 k = FN f ∧ tyok f (tyX12 k) := fun k hk => match k, hk with
  | 0, _ => ⟨50, rfl, rfl, Or.inl ⟨rfl, rfl⟩⟩
  | 1, _ => ⟨51, rfl, rfl, Or.inr (Or.inr (Or.inr ⟨rfl, Or.inr ⟨_, rfl⟩⟩))⟩
  | 2, _ => ⟨52, rfl, rfl, Or.inr (Or.inr (Or.inr ⟨rfl, Or.inr ⟨_, rfl⟩⟩))⟩
  | 3, _ => ⟨53, rfl, rfl, Or.inr (Or.inr (Or.inr ⟨rfl, Or.inr ⟨_, rfl⟩⟩))⟩
  | 4, _ => ⟨54, rfl, rfl, Or.inr (Or.inr (Or.inr ⟨rfl, Or.inr ⟨_, rfl⟩⟩))⟩
  | 5, _ => ⟨55, rfl, rfl, Or.inr (Or.inr (Or.inr ⟨rfl, Or.inr ⟨_, rfl⟩⟩))⟩
  | 6, _ => ⟨56, rfl, rfl, Or.inr (Or.inr (Or.inr ⟨rfl, Or.inr ⟨_, rfl⟩⟩))⟩
  | 7, _ => ⟨57, rfl, rfl, Or.inl ⟨rfl, rfl⟩⟩
  | 8, _ => ⟨58, rfl, rfl, Or.inr (Or.inr (Or.inr ⟨rfl, Or.inr ⟨_, rfl⟩⟩))⟩
  | 9, _ => ⟨59, rfl, rfl, Or.inl ⟨rfl, rfl⟩⟩
  | 10, _ => ⟨60, rfl, rfl, Or.inr (Or.inr (Or.inl ⟨rfl, rfl⟩))⟩
  | 11, _ => ⟨61, rfl, rfl, Or.inr (Or.inr (Or.inr ⟨rfl, Or.inr ⟨_, rfl⟩⟩))⟩
  | 12, _ => ⟨62, rfl, rfl, Or.inr (Or.inr (Or.inr ⟨rfl, Or.inr ⟨_, rfl⟩⟩))⟩
  | 13, _ => ⟨63, rfl, rfl, Or.inl ⟨rfl, rfl⟩⟩
  | 14, _ => ⟨64, rfl, rfl, Or.inr (Or.inr (Or.inr ⟨rfl, Or.inr ⟨_, rfl⟩⟩))⟩
  | 15, _ => ⟨65, rfl, rfl, Or.inr (Or.inr (Or.inr ⟨rfl, Or.inr ⟨_, rfl⟩⟩))⟩
  | 16, _ => ⟨66, rfl, rfl, Or.inl ⟨rfl, rfl⟩⟩
  | 17, _ => ⟨67, rfl, rfl, Or.inr (Or.inr (Or.inr ⟨rfl, Or.inr ⟨_, rfl⟩⟩))⟩
  | 18, _ => ⟨68, rfl, rfl, Or.inr (Or.inr (Or.inr ⟨rfl, Or.inr ⟨_, rfl⟩⟩))⟩
  | 19, _ => ⟨69, rfl, rfl, Or.inr (Or.inr (Or.inr ⟨rfl, Or.inr ⟨_, rfl⟩⟩))⟩
  | 20, _ => ⟨70, rfl, rfl, Or.inr (Or.inr (Or.inr ⟨rfl, Or.inr ⟨_, rfl⟩⟩))⟩
  | 21, _ => ⟨71, rfl, rfl, Or.inr (Or.inr (Or.inr ⟨rfl, Or.inr ⟨_, rfl⟩⟩))⟩
  | 22, _ => ⟨72, rfl, rfl, Or.inr (Or.inr (Or.inr ⟨rfl, Or.inr ⟨_, rfl⟩⟩))⟩
  | 23, _ => ⟨73, rfl, rfl, Or.inr (Or.inr (Or.inr ⟨rfl, Or.inr ⟨_, rfl⟩⟩))⟩
  | 24, _ => ⟨74, rfl, rfl, Or.inr (Or.inr (Or.inr ⟨rfl, Or.inr ⟨_, rfl⟩⟩))⟩
  | 25, _ => ⟨75, rfl, rfl, Or.inr (Or.inr (Or.inr ⟨rfl, Or.inr ⟨_, rfl⟩⟩))⟩
  | 26, _ => ⟨76, rfl, rfl, Or.inl ⟨rfl, rfl⟩⟩
  | 27, _ => ⟨77, rfl, rfl, Or.inr (Or.inl ⟨rfl, rfl⟩)⟩
  | 28, _ => ⟨78, rfl, rfl, Or.inl ⟨rfl, rfl⟩⟩
  | 29, _ => ⟨79, rfl, rfl, Or.inl ⟨rfl, rfl⟩⟩
  | 30, _ => ⟨80, rfl, rfl, Or.inl ⟨rfl, rfl⟩⟩
  | 31, _ => ⟨81, rfl, rfl, Or.inl ⟨rfl, rfl⟩⟩
  | 32, _ => ⟨82, rfl, rfl, Or.inr (Or.inr (Or.inr ⟨rfl, Or.inr ⟨_, rfl⟩⟩))⟩
  | 33, _ => ⟨83, rfl, rfl, Or.inl ⟨rfl, rfl⟩⟩
  | 34, _ => ⟨84, rfl, rfl, Or.inr (Or.inr (Or.inr ⟨rfl, Or.inr ⟨_, rfl⟩⟩))⟩
  | 35, _ => ⟨85, rfl, rfl, Or.inr (Or.inr (Or.inr ⟨rfl, Or.inr ⟨_, rfl⟩⟩))⟩
  | 36, _ => ⟨86, rfl, rfl, Or.inr (Or.inr (Or.inr ⟨rfl, Or.inr ⟨_, rfl⟩⟩))⟩
  | 37, _ => ⟨87, rfl, rfl, Or.inr (Or.inr (Or.inr ⟨rfl, Or.inr ⟨_, rfl⟩⟩))⟩
  | 38, _ => ⟨88, rfl, rfl, Or.inr (Or.inr (Or.inr ⟨rfl, Or.inr ⟨_, rfl⟩⟩))⟩
  | 39, _ => ⟨89, rfl, rfl, Or.inr (Or.inr (Or.inr ⟨rfl, Or.inr ⟨_, rfl⟩⟩))⟩
  | k + 40, h => absurd h (by omega)
/-- a class of the world: all that a row asks of it -/
def CLF (ci : Nat) : Prop := ∃ (C : String) (T : u_T) (N : Nat) (ty : Nat → FieldType), vwCl[ci]? = some (C, T, N) ∧ (∀ w ∈ u_ws C T N, w ∈ GT) ∧ (∀ k, k < N → parseFieldDescriptor (T k).2.2.1 = some (ty k)) ∧ (∀ a, a < N → ∀ b, b < N → a ≠ b → (T a).2.1 ≠ (T b).2.1) ∧ (fl ci).length = N ∧ (fl ci).Nodup ∧ ∀ k, k < N → ∃ f, (fl ci)[k]? = some f ∧ T k = FN f ∧ tyok f (ty k)
theorem clf : ∀ ci, ci < 12 → CLF ci := fun ci h => match ci, h with
  | 0, _ => ⟨RX0, TX0, 7, tyX0, rfl, inX0, tyX0_ok, nmX0, rfl, by decide, fkX0⟩
  | 1, _ => ⟨RX2, TX2, 8, tyX2, rfl, inX2, tyX2_ok, nmX2, rfl, by decide, fkX2⟩
  | 2, _ => ⟨RX3, TX3, 6, tyX3, rfl, inX3, tyX3_ok, nmX3, rfl, by decide, fkX3⟩
  | 3, _ => ⟨RX4, TX4, 4, tyX4, rfl, inX4, tyX4_ok, nmX4, rfl, by decide, fkX4⟩
  | 4, _ => ⟨RX5, TX5, 2, tyX5, rfl, inX5, tyX5_ok, nmX5, rfl, by decide, fkX5⟩
  | 5, _ => ⟨RX6, TX6, 7, tyX6, rfl, inX6, tyX6_ok, nmX6, rfl, by decide, fkX6⟩
  | 6, _ => ⟨RX7, TX7, 12, tyX7, rfl, inX7, tyX7_ok, nmX7, rfl, by decide, fkX7⟩
  | 7, _ => ⟨RX8, TX8, 7, tyX8, rfl, inX8, tyX8_ok, nmX8, rfl, by decide, fkX8⟩
  | 8, _ => ⟨RX9, TX9, 2, tyX9, rfl, inX9, tyX9_ok, nmX9, rfl, by decide, fkX9⟩
  | 9, _ => ⟨RX10, TX10, 5, tyX10, rfl, inX10, tyX10_ok, nmX10, rfl, by decide, fkX10⟩
  | 10, _ => ⟨RX11, TX11, 7, tyX11, rfl, inX11, tyX11_ok, nmX11, rfl, by decide, fkX11⟩
  | 11, _ => ⟨RX12, TX12, 40, tyX12, rfl, inX12, tyX12_ok, nmX12, rfl, by decide, fkX12⟩
  | k + 12, h => absurd h (by omega)
/-! methods by number -/
def YNL : List MethodName := [⟨"StepsAhead", "<init>", "()V"⟩, ⟨"java/lang/Object", "<init>", "()V"⟩, ⟨"StepsAhead$Trace", "<init>", "()V"⟩, ⟨"StepsAhead$Reckoner", "<init>", "()V"⟩, ⟨"StepsAhead$Products", "<init>", "()V"⟩, ⟨"java/util/Arrays", "fill", "([II)V"⟩, ⟨"StepsAhead$Products", "numberNew", "([III)V"⟩, ⟨"StepsAhead$Products", "findOthers", "([III)V"⟩, ⟨"StepsAhead$Products", "timesVariable", "(II)I"⟩, ⟨"StepsAhead$Runner", "<init>", "()V"⟩, ⟨"StepsAhead$Routine", "<init>", "(I)V"⟩, ⟨"StepsAhead", "routine", "()I"⟩, ⟨"StepsAhead", "expression", "(IIIIIII)I"⟩, ⟨"StepsAhead", "isFactor", "(I)Z"⟩, ⟨"StepsAhead", "work", "(II)I"⟩, ⟨"StepsAhead", "found", "(I)LStepsAhead$Routine;"⟩, ⟨"StepsAhead$Routine", "hasNoRoom", "()Z"⟩, ⟨"StepsAhead$Routine", "openLoops", "()I"⟩, ⟨"StepsAhead$Routine", "opAt", "(I)LStepsAhead$Op;"⟩, ⟨"StepsAhead$Work", "<init>", "(III)V"⟩, ⟨"StepsAhead$Op", "<init>", "(IIII)V"⟩, ⟨"StepsAhead", "append", "(LStepsAhead$Routine;LStepsAhead$Op;)I"⟩, ⟨"StepsAhead$Routine", "append", "(LStepsAhead$Op;)V"⟩, ⟨"StepsAhead$Routine", "noteCalls", "()V"⟩, ⟨"StepsAhead$Routine", "pushOpen", "(I)V"⟩, ⟨"StepsAhead$Either", "closedAt", "(II)V"⟩, ⟨"StepsAhead$Loop", "closedAt", "(II)V"⟩, ⟨"StepsAhead$Op", "closedAt", "(II)V"⟩, ⟨"StepsAhead", "forgetFrom", "(I)V"⟩, ⟨"StepsAhead$Routine", "forgetFormulas", "()V"⟩, ⟨"StepsAhead", "loop", "(I)I"⟩, ⟨"StepsAhead$Loop", "<init>", "(II[I)V"⟩, ⟨"StepsAhead$Counted", "<init>", "(III[I)V"⟩, ⟨"StepsAhead", "call", "(II)I"⟩, ⟨"StepsAhead$Call", "<init>", "(II[I[ILStepsAhead$Routine;)V"⟩, ⟨"StepsAhead", "either", "(I)I"⟩, ⟨"StepsAhead$Either", "<init>", "(II)V"⟩, ⟨"StepsAhead", "close", "(II)I"⟩, ⟨"StepsAhead$Routine", "innermost", "()LStepsAhead$Op;"⟩, ⟨"StepsAhead$Either", "isClosedNextBy", "(I)Z"⟩, ⟨"StepsAhead$Loop", "isClosedNextBy", "(I)Z"⟩, ⟨"StepsAhead$Op", "isClosedNextBy", "(I)Z"⟩, ⟨"StepsAhead", "back", "(I)I"⟩, ⟨"StepsAhead$Routine", "dropLast", "()V"⟩, ⟨"StepsAhead", "kind", "(II)I"⟩, ⟨"StepsAhead", "found", "(II)LStepsAhead$Op;"⟩, ⟨"StepsAhead", "is", "(III)I"⟩, ⟨"StepsAhead$Counted", "isOf", "(I)Z"⟩, ⟨"StepsAhead$Op", "isOf", "(I)Z"⟩, ⟨"StepsAhead", "told", "(III)I"⟩, ⟨"StepsAhead", "ask", "(III)I"⟩, ⟨"StepsAhead$Trace", "empty", "()V"⟩, ⟨"StepsAhead$Call", "sizeAsked", "(LStepsAhead$Trace;)I"⟩, ⟨"StepsAhead$Trace", "leave", "(I)V"⟩, ⟨"StepsAhead$Counted", "sizeAsked", "(LStepsAhead$Trace;)I"⟩, ⟨"StepsAhead$Counted", "notZero", "([I)I"⟩, ⟨"StepsAhead$Work", "sizeAsked", "(LStepsAhead$Trace;)I"⟩, ⟨"StepsAhead$Op", "sizeAsked", "(LStepsAhead$Trace;)I"⟩, ⟨"StepsAhead$Call", "markAsked", "(LStepsAhead$Trace;)I"⟩, ⟨"StepsAhead$Either", "markAsked", "(LStepsAhead$Trace;)I"⟩, ⟨"StepsAhead$Loop", "markAsked", "(LStepsAhead$Trace;)I"⟩, ⟨"StepsAhead$Counted", "markAsked", "(LStepsAhead$Trace;)I"⟩, ⟨"StepsAhead$Op", "markAsked", "(LStepsAhead$Trace;)I"⟩, ⟨"StepsAhead", "trace", "(I)I"⟩, ⟨"StepsAhead$Trace", "numberAt", "(I)I"⟩, ⟨"StepsAhead", "terms", "(II)I"⟩, ⟨"StepsAhead", "isSide", "(I)Z"⟩, ⟨"StepsAhead", "refusalOf", "(LStepsAhead$Routine;I)I"⟩, ⟨"StepsAhead", "reached", "(LStepsAhead$Routine;)I"⟩, ⟨"StepsAhead", "areWhole", "(I)Z"⟩, ⟨"StepsAhead$Routine", "isWhole", "()Z"⟩, ⟨"StepsAhead$Reckoner", "reckon", "(LStepsAhead$Routine;I)V"⟩, ⟨"StepsAhead$Reckoner", "pushRow", "()V"⟩, ⟨"java/util/Arrays", "fill", "([JJ)V"⟩, ⟨"StepsAhead$Reckoner", "add", "([JIJ)V"⟩, ⟨"StepsAhead$Reckoner", "takeCall", "(LStepsAhead$Call;)V"⟩, ⟨"StepsAhead$Reckoner", "powersOfFormula", "([J)I"⟩, ⟨"java/lang/Math", "max", "(II)I"⟩, ⟨"java/lang/Math", "min", "(II)I"⟩, ⟨"StepsAhead$Products", "upTo", "(I)I"⟩, ⟨"StepsAhead$Products", "multiply", "([JI[II)V"⟩, ⟨"StepsAhead$Reckoner", "putSecond", "([JIILStepsAhead$Call;)V"⟩, ⟨"StepsAhead$Reckoner", "addOp", "()V"⟩, ⟨"StepsAhead$Reckoner", "takeEither", "()V"⟩, ⟨"java/lang/Math", "max", "(JJ)J"⟩, ⟨"java/lang/Math", "min", "(JJ)J"⟩, ⟨"StepsAhead$Reckoner", "takeLoop", "(LStepsAhead$Loop;)V"⟩, ⟨"StepsAhead$Products", "powersOf", "([J)I"⟩, ⟨"StepsAhead$Loop", "hasFixedRounds", "()Z"⟩, ⟨"StepsAhead$Reckoner", "sumFixed", "([JILStepsAhead$Loop;)V"⟩, ⟨"StepsAhead$Loop", "counter", "()I"⟩, ⟨"StepsAhead$Products", "isAheadOf", "(II)Z"⟩, ⟨"StepsAhead$Reckoner", "sumOfPowers", "(II)J"⟩, ⟨"StepsAhead$Reckoner", "sumToExpression", "([JILStepsAhead$Loop;)V"⟩, ⟨"StepsAhead$Reckoner", "factorOfPower", "(I[JII)J"⟩, ⟨"StepsAhead$Reckoner", "keep", "([J)V"⟩, ⟨"StepsAhead$Routine", "termCount", "(I)I"⟩, ⟨"StepsAhead", "term", "(IIII)J"⟩, ⟨"StepsAhead$Routine", "termPlace", "(II)I"⟩, ⟨"StepsAhead", "commonDivisor", "(J)J"⟩, ⟨"java/lang/Math", "abs", "(J)J"⟩, ⟨"StepsAhead", "value", "(IIII)J"⟩, ⟨"StepsAhead", "isInput", "(I)Z"⟩, ⟨"StepsAhead$Routine", "wholeValue", "(III)J"⟩, ⟨"java/lang/Math", "floorDiv", "(JJ)J"⟩, ⟨"StepsAhead", "sure", "(I)I"⟩, ⟨"StepsAhead$Routine", "hasSameSides", "()Z"⟩, ⟨"StepsAhead", "worth", "(IIII)I"⟩, ⟨"StepsAhead$Runner", "stepsOf", "(LStepsAhead$Routine;III)I"⟩, ⟨"StepsAhead$Routine", "enter", "(JJLStepsAhead$Routine;I)V"⟩, ⟨"StepsAhead$Runner", "pass", "(LStepsAhead$Routine;)V"⟩, ⟨"StepsAhead$Routine", "valueNow", "([I)J"⟩, ⟨"StepsAhead$Routine", "setRounds", "(LStepsAhead$Loop;J)V"⟩, ⟨"StepsAhead$Runner", "goRound", "(LStepsAhead$Routine;LStepsAhead$Loop;)V"⟩, ⟨"StepsAhead$Routine", "nextRound", "(LStepsAhead$Loop;)J"⟩, ⟨"StepsAhead$Routine", "setCounter", "(LStepsAhead$Loop;J)V"⟩, ⟨"StepsAhead$Runner", "comes", "()Z"⟩, ⟨"StepsAhead$Runner", "goInto", "(LStepsAhead$Routine;LStepsAhead$Call;)V"⟩, ⟨"StepsAhead$Runner", "choose", "(LStepsAhead$Either;)V"⟩, ⟨"StepsAhead$Runner", "doesBoth", "()Z"⟩, ⟨"StepsAhead$Runner", "lotTellsSecond", "()Z"⟩, ⟨"StepsAhead$Runner", "passClosing", "(LStepsAhead$Routine;LStepsAhead$Op;LStepsAhead$Op;)V"⟩, ⟨"StepsAhead$Runner", "endPart", "(LStepsAhead$Either;I)V"⟩, ⟨"StepsAhead", "lot", "(I)I"⟩, ⟨"StepsAhead", "allowed", "(IIII)I"⟩, ⟨"StepsAhead", "count", "(I)I"⟩, ⟨"StepsAhead$Routine", "callCount", "()I"⟩, ⟨"StepsAheadModel", "<init>", "()V"⟩, ⟨"StepsAheadModel", "routine", "()I"⟩, ⟨"StepsAheadModel", "expression", "(IIIIIII)I"⟩, ⟨"StepsAheadModel", "in", "(JJJ)Z"⟩, ⟨"StepsAheadModel", "work", "(II)I"⟩, ⟨"StepsAheadModel", "isRoutine", "(I)Z"⟩, ⟨"StepsAheadModel", "come", "(IIII)I"⟩, ⟨"StepsAheadModel", "loop", "(I)I"⟩, ⟨"StepsAheadModel", "lookOpen", "(II)V"⟩, ⟨"StepsAheadModel", "call", "(II)I"⟩, ⟨"StepsAheadModel", "either", "(I)I"⟩, ⟨"StepsAheadModel", "close", "(II)I"⟩, ⟨"StepsAheadModel", "back", "(I)I"⟩, ⟨"StepsAheadModel", "kind", "(II)I"⟩, ⟨"StepsAheadModel", "isOp", "(II)Z"⟩, ⟨"StepsAheadModel", "is", "(III)I"⟩, ⟨"StepsAheadModel", "isCounted", "(I)Z"⟩, ⟨"StepsAheadModel", "told", "(III)I"⟩, ⟨"StepsAheadModel", "ask", "(III)I"⟩, ⟨"StepsAheadModel", "size", "(I)I"⟩, ⟨"StepsAheadModel", "begins", "(I)V"⟩, ⟨"StepsAheadModel", "notZero", "(II)I"⟩, ⟨"StepsAheadModel", "mark", "(II)I"⟩, ⟨"StepsAheadModel", "trace", "(I)I"⟩, ⟨"StepsAheadModel", "terms", "(II)I"⟩, ⟨"StepsAheadModel", "refusal", "(II)I"⟩, ⟨"StepsAheadModel", "know", "()V"⟩, ⟨"StepsAheadModel", "make", "(II)Z"⟩, ⟨"StepsAheadModel", "empty", "(I)V"⟩, ⟨"StepsAheadModel", "joins", "(II)Z"⟩, ⟨"StepsAheadModel", "isGood", "(I)Z"⟩, ⟨"StepsAheadModel", "sumUp", "(III)Z"⟩, ⟨"StepsAheadModel", "sixth", "(I)I"⟩, ⟨"StepsAheadModel", "code", "(I)I"⟩, ⟨"StepsAheadModel", "makePowers", "(IIII)V"⟩, ⟨"StepsAheadModel", "degree", "(I)I"⟩, ⟨"StepsAheadModel", "putIn", "(IIII)V"⟩, ⟨"StepsAheadModel", "countTerms", "(I)I"⟩, ⟨"StepsAheadModel", "term", "(IIII)J"⟩, ⟨"StepsAheadModel", "rowBy", "(II)I"⟩, ⟨"StepsAheadModel", "divisor", "(JJ)J"⟩, ⟨"StepsAheadModel", "value", "(IIII)J"⟩, ⟨"StepsAheadModel", "areInputs", "(II)Z"⟩, ⟨"StepsAheadModel", "valueOf", "(IIII)J"⟩, ⟨"StepsAheadModel", "sure", "(I)I"⟩, ⟨"StepsAheadModel", "isSure", "(I)Z"⟩, ⟨"StepsAheadModel", "worth", "(IIII)I"⟩, ⟨"StepsAheadModel", "go", "(IIII)I"⟩, ⟨"StepsAheadModel", "worthOf", "(II)I"⟩, ⟨"StepsAheadModel", "closing", "(II)I"⟩, ⟨"StepsAheadModel", "mayLook", "()Z"⟩, ⟨"StepsAheadModel", "lot", "(I)I"⟩, ⟨"StepsAheadModel", "allowed", "(IIII)I"⟩, ⟨"StepsAheadModel", "count", "(I)I"⟩, ⟨"StepsAheadLaw", "law", "([I)Z"⟩]
def yn (m : Nat) : MethodName := YNL.getD m ⟨"", "", ""⟩
def CDL : List ByteArray := [prog_1_method_1_code, object_method_1_code, prog_11_method_1_code, prog_8_method_1_code, prog_7_method_1_code, prog_17_method_103_code, prog_7_method_2_code, prog_7_method_3_code, prog_7_method_4_code, prog_10_method_1_code, prog_9_method_1_code, prog_1_method_2_code, prog_1_method_3_code, prog_1_method_25_code, prog_1_method_4_code, prog_1_method_23_code, prog_9_method_2_code, prog_9_method_6_code, prog_9_method_4_code, prog_12_method_1_code, prog_6_method_1_code, prog_1_method_28_code, prog_9_method_8_code, prog_9_method_11_code, prog_9_method_10_code, prog_4_method_3_code, prog_5_method_5_code, prog_6_method_4_code, prog_1_method_29_code, prog_9_method_12_code, prog_1_method_5_code, prog_5_method_1_code, prog_3_method_1_code, prog_1_method_6_code, prog_2_method_1_code, prog_1_method_7_code, prog_4_method_1_code, prog_1_method_8_code, prog_9_method_5_code, prog_4_method_2_code, prog_5_method_4_code, prog_6_method_3_code, prog_1_method_9_code, prog_9_method_9_code, prog_1_method_10_code, prog_1_method_24_code, prog_1_method_11_code, prog_3_method_2_code, prog_6_method_2_code, prog_1_method_12_code, prog_1_method_13_code, prog_11_method_2_code, prog_2_method_2_code, prog_11_method_3_code, prog_3_method_3_code, prog_3_method_5_code, prog_12_method_2_code, prog_6_method_5_code, prog_2_method_3_code, prog_4_method_4_code, prog_5_method_6_code, prog_3_method_4_code, prog_6_method_6_code, prog_1_method_14_code, prog_11_method_4_code, prog_1_method_15_code, prog_1_method_27_code, prog_1_method_32_code, prog_1_method_30_code, prog_1_method_31_code, prog_9_method_3_code, prog_8_method_2_code, prog_8_method_3_code, prog_17_method_101_code, prog_8_method_4_code, prog_8_method_12_code, prog_8_method_14_code, prog_16_method_65_code, prog_16_method_69_code, prog_7_method_6_code, prog_7_method_8_code, prog_8_method_13_code, prog_8_method_5_code, prog_8_method_6_code, prog_16_method_66_code, prog_16_method_70_code, prog_8_method_7_code, prog_7_method_7_code, prog_5_method_2_code, prog_8_method_8_code, prog_5_method_3_code, prog_7_method_5_code, prog_8_method_9_code, prog_8_method_10_code, prog_8_method_11_code, prog_8_method_15_code, prog_9_method_13_code, prog_1_method_16_code, prog_9_method_14_code, prog_1_method_33_code, prog_16_method_61_code, prog_1_method_17_code, prog_1_method_26_code, prog_9_method_15_code, prog_16_method_49_code, prog_1_method_18_code, prog_9_method_16_code, prog_1_method_19_code, prog_10_method_2_code, prog_9_method_17_code, prog_10_method_3_code, prog_9_method_18_code, prog_9_method_19_code, prog_10_method_6_code, prog_9_method_20_code, prog_9_method_21_code, prog_10_method_5_code, prog_10_method_7_code, prog_10_method_9_code, prog_10_method_8_code, prog_10_method_10_code, prog_10_method_4_code, prog_10_method_11_code, prog_1_method_20_code, prog_1_method_21_code, prog_1_method_22_code, prog_9_method_7_code, prog_14_method_1_code, prog_14_method_4_code, prog_14_method_5_code, prog_14_method_2_code, prog_14_method_8_code, prog_14_method_3_code, prog_14_method_7_code, prog_14_method_9_code, prog_14_method_6_code, prog_14_method_10_code, prog_14_method_11_code, prog_14_method_12_code, prog_14_method_13_code, prog_14_method_15_code, prog_14_method_14_code, prog_14_method_17_code, prog_14_method_16_code, prog_14_method_18_code, prog_14_method_23_code, prog_14_method_21_code, prog_14_method_19_code, prog_14_method_20_code, prog_14_method_22_code, prog_14_method_24_code, prog_14_method_39_code, prog_14_method_36_code, prog_14_method_35_code, prog_14_method_34_code, prog_14_method_25_code, prog_14_method_33_code, prog_14_method_29_code, prog_14_method_31_code, prog_14_method_30_code, prog_14_method_26_code, prog_14_method_28_code, prog_14_method_27_code, prog_14_method_32_code, prog_14_method_38_code, prog_14_method_41_code, prog_14_method_37_code, prog_14_method_40_code, prog_14_method_44_code, prog_14_method_43_code, prog_14_method_42_code, prog_14_method_46_code, prog_14_method_45_code, prog_14_method_51_code, prog_14_method_50_code, prog_14_method_47_code, prog_14_method_48_code, prog_14_method_49_code, prog_14_method_52_code, prog_14_method_53_code, prog_14_method_54_code, code]
def cod (m : Nat) : ByteArray := CDL.getD m ⟨#[]⟩
def MXL : List Nat := [2, 1, 1, 1, 4, 4, 7, 7, 3, 1, 2, 1, 10, 1, 4, 2, 1, 3, 2, 4, 5, 3, 3, 4, 2, 3, 3, 3, 3, 1, 4, 4, 5, 7, 6, 3, 3, 5, 2, 2, 2, 2, 3, 3, 4, 4, 5, 2, 2, 6, 5, 1, 2, 2, 2, 6, 2, 2, 2, 2, 2, 2, 2, 2, 2, 5, 1, 6, 4, 3, 1, 9, 1, 5, 5, 6, 3, 2, 2, 1, 11, 6, 4, 4, 4, 4, 4, 3, 2, 9, 1, 3, 8, 7, 9, 6, 8, 10, 5, 9, 2, 7, 1, 10, 6, 4, 2, 6, 6, 7, 7, 5, 5, 5, 3, 5, 1, 3, 2, 1, 1, 7, 4, 2, 7, 6, 3, 6, 1, 8, 6, 3, 2, 7, 2, 5, 3, 2, 4, 2, 3, 3, 5, 1, 4, 4, 3, 2, 5, 5, 2, 4, 3, 3, 14, 3, 4, 4, 18, 3, 4, 13, 4, 17, 4, 13, 3, 10, 6, 2, 13, 3, 4, 5, 10, 5, 5, 1, 2, 6, 6, 4]
def mxl (m : Nat) : Nat := MXL.getD m 0
def RTL : List (Option FieldType) := [none, none, none, none, none, none, none, none, some .int, none, none, some .int, some .int, some .boolean, some .int, some (.object "StepsAhead$Routine"), some .boolean, some .int, some (.object "StepsAhead$Op"), none, none, some .int, none, none, none, none, none, none, none, none, some .int, none, none, some .int, none, some .int, none, some .int, some (.object "StepsAhead$Op"), some .boolean, some .boolean, some .boolean, some .int, none, some .int, some (.object "StepsAhead$Op"), some .int, some .boolean, some .boolean, some .int, some .int, none, some .int, none, some .int, some .int, some .int, some .int, some .int, some .int, some .int, some .int, some .int, some .int, some .int, some .int, some .boolean, some .int, some .int, some .boolean, some .boolean, none, none, none, none, none, some .int, some .int, some .int, some .int, none, none, none, none, some .long, some .long, none, some .int, some .boolean, none, some .int, some .boolean, some .long, none, some .long, none, some .int, some .long, some .int, some .long, some .long, some .long, some .boolean, some .long, some .long, some .int, some .boolean, some .int, some .int, none, none, some .long, none, none, some .long, none, some .boolean, none, none, some .boolean, some .boolean, none, none, some .int, some .int, some .int, some .int, none, some .int, some .int, some .boolean, some .int, some .boolean, some .int, some .int, none, some .int, some .int, some .int, some .int, some .int, some .boolean, some .int, some .boolean, some .int, some .int, some .int, none, some .int, some .int, some .int, some .int, some .int, none, some .boolean, none, some .boolean, some .boolean, some .boolean, some .int, some .int, none, some .int, none, some .int, some .long, some .int, some .long, some .long, some .boolean, some .long, some .int, some .boolean, some .int, some .int, some .int, some .int, some .boolean, some .int, some .int, some .int, some .boolean]
def rty (m : Nat) : Option FieldType := RTL.getD m none
def FRL : List Nat := [5, 1, 2, 4, 3, 1, 1, 2, 1, 2, 2, 1, 2, 1, 5, 1, 1, 2, 1, 3, 2, 4, 3, 2, 1, 1, 1, 1, 2, 1, 5, 4, 3, 5, 4, 5, 3, 5, 2, 1, 1, 1, 4, 3, 3, 2, 3, 2, 1, 3, 7, 1, 4, 1, 3, 1, 2, 2, 2, 3, 6, 5, 2, 2, 1, 7, 1, 6, 1, 2, 1, 5, 2, 1, 1, 4, 2, 1, 1, 1, 2, 3, 2, 3, 1, 1, 4, 1, 1, 2, 1, 1, 1, 3, 2, 2, 1, 7, 1, 2, 1, 7, 1, 2, 1, 7, 1, 7, 6, 2, 5, 1, 2, 3, 2, 2, 1, 3, 2, 1, 1, 4, 2, 1, 7, 7, 2, 2, 1, 2, 1, 3, 2, 1, 3, 1, 3, 3, 3, 3, 4, 3, 4, 1, 4, 4, 2, 1, 1, 3, 2, 7, 6, 5, 4, 1, 3, 2, 3, 1, 1, 2, 1, 3, 1, 7, 1, 1, 7, 2, 2, 7, 1, 6, 2, 1, 1, 1, 1, 7, 6, 8]
def frs (m : Nat) : Nat := FRL.getD m 0
def LOL : List Nat := [131, 40, 60, 111, 88, 40, 40, 62, 40, 60, 60, 40, 60, 40, 128, 40, 40, 61, 40, 84, 60, 106, 84, 61, 40, 40, 40, 40, 60, 40, 131, 108, 84, 133, 108, 128, 84, 128, 61, 40, 40, 40, 106, 84, 84, 61, 84, 61, 40, 84, 166, 40, 103, 40, 82, 40, 61, 61, 61, 82, 145, 124, 61, 61, 40, 194, 40, 169, 40, 60, 40, 141, 64, 40, 40, 116, 61, 40, 40, 40, 61, 91, 64, 87, 40, 40, 117, 40, 40, 67, 40, 40, 40, 91, 62, 62, 40, 194, 40, 63, 40, 194, 40, 65, 40, 194, 40, 185, 160, 64, 134, 40, 60, 84, 60, 60, 40, 90, 60, 40, 40, 108, 61, 40, 194, 194, 61, 60, 40, 65, 40, 86, 65, 40, 86, 40, 86, 86, 86, 86, 108, 86, 108, 40, 108, 110, 64, 40, 40, 86, 65, 209, 187, 165, 132, 40, 88, 65, 95, 40, 40, 63, 40, 95, 40, 209, 40, 40, 209, 65, 62, 209, 40, 187, 64, 40, 40, 40, 40, 209, 187, 241]
def los (m : Nat) : Nat := LOL.getD m 0
