/-! ===== classes, fields, methods, links: data ===== -/
def RX0 : String := "HeavierServes$Future"
def TX0 : u_T := fun k => match k with
  | 0 => ("HeavierServes$Future", "now", "LHeavierServes$State;", true)
  | 1 => ("HeavierServes$Future", "town", "LHeavierServes$Town;", true)
  | 2 => ("HeavierServes$Future", "office", "LHeavierServes$Office;", true)
  | 3 => ("HeavierServes$Future", "row", "LHeavierServes$Row;", true)
  | 4 => ("HeavierServes$Future", "ladder", "[LHeavierServes$State;", true)
  | 5 => ("HeavierServes$Future", "course", "LHeavierServes$State;", true)
  | 6 => ("HeavierServes$Future", "plans", "[I", true)
  | 7 => ("HeavierServes$Future", "shares", "[J", true)
  | 8 => ("HeavierServes$Future", "sharesThen", "[J", true)
  | 9 => ("HeavierServes$Future", "chooser", "I", false)
  | 10 => ("HeavierServes$Future", "choices", "I", false)
  | 11 => ("HeavierServes$Future", "bestWeeks", "I", false)
  | _ => ("HeavierServes$Future", "bestPlan", "I", false)
def tyX0 : Nat → FieldType := fun k => match k with
  | 0 => .object "HeavierServes$State"
  | 1 => .object "HeavierServes$Town"
  | 2 => .object "HeavierServes$Office"
  | 3 => .object "HeavierServes$Row"
  | 4 => .array (.object "HeavierServes$State")
  | 5 => .object "HeavierServes$State"
  | 6 => .array .int
  | 7 => .array .long
  | 8 => .array .long
  | 9 => .int
  | 10 => .int
  | 11 => .int
  | _ => .int
theorem nmX0 : ∀ a, a < 13 → ∀ b, b < 13 → a ≠ b → (TX0 a).2.1 ≠ (TX0 b).2.1 := by decide +kernel
theorem tyX0_ok : ∀ k, k < 13 → parseFieldDescriptor (TX0 k).2.2.1 = some (tyX0 k) := by decide +kernel
def RX1 : String := "HeavierServes$Office"
def TX1 : u_T := fun k => match k with
  | 0 => ("HeavierServes$Office", "town", "LHeavierServes$Town;", true)
  | 1 => ("HeavierServes$Office", "will", "LHeavierServes$Will;", true)
  | _ => ("HeavierServes$Office", "scale", "LHeavierServes$Scale;", true)
def tyX1 : Nat → FieldType := fun k => match k with
  | 0 => .object "HeavierServes$Town"
  | 1 => .object "HeavierServes$Will"
  | _ => .object "HeavierServes$Scale"
theorem nmX1 : ∀ a, a < 3 → ∀ b, b < 3 → a ≠ b → (TX1 a).2.1 ≠ (TX1 b).2.1 := by decide +kernel
theorem tyX1_ok : ∀ k, k < 3 → parseFieldDescriptor (TX1 k).2.2.1 = some (tyX1 k) := by decide +kernel
def RX2 : String := "HeavierServes$Pairs"
def TX2 : u_T := fun k => match k with
  | 0 => ("HeavierServes$Pairs", "persons", "[I", true)
  | 1 => ("HeavierServes$Pairs", "values", "[I", true)
  | _ => ("HeavierServes$Pairs", "size", "I", false)
def tyX2 : Nat → FieldType := fun k => match k with
  | 0 => .array .int
  | 1 => .array .int
  | _ => .int
theorem nmX2 : ∀ a, a < 3 → ∀ b, b < 3 → a ≠ b → (TX2 a).2.1 ≠ (TX2 b).2.1 := by decide +kernel
theorem tyX2_ok : ∀ k, k < 3 → parseFieldDescriptor (TX2 k).2.2.1 = some (tyX2 k) := by decide +kernel
def RX3 : String := "HeavierServes$Past"
def TX3 : u_T := fun k => match k with
  | 0 => ("HeavierServes$Past", "ahead", "[LHeavierServes$State;", true)
  | 1 => ("HeavierServes$Past", "kept", "[LHeavierServes$State;", true)
  | 2 => ("HeavierServes$Past", "keptPeople", "[I", true)
  | 3 => ("HeavierServes$Past", "first", "I", false)
  | _ => ("HeavierServes$Past", "steps", "I", false)
def tyX3 : Nat → FieldType := fun k => match k with
  | 0 => .array (.object "HeavierServes$State")
  | 1 => .array (.object "HeavierServes$State")
  | 2 => .array .int
  | 3 => .int
  | _ => .int
theorem nmX3 : ∀ a, a < 5 → ∀ b, b < 5 → a ≠ b → (TX3 a).2.1 ≠ (TX3 b).2.1 := by decide +kernel
theorem tyX3_ok : ∀ k, k < 5 → parseFieldDescriptor (TX3 k).2.2.1 = some (tyX3 k) := by decide +kernel
def RX4 : String := "HeavierServes$Row"
def TX4 : u_T := fun k => match k with
  | 0 => ("HeavierServes$Row", "numbers", "[J", true)
  | _ => ("HeavierServes$Row", "size", "I", false)
def tyX4 : Nat → FieldType := fun k => match k with
  | 0 => .array .long
  | _ => .int
theorem nmX4 : ∀ a, a < 2 → ∀ b, b < 2 → a ≠ b → (TX4 a).2.1 ≠ (TX4 b).2.1 := by decide +kernel
theorem tyX4_ok : ∀ k, k < 2 → parseFieldDescriptor (TX4 k).2.2.1 = some (tyX4 k) := by decide +kernel
def RX5 : String := "HeavierServes$Scale"
def TX5 : u_T := fun k => match k with
  | 0 => ("HeavierServes$Scale", "grain", "I", false)
  | 1 => ("HeavierServes$Scale", "off", "I", false)
  | 2 => ("HeavierServes$Scale", "least", "I", false)
  | _ => ("HeavierServes$Scale", "greatest", "I", false)
def tyX5 : Nat → FieldType := fun k => match k with
  | 0 => .int
  | 1 => .int
  | 2 => .int
  | _ => .int
theorem nmX5 : ∀ a, a < 4 → ∀ b, b < 4 → a ≠ b → (TX5 a).2.1 ≠ (TX5 b).2.1 := by decide +kernel
theorem tyX5_ok : ∀ k, k < 4 → parseFieldDescriptor (TX5 k).2.2.1 = some (tyX5 k) := by decide +kernel
def RX6 : String := "HeavierServes$State"
def TX6 : u_T := fun k => match k with
  | 0 => ("HeavierServes$State", "week", "I", false)
  | 1 => ("HeavierServes$State", "server", "I", false)
  | 2 => ("HeavierServes$State", "since", "I", false)
  | 3 => ("HeavierServes$State", "alive", "I", false)
  | 4 => ("HeavierServes$State", "holds", "I", false)
  | 5 => ("HeavierServes$State", "holding", "I", false)
  | 6 => ("HeavierServes$State", "lawsMade", "I", false)
  | 7 => ("HeavierServes$State", "weight", "[I", true)
  | 8 => ("HeavierServes$State", "weeksServed", "[I", true)
  | 9 => ("HeavierServes$State", "maker", "[I", true)
  | 10 => ("HeavierServes$State", "madeIn", "[I", true)
  | 11 => ("HeavierServes$State", "fellIn", "[I", true)
  | _ => ("HeavierServes$State", "history", "[I", true)
def tyX6 : Nat → FieldType := fun k => match k with
  | 0 => .int
  | 1 => .int
  | 2 => .int
  | 3 => .int
  | 4 => .int
  | 5 => .int
  | 6 => .int
  | 7 => .array .int
  | 8 => .array .int
  | 9 => .array .int
  | 10 => .array .int
  | 11 => .array .int
  | _ => .array .int
theorem nmX6 : ∀ a, a < 13 → ∀ b, b < 13 → a ≠ b → (TX6 a).2.1 ≠ (TX6 b).2.1 := by decide +kernel
theorem tyX6_ok : ∀ k, k < 13 → parseFieldDescriptor (TX6 k).2.2.1 = some (tyX6 k) := by decide +kernel
def RX7 : String := "HeavierServes$Text"
def TX7 : u_T := fun k => match k with
  | 0 => ("HeavierServes$Text", "signs", "[I", true)
  | 1 => ("HeavierServes$Text", "length", "I", false)
  | _ => ("HeavierServes$Text", "readable", "I", false)
def tyX7 : Nat → FieldType := fun k => match k with
  | 0 => .array .int
  | 1 => .int
  | _ => .int
theorem nmX7 : ∀ a, a < 3 → ∀ b, b < 3 → a ≠ b → (TX7 a).2.1 ≠ (TX7 b).2.1 := by decide +kernel
theorem tyX7_ok : ∀ k, k < 3 → parseFieldDescriptor (TX7 k).2.2.1 = some (tyX7 k) := by decide +kernel
def RX8 : String := "HeavierServes$Town"
def TX8 : u_T := fun k => match k with
  | 0 => ("HeavierServes$Town", "party", "[I", true)
  | 1 => ("HeavierServes$Town", "ill", "[I", true)
  | 2 => ("HeavierServes$Town", "habitLength", "[I", true)
  | 3 => ("HeavierServes$Town", "habits", "[I", true)
  | 4 => ("HeavierServes$Town", "weightTold", "[I", true)
  | 5 => ("HeavierServes$Town", "draft", "[I", true)
  | 6 => ("HeavierServes$Town", "drafted", "I", false)
  | 7 => ("HeavierServes$Town", "place", "I", false)
  | 8 => ("HeavierServes$Town", "lines", "I", false)
  | _ => ("HeavierServes$Town", "people", "I", false)
def tyX8 : Nat → FieldType := fun k => match k with
  | 0 => .array .int
  | 1 => .array .int
  | 2 => .array .int
  | 3 => .array .int
  | 4 => .array .int
  | 5 => .array .int
  | 6 => .int
  | 7 => .int
  | 8 => .int
  | _ => .int
theorem nmX8 : ∀ a, a < 10 → ∀ b, b < 10 → a ≠ b → (TX8 a).2.1 ≠ (TX8 b).2.1 := by decide +kernel
theorem tyX8_ok : ∀ k, k < 10 → parseFieldDescriptor (TX8 k).2.2.1 = some (tyX8 k) := by decide +kernel
def RX9 : String := "HeavierServes$Trials"
def TX9 : u_T := fun k => match k with
  | 0 => ("HeavierServes$Trials", "now", "LHeavierServes$State;", true)
  | 1 => ("HeavierServes$Trials", "town", "LHeavierServes$Town;", true)
  | 2 => ("HeavierServes$Trials", "office", "LHeavierServes$Office;", true)
  | 3 => ("HeavierServes$Trials", "row", "LHeavierServes$Row;", true)
  | 4 => ("HeavierServes$Trials", "trial", "LHeavierServes$State;", true)
  | 5 => ("HeavierServes$Trials", "due", "[I", true)
  | _ => ("HeavierServes$Trials", "lastDue", "I", false)
def tyX9 : Nat → FieldType := fun k => match k with
  | 0 => .object "HeavierServes$State"
  | 1 => .object "HeavierServes$Town"
  | 2 => .object "HeavierServes$Office"
  | 3 => .object "HeavierServes$Row"
  | 4 => .object "HeavierServes$State"
  | 5 => .array .int
  | _ => .int
theorem nmX9 : ∀ a, a < 7 → ∀ b, b < 7 → a ≠ b → (TX9 a).2.1 ≠ (TX9 b).2.1 := by decide +kernel
theorem tyX9_ok : ∀ k, k < 7 → parseFieldDescriptor (TX9 k).2.2.1 = some (tyX9 k) := by decide +kernel
def RX10 : String := "HeavierServes$Will"
def TX10 : u_T := fun k => match k with
  | 0 => ("HeavierServes$Will", "codes", "[I", true)
  | 1 => ("HeavierServes$Will", "draft", "[I", true)
  | 2 => ("HeavierServes$Will", "stack", "[I", true)
  | 3 => ("HeavierServes$Will", "size", "I", false)
  | 4 => ("HeavierServes$Will", "drafted", "I", false)
  | _ => ("HeavierServes$Will", "place", "I", false)
def tyX10 : Nat → FieldType := fun k => match k with
  | 0 => .array .int
  | 1 => .array .int
  | 2 => .array .int
  | 3 => .int
  | 4 => .int
  | _ => .int
theorem nmX10 : ∀ a, a < 6 → ∀ b, b < 6 → a ≠ b → (TX10 a).2.1 ≠ (TX10 b).2.1 := by decide +kernel
theorem tyX10_ok : ∀ k, k < 6 → parseFieldDescriptor (TX10 k).2.2.1 = some (tyX10 k) := by decide +kernel
def RX11 : String := "HeavierServes"
def TX11 : u_T := fun k => match k with
  | 0 => ("HeavierServes", "text", "LHeavierServes$Text;", true)
  | 1 => ("HeavierServes", "row", "LHeavierServes$Row;", true)
  | 2 => ("HeavierServes", "town", "LHeavierServes$Town;", true)
  | 3 => ("HeavierServes", "will", "LHeavierServes$Will;", true)
  | 4 => ("HeavierServes", "scale", "LHeavierServes$Scale;", true)
  | 5 => ("HeavierServes", "now", "LHeavierServes$State;", true)
  | 6 => ("HeavierServes", "past", "LHeavierServes$Past;", true)
  | 7 => ("HeavierServes", "weighings", "LHeavierServes$Pairs;", true)
  | 8 => ("HeavierServes", "tellings", "LHeavierServes$Pairs;", true)
  | 9 => ("HeavierServes", "office", "LHeavierServes$Office;", true)
  | 10 => ("HeavierServes", "future", "LHeavierServes$Future;", true)
  | _ => ("HeavierServes", "trials", "LHeavierServes$Trials;", true)
def tyX11 : Nat → FieldType := fun k => match k with
  | 0 => .object "HeavierServes$Text"
  | 1 => .object "HeavierServes$Row"
  | 2 => .object "HeavierServes$Town"
  | 3 => .object "HeavierServes$Will"
  | 4 => .object "HeavierServes$Scale"
  | 5 => .object "HeavierServes$State"
  | 6 => .object "HeavierServes$Past"
  | 7 => .object "HeavierServes$Pairs"
  | 8 => .object "HeavierServes$Pairs"
  | 9 => .object "HeavierServes$Office"
  | 10 => .object "HeavierServes$Future"
  | _ => .object "HeavierServes$Trials"
theorem nmX11 : ∀ a, a < 12 → ∀ b, b < 12 → a ≠ b → (TX11 a).2.1 ≠ (TX11 b).2.1 := by decide +kernel
theorem tyX11_ok : ∀ k, k < 12 → parseFieldDescriptor (TX11 k).2.2.1 = some (tyX11 k) := by decide +kernel
def RX12 : String := "HeavierServesModel"
def TX12 : u_T := fun k => match k with
  | 0 => ("HeavierServesModel", "thrown", "I", false)
  | 1 => ("HeavierServesModel", "rows", "I", false)
  | 2 => ("HeavierServesModel", "row", "[J", true)
  | 3 => ("HeavierServesModel", "people", "I", false)
  | 4 => ("HeavierServesModel", "party", "[I", true)
  | 5 => ("HeavierServesModel", "ill", "[I", true)
  | 6 => ("HeavierServesModel", "habit", "[I", true)
  | 7 => ("HeavierServesModel", "habitMany", "[I", true)
  | 8 => ("HeavierServesModel", "grain", "I", false)
  | 9 => ("HeavierServesModel", "off", "I", false)
  | 10 => ("HeavierServesModel", "now", "[I", true)
  | 11 => ("HeavierServesModel", "next", "[I", true)
  | 12 => ("HeavierServesModel", "tape", "[I", true)
  | 13 => ("HeavierServesModel", "taped", "I", false)
  | 14 => ("HeavierServesModel", "at", "I", false)
  | 15 => ("HeavierServesModel", "to", "I", false)
  | 16 => ("HeavierServesModel", "nest", "I", false)
  | 17 => ("HeavierServesModel", "readWeight", "[I", true)
  | 18 => ("HeavierServesModel", "readParty", "[I", true)
  | 19 => ("HeavierServesModel", "readHabit", "[I", true)
  | 20 => ("HeavierServesModel", "readHabitMany", "[I", true)
  | 21 => ("HeavierServesModel", "readMany", "I", false)
  | 22 => ("HeavierServesModel", "code", "[I", true)
  | 23 => ("HeavierServesModel", "readCode", "[I", true)
  | 24 => ("HeavierServesModel", "codeLong", "I", false)
  | 25 => ("HeavierServesModel", "readLong", "I", false)
  | 26 => ("HeavierServesModel", "stack", "[I", true)
  | 27 => ("HeavierServesModel", "fell", "I", false)
  | 28 => ("HeavierServesModel", "undos", "I", false)
  | 29 => ("HeavierServesModel", "undone", "[I", true)
  | 30 => ("HeavierServesModel", "readStand", "[I", true)
  | 31 => ("HeavierServesModel", "readWeeks", "I", false)
  | 32 => ("HeavierServesModel", "servedFor", "[I", true)
  | 33 => ("HeavierServesModel", "plan", "[I", true)
  | 34 => ("HeavierServesModel", "weighings", "I", false)
  | 35 => ("HeavierServesModel", "weighedWho", "[I", true)
  | 36 => ("HeavierServesModel", "weighedShown", "[I", true)
  | 37 => ("HeavierServesModel", "dates", "I", false)
  | 38 => ("HeavierServesModel", "dateWho", "[I", true)
  | 39 => ("HeavierServesModel", "dateWeek", "[I", true)
  | 40 => ("HeavierServesModel", "chance", "[J", true)
  | 41 => ("HeavierServesModel", "chanceThen", "[J", true)
  | 42 => ("HeavierServesModel", "behind", "[I", true)
  | 43 => ("HeavierServesModel", "isKept", "[Z", true)
  | 44 => ("HeavierServesModel", "keptPeople", "[I", true)
  | _ => ("HeavierServesModel", "kept", "[I", true)
def tyX12 : Nat → FieldType := fun k => match k with
  | 0 => .int
  | 1 => .int
  | 2 => .array .long
  | 3 => .int
  | 4 => .array .int
  | 5 => .array .int
  | 6 => .array .int
  | 7 => .array .int
  | 8 => .int
  | 9 => .int
  | 10 => .array .int
  | 11 => .array .int
  | 12 => .array .int
  | 13 => .int
  | 14 => .int
  | 15 => .int
  | 16 => .int
  | 17 => .array .int
  | 18 => .array .int
  | 19 => .array .int
  | 20 => .array .int
  | 21 => .int
  | 22 => .array .int
  | 23 => .array .int
  | 24 => .int
  | 25 => .int
  | 26 => .array .int
  | 27 => .int
  | 28 => .int
  | 29 => .array .int
  | 30 => .array .int
  | 31 => .int
  | 32 => .array .int
  | 33 => .array .int
  | 34 => .int
  | 35 => .array .int
  | 36 => .array .int
  | 37 => .int
  | 38 => .array .int
  | 39 => .array .int
  | 40 => .array .long
  | 41 => .array .long
  | 42 => .array .int
  | 43 => .array .boolean
  | 44 => .array .int
  | _ => .array .int
theorem nmX12 : ∀ a, a < 46 → ∀ b, b < 46 → a ≠ b → (TX12 a).2.1 ≠ (TX12 b).2.1 := by decide +kernel
theorem tyX12_ok : ∀ k, k < 46 → parseFieldDescriptor (TX12 k).2.2.1 = some (tyX12 k) := by decide +kernel
def hs_clas : List vw_C := [(RX0, TX0, 13), (RX1, TX1, 3), (RX2, TX2, 3), (RX3, TX3, 5), (RX4, TX4, 2), (RX5, TX5, 4), (RX6, TX6, 13), (RX7, TX7, 3), (RX8, TX8, 10), (RX9, TX9, 7), (RX10, TX10, 6), (RX11, TX11, 12), (RX12, TX12, 46)]
def hs_own (n : Nat) : String := (hs_nth ["HeavierServes$Future", "HeavierServes$Office", "HeavierServes$Pairs", "HeavierServes$Past", "HeavierServes$Row", "HeavierServes$Scale", "HeavierServes$State", "HeavierServes$Text", "HeavierServes$Town", "HeavierServes$Trials", "HeavierServes$Will", "HeavierServes", "HeavierServesModel", "HeavierServesLaw", "java/lang/Integer", "java/lang/Math"] n).getD ""
def hs_cT (κ : Nat) : u_T := (hs_nth [TX0, TX1, TX2, TX3, TX4, TX5, TX6, TX7, TX8, TX9, TX10, TX11, TX12] κ).getD TX0
def hs_cty (κ : Nat) : Nat → FieldType := (hs_nth [tyX0, tyX1, tyX2, tyX3, tyX4, tyX5, tyX6, tyX7, tyX8, tyX9, tyX10, tyX11, tyX12] κ).getD tyX0
def hs_cN (κ : Nat) : Nat := (hs_nth [13, 3, 3, 5, 2, 4, 13, 3, 10, 7, 6, 12, 46] κ).getD 0
/-- the bytes of a code word of the tables -/
def hs_code (i : Nat) : ByteArray := match lw_tbl[i]? with
  | some (.code _ b _ _) => b
  | _ => .empty
def hs_isC (i : Nat) (nm : MethodName) (ml : Nat) (ret : Option FieldType) : Bool := match lw_tbl[i]? with
  | some (.code n _ m r) => decide (n = nm) && (decide (m = ml) && decide (r = ret))
  | _ => false
/-- name, bytes, locals, what comes back -/
abbrev hs_N : Type := MethodName × (ByteArray × (Nat × Option FieldType))
def hs_names : List (MethodName × (Nat × Option FieldType)) := [(⟨"java/lang/Integer", "bitCount", "(I)I"⟩, 1, (some .int)),
  (⟨"java/lang/Math", "floorMod", "(II)I"⟩, 3, (some .int)),
  (⟨"java/lang/Math", "max", "(II)I"⟩, 2, (some .int)),
  (⟨"java/lang/Math", "min", "(II)I"⟩, 2, (some .int)),
  (⟨"HeavierServes$Future", "run", "(II)V"⟩, 4, none),
  (⟨"HeavierServes$Future", "gain", "(I)I"⟩, 2, (some .int)),
  (⟨"HeavierServes$Future", "gainOfParty", "(I)I"⟩, 4, (some .int)),
  (⟨"HeavierServes$Future", "serverThen", "(I)I"⟩, 3, (some .int)),
  (⟨"HeavierServes$Future", "weeksTill", "(I)I"⟩, 3, (some .int)),
  (⟨"HeavierServes$Future", "reachable", "(I)I"⟩, 6, (some .int)),
  (⟨"HeavierServes$Future", "lightest", "(I)I"⟩, 4, (some .int)),
  (⟨"HeavierServes$Future", "heavierThan", "(I)I"⟩, 4, (some .int)),
  (⟨"HeavierServes$Future", "bestStanding", "(II)I"⟩, 3, (some .int)),
  (⟨"HeavierServes$Future", "search", "(II)V"⟩, 7, none),
  (⟨"HeavierServes$Future", "judge", "(II)V"⟩, 4, none),
  (⟨"HeavierServes$Future", "rounds", "(II)I"⟩, 6, (some .int)),
  (⟨"HeavierServes$Future", "someoneTurns", "(I)Z"⟩, 5, (some .boolean)),
  (⟨"HeavierServes$Future", "bestReply", "(II)I"⟩, 7, (some .int)),
  (⟨"HeavierServes$Future", "weeksByPlans", "(II)I"⟩, 6, (some .int)),
  (⟨"HeavierServes$Future", "strongestParty", "(I)I"⟩, 6, (some .int)),
  (⟨"HeavierServes$Future", "gainers", "()I"⟩, 3, (some .int)),
  (⟨"HeavierServes$Future", "takingTurns", "(II)I"⟩, 7, (some .int)),
  (⟨"HeavierServes$Future", "nextOf", "(II)I"⟩, 4, (some .int)),
  (⟨"HeavierServes$Future", "foolsWorth", "(II)I"⟩, 6, (some .int)),
  (⟨"HeavierServes$Future", "tellChance", "(II)V"⟩, 3, none),
  (⟨"HeavierServes$Future", "chanceInTwo", "(I)J"⟩, 5, (some .long)),
  (⟨"HeavierServes$Future", "likeliest", "()I"⟩, 3, (some .int)),
  (⟨"HeavierServes$Office", "pass", "(LHeavierServes$State;II)V"⟩, 4, none),
  (⟨"HeavierServes$Office", "finish", "(LHeavierServes$State;I)V"⟩, 3, none),
  (⟨"HeavierServes$Office", "winner", "(LHeavierServes$State;II)I"⟩, 8, (some .int)),
  (⟨"HeavierServes$Office", "shownOfServer", "(LHeavierServes$State;)I"⟩, 2, (some .int)),
  (⟨"HeavierServes$Office", "shares", "(LHeavierServes$State;[J)V"⟩, 9, none),
  (⟨"HeavierServes$Office", "heavierWho", "(LHeavierServes$State;)I"⟩, 5, (some .int)),
  (⟨"HeavierServes$Office", "heaviestOf", "(LHeavierServes$State;I)I"⟩, 6, (some .int)),
  (⟨"HeavierServes$Pairs", "append", "(II)I"⟩, 3, (some .int)),
  (⟨"HeavierServes$Pairs", "person", "(I)I"⟩, 2, (some .int)),
  (⟨"HeavierServes$Pairs", "value", "(I)I"⟩, 2, (some .int)),
  (⟨"HeavierServes$Past", "remember", "(LHeavierServes$State;)V"⟩, 2, none),
  (⟨"HeavierServes$Past", "stepBack", "(LHeavierServes$State;)Z"⟩, 2, (some .boolean)),
  (⟨"HeavierServes$Past", "forgetSteps", "()V"⟩, 1, none),
  (⟨"HeavierServes$Past", "keepAside", "(ILHeavierServes$State;I)Z"⟩, 4, (some .boolean)),
  (⟨"HeavierServes$Past", "takeAgain", "(ILHeavierServes$State;I)Z"⟩, 4, (some .boolean)),
  (⟨"HeavierServes$Row", "begin", "(J)V"⟩, 3, none),
  (⟨"HeavierServes$Row", "add", "(J)V"⟩, 3, none),
  (⟨"HeavierServes$Row", "range", "(III)V"⟩, 4, none),
  (⟨"HeavierServes$Row", "fraction", "(JJ)V"⟩, 7, none),
  (⟨"HeavierServes$Row", "commonDivisor", "(JJ)J"⟩, 7, (some .long)),
  (⟨"HeavierServes$Scale", "shows", "(I)I"⟩, 3, (some .int)),
  (⟨"HeavierServes$Scale", "misfits", "(LHeavierServes$Pairs;[II)I"⟩, 7, (some .int)),
  (⟨"HeavierServes$Scale", "possibleGrains", "(LHeavierServes$Pairs;I)I"⟩, 7, (some .int)),
  (⟨"HeavierServes$Scale", "narrow", "(LHeavierServes$Pairs;II)I"⟩, 5, (some .int)),
  (⟨"HeavierServes$Scale", "narrowBy", "(II)V"⟩, 3, none),
  (⟨"HeavierServes$State", "follow", "(LHeavierServes$State;)V"⟩, 2, none),
  (⟨"HeavierServes$State", "copy", "(LHeavierServes$State;)V"⟩, 2, none),
  (⟨"HeavierServes$State", "welcome", "(II)V"⟩, 3, none),
  (⟨"HeavierServes$State", "lives", "(I)Z"⟩, 2, (some .boolean)),
  (⟨"HeavierServes$State", "putWeight", "(II)V"⟩, 3, none),
  (⟨"HeavierServes$State", "makeLaw", "()I"⟩, 2, (some .int)),
  (⟨"HeavierServes$State", "dropLaws", "()I"⟩, 3, (some .int)),
  (⟨"HeavierServes$State", "bury", "(I)I"⟩, 2, (some .int)),
  (⟨"HeavierServes$State", "serveWeek", "(I)V"⟩, 2, none),
  (⟨"HeavierServes$Text", "append", "(I)Z"⟩, 3, (some .boolean)),
  (⟨"HeavierServes$Text", "open", "(I)V"⟩, 2, none),
  (⟨"HeavierServes$Text", "signAt", "(I)I"⟩, 2, (some .int)),
  (⟨"HeavierServes$Text", "digitAt", "(I)I"⟩, 3, (some .int)),
  (⟨"HeavierServes$Town", "has", "(I)Z"⟩, 2, (some .boolean)),
  (⟨"HeavierServes$Town", "everyone", "()I"⟩, 1, (some .int)),
  (⟨"HeavierServes$Town", "ofParty", "(I)I"⟩, 4, (some .int)),
  (⟨"HeavierServes$Town", "arriving", "(I)I"⟩, 2, (some .int)),
  (⟨"HeavierServes$Town", "changeAt", "(II)I"⟩, 4, (some .int)),
  (⟨"HeavierServes$Town", "changeWeights", "(LHeavierServes$State;)V"⟩, 5, none),
  (⟨"HeavierServes$Town", "weightLater", "(LHeavierServes$State;II)I"⟩, 7, (some .int)),
  (⟨"HeavierServes$Town", "copyPerson", "(II)V"⟩, 3, none),
  (⟨"HeavierServes$Town", "readLines", "(LHeavierServes$Text;)I"⟩, 3, (some .int)),
  (⟨"HeavierServes$Town", "readHabit", "(LHeavierServes$Text;I)I"⟩, 3, (some .int)),
  (⟨"HeavierServes$Town", "readLine", "(LHeavierServes$Text;I)Z"⟩, 3, (some .boolean)),
  (⟨"HeavierServes$Town", "readWeight", "(LHeavierServes$Text;I)Z"⟩, 5, (some .boolean)),
  (⟨"HeavierServes$Town", "readParty", "(LHeavierServes$Text;I)Z"⟩, 4, (some .boolean)),
  (⟨"HeavierServes$Town", "readChanges", "(LHeavierServes$Text;)Z"⟩, 4, (some .boolean)),
  (⟨"HeavierServes$Town", "isChangeSign", "(I)Z"⟩, 1, (some .boolean)),
  (⟨"HeavierServes$Town", "takeDraft", "(I)V"⟩, 2, none),
  (⟨"HeavierServes$Trials", "feast", "(II)V"⟩, 3, none),
  (⟨"HeavierServes$Trials", "cakesWorthTrying", "(I)I"⟩, 2, (some .int)),
  (⟨"HeavierServes$Trials", "cakesToStay", "(II)I"⟩, 6, (some .int)),
  (⟨"HeavierServes$Trials", "cakesToServe", "(II)I"⟩, 6, (some .int)),
  (⟨"HeavierServes$Trials", "ouncesToMiss", "(II)I"⟩, 5, (some .int)),
  (⟨"HeavierServes$Trials", "leastFed", "()I"⟩, 5, (some .int)),
  (⟨"HeavierServes$Trials", "cakesForNextWeek", "(II)I"⟩, 6, (some .int)),
  (⟨"HeavierServes$Trials", "gather", "(LHeavierServes$Pairs;)Z"⟩, 5, (some .boolean)),
  (⟨"HeavierServes$Trials", "comesAsDue", "(I)Z"⟩, 3, (some .boolean)),
  (⟨"HeavierServes$Trials", "explainingWeights", "(LHeavierServes$Pairs;I)I"⟩, 8, (some .int)),
  (⟨"HeavierServes$Trials", "explainingAbsences", "(LHeavierServes$Pairs;)I"⟩, 5, (some .int)),
  (⟨"HeavierServes$Will", "read", "(LHeavierServes$Text;)I"⟩, 2, (some .int)),
  (⟨"HeavierServes$Will", "readLevel", "(LHeavierServes$Text;II)Z"⟩, 8, (some .boolean)),
  (⟨"HeavierServes$Will", "levelOf", "(I)I"⟩, 1, (some .int)),
  (⟨"HeavierServes$Will", "readThing", "(LHeavierServes$Text;I)Z"⟩, 6, (some .boolean)),
  (⟨"HeavierServes$Will", "readBracket", "(LHeavierServes$Text;I)Z"⟩, 3, (some .boolean)),
  (⟨"HeavierServes$Will", "readNumber", "(LHeavierServes$Text;)V"⟩, 4, none),
  (⟨"HeavierServes$Will", "emit", "(I)V"⟩, 2, none),
  (⟨"HeavierServes$Will", "isFact", "(I)Z"⟩, 1, (some .boolean)),
  (⟨"HeavierServes$Will", "value", "(LHeavierServes$State;LHeavierServes$Town;I)I"⟩, 9, (some .int)),
  (⟨"HeavierServes$Will", "combine", "(III)I"⟩, 3, (some .int)),
  (⟨"HeavierServes$Will", "fact", "(ILHeavierServes$State;LHeavierServes$Town;I)I"⟩, 5, (some .int)),
  (⟨"HeavierServes", "sign", "(I)I"⟩, 2, (some .int)),
  (⟨"HeavierServes", "end", "(I)Z"⟩, 2, (some .boolean)),
  (⟨"HeavierServes", "town", "()I"⟩, 4, (some .int)),
  (⟨"HeavierServes", "will", "()I"⟩, 2, (some .int)),
  (⟨"HeavierServes", "habit", "(I)I"⟩, 3, (some .int)),
  (⟨"HeavierServes", "of", "(II)I"⟩, 3, (some .int)),
  (⟨"HeavierServes", "change", "(II)I"⟩, 3, (some .int)),
  (⟨"HeavierServes", "set", "(III)I"⟩, 4, (some .int)),
  (⟨"HeavierServes", "scale", "(II)Z"⟩, 3, (some .boolean)),
  (⟨"HeavierServes", "sheet", "(IIII)I"⟩, 9, (some .int)),
  (⟨"HeavierServes", "stand", "(I)I"⟩, 3, (some .int)),
  (⟨"HeavierServes", "weeks", "(I)I"⟩, 6, (some .int)),
  (⟨"HeavierServes", "year", "()I"⟩, 3, (some .int)),
  (⟨"HeavierServes", "law", "()I"⟩, 1, (some .int)),
  (⟨"HeavierServes", "laws", "(II)I"⟩, 3, (some .int)),
  (⟨"HeavierServes", "feed", "(II)I"⟩, 3, (some .int)),
  (⟨"HeavierServes", "fast", "(II)I"⟩, 3, (some .int)),
  (⟨"HeavierServes", "dies", "(I)I"⟩, 2, (some .int)),
  (⟨"HeavierServes", "undo", "()I"⟩, 1, (some .int)),
  (⟨"HeavierServes", "served", "(I)I"⟩, 2, (some .int)),
  (⟨"HeavierServes", "later", "(II)I"⟩, 3, (some .int)),
  (⟨"HeavierServes", "then", "(I)I"⟩, 2, (some .int)),
  (⟨"HeavierServes", "soonest", "(I)I"⟩, 2, (some .int)),
  (⟨"HeavierServes", "ever", "(I)I"⟩, 2, (some .int)),
  (⟨"HeavierServes", "most", "(II)I"⟩, 3, (some .int)),
  (⟨"HeavierServes", "rests", "(II)I"⟩, 3, (some .int)),
  (⟨"HeavierServes", "party", "(I)I"⟩, 2, (some .int)),
  (⟨"HeavierServes", "byTurns", "(II)I"⟩, 3, (some .int)),
  (⟨"HeavierServes", "fool", "(II)I"⟩, 3, (some .int)),
  (⟨"HeavierServes", "hold", "(I)I"⟩, 2, (some .int)),
  (⟨"HeavierServes", "bribe", "(II)I"⟩, 3, (some .int)),
  (⟨"HeavierServes", "starve", "(II)I"⟩, 3, (some .int)),
  (⟨"HeavierServes", "cheapest", "()I"⟩, 1, (some .int)),
  (⟨"HeavierServes", "weighed", "(II)I"⟩, 3, (some .int)),
  (⟨"HeavierServes", "forget", "()I"⟩, 1, (some .int)),
  (⟨"HeavierServes", "grains", "()I"⟩, 1, (some .int)),
  (⟨"HeavierServes", "span", "(I)I"⟩, 3, (some .int)),
  (⟨"HeavierServes", "offs", "()I"⟩, 5, (some .int)),
  (⟨"HeavierServes", "cheats", "()I"⟩, 6, (some .int)),
  (⟨"HeavierServes", "told", "(II)I"⟩, 3, (some .int)),
  (⟨"HeavierServes", "wipe", "()I"⟩, 2, (some .int)),
  (⟨"HeavierServes", "explains", "(I)I"⟩, 2, (some .int)),
  (⟨"HeavierServes", "absent", "()I"⟩, 1, (some .int)),
  (⟨"HeavierServes", "twin", "(I)I"⟩, 3, (some .int)),
  (⟨"HeavierServes", "odds", "(II)I"⟩, 3, (some .int)),
  (⟨"HeavierServes", "likely", "()I"⟩, 1, (some .int)),
  (⟨"HeavierServes", "keep", "(I)Z"⟩, 2, (some .boolean)),
  (⟨"HeavierServes", "again", "(I)Z"⟩, 2, (some .boolean)),
  (⟨"HeavierServes", "count", "(I)I"⟩, 2, (some .int)),
  (⟨"HeavierServes", "row", "(I)J"⟩, 2, (some .long)),
  (⟨"HeavierServes", "isThere", "(I)Z"⟩, 2, (some .boolean)),
  (⟨"HeavierServes", "exchange", "([III)I"⟩, 4, (some .int)),
  (⟨"HeavierServes", "inBounds", "(I)I"⟩, 1, (some .int)),
  (⟨"HeavierServes", "asKind", "(II)I"⟩, 2, (some .int)),
  (⟨"HeavierServes", "eat", "(III)I"⟩, 4, (some .int)),
  (⟨"HeavierServes", "passWeek", "(II)I"⟩, 5, (some .int)),
  (⟨"HeavierServes", "yearFault", "()I"⟩, 4, (some .int)),
  (⟨"HeavierServes", "passYear", "()I"⟩, 7, (some .int)),
  (⟨"HeavierServesModel", "thrown", "()I"⟩, 1, (some .int)),
  (⟨"HeavierServesModel", "refuse", "()I"⟩, 1, (some .int)),
  (⟨"HeavierServesModel", "in", "(JJJ)Z"⟩, 6, (some .boolean)),
  (⟨"HeavierServesModel", "has", "(II)Z"⟩, 2, (some .boolean)),
  (⟨"HeavierServesModel", "flag", "(Z)I"⟩, 1, (some .int)),
  (⟨"HeavierServesModel", "common", "(JJ)J"⟩, 4, (some .long)),
  (⟨"HeavierServesModel", "enters", "(J)V"⟩, 3, none),
  (⟨"HeavierServesModel", "entersFraction", "(JJ)V"⟩, 7, none),
  (⟨"HeavierServesModel", "isPerson", "(I)Z"⟩, 2, (some .boolean)),
  (⟨"HeavierServesModel", "isAlive", "(I)Z"⟩, 2, (some .boolean)),
  (⟨"HeavierServesModel", "sign", "(I)I"⟩, 3, (some .int)),
  (⟨"HeavierServesModel", "end", "(I)Z"⟩, 2, (some .boolean)),
  (⟨"HeavierServesModel", "begins", "(I)I"⟩, 3, (some .int)),
  (⟨"HeavierServesModel", "takes", "(I)Z"⟩, 3, (some .boolean)),
  (⟨"HeavierServesModel", "isDigit", "()Z"⟩, 1, (some .boolean)),
  (⟨"HeavierServesModel", "number", "(I)I"⟩, 4, (some .int)),
  (⟨"HeavierServesModel", "among", "(Ljava/lang/String;)I"⟩, 3, (some .int)),
  (⟨"HeavierServesModel", "faultOf", "(IIZ)I"⟩, 5, (some .int)),
  (⟨"HeavierServesModel", "readsHabit", "(I)Z"⟩, 4, (some .boolean)),
  (⟨"HeavierServesModel", "readsPerson", "()Z"⟩, 2, (some .boolean)),
  (⟨"HeavierServesModel", "town", "()I"⟩, 7, (some .int)),
  (⟨"HeavierServesModel", "comes", "(II)V"⟩, 3, none),
  (⟨"HeavierServesModel", "putsHabit", "(II)V"⟩, 4, none),
  (⟨"HeavierServesModel", "habit", "(I)I"⟩, 5, (some .int)),
  (⟨"HeavierServesModel", "codes", "(I)V"⟩, 2, none),
  (⟨"HeavierServesModel", "readsThing", "()Z"⟩, 2, (some .boolean)),
  (⟨"HeavierServesModel", "readsRank", "(I)Z"⟩, 4, (some .boolean)),
  (⟨"HeavierServesModel", "will", "()I"⟩, 5, (some .int)),
  (⟨"HeavierServesModel", "holding", "([I)I"⟩, 4, (some .int)),
  (⟨"HeavierServesModel", "thingOf", "([III)I"⟩, 5, (some .int)),
  (⟨"HeavierServesModel", "worked", "(III)I"⟩, 3, (some .int)),
  (⟨"HeavierServesModel", "willOf", "([II)I"⟩, 6, (some .int)),
  (⟨"HeavierServesModel", "willing", "([I)I"⟩, 4, (some .int)),
  (⟨"HeavierServesModel", "shows", "(I)I"⟩, 3, (some .int)),
  (⟨"HeavierServesModel", "of", "(II)I"⟩, 3, (some .int)),
  (⟨"HeavierServesModel", "change", "(II)I"⟩, 3, (some .int)),
  (⟨"HeavierServesModel", "set", "(III)I"⟩, 7, (some .int)),
  (⟨"HeavierServesModel", "scale", "(II)Z"⟩, 3, (some .boolean)),
  (⟨"HeavierServesModel", "sheet", "(IIII)I"⟩, 9, (some .int)),
  (⟨"HeavierServesModel", "goes", "([II)V"⟩, 6, none),
  (⟨"HeavierServesModel", "falls", "([I)I"⟩, 4, (some .int)),
  (⟨"HeavierServesModel", "puts", "([I[I)V"⟩, 3, none),
  (⟨"HeavierServesModel", "putsBy", "()V"⟩, 2, none),
  (⟨"HeavierServesModel", "undo", "()I"⟩, 2, (some .int)),
  (⟨"HeavierServesModel", "stand", "(I)I"⟩, 3, (some .int)),
  (⟨"HeavierServesModel", "weeks", "(I)I"⟩, 5, (some .int)),
  (⟨"HeavierServesModel", "readsWeek", "()V"⟩, 3, none),
  (⟨"HeavierServesModel", "year", "()I"⟩, 5, (some .int)),
  (⟨"HeavierServesModel", "law", "()I"⟩, 2, (some .int)),
  (⟨"HeavierServesModel", "laws", "(II)I"⟩, 3, (some .int)),
  (⟨"HeavierServesModel", "eats", "(II)I"⟩, 3, (some .int)),
  (⟨"HeavierServesModel", "feed", "(II)I"⟩, 3, (some .int)),
  (⟨"HeavierServesModel", "fast", "(II)I"⟩, 3, (some .int)),
  (⟨"HeavierServesModel", "dies", "(I)I"⟩, 3, (some .int)),
  (⟨"HeavierServesModel", "served", "(I)I"⟩, 2, (some .int)),
  (⟨"HeavierServesModel", "starts", "()V"⟩, 2, none),
  (⟨"HeavierServesModel", "goesNext", "(I)V"⟩, 2, none),
  (⟨"HeavierServesModel", "goesBy", "(II)V"⟩, 4, none),
  (⟨"HeavierServesModel", "areWeeks", "(I)Z"⟩, 1, (some .boolean)),
  (⟨"HeavierServesModel", "later", "(II)I"⟩, 3, (some .int)),
  (⟨"HeavierServesModel", "then", "(I)I"⟩, 3, (some .int)),
  (⟨"HeavierServesModel", "soonest", "(I)I"⟩, 3, (some .int)),
  (⟨"HeavierServesModel", "ever", "(I)I"⟩, 10, (some .int)),
  (⟨"HeavierServesModel", "most", "(II)I"⟩, 7, (some .int)),
  (⟨"HeavierServesModel", "byPlans", "(II)I"⟩, 6, (some .int)),
  (⟨"HeavierServesModel", "plans", "(II)Z"⟩, 8, (some .boolean)),
  (⟨"HeavierServesModel", "rests", "(II)I"⟩, 6, (some .int)),
  (⟨"HeavierServesModel", "servedBy", "(I)I"⟩, 4, (some .int)),
  (⟨"HeavierServesModel", "party", "(I)I"⟩, 7, (some .int)),
  (⟨"HeavierServesModel", "byTurns", "(II)I"⟩, 8, (some .int)),
  (⟨"HeavierServesModel", "fool", "(II)I"⟩, 5, (some .int)),
  (⟨"HeavierServesModel", "areSixty", "(I)Z"⟩, 1, (some .boolean)),
  (⟨"HeavierServesModel", "startsWith", "(II)V"⟩, 3, none),
  (⟨"HeavierServesModel", "hold", "(I)I"⟩, 4, (some .int)),
  (⟨"HeavierServesModel", "bribe", "(II)I"⟩, 4, (some .int)),
  (⟨"HeavierServesModel", "starve", "(II)I"⟩, 4, (some .int)),
  (⟨"HeavierServesModel", "cheapest", "()I"⟩, 5, (some .int)),
  (⟨"HeavierServesModel", "weighed", "(II)I"⟩, 3, (some .int)),
  (⟨"HeavierServesModel", "forget", "()I"⟩, 1, (some .int)),
  (⟨"HeavierServesModel", "canBe", "(II)Z"⟩, 5, (some .boolean)),
  (⟨"HeavierServesModel", "weightsOf", "(IZ)I"⟩, 7, (some .int)),
  (⟨"HeavierServesModel", "tellsSpan", "(III)V"⟩, 4, none),
  (⟨"HeavierServesModel", "grains", "()I"⟩, 6, (some .int)),
  (⟨"HeavierServesModel", "span", "(I)I"⟩, 2, (some .int)),
  (⟨"HeavierServesModel", "wrong", "()I"⟩, 3, (some .int)),
  (⟨"HeavierServesModel", "offs", "()I"⟩, 5, (some .int)),
  (⟨"HeavierServesModel", "cheats", "()I"⟩, 6, (some .int)),
  (⟨"HeavierServesModel", "told", "(II)I"⟩, 3, (some .int)),
  (⟨"HeavierServesModel", "wipe", "()I"⟩, 2, (some .int)),
  (⟨"HeavierServesModel", "isSo", "(I)Z"⟩, 5, (some .boolean)),
  (⟨"HeavierServesModel", "explains", "(I)I"⟩, 6, (some .int)),
  (⟨"HeavierServesModel", "absent", "()I"⟩, 3, (some .int)),
  (⟨"HeavierServesModel", "twin", "(I)I"⟩, 4, (some .int)),
  (⟨"HeavierServesModel", "oddsOf", "([I[J)V"⟩, 10, none),
  (⟨"HeavierServesModel", "odds", "(II)I"⟩, 6, (some .int)),
  (⟨"HeavierServesModel", "likely", "()I"⟩, 3, (some .int)),
  (⟨"HeavierServesModel", "keep", "(I)Z"⟩, 3, (some .boolean)),
  (⟨"HeavierServesModel", "again", "(I)Z"⟩, 3, (some .boolean)),
  (⟨"HeavierServesModel", "lawsThatHold", "()I"⟩, 3, (some .int)),
  (⟨"HeavierServesModel", "count", "(I)I"⟩, 2, (some .int)),
  (⟨"HeavierServesModel", "row", "(I)J"⟩, 2, (some .long))]
/-- own class by number, and the places of a method's words: its code, instance or static (1), initialised, selects -/
def hs_mws : List (Nat × (Nat × (Nat × (Nat × (Nat × Nat))))) := [(14, 881, 880, 1, 104, 0),
  (15, 667, 666, 1, 90, 0),
  (15, 358, 357, 1, 90, 0),
  (15, 530, 529, 1, 90, 0),
  (0, 827, 826, 0, 92, 17),
  (0, 833, 832, 0, 92, 18),
  (0, 918, 917, 0, 92, 26),
  (0, 823, 821, 0, 92, 822),
  (0, 842, 840, 0, 92, 841),
  (0, 850, 848, 0, 92, 849),
  (0, 854, 853, 0, 92, 19),
  (0, 860, 859, 0, 92, 20),
  (0, 870, 868, 0, 92, 869),
  (0, 874, 873, 0, 92, 21),
  (0, 878, 877, 0, 92, 22),
  (0, 894, 892, 0, 92, 893),
  (0, 898, 897, 0, 92, 23),
  (0, 902, 901, 0, 92, 24),
  (0, 906, 905, 0, 92, 25),
  (0, 914, 912, 0, 92, 913),
  (0, 922, 921, 0, 92, 27),
  (0, 930, 928, 0, 92, 929),
  (0, 937, 936, 1, 92, 0),
  (0, 1255, 1253, 0, 92, 1254),
  (0, 1101, 1099, 0, 92, 1100),
  (0, 1128, 1127, 0, 92, 36),
  (0, 1137, 1135, 0, 92, 1136),
  (1, 684, 682, 0, 91, 683),
  (1, 714, 712, 0, 91, 713),
  (1, 688, 686, 0, 91, 687),
  (1, 692, 691, 0, 91, 11),
  (1, 1113, 1111, 0, 91, 1112),
  (1, 1117, 1116, 0, 91, 34),
  (1, 1122, 1121, 0, 91, 35),
  (2, 996, 994, 0, 89, 995),
  (2, 1016, 1014, 0, 89, 1015),
  (2, 1020, 1018, 0, 89, 1019),
  (3, 664, 662, 0, 88, 663),
  (3, 799, 797, 0, 88, 798),
  (3, 577, 575, 0, 88, 576),
  (3, 1145, 1143, 0, 88, 1144),
  (3, 1153, 1151, 0, 88, 1152),
  (4, 734, 732, 0, 83, 733),
  (4, 738, 736, 0, 83, 737),
  (4, 1035, 1033, 0, 83, 1034),
  (4, 1105, 1103, 0, 83, 1104),
  (4, 1108, 1107, 1, 83, 0),
  (5, 696, 694, 0, 86, 695),
  (5, 1043, 1041, 0, 86, 1042),
  (5, 1008, 1006, 0, 86, 1007),
  (5, 1012, 1010, 0, 86, 1011),
  (5, 1024, 1023, 0, 86, 31),
  (6, 675, 673, 0, 87, 674),
  (6, 671, 669, 0, 87, 670),
  (6, 573, 571, 0, 87, 572),
  (6, 700, 698, 0, 87, 699),
  (6, 649, 647, 0, 87, 648),
  (6, 766, 764, 0, 87, 765),
  (6, 722, 721, 0, 87, 12),
  (6, 791, 789, 0, 87, 790),
  (6, 718, 716, 0, 87, 717),
  (7, 511, 509, 0, 82, 510),
  (7, 527, 525, 0, 82, 526),
  (7, 546, 544, 0, 82, 545),
  (7, 542, 540, 0, 82, 541),
  (8, 623, 621, 0, 84, 622),
  (8, 660, 658, 0, 84, 659),
  (8, 934, 932, 0, 84, 933),
  (8, 569, 567, 0, 84, 568),
  (8, 815, 813, 0, 84, 814),
  (8, 727, 725, 0, 84, 726),
  (8, 811, 809, 0, 84, 810),
  (8, 1093, 1091, 0, 84, 1092),
  (8, 523, 521, 0, 84, 522),
  (8, 627, 625, 0, 84, 626),
  (8, 534, 533, 0, 84, 0),
  (8, 538, 537, 0, 84, 1),
  (8, 550, 549, 0, 84, 2),
  (8, 555, 554, 0, 84, 3),
  (8, 558, 557, 1, 84, 0),
  (8, 562, 561, 0, 84, 4),
  (9, 954, 953, 0, 93, 29),
  (9, 949, 948, 0, 93, 28),
  (9, 945, 943, 0, 93, 944),
  (9, 965, 963, 0, 93, 964),
  (9, 974, 972, 0, 93, 973),
  (9, 982, 980, 0, 93, 981),
  (9, 987, 986, 0, 93, 30),
  (9, 1069, 1068, 0, 93, 32),
  (9, 1076, 1075, 0, 93, 33),
  (9, 1065, 1063, 0, 93, 1064),
  (9, 1085, 1083, 0, 93, 1084),
  (10, 585, 583, 0, 85, 584),
  (10, 590, 589, 0, 85, 5),
  (10, 614, 613, 1, 85, 0),
  (10, 594, 593, 0, 85, 6),
  (10, 599, 598, 0, 85, 7),
  (10, 603, 602, 0, 85, 8),
  (10, 608, 607, 0, 85, 9),
  (10, 611, 610, 1, 85, 0),
  (10, 704, 702, 0, 85, 703),
  (10, 707, 706, 1, 85, 0),
  (10, 710, 709, 1, 85, 0),
  (11, 507, 505, 0, 81, 506),
  (11, 515, 513, 0, 81, 514),
  (11, 519, 517, 0, 81, 518),
  (11, 581, 579, 0, 81, 580),
  (11, 619, 617, 0, 81, 618),
  (11, 1166, 1164, 0, 81, 1165),
  (11, 1236, 1234, 0, 81, 1235),
  (11, 631, 629, 0, 81, 630),
  (11, 638, 636, 0, 81, 637),
  (11, 642, 640, 0, 81, 641),
  (11, 656, 654, 0, 81, 655),
  (11, 744, 742, 0, 81, 743),
  (11, 748, 746, 0, 81, 747),
  (11, 762, 760, 0, 81, 761),
  (11, 1244, 1242, 0, 81, 1243),
  (11, 770, 768, 0, 81, 769),
  (11, 783, 781, 0, 81, 782),
  (11, 787, 785, 0, 81, 786),
  (11, 795, 793, 0, 81, 794),
  (11, 803, 801, 0, 81, 802),
  (11, 807, 805, 0, 81, 806),
  (11, 819, 817, 0, 81, 818),
  (11, 838, 836, 0, 81, 837),
  (11, 846, 844, 0, 81, 845),
  (11, 866, 864, 0, 81, 865),
  (11, 890, 888, 0, 81, 889),
  (11, 910, 908, 0, 81, 909),
  (11, 926, 924, 0, 81, 925),
  (11, 1251, 1249, 0, 81, 1250),
  (11, 941, 939, 0, 81, 940),
  (11, 961, 959, 0, 81, 960),
  (11, 970, 968, 0, 81, 969),
  (11, 978, 976, 0, 81, 977),
  (11, 992, 990, 0, 81, 991),
  (11, 1000, 998, 0, 81, 999),
  (11, 1004, 1002, 0, 81, 1003),
  (11, 1030, 1028, 0, 81, 1029),
  (11, 1039, 1037, 0, 81, 1038),
  (11, 1048, 1046, 0, 81, 1047),
  (11, 1053, 1051, 0, 81, 1052),
  (11, 1057, 1055, 0, 81, 1056),
  (11, 1061, 1059, 0, 81, 1060),
  (11, 1081, 1079, 0, 81, 1080),
  (11, 1089, 1087, 0, 81, 1088),
  (11, 1097, 1095, 0, 81, 1096),
  (11, 1133, 1131, 0, 81, 1132),
  (11, 1141, 1139, 0, 81, 1140),
  (11, 1149, 1147, 0, 81, 1148),
  (11, 1158, 1156, 0, 81, 1157),
  (11, 1262, 1260, 0, 81, 1261),
  (11, 778, 777, 0, 81, 16),
  (11, 634, 633, 1, 81, 0),
  (11, 652, 651, 1, 81, 0),
  (11, 645, 644, 1, 81, 0),
  (11, 774, 773, 0, 81, 15),
  (11, 680, 679, 0, 81, 10),
  (11, 753, 752, 0, 81, 13),
  (11, 758, 757, 0, 81, 14),
  (12, 1266, 1264, 0, 94, 1265),
  (12, 1560, 1559, 0, 94, 52),
  (12, 1423, 1422, 1, 94, 0),
  (12, 1563, 1562, 1, 94, 0),
  (12, 1453, 1452, 1, 94, 0),
  (12, 1848, 1847, 1, 94, 0),
  (12, 1627, 1626, 0, 94, 60),
  (12, 1845, 1844, 0, 94, 77),
  (12, 1532, 1531, 0, 94, 48),
  (12, 1660, 1659, 0, 94, 63),
  (12, 1416, 1414, 0, 94, 1415),
  (12, 1420, 1418, 0, 94, 1419),
  (12, 1431, 1430, 0, 94, 38),
  (12, 1450, 1449, 0, 94, 42),
  (12, 1440, 1439, 0, 94, 40),
  (12, 1446, 1445, 0, 94, 41),
  (12, 1458, 1457, 0, 94, 43),
  (12, 1515, 1514, 0, 94, 45),
  (12, 1510, 1509, 0, 94, 44),
  (12, 1436, 1435, 0, 94, 39),
  (12, 1427, 1425, 0, 94, 1426),
  (12, 1519, 1518, 0, 94, 46),
  (12, 1523, 1522, 0, 94, 47),
  (12, 1528, 1526, 0, 94, 1527),
  (12, 1548, 1547, 0, 94, 51),
  (12, 1544, 1543, 0, 94, 50),
  (12, 1540, 1539, 0, 94, 49),
  (12, 1536, 1534, 0, 94, 1535),
  (12, 1583, 1582, 0, 94, 56),
  (12, 1579, 1578, 0, 94, 55),
  (12, 1575, 1574, 1, 94, 0),
  (12, 1572, 1571, 0, 94, 54),
  (12, 1636, 1635, 0, 94, 61),
  (12, 1567, 1566, 0, 94, 53),
  (12, 1555, 1553, 0, 94, 1554),
  (12, 1587, 1585, 0, 94, 1586),
  (12, 1591, 1589, 0, 94, 1590),
  (12, 1598, 1596, 0, 94, 1597),
  (12, 1603, 1601, 0, 94, 1602),
  (12, 1619, 1618, 0, 94, 58),
  (12, 1623, 1622, 0, 94, 59),
  (12, 1690, 1689, 1, 94, 0),
  (12, 1615, 1614, 0, 94, 57),
  (12, 1607, 1605, 0, 94, 1606),
  (12, 1611, 1609, 0, 94, 1610),
  (12, 1631, 1629, 0, 94, 1630),
  (12, 1644, 1643, 0, 94, 62),
  (12, 1640, 1638, 0, 94, 1639),
  (12, 1648, 1646, 0, 94, 1647),
  (12, 1652, 1650, 0, 94, 1651),
  (12, 1664, 1663, 0, 94, 64),
  (12, 1656, 1654, 0, 94, 1655),
  (12, 1668, 1666, 0, 94, 1667),
  (12, 1672, 1670, 0, 94, 1671),
  (12, 1676, 1674, 0, 94, 1675),
  (12, 1687, 1686, 0, 94, 65),
  (12, 1698, 1697, 0, 94, 67),
  (12, 1694, 1693, 0, 94, 66),
  (12, 1683, 1682, 1, 94, 0),
  (12, 1680, 1678, 0, 94, 1679),
  (12, 1702, 1700, 0, 94, 1701),
  (12, 1706, 1704, 0, 94, 1705),
  (12, 1710, 1708, 0, 94, 1709),
  (12, 1715, 1713, 0, 94, 1714),
  (12, 1731, 1730, 0, 94, 69),
  (12, 1727, 1726, 0, 94, 68),
  (12, 1721, 1719, 0, 94, 1720),
  (12, 1739, 1738, 0, 94, 70),
  (12, 1735, 1733, 0, 94, 1734),
  (12, 1743, 1741, 0, 94, 1742),
  (12, 1747, 1745, 0, 94, 1746),
  (12, 1754, 1753, 1, 94, 0),
  (12, 1759, 1758, 0, 94, 71),
  (12, 1751, 1749, 0, 94, 1750),
  (12, 1763, 1761, 0, 94, 1762),
  (12, 1767, 1765, 0, 94, 1766),
  (12, 1771, 1769, 0, 94, 1770),
  (12, 1775, 1773, 0, 94, 1774),
  (12, 1780, 1778, 0, 94, 1779),
  (12, 1792, 1791, 0, 94, 73),
  (12, 1788, 1787, 0, 94, 72),
  (12, 1796, 1795, 0, 94, 74),
  (12, 1784, 1782, 0, 94, 1783),
  (12, 1800, 1798, 0, 94, 1799),
  (12, 1808, 1807, 0, 94, 75),
  (12, 1804, 1802, 0, 94, 1803),
  (12, 1812, 1810, 0, 94, 1811),
  (12, 1816, 1814, 0, 94, 1815),
  (12, 1820, 1818, 0, 94, 1819),
  (12, 1828, 1827, 0, 94, 76),
  (12, 1824, 1822, 0, 94, 1823),
  (12, 1832, 1830, 0, 94, 1831),
  (12, 1836, 1834, 0, 94, 1835),
  (12, 1852, 1851, 0, 94, 78),
  (12, 1840, 1838, 0, 94, 1839),
  (12, 1858, 1856, 0, 94, 1857),
  (12, 1862, 1860, 0, 94, 1861),
  (12, 1866, 1864, 0, 94, 1865),
  (12, 1874, 1873, 0, 94, 79),
  (12, 1870, 1868, 0, 94, 1869),
  (12, 1878, 1876, 0, 94, 1877)]
def hs_mw (y : Nat) : Nat × (Nat × (Nat × (Nat × (Nat × Nat)))) := (hs_nth hs_mws y).getD (0, 0, 0, 0, 0, 0)
def hs_nm0 (y : Nat) : MethodName × (Nat × Option FieldType) := (hs_nth hs_names y).getD (⟨"", "", ""⟩, 0, none)
def hs_nm (y : Nat) : hs_N := ((hs_nm0 y).1, hs_code (hs_mw y).2.1, (hs_nm0 y).2.1, (hs_nm0 y).2.2)
/-- own class, index, class, field, place of the word -/
def hs_fl : List (Nat × (Nat × (Nat × (Nat × Nat)))) := [(0, 13, 0, 4, 401), (0, 18, 0, 5, 402), (0, 22, 0, 6, 403), (0, 26, 0, 7, 404), (0, 30, 0, 8, 405), (0, 33, 0, 0, 397), (0, 36, 0, 1, 398), (0, 40, 0, 2, 399), (0, 44, 0, 3, 400), (0, 58, 6, 8, 285), (0, 61, 8, 9, 174), (0, 67, 8, 0, 158), (0, 78, 4, 1, 143), (0, 87, 6, 1, 261), (0, 99, 1, 2, 381), (0, 103, 6, 7, 282), (0, 121, 0, 9, 406), (0, 124, 0, 10, 407), (0, 127, 0, 11, 408), (0, 130, 0, 12, 409), (0, 171, 6, 3, 268), (1, 9, 1, 0, 378), (1, 15, 1, 1, 379), (1, 19, 1, 2, 380), (1, 43, 6, 0, 254), (1, 51, 8, 9, 175), (1, 54, 6, 1, 259), (1, 61, 6, 7, 279), (1, 86, 8, 1, 162), (2, 15, 2, 0, 359), (2, 21, 2, 1, 360), (2, 24, 2, 2, 361), (3, 13, 3, 0, 333), (3, 17, 3, 1, 334), (3, 20, 3, 2, 335), (3, 25, 3, 4, 337), (3, 29, 3, 3, 336), (4, 9, 4, 0, 140), (4, 13, 4, 1, 142), (5, 9, 5, 0, 230), (5, 15, 5, 1, 232), (5, 18, 2, 2, 362), (5, 37, 5, 2, 234), (5, 40, 5, 3, 236), (6, 9, 6, 1, 258), (6, 15, 6, 7, 277), (6, 19, 6, 8, 284), (6, 22, 6, 9, 289), (6, 25, 6, 10, 291), (6, 28, 6, 11, 293), (6, 31, 6, 12, 295), (6, 34, 6, 0, 253), (6, 37, 6, 2, 264), (6, 40, 6, 3, 267), (6, 43, 6, 4, 270), (6, 46, 6, 5, 272), (6, 59, 6, 6, 275), (7, 11, 7, 0, 119), (7, 15, 7, 1, 120), (7, 25, 7, 2, 124), (8, 9, 8, 0, 157), (8, 15, 8, 1, 161), (8, 18, 8, 2, 164), (8, 21, 8, 3, 166), (8, 24, 8, 4, 167), (8, 27, 8, 5, 168), (8, 30, 8, 9, 173), (8, 40, 6, 0, 255), (8, 49, 6, 7, 280), (8, 71, 8, 7, 170), (8, 74, 8, 8, 172), (8, 84, 7, 1, 123), (8, 103, 8, 6, 169), (9, 12, 9, 4, 449), (9, 18, 9, 5, 450), (9, 22, 9, 0, 445), (9, 25, 9, 1, 446), (9, 29, 9, 2, 447), (9, 33, 9, 3, 448), (9, 41, 6, 7, 278), (9, 61, 6, 1, 260), (9, 71, 6, 8, 286), (9, 80, 8, 9, 177), (9, 96, 9, 6, 451), (9, 99, 2, 2, 363), (10, 11, 10, 0, 205), (10, 15, 10, 1, 206), (10, 18, 10, 2, 207), (10, 27, 10, 5, 210), (10, 31, 10, 4, 209), (10, 34, 7, 1, 122), (10, 47, 10, 3, 208), (10, 86, 6, 1, 262), (10, 91, 6, 7, 283), (10, 94, 8, 0, 160), (10, 99, 6, 2, 265), (10, 102, 6, 5, 273), (10, 105, 6, 0, 256), (10, 108, 6, 8, 288), (11, 10, 11, 0, 467), (11, 19, 11, 1, 468), (11, 26, 11, 2, 469), (11, 33, 11, 3, 470), (11, 40, 11, 4, 471), (11, 47, 11, 5, 472), (11, 54, 11, 6, 473), (11, 63, 11, 7, 474), (11, 67, 11, 8, 475), (11, 75, 11, 9, 476), (11, 84, 11, 10, 477), (11, 91, 11, 11, 478), (11, 99, 7, 1, 121), (11, 107, 8, 8, 171), (11, 110, 8, 9, 176), (11, 134, 8, 2, 165), (11, 141, 6, 7, 281), (11, 144, 8, 0, 159), (11, 147, 8, 1, 163), (11, 153, 6, 8, 287), (11, 171, 5, 0, 231), (11, 174, 5, 1, 233), (11, 206, 6, 1, 263), (11, 218, 6, 6, 276), (11, 224, 6, 9, 290), (11, 227, 6, 10, 292), (11, 230, 6, 4, 271), (11, 233, 6, 11, 294), (11, 250, 3, 4, 338), (11, 253, 6, 0, 257), (11, 256, 6, 12, 296), (11, 301, 2, 2, 364), (11, 312, 5, 2, 235), (11, 315, 5, 3, 237), (11, 354, 6, 2, 266), (11, 357, 6, 3, 269), (11, 360, 4, 1, 144), (11, 361, 4, 0, 141), (11, 365, 6, 5, 274), (11, 372, 7, 2, 125), (12, 3, 12, 0, 1273), (12, 11, 12, 2, 1275), (12, 15, 12, 1, 1274), (12, 28, 12, 4, 1277), (12, 32, 12, 5, 1278), (12, 35, 12, 6, 1279), (12, 38, 12, 7, 1280), (12, 41, 12, 8, 1281), (12, 44, 12, 10, 1283), (12, 47, 12, 11, 1284), (12, 50, 12, 12, 1285), (12, 53, 12, 17, 1290), (12, 56, 12, 18, 1291), (12, 59, 12, 19, 1292), (12, 62, 12, 20, 1293), (12, 65, 12, 22, 1295), (12, 68, 12, 23, 1296), (12, 71, 12, 26, 1299), (12, 74, 12, 29, 1302), (12, 77, 12, 30, 1303), (12, 80, 12, 32, 1305), (12, 83, 12, 33, 1306), (12, 86, 12, 35, 1308), (12, 89, 12, 36, 1309), (12, 92, 12, 38, 1311), (12, 95, 12, 39, 1312), (12, 98, 12, 40, 1313), (12, 101, 12, 41, 1314), (12, 104, 12, 42, 1315), (12, 107, 12, 43, 1316), (12, 111, 12, 44, 1317), (12, 114, 12, 45, 1318), (12, 117, 12, 3, 1276), (12, 132, 12, 13, 1286), (12, 135, 12, 14, 1287), (12, 138, 12, 16, 1289), (12, 147, 12, 15, 1288), (12, 185, 12, 21, 1294), (12, 207, 12, 28, 1301), (12, 213, 12, 25, 1298), (12, 232, 12, 24, 1297), (12, 251, 12, 9, 1282), (12, 273, 12, 27, 1300), (12, 291, 12, 31, 1304), (12, 351, 12, 34, 1307), (12, 368, 12, 37, 1310)]
/-- own class, index, method, 0 virtual 1 static 2 nest, place of the word -/
def hs_ml : List (Nat × (Nat × (Nat × (Nat × Nat)))) := [(0, 48, 52, 0, 828), (0, 52, 27, 0, 829), (0, 70, 5, 0, 830), (0, 74, 4, 0, 824), (0, 83, 43, 0, 834), (0, 90, 10, 0, 851), (0, 93, 11, 0, 857), (0, 96, 42, 0, 862), (0, 106, 47, 0, 855), (0, 111, 3, 1, 856), (0, 117, 55, 0, 861), (0, 133, 13, 0, 871), (0, 136, 14, 0, 875), (0, 139, 29, 0, 885), (0, 143, 28, 0, 886), (0, 147, 0, 1, 879), (0, 152, 16, 0, 895), (0, 155, 17, 0, 899), (0, 158, 18, 0, 903), (0, 161, 6, 0, 915), (0, 164, 20, 0, 919), (0, 168, 67, 0, 931), (0, 174, 22, 1, 935), (0, 177, 45, 0, 1102), (0, 181, 31, 0, 1110), (0, 186, 25, 0, 1125), (1, 23, 29, 0, 685), (1, 27, 28, 0, 711), (1, 31, 60, 0, 715), (1, 37, 70, 0, 724), (1, 47, 30, 0, 689), (1, 57, 55, 0, 697), (1, 65, 47, 0, 693), (1, 71, 100, 0, 701), (1, 77, 32, 0, 1114), (1, 82, 33, 0, 1119), (3, 32, 1, 1, 665), (3, 38, 53, 0, 668), (3, 42, 39, 0, 1154), (4, 17, 43, 0, 735), (4, 21, 46, 1, 1106), (4, 25, 42, 0, 1109), (5, 23, 35, 0, 1013), (5, 27, 47, 0, 1044), (5, 30, 36, 0, 1017), (5, 33, 50, 0, 1009), (5, 43, 51, 0, 1021), (5, 47, 2, 1, 1025), (5, 53, 3, 1, 1026), (6, 55, 52, 0, 672), (6, 62, 155, 2, 650), (6, 66, 58, 0, 719), (6, 70, 1, 1, 723), (7, 19, 3, 1, 528), (7, 28, 63, 0, 543), (8, 34, 55, 0, 728), (8, 43, 1, 1, 729), (8, 52, 155, 2, 730), (8, 56, 69, 0, 812), (8, 65, 62, 0, 524), (8, 77, 75, 0, 531), (8, 81, 63, 0, 551), (8, 87, 78, 0, 552), (8, 91, 80, 0, 559), (8, 94, 76, 0, 535), (8, 97, 77, 0, 547), (8, 100, 64, 0, 539), (8, 106, 79, 1, 556), (9, 37, 52, 0, 955), (9, 44, 56, 0, 956), (9, 48, 3, 1, 950), (9, 54, 82, 0, 946), (9, 58, 81, 0, 951), (9, 65, 27, 0, 957), (9, 74, 42, 0, 966), (9, 85, 55, 0, 983), (9, 89, 87, 0, 984), (9, 92, 29, 0, 988), (9, 104, 36, 0, 1070), (9, 107, 35, 0, 1071), (9, 110, 2, 1, 1072), (9, 113, 88, 0, 1066), (9, 117, 89, 0, 1073), (9, 120, 44, 0, 1077), (10, 21, 62, 0, 586), (10, 37, 93, 0, 587), (10, 50, 95, 0, 591), (10, 54, 63, 0, 595), (10, 58, 94, 1, 612), (10, 61, 98, 0, 605), (10, 64, 96, 0, 596), (10, 67, 97, 0, 600), (10, 71, 99, 1, 609), (10, 75, 64, 0, 604), (10, 78, 101, 1, 705), (10, 82, 102, 1, 708), (11, 95, 61, 0, 508), (11, 103, 73, 0, 520), (11, 113, 68, 0, 566), (11, 117, 54, 0, 570), (11, 121, 39, 0, 574), (11, 124, 92, 0, 582), (11, 127, 65, 0, 620), (11, 130, 74, 0, 624), (11, 150, 55, 0, 779), (11, 156, 47, 0, 1228), (11, 159, 100, 0, 1229), (11, 163, 69, 0, 1237), (11, 167, 154, 1, 632), (11, 177, 156, 1, 643), (11, 180, 56, 0, 646), (11, 183, 66, 0, 657), (11, 187, 37, 0, 661), (11, 191, 158, 0, 677), (11, 194, 42, 0, 731), (11, 198, 2, 1, 739), (11, 203, 43, 0, 740), (11, 209, 62, 0, 749), (11, 212, 159, 0, 750), (11, 215, 160, 0, 755), (11, 221, 57, 0, 763), (11, 236, 157, 0, 771), (11, 240, 153, 0, 775), (11, 243, 59, 0, 788), (11, 246, 38, 0, 796), (11, 259, 71, 0, 808), (11, 263, 7, 0, 820), (11, 266, 8, 0, 839), (11, 269, 9, 0, 847), (11, 272, 12, 0, 867), (11, 275, 15, 0, 891), (11, 278, 19, 0, 911), (11, 281, 21, 0, 927), (11, 284, 23, 0, 1252), (11, 287, 83, 0, 942), (11, 290, 84, 0, 962), (11, 293, 85, 0, 971), (11, 296, 86, 0, 979), (11, 299, 34, 0, 993), (11, 304, 49, 0, 1005), (11, 308, 50, 0, 1031), (11, 318, 44, 0, 1032), (11, 322, 48, 0, 1040), (11, 326, 0, 1, 1049), (11, 331, 90, 0, 1062), (11, 334, 91, 0, 1082), (11, 338, 72, 0, 1090), (11, 341, 24, 0, 1098), (11, 344, 26, 0, 1134), (11, 347, 40, 0, 1142), (11, 351, 41, 0, 1150), (11, 368, 27, 0, 681), (11, 375, 63, 0, 754), (12, 7, 166, 1, 1846), (12, 18, 167, 0, 1624), (12, 120, 163, 1, 1421), (12, 124, 169, 0, 1529), (12, 128, 164, 1, 1561), (12, 141, 3, 1, 1432), (12, 150, 165, 1, 1451), (12, 158, 175, 0, 1437), (12, 174, 177, 0, 1455), (12, 178, 174, 0, 1447), (12, 181, 176, 0, 1443), (12, 190, 179, 0, 1507), (12, 193, 173, 0, 1428), (12, 196, 180, 0, 1433), (12, 199, 178, 0, 1512), (12, 203, 182, 0, 1516), (12, 210, 183, 0, 1520), (12, 216, 186, 0, 1541), (12, 219, 185, 0, 1545), (12, 225, 187, 0, 1537), (12, 235, 189, 0, 1580), (12, 239, 191, 1, 1573), (12, 243, 190, 0, 1576), (12, 247, 192, 0, 1569), (12, 254, 2, 1, 1568), (12, 259, 162, 0, 1557), (12, 262, 194, 0, 1564), (12, 276, 201, 0, 1620), (12, 279, 203, 0, 1612), (12, 282, 200, 0, 1616), (12, 288, 193, 0, 1633), (12, 294, 207, 0, 1641), (12, 297, 170, 0, 1657), (12, 300, 211, 0, 1661), (12, 303, 202, 1, 1688), (12, 307, 217, 0, 1695), (12, 310, 219, 1, 1681), (12, 313, 216, 0, 1684), (12, 316, 218, 0, 1691), (12, 323, 0, 1, 1717), (12, 328, 225, 0, 1728), (12, 335, 226, 0, 1724), (12, 338, 228, 0, 1736), (12, 343, 232, 1, 1752), (12, 346, 233, 0, 1756), (12, 354, 240, 0, 1789), (12, 357, 242, 0, 1793), (12, 361, 241, 0, 1785), (12, 365, 245, 0, 1805), (12, 371, 250, 0, 1825), (12, 378, 168, 0, 1842), (12, 382, 254, 0, 1849), (12, 388, 259, 0, 1871), (13, 32, 103, 0, 504), (13, 36, 171, 0, 1413), (13, 37, 104, 0, 512), (13, 41, 172, 0, 1417), (13, 42, 105, 0, 516), (13, 46, 181, 0, 1424), (13, 47, 106, 0, 578), (13, 50, 188, 0, 1533), (13, 51, 107, 0, 616), (13, 54, 184, 0, 1525), (13, 60, 195, 0, 1552), (13, 61, 161, 0, 1263), (13, 66, 196, 0, 1584), (13, 67, 110, 0, 628), (13, 71, 197, 0, 1588), (13, 72, 111, 0, 635), (13, 76, 198, 0, 1595), (13, 77, 112, 0, 639), (13, 81, 199, 0, 1600), (13, 82, 113, 0, 653), (13, 85, 205, 0, 1608), (13, 86, 114, 0, 741), (13, 89, 206, 0, 1628), (13, 90, 115, 0, 745), (13, 93, 208, 0, 1637), (13, 94, 116, 0, 759), (13, 97, 209, 0, 1645), (13, 100, 210, 0, 1649), (13, 101, 118, 0, 767), (13, 104, 212, 0, 1653), (13, 105, 119, 0, 780), (13, 108, 213, 0, 1665), (13, 109, 120, 0, 784), (13, 112, 214, 0, 1669), (13, 113, 121, 0, 792), (13, 116, 204, 0, 1604), (13, 117, 122, 0, 800), (13, 120, 215, 0, 1673), (13, 121, 123, 0, 804), (13, 124, 220, 0, 1677), (13, 125, 124, 0, 816), (13, 128, 221, 0, 1699), (13, 129, 125, 0, 835), (13, 132, 222, 0, 1703), (13, 133, 126, 0, 843), (13, 136, 223, 0, 1707), (13, 137, 127, 0, 863), (13, 140, 224, 0, 1712), (13, 141, 128, 0, 887), (13, 144, 227, 0, 1718), (13, 145, 129, 0, 907), (13, 148, 229, 0, 1732), (13, 149, 130, 0, 923), (13, 152, 230, 0, 1740), (13, 155, 231, 0, 1744), (13, 156, 132, 0, 938), (13, 159, 234, 0, 1748), (13, 160, 133, 0, 958), (13, 163, 235, 0, 1760), (13, 164, 134, 0, 967), (13, 167, 236, 0, 1764), (13, 168, 135, 0, 975), (13, 171, 237, 0, 1768), (13, 172, 136, 0, 989), (13, 175, 238, 0, 1772), (13, 176, 137, 0, 997), (13, 179, 239, 0, 1777), (13, 180, 138, 0, 1001), (13, 183, 243, 0, 1781), (13, 184, 139, 0, 1027), (13, 187, 244, 0, 1797), (13, 188, 140, 0, 1036), (13, 191, 246, 0, 1801), (13, 192, 141, 0, 1045), (13, 195, 247, 0, 1809), (13, 196, 142, 0, 1050), (13, 199, 248, 0, 1813), (13, 200, 143, 0, 1054), (13, 203, 249, 0, 1817), (13, 204, 144, 0, 1058), (13, 207, 251, 0, 1821), (13, 208, 145, 0, 1078), (13, 211, 252, 0, 1829), (13, 212, 146, 0, 1086), (13, 215, 253, 0, 1833), (13, 216, 147, 0, 1094), (13, 219, 255, 0, 1837), (13, 220, 148, 0, 1130), (13, 223, 256, 0, 1855), (13, 224, 149, 0, 1138), (13, 227, 257, 0, 1859), (13, 228, 150, 0, 1146), (13, 231, 258, 0, 1863), (13, 232, 151, 0, 1155), (13, 235, 260, 0, 1867), (13, 239, 261, 0, 1875)]
/-- own class, index, 0 int 1 long 2 long below 0, number, place of the word -/
def hs_kl : List (Nat × (Nat × (Nat × (Nat × Nat)))) := [(0, 184, 1, 100000000, 1124), (0, 190, 1, 10000000000000000, 1129), (1, 80, 1, 100000000, 1118), (1, 89, 1, 10, 1123), (12, 154, 1, 48, 1441), (12, 156, 1, 57, 1442), (12, 257, 1, 7, 1556), (12, 265, 1, 999, 1592), (12, 267, 1, 3, 1593), (12, 269, 1, 9, 1594), (12, 271, 2, 9, 1599), (12, 286, 1, 99, 1632), (12, 319, 1, 12, 1711), (12, 321, 1, 10, 1716), (12, 331, 1, 4, 1722), (12, 333, 1, 20, 1723), (12, 341, 1, 60, 1755), (12, 349, 1, 1010, 1776), (12, 374, 1, 100000000, 1853), (12, 376, 1, 2, 1841), (12, 386, 1, 10000000000000000, 1854), (14, 265, 0, 1431655765, 882), (14, 266, 0, 858993459, 883), (14, 267, 0, 252645135, 884)]
def hs_al : List (Nat × (Nat × Nat)) := [(6, 49, 676), (8, 59, 563), (10, 41, 615)]
def hs_sl : List (Nat × (Nat × (Nat × Nat))) := [(12, 162, 0, 1459), (12, 168, 1, 1469)]
/-- how many there are of a kind -/
def hs_num (κ : Nat) : Nat := (hs_nth [1, 1, 2, 1, 1, 1, 37, 1, 1, 1, 1, 1, 1, 1, 1, 1, 1, 1, 1, 1, 1, 1, 1, 1, 37, 37, 37, 37, 37, 37, 1, 1, 1, 2, 2, 1, 1, 1, 1, 1, 1, 1, 1, 1, 1, 1, 1, 1, 1, 1, 1, 1, 1, 1, 1, 1, 1, 1, 1, 1, 1, 1, 1, 1, 1, 1, 1, 1, 1, 1, 1] κ).getD 0
