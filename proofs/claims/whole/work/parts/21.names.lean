/-! ===== classes, fields, methods, links: data ===== -/
def RX0 : String := "HeavierServes$Future"
def TX0 : u_T := fun k => match k with
  | 0 => ("HeavierServes$Future", "now", "LHeavierServes$State;", true)
  | 1 => ("HeavierServes$Future", "town", "LHeavierServes$Town;", true)
  | 2 => ("HeavierServes$Future", "office", "LHeavierServes$Office;", true)
  | 3 => ("HeavierServes$Future", "row", "LHeavierServes$Row;", true)
  | 4 => ("HeavierServes$Future", "ladder", "[LHeavierServes$State;", true)
  | 5 => ("HeavierServes$Future", "course", "LHeavierServes$State;", true)
  | 6 => ("HeavierServes$Future", "plans", "[I", true)
  | 7 => ("HeavierServes$Future", "shares", "[J", true)
  | 8 => ("HeavierServes$Future", "sharesThen", "[J", true)
  | 9 => ("HeavierServes$Future", "chooser", "I", false)
  | 10 => ("HeavierServes$Future", "choices", "I", false)
  | 11 => ("HeavierServes$Future", "bestWeeks", "I", false)
  | _ => ("HeavierServes$Future", "bestPlan", "I", false)
def tyX0 : Nat → FieldType := fun k => match k with
  | 0 => .object "HeavierServes$State"
  | 1 => .object "HeavierServes$Town"
  | 2 => .object "HeavierServes$Office"
  | 3 => .object "HeavierServes$Row"
  | 4 => .array (.object "HeavierServes$State")
  | 5 => .object "HeavierServes$State"
  | 6 => .array .int
  | 7 => .array .long
  | 8 => .array .long
  | 9 => .int
  | 10 => .int
  | 11 => .int
  | _ => .int
theorem nmX0 : ∀ a, a < 13 → ∀ b, b < 13 → a ≠ b → (TX0 a).2.1 ≠ (TX0 b).2.1 := by decide +kernel
theorem tyX0_ok : ∀ k, k < 13 → parseFieldDescriptor (TX0 k).2.2.1 = some (tyX0 k) := by decide +kernel
def RX1 : String := "HeavierServes$Office"
def TX1 : u_T := fun k => match k with
  | 0 => ("HeavierServes$Office", "town", "LHeavierServes$Town;", true)
  | 1 => ("HeavierServes$Office", "will", "LHeavierServes$Will;", true)
  | _ => ("HeavierServes$Office", "scale", "LHeavierServes$Scale;", true)
def tyX1 : Nat → FieldType := fun k => match k with
  | 0 => .object "HeavierServes$Town"
  | 1 => .object "HeavierServes$Will"
  | _ => .object "HeavierServes$Scale"
theorem nmX1 : ∀ a, a < 3 → ∀ b, b < 3 → a ≠ b → (TX1 a).2.1 ≠ (TX1 b).2.1 := by decide +kernel
theorem tyX1_ok : ∀ k, k < 3 → parseFieldDescriptor (TX1 k).2.2.1 = some (tyX1 k) := by decide +kernel
def RX2 : String := "HeavierServes$Pairs"
def TX2 : u_T := fun k => match k with
  | 0 => ("HeavierServes$Pairs", "persons", "[I", true)
  | 1 => ("HeavierServes$Pairs", "values", "[I", true)
  | _ => ("HeavierServes$Pairs", "size", "I", false)
def tyX2 : Nat → FieldType := fun k => match k with
  | 0 => .array .int
  | 1 => .array .int
  | _ => .int
theorem nmX2 : ∀ a, a < 3 → ∀ b, b < 3 → a ≠ b → (TX2 a).2.1 ≠ (TX2 b).2.1 := by decide +kernel
theorem tyX2_ok : ∀ k, k < 3 → parseFieldDescriptor (TX2 k).2.2.1 = some (tyX2 k) := by decide +kernel
def RX3 : String := "HeavierServes$Past"
def TX3 : u_T := fun k => match k with
  | 0 => ("HeavierServes$Past", "ahead", "[LHeavierServes$State;", true)
  | 1 => ("HeavierServes$Past", "kept", "[LHeavierServes$State;", true)
  | 2 => ("HeavierServes$Past", "keptPeople", "[I", true)
  | 3 => ("HeavierServes$Past", "first", "I", false)
  | _ => ("HeavierServes$Past", "steps", "I", false)
def tyX3 : Nat → FieldType := fun k => match k with
  | 0 => .array (.object "HeavierServes$State")
  | 1 => .array (.object "HeavierServes$State")
  | 2 => .array .int
  | 3 => .int
  | _ => .int
theorem nmX3 : ∀ a, a < 5 → ∀ b, b < 5 → a ≠ b → (TX3 a).2.1 ≠ (TX3 b).2.1 := by decide +kernel
theorem tyX3_ok : ∀ k, k < 5 → parseFieldDescriptor (TX3 k).2.2.1 = some (tyX3 k) := by decide +kernel
def RX4 : String := "HeavierServes$Row"
def TX4 : u_T := fun k => match k with
  | 0 => ("HeavierServes$Row", "numbers", "[J", true)
  | _ => ("HeavierServes$Row", "size", "I", false)
def tyX4 : Nat → FieldType := fun k => match k with
  | 0 => .array .long
  | _ => .int
theorem nmX4 : ∀ a, a < 2 → ∀ b, b < 2 → a ≠ b → (TX4 a).2.1 ≠ (TX4 b).2.1 := by decide +kernel
theorem tyX4_ok : ∀ k, k < 2 → parseFieldDescriptor (TX4 k).2.2.1 = some (tyX4 k) := by decide +kernel
def RX5 : String := "HeavierServes$Scale"
def TX5 : u_T := fun k => match k with
  | 0 => ("HeavierServes$Scale", "grain", "I", false)
  | 1 => ("HeavierServes$Scale", "off", "I", false)
  | 2 => ("HeavierServes$Scale", "least", "I", false)
  | _ => ("HeavierServes$Scale", "greatest", "I", false)
def tyX5 : Nat → FieldType := fun k => match k with
  | 0 => .int
  | 1 => .int
  | 2 => .int
  | _ => .int
theorem nmX5 : ∀ a, a < 4 → ∀ b, b < 4 → a ≠ b → (TX5 a).2.1 ≠ (TX5 b).2.1 := by decide +kernel
theorem tyX5_ok : ∀ k, k < 4 → parseFieldDescriptor (TX5 k).2.2.1 = some (tyX5 k) := by decide +kernel
def RX6 : String := "HeavierServes$State"
def TX6 : u_T := fun k => match k with
  | 0 => ("HeavierServes$State", "week", "I", false)
  | 1 => ("HeavierServes$State", "server", "I", false)
  | 2 => ("HeavierServes$State", "since", "I", false)
  | 3 => ("HeavierServes$State", "alive", "I", false)
  | 4 => ("HeavierServes$State", "holds", "I", false)
  | 5 => ("HeavierServes$State", "holding", "I", false)
  | 6 => ("HeavierServes$State", "lawsMade", "I", false)
  | 7 => ("HeavierServes$State", "weight", "[I", true)
  | 8 => ("HeavierServes$State", "weeksServed", "[I", true)
  | 9 => ("HeavierServes$State", "maker", "[I", true)
  | 10 => ("HeavierServes$State", "madeIn", "[I", true)
  | 11 => ("HeavierServes$State", "fellIn", "[I", true)
  | _ => ("HeavierServes$State", "history", "[I", true)
def tyX6 : Nat → FieldType := fun k => match k with
  | 0 => .int
  | 1 => .int
  | 2 => .int
  | 3 => .int
  | 4 => .int
  | 5 => .int
  | 6 => .int
  | 7 => .array .int
  | 8 => .array .int
  | 9 => .array .int
  | 10 => .array .int
  | 11 => .array .int
  | _ => .array .int
theorem nmX6 : ∀ a, a < 13 → ∀ b, b < 13 → a ≠ b → (TX6 a).2.1 ≠ (TX6 b).2.1 := by decide +kernel
theorem tyX6_ok : ∀ k, k < 13 → parseFieldDescriptor (TX6 k).2.2.1 = some (tyX6 k) := by decide +kernel
def RX7 : String := "HeavierServes$Text"
def TX7 : u_T := fun k => match k with
  | 0 => ("HeavierServes$Text", "signs", "[I", true)
  | 1 => ("HeavierServes$Text", "length", "I", false)
  | _ => ("HeavierServes$Text", "readable", "I", false)
def tyX7 : Nat → FieldType := fun k => match k with
  | 0 => .array .int
  | 1 => .int
  | _ => .int
theorem nmX7 : ∀ a, a < 3 → ∀ b, b < 3 → a ≠ b → (TX7 a).2.1 ≠ (TX7 b).2.1 := by decide +kernel
theorem tyX7_ok : ∀ k, k < 3 → parseFieldDescriptor (TX7 k).2.2.1 = some (tyX7 k) := by decide +kernel
def RX8 : String := "HeavierServes$Town"
def TX8 : u_T := fun k => match k with
  | 0 => ("HeavierServes$Town", "party", "[I", true)
  | 1 => ("HeavierServes$Town", "ill", "[I", true)
  | 2 => ("HeavierServes$Town", "habitLength", "[I", true)
  | 3 => ("HeavierServes$Town", "habits", "[I", true)
  | 4 => ("HeavierServes$Town", "weightTold", "[I", true)
  | 5 => ("HeavierServes$Town", "draft", "[I", true)
  | 6 => ("HeavierServes$Town", "drafted", "I", false)
  | 7 => ("HeavierServes$Town", "place", "I", false)
  | 8 => ("HeavierServes$Town", "lines", "I", false)
  | _ => ("HeavierServes$Town", "people", "I", false)
def tyX8 : Nat → FieldType := fun k => match k with
  | 0 => .array .int
  | 1 => .array .int
  | 2 => .array .int
  | 3 => .array .int
  | 4 => .array .int
  | 5 => .array .int
  | 6 => .int
  | 7 => .int
  | 8 => .int
  | _ => .int
theorem nmX8 : ∀ a, a < 10 → ∀ b, b < 10 → a ≠ b → (TX8 a).2.1 ≠ (TX8 b).2.1 := by decide +kernel
theorem tyX8_ok : ∀ k, k < 10 → parseFieldDescriptor (TX8 k).2.2.1 = some (tyX8 k) := by decide +kernel
def RX9 : String := "HeavierServes$Trials"
def TX9 : u_T := fun k => match k with
  | 0 => ("HeavierServes$Trials", "now", "LHeavierServes$State;", true)
  | 1 => ("HeavierServes$Trials", "town", "LHeavierServes$Town;", true)
  | 2 => ("HeavierServes$Trials", "office", "LHeavierServes$Office;", true)
  | 3 => ("HeavierServes$Trials", "row", "LHeavierServes$Row;", true)
  | 4 => ("HeavierServes$Trials", "trial", "LHeavierServes$State;", true)
  | 5 => ("HeavierServes$Trials", "due", "[I", true)
  | _ => ("HeavierServes$Trials", "lastDue", "I", false)
def tyX9 : Nat → FieldType := fun k => match k with
  | 0 => .object "HeavierServes$State"
  | 1 => .object "HeavierServes$Town"
  | 2 => .object "HeavierServes$Office"
  | 3 => .object "HeavierServes$Row"
  | 4 => .object "HeavierServes$State"
  | 5 => .array .int
  | _ => .int
theorem nmX9 : ∀ a, a < 7 → ∀ b, b < 7 → a ≠ b → (TX9 a).2.1 ≠ (TX9 b).2.1 := by decide +kernel
theorem tyX9_ok : ∀ k, k < 7 → parseFieldDescriptor (TX9 k).2.2.1 = some (tyX9 k) := by decide +kernel
def RX10 : String := "HeavierServes$Will"
def TX10 : u_T := fun k => match k with
  | 0 => ("HeavierServes$Will", "codes", "[I", true)
  | 1 => ("HeavierServes$Will", "draft", "[I", true)
  | 2 => ("HeavierServes$Will", "stack", "[I", true)
  | 3 => ("HeavierServes$Will", "size", "I", false)
  | 4 => ("HeavierServes$Will", "drafted", "I", false)
  | _ => ("HeavierServes$Will", "place", "I", false)
def tyX10 : Nat → FieldType := fun k => match k with
  | 0 => .array .int
  | 1 => .array .int
  | 2 => .array .int
  | 3 => .int
  | 4 => .int
  | _ => .int
theorem nmX10 : ∀ a, a < 6 → ∀ b, b < 6 → a ≠ b → (TX10 a).2.1 ≠ (TX10 b).2.1 := by decide +kernel
theorem tyX10_ok : ∀ k, k < 6 → parseFieldDescriptor (TX10 k).2.2.1 = some (tyX10 k) := by decide +kernel
def RX11 : String := "HeavierServes"
def TX11 : u_T := fun k => match k with
  | 0 => ("HeavierServes", "text", "LHeavierServes$Text;", true)
  | 1 => ("HeavierServes", "row", "LHeavierServes$Row;", true)
  | 2 => ("HeavierServes", "town", "LHeavierServes$Town;", true)
  | 3 => ("HeavierServes", "will", "LHeavierServes$Will;", true)
  | 4 => ("HeavierServes", "scale", "LHeavierServes$Scale;", true)
  | 5 => ("HeavierServes", "now", "LHeavierServes$State;", true)
  | 6 => ("HeavierServes", "past", "LHeavierServes$Past;", true)
  | 7 => ("HeavierServes", "weighings", "LHeavierServes$Pairs;", true)
  | 8 => ("HeavierServes", "tellings", "LHeavierServes$Pairs;", true)
  | 9 => ("HeavierServes", "office", "LHeavierServes$Office;", true)
  | 10 => ("HeavierServes", "future", "LHeavierServes$Future;", true)
  | _ => ("HeavierServes", "trials", "LHeavierServes$Trials;", true)
def tyX11 : Nat → FieldType := fun k => match k with
  | 0 => .object "HeavierServes$Text"
  | 1 => .object "HeavierServes$Row"
  | 2 => .object "HeavierServes$Town"
  | 3 => .object "HeavierServes$Will"
  | 4 => .object "HeavierServes$Scale"
  | 5 => .object "HeavierServes$State"
  | 6 => .object "HeavierServes$Past"
  | 7 => .object "HeavierServes$Pairs"
  | 8 => .object "HeavierServes$Pairs"
  | 9 => .object "HeavierServes$Office"
  | 10 => .object "HeavierServes$Future"
  | _ => .object "HeavierServes$Trials"
theorem nmX11 : ∀ a, a < 12 → ∀ b, b < 12 → a ≠ b → (TX11 a).2.1 ≠ (TX11 b).2.1 := by decide +kernel
theorem tyX11_ok : ∀ k, k < 12 → parseFieldDescriptor (TX11 k).2.2.1 = some (tyX11 k) := by decide +kernel
def RX12 : String := "HeavierServesModel"
def TX12 : u_T := fun k => match k with
  | 0 => ("HeavierServesModel", "thrown", "I", false)
  | 1 => ("HeavierServesModel", "rows", "I", false)
  | 2 => ("HeavierServesModel", "row", "[J", true)
  | 3 => ("HeavierServesModel", "people", "I", false)
  | 4 => ("HeavierServesModel", "party", "[I", true)
  | 5 => ("HeavierServesModel", "ill", "[I", true)
  | 6 => ("HeavierServesModel", "habit", "[I", true)
  | 7 => ("HeavierServesModel", "habitMany", "[I", true)
  | 8 => ("HeavierServesModel", "grain", "I", false)
  | 9 => ("HeavierServesModel", "off", "I", false)
  | 10 => ("HeavierServesModel", "now", "[I", true)
  | 11 => ("HeavierServesModel", "next", "[I", true)
  | 12 => ("HeavierServesModel", "tape", "[I", true)
  | 13 => ("HeavierServesModel", "taped", "I", false)
  | 14 => ("HeavierServesModel", "at", "I", false)
  | 15 => ("HeavierServesModel", "to", "I", false)
  | 16 => ("HeavierServesModel", "nest", "I", false)
  | 17 => ("HeavierServesModel", "readWeight", "[I", true)
  | 18 => ("HeavierServesModel", "readParty", "[I", true)
  | 19 => ("HeavierServesModel", "readHabit", "[I", true)
  | 20 => ("HeavierServesModel", "readHabitMany", "[I", true)
  | 21 => ("HeavierServesModel", "readMany", "I", false)
  | 22 => ("HeavierServesModel", "code", "[I", true)
  | 23 => ("HeavierServesModel", "readCode", "[I", true)
  | 24 => ("HeavierServesModel", "codeLong", "I", false)
  | 25 => ("HeavierServesModel", "readLong", "I", false)
  | 26 => ("HeavierServesModel", "stack", "[I", true)
  | 27 => ("HeavierServesModel", "fell", "I", false)
  | 28 => ("HeavierServesModel", "undos", "I", false)
  | 29 => ("HeavierServesModel", "undone", "[I", true)
  | 30 => ("HeavierServesModel", "readStand", "[I", true)
  | 31 => ("HeavierServesModel", "readWeeks", "I", false)
  | 32 => ("HeavierServesModel", "servedFor", "[I", true)
  | 33 => ("HeavierServesModel", "plan", "[I", true)
  | 34 => ("HeavierServesModel", "weighings", "I", false)
  | 35 => ("HeavierServesModel", "weighedWho", "[I", true)
  | 36 => ("HeavierServesModel", "weighedShown", "[I", true)
  | 37 => ("HeavierServesModel", "dates", "I", false)
  | 38 => ("HeavierServesModel", "dateWho", "[I", true)
  | 39 => ("HeavierServesModel", "dateWeek", "[I", true)
  | 40 => ("HeavierServesModel", "chance", "[J", true)
  | 41 => ("HeavierServesModel", "chanceThen", "[J", true)
  | 42 => ("HeavierServesModel", "behind", "[I", true)
  | 43 => ("HeavierServesModel", "isKept", "[Z", true)
  | 44 => ("HeavierServesModel", "keptPeople", "[I", true)
  | _ => ("HeavierServesModel", "kept", "[I", true)
def tyX12 : Nat → FieldType := fun k => match k with
  | 0 => .int
  | 1 => .int
  | 2 => .array .long
  | 3 => .int
  | 4 => .array .int
  | 5 => .array .int
  | 6 => .array .int
  | 7 => .array .int
  | 8 => .int
  | 9 => .int
  | 10 => .array .int
  | 11 => .array .int
  | 12 => .array .int
  | 13 => .int
  | 14 => .int
  | 15 => .int
  | 16 => .int
  | 17 => .array .int
  | 18 => .array .int
  | 19 => .array .int
  | 20 => .array .int
  | 21 => .int
  | 22 => .array .int
  | 23 => .array .int
  | 24 => .int
  | 25 => .int
  | 26 => .array .int
  | 27 => .int
  | 28 => .int
  | 29 => .array .int
  | 30 => .array .int
  | 31 => .int
  | 32 => .array .int
  | 33 => .array .int
  | 34 => .int
  | 35 => .array .int
  | 36 => .array .int
  | 37 => .int
  | 38 => .array .int
  | 39 => .array .int
  | 40 => .array .long
  | 41 => .array .long
  | 42 => .array .int
  | 43 => .array .boolean
  | 44 => .array .int
  | _ => .array .int
theorem nmX12 : ∀ a, a < 46 → ∀ b, b < 46 → a ≠ b → (TX12 a).2.1 ≠ (TX12 b).2.1 := by decide +kernel
theorem tyX12_ok : ∀ k, k < 46 → parseFieldDescriptor (TX12 k).2.2.1 = some (tyX12 k) := by decide +kernel
def hs_clas : List vw_C := [(RX0, TX0, 13), (RX1, TX1, 3), (RX2, TX2, 3), (RX3, TX3, 5), (RX4, TX4, 2), (RX5, TX5, 4), (RX6, TX6, 13), (RX7, TX7, 3), (RX8, TX8, 10), (RX9, TX9, 7), (RX10, TX10, 6), (RX11, TX11, 12), (RX12, TX12, 46)]
def hs_own (n : Nat) : String := (hs_nth ["HeavierServes$Future", "HeavierServes$Office", "HeavierServes$Pairs", "HeavierServes$Past", "HeavierServes$Row", "HeavierServes$Scale", "HeavierServes$State", "HeavierServes$Text", "HeavierServes$Town", "HeavierServes$Trials", "HeavierServes$Will", "HeavierServes", "HeavierServesModel", "HeavierServesLaw", "java/lang/Integer", "java/lang/Math"] n).getD ""
def hs_cT (κ : Nat) : u_T := (hs_nth [TX0, TX1, TX2, TX3, TX4, TX5, TX6, TX7, TX8, TX9, TX10, TX11, TX12] κ).getD TX0
def hs_cty (κ : Nat) : Nat → FieldType := (hs_nth [tyX0, tyX1, tyX2, tyX3, tyX4, tyX5, tyX6, tyX7, tyX8, tyX9, tyX10, tyX11, tyX12] κ).getD tyX0
def hs_cN (κ : Nat) : Nat := (hs_nth [13, 3, 3, 5, 2, 4, 13, 3, 10, 7, 6, 12, 46] κ).getD 0
/-- the bytes of a code word of the tables -/
def hs_code (i : Nat) : ByteArray := match lw_tbl[i]? with
  | some (.code _ b _ _) => b
  | _ => .empty
def hs_isC (i : Nat) (nm : MethodName) (ml : Nat) (ret : Option FieldType) : Bool := match lw_tbl[i]? with
  | some (.code n _ m r) => decide (n = nm) && (decide (m = ml) && decide (r = ret))
  | _ => false
/-- name, bytes, locals, what comes back -/
abbrev hs_N : Type := MethodName × (ByteArray × (Nat × Option FieldType))
def hs_names : List (MethodName × (Nat × Option FieldType)) := [(⟨"java/lang/Integer", "bitCount", "(I)I"⟩, 1, (some .int)),
  (⟨"java/lang/Math", "floorMod", "(II)I"⟩, 3, (some .int)),
  (⟨"java/lang/Math", "max", "(II)I"⟩, 2, (some .int)),
  (⟨"java/lang/Math", "min", "(II)I"⟩, 2, (some .int)),
  (⟨"HeavierServes$Future", "run", "(II)V"⟩, 4, none),
  (⟨"HeavierServes$Future", "gain", "(I)I"⟩, 2, (some .int)),
  (⟨"HeavierServes$Future", "gainOfParty", "(I)I"⟩, 4, (some .int)),
  (⟨"HeavierServes$Future", "serverThen", "(I)I"⟩, 3, (some .int)),
  (⟨"HeavierServes$Future", "weeksTill", "(I)I"⟩, 3, (some .int)),
  (⟨"HeavierServes$Future", "reachable", "(I)I"⟩, 6, (some .int)),
  (⟨"HeavierServes$Future", "lightest", "(I)I"⟩, 4, (some .int)),
  (⟨"HeavierServes$Future", "heavierThan", "(I)I"⟩, 4, (some .int)),
  (⟨"HeavierServes$Future", "bestStanding", "(II)I"⟩, 3, (some .int)),
  (⟨"HeavierServes$Future", "search", "(II)V"⟩, 6, none),
  (⟨"HeavierServes$Future", "searchStanding", "(LHeavierServes$State;LHeavierServes$State;II)V"⟩, 5, none),
  (⟨"HeavierServes$Future", "searchWaiting", "(LHeavierServes$State;LHeavierServes$State;II)V"⟩, 5, none),
  (⟨"HeavierServes$Future", "allButChooser", "()I"⟩, 1, (some .int)),
  (⟨"HeavierServes$Future", "judge", "(II)V"⟩, 4, none),
  (⟨"HeavierServes$Future", "rounds", "(II)I"⟩, 6, (some .int)),
  (⟨"HeavierServes$Future", "someoneTurns", "(I)Z"⟩, 5, (some .boolean)),
  (⟨"HeavierServes$Future", "bestReply", "(II)I"⟩, 7, (some .int)),
  (⟨"HeavierServes$Future", "weeksByPlans", "(II)I"⟩, 6, (some .int)),
  (⟨"HeavierServes$Future", "strongestParty", "(I)I"⟩, 6, (some .int)),
  (⟨"HeavierServes$Future", "gainers", "()I"⟩, 3, (some .int)),
  (⟨"HeavierServes$Future", "takingTurns", "(II)I"⟩, 7, (some .int)),
  (⟨"HeavierServes$Future", "nextOf", "(II)I"⟩, 4, (some .int)),
  (⟨"HeavierServes$Future", "foolsWorth", "(II)I"⟩, 6, (some .int)),
  (⟨"HeavierServes$Future", "tellChance", "(II)V"⟩, 3, none),
  (⟨"HeavierServes$Future", "chanceInTwo", "(I)J"⟩, 5, (some .long)),
  (⟨"HeavierServes$Future", "likeliest", "()I"⟩, 3, (some .int)),
  (⟨"HeavierServes$Office", "pass", "(LHeavierServes$State;II)V"⟩, 4, none),
  (⟨"HeavierServes$Office", "finish", "(LHeavierServes$State;I)V"⟩, 3, none),
  (⟨"HeavierServes$Office", "winner", "(LHeavierServes$State;II)I"⟩, 8, (some .int)),
  (⟨"HeavierServes$Office", "shownOfServer", "(LHeavierServes$State;)I"⟩, 2, (some .int)),
  (⟨"HeavierServes$Office", "shares", "(LHeavierServes$State;[J)V"⟩, 9, none),
  (⟨"HeavierServes$Office", "heavierWho", "(LHeavierServes$State;)I"⟩, 5, (some .int)),
  (⟨"HeavierServes$Office", "heaviestOf", "(LHeavierServes$State;I)I"⟩, 6, (some .int)),
  (⟨"HeavierServes$Pairs", "append", "(II)I"⟩, 3, (some .int)),
  (⟨"HeavierServes$Pairs", "person", "(I)I"⟩, 2, (some .int)),
  (⟨"HeavierServes$Pairs", "value", "(I)I"⟩, 2, (some .int)),
  (⟨"HeavierServes$Past", "remember", "(LHeavierServes$State;)V"⟩, 2, none),
  (⟨"HeavierServes$Past", "stepBack", "(LHeavierServes$State;)Z"⟩, 2, (some .boolean)),
  (⟨"HeavierServes$Past", "forgetSteps", "()V"⟩, 1, none),
  (⟨"HeavierServes$Past", "keepAside", "(ILHeavierServes$State;I)Z"⟩, 4, (some .boolean)),
  (⟨"HeavierServes$Past", "takeAgain", "(ILHeavierServes$State;I)Z"⟩, 4, (some .boolean)),
  (⟨"HeavierServes$Row", "begin", "(J)V"⟩, 3, none),
  (⟨"HeavierServes$Row", "add", "(J)V"⟩, 3, none),
  (⟨"HeavierServes$Row", "range", "(III)V"⟩, 4, none),
  (⟨"HeavierServes$Row", "fraction", "(JJ)V"⟩, 7, none),
  (⟨"HeavierServes$Row", "commonDivisor", "(JJ)J"⟩, 7, (some .long)),
  (⟨"HeavierServes$Scale", "shows", "(I)I"⟩, 3, (some .int)),
  (⟨"HeavierServes$Scale", "misfits", "(LHeavierServes$Pairs;[II)I"⟩, 7, (some .int)),
  (⟨"HeavierServes$Scale", "possibleGrains", "(LHeavierServes$Pairs;I)I"⟩, 7, (some .int)),
  (⟨"HeavierServes$Scale", "narrow", "(LHeavierServes$Pairs;II)I"⟩, 5, (some .int)),
  (⟨"HeavierServes$Scale", "narrowBy", "(II)V"⟩, 3, none),
  (⟨"HeavierServes$State", "follow", "(LHeavierServes$State;)V"⟩, 2, none),
  (⟨"HeavierServes$State", "copy", "(LHeavierServes$State;)V"⟩, 2, none),
  (⟨"HeavierServes$State", "welcome", "(II)V"⟩, 3, none),
  (⟨"HeavierServes$State", "lives", "(I)Z"⟩, 2, (some .boolean)),
  (⟨"HeavierServes$State", "putWeight", "(II)V"⟩, 3, none),
  (⟨"HeavierServes$State", "makeLaw", "()I"⟩, 2, (some .int)),
  (⟨"HeavierServes$State", "dropLaws", "()I"⟩, 3, (some .int)),
  (⟨"HeavierServes$State", "bury", "(I)I"⟩, 2, (some .int)),
  (⟨"HeavierServes$State", "serveWeek", "(I)V"⟩, 2, none),
  (⟨"HeavierServes$Text", "append", "(I)Z"⟩, 3, (some .boolean)),
  (⟨"HeavierServes$Text", "open", "(I)V"⟩, 2, none),
  (⟨"HeavierServes$Text", "signAt", "(I)I"⟩, 2, (some .int)),
  (⟨"HeavierServes$Text", "digitAt", "(I)I"⟩, 3, (some .int)),
  (⟨"HeavierServes$Town", "has", "(I)Z"⟩, 2, (some .boolean)),
  (⟨"HeavierServes$Town", "countOneMore", "()V"⟩, 1, none),
  (⟨"HeavierServes$Town", "everyone", "()I"⟩, 1, (some .int)),
  (⟨"HeavierServes$Town", "ofParty", "(I)I"⟩, 4, (some .int)),
  (⟨"HeavierServes$Town", "arriving", "(I)I"⟩, 2, (some .int)),
  (⟨"HeavierServes$Town", "changeAt", "(II)I"⟩, 4, (some .int)),
  (⟨"HeavierServes$Town", "changeWeights", "(LHeavierServes$State;)V"⟩, 5, none),
  (⟨"HeavierServes$Town", "weightLater", "(LHeavierServes$State;II)I"⟩, 7, (some .int)),
  (⟨"HeavierServes$Town", "copyPerson", "(II)V"⟩, 3, none),
  (⟨"HeavierServes$Town", "readLines", "(LHeavierServes$Text;)I"⟩, 3, (some .int)),
  (⟨"HeavierServes$Town", "readHabit", "(LHeavierServes$Text;I)I"⟩, 3, (some .int)),
  (⟨"HeavierServes$Town", "readLine", "(LHeavierServes$Text;I)Z"⟩, 3, (some .boolean)),
  (⟨"HeavierServes$Town", "readWeight", "(LHeavierServes$Text;I)Z"⟩, 5, (some .boolean)),
  (⟨"HeavierServes$Town", "readParty", "(LHeavierServes$Text;I)Z"⟩, 4, (some .boolean)),
  (⟨"HeavierServes$Town", "readChanges", "(LHeavierServes$Text;)Z"⟩, 4, (some .boolean)),
  (⟨"HeavierServes$Town", "isChangeSign", "(I)Z"⟩, 1, (some .boolean)),
  (⟨"HeavierServes$Town", "takeDraft", "(I)V"⟩, 2, none),
  (⟨"HeavierServes$Trials", "feast", "(II)V"⟩, 3, none),
  (⟨"HeavierServes$Trials", "cakesWorthTrying", "(I)I"⟩, 2, (some .int)),
  (⟨"HeavierServes$Trials", "cakesToStay", "(II)I"⟩, 6, (some .int)),
  (⟨"HeavierServes$Trials", "cakesToServe", "(II)I"⟩, 6, (some .int)),
  (⟨"HeavierServes$Trials", "ouncesToMiss", "(II)I"⟩, 5, (some .int)),
  (⟨"HeavierServes$Trials", "leastFed", "()I"⟩, 5, (some .int)),
  (⟨"HeavierServes$Trials", "cakesForNextWeek", "(II)I"⟩, 6, (some .int)),
  (⟨"HeavierServes$Trials", "gather", "(LHeavierServes$Pairs;)Z"⟩, 5, (some .boolean)),
  (⟨"HeavierServes$Trials", "comesAsDue", "(I)Z"⟩, 3, (some .boolean)),
  (⟨"HeavierServes$Trials", "explainingWeights", "(LHeavierServes$Pairs;I)I"⟩, 8, (some .int)),
  (⟨"HeavierServes$Trials", "explainingAbsences", "(LHeavierServes$Pairs;)I"⟩, 5, (some .int)),
  (⟨"HeavierServes$Will", "read", "(LHeavierServes$Text;)I"⟩, 2, (some .int)),
  (⟨"HeavierServes$Will", "readComparison", "(LHeavierServes$Text;I)Z"⟩, 5, (some .boolean)),
  (⟨"HeavierServes$Will", "readSum", "(LHeavierServes$Text;I)Z"⟩, 6, (some .boolean)),
  (⟨"HeavierServes$Will", "readProduct", "(LHeavierServes$Text;I)Z"⟩, 6, (some .boolean)),
  (⟨"HeavierServes$Will", "readThing", "(LHeavierServes$Text;I)Z"⟩, 6, (some .boolean)),
  (⟨"HeavierServes$Will", "readBracket", "(LHeavierServes$Text;I)Z"⟩, 3, (some .boolean)),
  (⟨"HeavierServes$Will", "readNumber", "(LHeavierServes$Text;)V"⟩, 4, none),
  (⟨"HeavierServes$Will", "emit", "(I)V"⟩, 2, none),
  (⟨"HeavierServes$Will", "isFact", "(I)Z"⟩, 1, (some .boolean)),
  (⟨"HeavierServes$Will", "value", "(LHeavierServes$State;LHeavierServes$Town;I)I"⟩, 9, (some .int)),
  (⟨"HeavierServes$Will", "combine", "(III)I"⟩, 3, (some .int)),
  (⟨"HeavierServes$Will", "fact", "(ILHeavierServes$State;LHeavierServes$Town;I)I"⟩, 5, (some .int)),
  (⟨"HeavierServes", "sign", "(I)I"⟩, 2, (some .int)),
  (⟨"HeavierServes", "end", "(I)Z"⟩, 2, (some .boolean)),
  (⟨"HeavierServes", "town", "()I"⟩, 4, (some .int)),
  (⟨"HeavierServes", "will", "()I"⟩, 2, (some .int)),
  (⟨"HeavierServes", "habit", "(I)I"⟩, 3, (some .int)),
  (⟨"HeavierServes", "of", "(II)I"⟩, 3, (some .int)),
  (⟨"HeavierServes", "change", "(II)I"⟩, 3, (some .int)),
  (⟨"HeavierServes", "set", "(III)I"⟩, 4, (some .int)),
  (⟨"HeavierServes", "scale", "(II)Z"⟩, 3, (some .boolean)),
  (⟨"HeavierServes", "sheet", "(IIII)I"⟩, 9, (some .int)),
  (⟨"HeavierServes", "stand", "(I)I"⟩, 3, (some .int)),
  (⟨"HeavierServes", "weeks", "(I)I"⟩, 6, (some .int)),
  (⟨"HeavierServes", "year", "()I"⟩, 3, (some .int)),
  (⟨"HeavierServes", "law", "()I"⟩, 1, (some .int)),
  (⟨"HeavierServes", "laws", "(II)I"⟩, 3, (some .int)),
  (⟨"HeavierServes", "feed", "(II)I"⟩, 3, (some .int)),
  (⟨"HeavierServes", "fast", "(II)I"⟩, 3, (some .int)),
  (⟨"HeavierServes", "dies", "(I)I"⟩, 2, (some .int)),
  (⟨"HeavierServes", "undo", "()I"⟩, 1, (some .int)),
  (⟨"HeavierServes", "served", "(I)I"⟩, 2, (some .int)),
  (⟨"HeavierServes", "later", "(II)I"⟩, 3, (some .int)),
  (⟨"HeavierServes", "then", "(I)I"⟩, 2, (some .int)),
  (⟨"HeavierServes", "soonest", "(I)I"⟩, 2, (some .int)),
  (⟨"HeavierServes", "ever", "(I)I"⟩, 2, (some .int)),
  (⟨"HeavierServes", "most", "(II)I"⟩, 3, (some .int)),
  (⟨"HeavierServes", "rests", "(II)I"⟩, 3, (some .int)),
  (⟨"HeavierServes", "party", "(I)I"⟩, 2, (some .int)),
  (⟨"HeavierServes", "byTurns", "(II)I"⟩, 3, (some .int)),
  (⟨"HeavierServes", "fool", "(II)I"⟩, 3, (some .int)),
  (⟨"HeavierServes", "hold", "(I)I"⟩, 2, (some .int)),
  (⟨"HeavierServes", "bribe", "(II)I"⟩, 3, (some .int)),
  (⟨"HeavierServes", "starve", "(II)I"⟩, 3, (some .int)),
  (⟨"HeavierServes", "cheapest", "()I"⟩, 1, (some .int)),
  (⟨"HeavierServes", "weighed", "(II)I"⟩, 3, (some .int)),
  (⟨"HeavierServes", "forget", "()I"⟩, 1, (some .int)),
  (⟨"HeavierServes", "grains", "()I"⟩, 1, (some .int)),
  (⟨"HeavierServes", "span", "(I)I"⟩, 3, (some .int)),
  (⟨"HeavierServes", "offs", "()I"⟩, 5, (some .int)),
  (⟨"HeavierServes", "cheats", "()I"⟩, 6, (some .int)),
  (⟨"HeavierServes", "told", "(II)I"⟩, 3, (some .int)),
  (⟨"HeavierServes", "wipe", "()I"⟩, 2, (some .int)),
  (⟨"HeavierServes", "explains", "(I)I"⟩, 2, (some .int)),
  (⟨"HeavierServes", "absent", "()I"⟩, 1, (some .int)),
  (⟨"HeavierServes", "twin", "(I)I"⟩, 3, (some .int)),
  (⟨"HeavierServes", "odds", "(II)I"⟩, 3, (some .int)),
  (⟨"HeavierServes", "likely", "()I"⟩, 1, (some .int)),
  (⟨"HeavierServes", "keep", "(I)Z"⟩, 2, (some .boolean)),
  (⟨"HeavierServes", "again", "(I)Z"⟩, 2, (some .boolean)),
  (⟨"HeavierServes", "count", "(I)I"⟩, 2, (some .int)),
  (⟨"HeavierServes", "row", "(I)J"⟩, 2, (some .long)),
  (⟨"HeavierServes", "isThere", "(I)Z"⟩, 2, (some .boolean)),
  (⟨"HeavierServes", "exchange", "([III)I"⟩, 4, (some .int)),
  (⟨"HeavierServes", "inBounds", "(I)I"⟩, 1, (some .int)),
  (⟨"HeavierServes", "asKind", "(II)I"⟩, 2, (some .int)),
  (⟨"HeavierServes", "eat", "(III)I"⟩, 4, (some .int)),
  (⟨"HeavierServes", "passWeek", "(II)I"⟩, 5, (some .int)),
  (⟨"HeavierServes", "yearFault", "()I"⟩, 4, (some .int)),
  (⟨"HeavierServes", "passYear", "()I"⟩, 7, (some .int)),
  (⟨"HeavierServesModel", "thrown", "()I"⟩, 1, (some .int)),
  (⟨"HeavierServesModel", "refuse", "()I"⟩, 1, (some .int)),
  (⟨"HeavierServesModel", "in", "(JJJ)Z"⟩, 6, (some .boolean)),
  (⟨"HeavierServesModel", "has", "(II)Z"⟩, 2, (some .boolean)),
  (⟨"HeavierServesModel", "flag", "(Z)I"⟩, 1, (some .int)),
  (⟨"HeavierServesModel", "common", "(JJ)J"⟩, 4, (some .long)),
  (⟨"HeavierServesModel", "enters", "(J)V"⟩, 3, none),
  (⟨"HeavierServesModel", "entersFraction", "(JJ)V"⟩, 7, none),
  (⟨"HeavierServesModel", "isPerson", "(I)Z"⟩, 2, (some .boolean)),
  (⟨"HeavierServesModel", "isAlive", "(I)Z"⟩, 2, (some .boolean)),
  (⟨"HeavierServesModel", "sign", "(I)I"⟩, 3, (some .int)),
  (⟨"HeavierServesModel", "end", "(I)Z"⟩, 2, (some .boolean)),
  (⟨"HeavierServesModel", "begins", "(I)I"⟩, 3, (some .int)),
  (⟨"HeavierServesModel", "takes", "(I)Z"⟩, 3, (some .boolean)),
  (⟨"HeavierServesModel", "isDigit", "()Z"⟩, 1, (some .boolean)),
  (⟨"HeavierServesModel", "number", "(I)I"⟩, 4, (some .int)),
  (⟨"HeavierServesModel", "among", "(Ljava/lang/String;)I"⟩, 3, (some .int)),
  (⟨"HeavierServesModel", "faultOf", "(IIZ)I"⟩, 5, (some .int)),
  (⟨"HeavierServesModel", "readsHabit", "(I)Z"⟩, 4, (some .boolean)),
  (⟨"HeavierServesModel", "readsPerson", "()Z"⟩, 2, (some .boolean)),
  (⟨"HeavierServesModel", "town", "()I"⟩, 7, (some .int)),
  (⟨"HeavierServesModel", "comes", "(II)V"⟩, 3, none),
  (⟨"HeavierServesModel", "putsHabit", "(II)V"⟩, 4, none),
  (⟨"HeavierServesModel", "habit", "(I)I"⟩, 5, (some .int)),
  (⟨"HeavierServesModel", "codes", "(I)V"⟩, 2, none),
  (⟨"HeavierServesModel", "readsThing", "()Z"⟩, 2, (some .boolean)),
  (⟨"HeavierServesModel", "readsRank", "(I)Z"⟩, 4, (some .boolean)),
  (⟨"HeavierServesModel", "will", "()I"⟩, 5, (some .int)),
  (⟨"HeavierServesModel", "holding", "([I)I"⟩, 4, (some .int)),
  (⟨"HeavierServesModel", "thingOf", "([III)I"⟩, 5, (some .int)),
  (⟨"HeavierServesModel", "worked", "(III)I"⟩, 3, (some .int)),
  (⟨"HeavierServesModel", "willOf", "([II)I"⟩, 6, (some .int)),
  (⟨"HeavierServesModel", "willing", "([I)I"⟩, 4, (some .int)),
  (⟨"HeavierServesModel", "shows", "(I)I"⟩, 3, (some .int)),
  (⟨"HeavierServesModel", "of", "(II)I"⟩, 3, (some .int)),
  (⟨"HeavierServesModel", "change", "(II)I"⟩, 3, (some .int)),
  (⟨"HeavierServesModel", "set", "(III)I"⟩, 7, (some .int)),
  (⟨"HeavierServesModel", "scale", "(II)Z"⟩, 3, (some .boolean)),
  (⟨"HeavierServesModel", "sheet", "(IIII)I"⟩, 9, (some .int)),
  (⟨"HeavierServesModel", "goes", "([II)V"⟩, 6, none),
  (⟨"HeavierServesModel", "falls", "([I)I"⟩, 4, (some .int)),
  (⟨"HeavierServesModel", "puts", "([I[I)V"⟩, 3, none),
  (⟨"HeavierServesModel", "putsBy", "()V"⟩, 2, none),
  (⟨"HeavierServesModel", "undo", "()I"⟩, 2, (some .int)),
  (⟨"HeavierServesModel", "stand", "(I)I"⟩, 3, (some .int)),
  (⟨"HeavierServesModel", "weeks", "(I)I"⟩, 5, (some .int)),
  (⟨"HeavierServesModel", "readsWeek", "()V"⟩, 3, none),
  (⟨"HeavierServesModel", "year", "()I"⟩, 5, (some .int)),
  (⟨"HeavierServesModel", "law", "()I"⟩, 2, (some .int)),
  (⟨"HeavierServesModel", "laws", "(II)I"⟩, 3, (some .int)),
  (⟨"HeavierServesModel", "eats", "(II)I"⟩, 3, (some .int)),
  (⟨"HeavierServesModel", "feed", "(II)I"⟩, 3, (some .int)),
  (⟨"HeavierServesModel", "fast", "(II)I"⟩, 3, (some .int)),
  (⟨"HeavierServesModel", "dies", "(I)I"⟩, 3, (some .int)),
  (⟨"HeavierServesModel", "served", "(I)I"⟩, 2, (some .int)),
  (⟨"HeavierServesModel", "starts", "()V"⟩, 2, none),
  (⟨"HeavierServesModel", "goesNext", "(I)V"⟩, 2, none),
  (⟨"HeavierServesModel", "goesBy", "(II)V"⟩, 4, none),
  (⟨"HeavierServesModel", "areWeeks", "(I)Z"⟩, 1, (some .boolean)),
  (⟨"HeavierServesModel", "later", "(II)I"⟩, 3, (some .int)),
  (⟨"HeavierServesModel", "then", "(I)I"⟩, 3, (some .int)),
  (⟨"HeavierServesModel", "soonest", "(I)I"⟩, 3, (some .int)),
  (⟨"HeavierServesModel", "ever", "(I)I"⟩, 10, (some .int)),
  (⟨"HeavierServesModel", "most", "(II)I"⟩, 7, (some .int)),
  (⟨"HeavierServesModel", "byPlans", "(II)I"⟩, 6, (some .int)),
  (⟨"HeavierServesModel", "plans", "(II)Z"⟩, 8, (some .boolean)),
  (⟨"HeavierServesModel", "rests", "(II)I"⟩, 6, (some .int)),
  (⟨"HeavierServesModel", "servedBy", "(I)I"⟩, 4, (some .int)),
  (⟨"HeavierServesModel", "party", "(I)I"⟩, 7, (some .int)),
  (⟨"HeavierServesModel", "byTurns", "(II)I"⟩, 8, (some .int)),
  (⟨"HeavierServesModel", "fool", "(II)I"⟩, 5, (some .int)),
  (⟨"HeavierServesModel", "areSixty", "(I)Z"⟩, 1, (some .boolean)),
  (⟨"HeavierServesModel", "startsWith", "(II)V"⟩, 3, none),
  (⟨"HeavierServesModel", "hold", "(I)I"⟩, 4, (some .int)),
  (⟨"HeavierServesModel", "bribe", "(II)I"⟩, 4, (some .int)),
  (⟨"HeavierServesModel", "starve", "(II)I"⟩, 4, (some .int)),
  (⟨"HeavierServesModel", "cheapest", "()I"⟩, 5, (some .int)),
  (⟨"HeavierServesModel", "weighed", "(II)I"⟩, 3, (some .int)),
  (⟨"HeavierServesModel", "forget", "()I"⟩, 1, (some .int)),
  (⟨"HeavierServesModel", "canBe", "(II)Z"⟩, 5, (some .boolean)),
  (⟨"HeavierServesModel", "weightsOf", "(IZ)I"⟩, 7, (some .int)),
  (⟨"HeavierServesModel", "tellsSpan", "(III)V"⟩, 4, none),
  (⟨"HeavierServesModel", "grains", "()I"⟩, 6, (some .int)),
  (⟨"HeavierServesModel", "span", "(I)I"⟩, 2, (some .int)),
  (⟨"HeavierServesModel", "wrong", "()I"⟩, 3, (some .int)),
  (⟨"HeavierServesModel", "offs", "()I"⟩, 5, (some .int)),
  (⟨"HeavierServesModel", "cheats", "()I"⟩, 6, (some .int)),
  (⟨"HeavierServesModel", "told", "(II)I"⟩, 3, (some .int)),
  (⟨"HeavierServesModel", "wipe", "()I"⟩, 2, (some .int)),
  (⟨"HeavierServesModel", "isSo", "(I)Z"⟩, 5, (some .boolean)),
  (⟨"HeavierServesModel", "explains", "(I)I"⟩, 6, (some .int)),
  (⟨"HeavierServesModel", "absent", "()I"⟩, 3, (some .int)),
  (⟨"HeavierServesModel", "twin", "(I)I"⟩, 4, (some .int)),
  (⟨"HeavierServesModel", "oddsOf", "([I[J)V"⟩, 10, none),
  (⟨"HeavierServesModel", "odds", "(II)I"⟩, 6, (some .int)),
  (⟨"HeavierServesModel", "likely", "()I"⟩, 3, (some .int)),
  (⟨"HeavierServesModel", "keep", "(I)Z"⟩, 3, (some .boolean)),
  (⟨"HeavierServesModel", "again", "(I)Z"⟩, 3, (some .boolean)),
  (⟨"HeavierServesModel", "lawsThatHold", "()I"⟩, 3, (some .int)),
  (⟨"HeavierServesModel", "count", "(I)I"⟩, 2, (some .int)),
  (⟨"HeavierServesModel", "row", "(I)J"⟩, 2, (some .long))]
/-- own class by number, and the places of a method's words: its code, instance or static (1), initialised, selects -/
def hs_mws : List (Nat × (Nat × (Nat × (Nat × (Nat × Nat))))) := [(14, 895, 894, 1, 109, 0),
  (15, 681, 680, 1, 95, 0),
  (15, 363, 362, 1, 95, 0),
  (15, 535, 534, 1, 95, 0),
  (0, 841, 840, 0, 97, 19),
  (0, 847, 846, 0, 97, 20),
  (0, 944, 943, 0, 97, 31),
  (0, 837, 835, 0, 97, 836),
  (0, 856, 854, 0, 97, 855),
  (0, 864, 862, 0, 97, 863),
  (0, 868, 867, 0, 97, 21),
  (0, 874, 873, 0, 97, 22),
  (0, 884, 882, 0, 97, 883),
  (0, 888, 887, 0, 97, 23),
  (0, 902, 901, 0, 97, 25),
  (0, 912, 911, 0, 97, 27),
  (0, 906, 905, 0, 97, 26),
  (0, 892, 891, 0, 97, 24),
  (0, 920, 918, 0, 97, 919),
  (0, 924, 923, 0, 97, 28),
  (0, 928, 927, 0, 97, 29),
  (0, 932, 931, 0, 97, 30),
  (0, 940, 938, 0, 97, 939),
  (0, 948, 947, 0, 97, 32),
  (0, 956, 954, 0, 97, 955),
  (0, 963, 962, 1, 97, 0),
  (0, 1281, 1279, 0, 97, 1280),
  (0, 1127, 1125, 0, 97, 1126),
  (0, 1154, 1153, 0, 97, 41),
  (0, 1163, 1161, 0, 97, 1162),
  (1, 698, 696, 0, 96, 697),
  (1, 728, 726, 0, 96, 727),
  (1, 702, 700, 0, 96, 701),
  (1, 706, 705, 0, 96, 13),
  (1, 1139, 1137, 0, 96, 1138),
  (1, 1143, 1142, 0, 96, 39),
  (1, 1148, 1147, 0, 96, 40),
  (2, 1022, 1020, 0, 94, 1021),
  (2, 1042, 1040, 0, 94, 1041),
  (2, 1046, 1044, 0, 94, 1045),
  (3, 678, 676, 0, 93, 677),
  (3, 813, 811, 0, 93, 812),
  (3, 586, 584, 0, 93, 585),
  (3, 1171, 1169, 0, 93, 1170),
  (3, 1179, 1177, 0, 93, 1178),
  (4, 748, 746, 0, 88, 747),
  (4, 752, 750, 0, 88, 751),
  (4, 1061, 1059, 0, 88, 1060),
  (4, 1131, 1129, 0, 88, 1130),
  (4, 1134, 1133, 1, 88, 0),
  (5, 710, 708, 0, 91, 709),
  (5, 1069, 1067, 0, 91, 1068),
  (5, 1034, 1032, 0, 91, 1033),
  (5, 1038, 1036, 0, 91, 1037),
  (5, 1050, 1049, 0, 91, 36),
  (6, 689, 687, 0, 92, 688),
  (6, 685, 683, 0, 92, 684),
  (6, 578, 576, 0, 92, 577),
  (6, 714, 712, 0, 92, 713),
  (6, 663, 661, 0, 92, 662),
  (6, 780, 778, 0, 92, 779),
  (6, 736, 735, 0, 92, 14),
  (6, 805, 803, 0, 92, 804),
  (6, 732, 730, 0, 92, 731),
  (7, 516, 514, 0, 87, 515),
  (7, 532, 530, 0, 87, 531),
  (7, 551, 549, 0, 87, 550),
  (7, 547, 545, 0, 87, 546),
  (8, 637, 635, 0, 89, 636),
  (8, 582, 580, 0, 89, 581),
  (8, 674, 672, 0, 89, 673),
  (8, 960, 958, 0, 89, 959),
  (8, 574, 572, 0, 89, 573),
  (8, 829, 827, 0, 89, 828),
  (8, 741, 739, 0, 89, 740),
  (8, 825, 823, 0, 89, 824),
  (8, 1119, 1117, 0, 89, 1118),
  (8, 528, 526, 0, 89, 527),
  (8, 641, 639, 0, 89, 640),
  (8, 539, 538, 0, 89, 0),
  (8, 543, 542, 0, 89, 1),
  (8, 555, 554, 0, 89, 2),
  (8, 560, 559, 0, 89, 3),
  (8, 563, 562, 1, 89, 0),
  (8, 567, 566, 0, 89, 4),
  (9, 980, 979, 0, 98, 34),
  (9, 975, 974, 0, 98, 33),
  (9, 971, 969, 0, 98, 970),
  (9, 991, 989, 0, 98, 990),
  (9, 1000, 998, 0, 98, 999),
  (9, 1008, 1006, 0, 98, 1007),
  (9, 1013, 1012, 0, 98, 35),
  (9, 1095, 1094, 0, 98, 37),
  (9, 1102, 1101, 0, 98, 38),
  (9, 1091, 1089, 0, 98, 1090),
  (9, 1111, 1109, 0, 98, 1110),
  (10, 594, 592, 0, 90, 593),
  (10, 599, 598, 0, 90, 5),
  (10, 603, 602, 0, 90, 6),
  (10, 607, 606, 0, 90, 7),
  (10, 611, 610, 0, 90, 8),
  (10, 616, 615, 0, 90, 9),
  (10, 620, 619, 0, 90, 10),
  (10, 625, 624, 0, 90, 11),
  (10, 628, 627, 1, 90, 0),
  (10, 718, 716, 0, 90, 717),
  (10, 721, 720, 1, 90, 0),
  (10, 724, 723, 1, 90, 0),
  (11, 512, 510, 0, 86, 511),
  (11, 520, 518, 0, 86, 519),
  (11, 524, 522, 0, 86, 523),
  (11, 590, 588, 0, 86, 589),
  (11, 633, 631, 0, 86, 632),
  (11, 1192, 1190, 0, 86, 1191),
  (11, 1262, 1260, 0, 86, 1261),
  (11, 645, 643, 0, 86, 644),
  (11, 652, 650, 0, 86, 651),
  (11, 656, 654, 0, 86, 655),
  (11, 670, 668, 0, 86, 669),
  (11, 758, 756, 0, 86, 757),
  (11, 762, 760, 0, 86, 761),
  (11, 776, 774, 0, 86, 775),
  (11, 1270, 1268, 0, 86, 1269),
  (11, 784, 782, 0, 86, 783),
  (11, 797, 795, 0, 86, 796),
  (11, 801, 799, 0, 86, 800),
  (11, 809, 807, 0, 86, 808),
  (11, 817, 815, 0, 86, 816),
  (11, 821, 819, 0, 86, 820),
  (11, 833, 831, 0, 86, 832),
  (11, 852, 850, 0, 86, 851),
  (11, 860, 858, 0, 86, 859),
  (11, 880, 878, 0, 86, 879),
  (11, 916, 914, 0, 86, 915),
  (11, 936, 934, 0, 86, 935),
  (11, 952, 950, 0, 86, 951),
  (11, 1277, 1275, 0, 86, 1276),
  (11, 967, 965, 0, 86, 966),
  (11, 987, 985, 0, 86, 986),
  (11, 996, 994, 0, 86, 995),
  (11, 1004, 1002, 0, 86, 1003),
  (11, 1018, 1016, 0, 86, 1017),
  (11, 1026, 1024, 0, 86, 1025),
  (11, 1030, 1028, 0, 86, 1029),
  (11, 1056, 1054, 0, 86, 1055),
  (11, 1065, 1063, 0, 86, 1064),
  (11, 1074, 1072, 0, 86, 1073),
  (11, 1079, 1077, 0, 86, 1078),
  (11, 1083, 1081, 0, 86, 1082),
  (11, 1087, 1085, 0, 86, 1086),
  (11, 1107, 1105, 0, 86, 1106),
  (11, 1115, 1113, 0, 86, 1114),
  (11, 1123, 1121, 0, 86, 1122),
  (11, 1159, 1157, 0, 86, 1158),
  (11, 1167, 1165, 0, 86, 1166),
  (11, 1175, 1173, 0, 86, 1174),
  (11, 1184, 1182, 0, 86, 1183),
  (11, 1288, 1286, 0, 86, 1287),
  (11, 792, 791, 0, 86, 18),
  (11, 648, 647, 1, 86, 0),
  (11, 666, 665, 1, 86, 0),
  (11, 659, 658, 1, 86, 0),
  (11, 788, 787, 0, 86, 17),
  (11, 694, 693, 0, 86, 12),
  (11, 767, 766, 0, 86, 15),
  (11, 772, 771, 0, 86, 16),
  (12, 1292, 1290, 0, 99, 1291),
  (12, 1586, 1585, 0, 99, 57),
  (12, 1449, 1448, 1, 99, 0),
  (12, 1589, 1588, 1, 99, 0),
  (12, 1479, 1478, 1, 99, 0),
  (12, 1874, 1873, 1, 99, 0),
  (12, 1653, 1652, 0, 99, 65),
  (12, 1871, 1870, 0, 99, 82),
  (12, 1558, 1557, 0, 99, 53),
  (12, 1686, 1685, 0, 99, 68),
  (12, 1442, 1440, 0, 99, 1441),
  (12, 1446, 1444, 0, 99, 1445),
  (12, 1457, 1456, 0, 99, 43),
  (12, 1476, 1475, 0, 99, 47),
  (12, 1466, 1465, 0, 99, 45),
  (12, 1472, 1471, 0, 99, 46),
  (12, 1484, 1483, 0, 99, 48),
  (12, 1541, 1540, 0, 99, 50),
  (12, 1536, 1535, 0, 99, 49),
  (12, 1462, 1461, 0, 99, 44),
  (12, 1453, 1451, 0, 99, 1452),
  (12, 1545, 1544, 0, 99, 51),
  (12, 1549, 1548, 0, 99, 52),
  (12, 1554, 1552, 0, 99, 1553),
  (12, 1574, 1573, 0, 99, 56),
  (12, 1570, 1569, 0, 99, 55),
  (12, 1566, 1565, 0, 99, 54),
  (12, 1562, 1560, 0, 99, 1561),
  (12, 1609, 1608, 0, 99, 61),
  (12, 1605, 1604, 0, 99, 60),
  (12, 1601, 1600, 1, 99, 0),
  (12, 1598, 1597, 0, 99, 59),
  (12, 1662, 1661, 0, 99, 66),
  (12, 1593, 1592, 0, 99, 58),
  (12, 1581, 1579, 0, 99, 1580),
  (12, 1613, 1611, 0, 99, 1612),
  (12, 1617, 1615, 0, 99, 1616),
  (12, 1624, 1622, 0, 99, 1623),
  (12, 1629, 1627, 0, 99, 1628),
  (12, 1645, 1644, 0, 99, 63),
  (12, 1649, 1648, 0, 99, 64),
  (12, 1716, 1715, 1, 99, 0),
  (12, 1641, 1640, 0, 99, 62),
  (12, 1633, 1631, 0, 99, 1632),
  (12, 1637, 1635, 0, 99, 1636),
  (12, 1657, 1655, 0, 99, 1656),
  (12, 1670, 1669, 0, 99, 67),
  (12, 1666, 1664, 0, 99, 1665),
  (12, 1674, 1672, 0, 99, 1673),
  (12, 1678, 1676, 0, 99, 1677),
  (12, 1690, 1689, 0, 99, 69),
  (12, 1682, 1680, 0, 99, 1681),
  (12, 1694, 1692, 0, 99, 1693),
  (12, 1698, 1696, 0, 99, 1697),
  (12, 1702, 1700, 0, 99, 1701),
  (12, 1713, 1712, 0, 99, 70),
  (12, 1724, 1723, 0, 99, 72),
  (12, 1720, 1719, 0, 99, 71),
  (12, 1709, 1708, 1, 99, 0),
  (12, 1706, 1704, 0, 99, 1705),
  (12, 1728, 1726, 0, 99, 1727),
  (12, 1732, 1730, 0, 99, 1731),
  (12, 1736, 1734, 0, 99, 1735),
  (12, 1741, 1739, 0, 99, 1740),
  (12, 1757, 1756, 0, 99, 74),
  (12, 1753, 1752, 0, 99, 73),
  (12, 1747, 1745, 0, 99, 1746),
  (12, 1765, 1764, 0, 99, 75),
  (12, 1761, 1759, 0, 99, 1760),
  (12, 1769, 1767, 0, 99, 1768),
  (12, 1773, 1771, 0, 99, 1772),
  (12, 1780, 1779, 1, 99, 0),
  (12, 1785, 1784, 0, 99, 76),
  (12, 1777, 1775, 0, 99, 1776),
  (12, 1789, 1787, 0, 99, 1788),
  (12, 1793, 1791, 0, 99, 1792),
  (12, 1797, 1795, 0, 99, 1796),
  (12, 1801, 1799, 0, 99, 1800),
  (12, 1806, 1804, 0, 99, 1805),
  (12, 1818, 1817, 0, 99, 78),
  (12, 1814, 1813, 0, 99, 77),
  (12, 1822, 1821, 0, 99, 79),
  (12, 1810, 1808, 0, 99, 1809),
  (12, 1826, 1824, 0, 99, 1825),
  (12, 1834, 1833, 0, 99, 80),
  (12, 1830, 1828, 0, 99, 1829),
  (12, 1838, 1836, 0, 99, 1837),
  (12, 1842, 1840, 0, 99, 1841),
  (12, 1846, 1844, 0, 99, 1845),
  (12, 1854, 1853, 0, 99, 81),
  (12, 1850, 1848, 0, 99, 1849),
  (12, 1858, 1856, 0, 99, 1857),
  (12, 1862, 1860, 0, 99, 1861),
  (12, 1878, 1877, 0, 99, 83),
  (12, 1866, 1864, 0, 99, 1865),
  (12, 1884, 1882, 0, 99, 1883),
  (12, 1888, 1886, 0, 99, 1887),
  (12, 1892, 1890, 0, 99, 1891),
  (12, 1900, 1899, 0, 99, 84),
  (12, 1896, 1894, 0, 99, 1895),
  (12, 1904, 1902, 0, 99, 1903)]
def hs_mw (y : Nat) : Nat × (Nat × (Nat × (Nat × (Nat × Nat)))) := (hs_nth hs_mws y).getD (0, 0, 0, 0, 0, 0)
def hs_nm0 (y : Nat) : MethodName × (Nat × Option FieldType) := (hs_nth hs_names y).getD (⟨"", "", ""⟩, 0, none)
def hs_nm (y : Nat) : hs_N := ((hs_nm0 y).1, hs_code (hs_mw y).2.1, (hs_nm0 y).2.1, (hs_nm0 y).2.2)
/-- own class, index, class, field, place of the word -/
def hs_fl : List (Nat × (Nat × (Nat × (Nat × Nat)))) := [(0, 13, 0, 4, 406), (0, 18, 0, 5, 407), (0, 22, 0, 6, 408), (0, 26, 0, 7, 409), (0, 30, 0, 8, 410), (0, 33, 0, 0, 402), (0, 36, 0, 1, 403), (0, 40, 0, 2, 404), (0, 44, 0, 3, 405), (0, 58, 6, 8, 290), (0, 61, 8, 9, 179), (0, 67, 8, 0, 163), (0, 78, 4, 1, 148), (0, 87, 6, 1, 266), (0, 99, 1, 2, 386), (0, 103, 6, 7, 286), (0, 121, 0, 9, 411), (0, 124, 0, 10, 412), (0, 127, 0, 11, 413), (0, 130, 0, 12, 414), (0, 181, 6, 3, 273), (1, 9, 1, 0, 383), (1, 15, 1, 1, 384), (1, 19, 1, 2, 385), (1, 43, 6, 0, 259), (1, 51, 8, 9, 180), (1, 54, 6, 1, 264), (1, 61, 6, 7, 284), (1, 86, 8, 1, 167), (2, 15, 2, 0, 364), (2, 21, 2, 1, 365), (2, 24, 2, 2, 366), (3, 13, 3, 0, 338), (3, 17, 3, 1, 339), (3, 20, 3, 2, 340), (3, 25, 3, 4, 342), (3, 29, 3, 3, 341), (4, 9, 4, 0, 145), (4, 13, 4, 1, 147), (5, 9, 5, 0, 235), (5, 15, 5, 1, 237), (5, 18, 2, 2, 367), (5, 37, 5, 2, 239), (5, 40, 5, 3, 241), (6, 9, 6, 1, 263), (6, 15, 6, 7, 282), (6, 19, 6, 8, 289), (6, 22, 6, 9, 294), (6, 25, 6, 10, 296), (6, 28, 6, 11, 298), (6, 31, 6, 12, 300), (6, 34, 6, 0, 258), (6, 37, 6, 2, 269), (6, 40, 6, 3, 272), (6, 43, 6, 4, 275), (6, 46, 6, 5, 277), (6, 59, 6, 6, 280), (7, 11, 7, 0, 124), (7, 15, 7, 1, 125), (7, 25, 7, 2, 129), (8, 9, 8, 0, 162), (8, 15, 8, 1, 166), (8, 18, 8, 2, 169), (8, 21, 8, 3, 171), (8, 24, 8, 4, 172), (8, 27, 8, 5, 173), (8, 30, 8, 9, 178), (8, 40, 6, 0, 260), (8, 49, 6, 7, 287), (8, 71, 8, 7, 175), (8, 74, 8, 8, 177), (8, 84, 7, 1, 128), (8, 103, 8, 6, 174), (9, 12, 9, 4, 454), (9, 18, 9, 5, 455), (9, 22, 9, 0, 450), (9, 25, 9, 1, 451), (9, 29, 9, 2, 452), (9, 33, 9, 3, 453), (9, 41, 6, 7, 283), (9, 61, 6, 1, 265), (9, 71, 6, 8, 291), (9, 80, 8, 9, 182), (9, 96, 9, 6, 456), (9, 99, 2, 2, 368), (10, 11, 10, 0, 210), (10, 15, 10, 1, 211), (10, 18, 10, 2, 212), (10, 27, 10, 5, 215), (10, 31, 10, 4, 214), (10, 34, 7, 1, 127), (10, 47, 10, 3, 213), (10, 88, 6, 1, 268), (10, 93, 6, 7, 288), (10, 96, 8, 0, 165), (10, 101, 6, 2, 270), (10, 104, 6, 5, 278), (10, 107, 6, 0, 261), (10, 110, 6, 8, 293), (11, 10, 11, 0, 472), (11, 19, 11, 1, 473), (11, 26, 11, 2, 474), (11, 33, 11, 3, 475), (11, 40, 11, 4, 476), (11, 47, 11, 5, 477), (11, 54, 11, 6, 478), (11, 63, 11, 7, 479), (11, 67, 11, 8, 480), (11, 75, 11, 9, 481), (11, 84, 11, 10, 482), (11, 91, 11, 11, 483), (11, 99, 7, 1, 126), (11, 107, 8, 8, 176), (11, 110, 8, 9, 181), (11, 137, 8, 2, 170), (11, 144, 6, 7, 285), (11, 147, 8, 0, 164), (11, 150, 8, 1, 168), (11, 156, 6, 8, 292), (11, 174, 5, 0, 236), (11, 177, 5, 1, 238), (11, 209, 6, 1, 267), (11, 221, 6, 6, 281), (11, 227, 6, 9, 295), (11, 230, 6, 10, 297), (11, 233, 6, 4, 276), (11, 236, 6, 11, 299), (11, 253, 3, 4, 343), (11, 256, 6, 0, 262), (11, 259, 6, 12, 301), (11, 304, 2, 2, 369), (11, 315, 5, 2, 240), (11, 318, 5, 3, 242), (11, 357, 6, 2, 271), (11, 360, 6, 3, 274), (11, 363, 4, 1, 149), (11, 364, 4, 0, 146), (11, 368, 6, 5, 279), (11, 375, 7, 2, 130), (12, 3, 12, 0, 1299), (12, 11, 12, 2, 1301), (12, 15, 12, 1, 1300), (12, 28, 12, 4, 1303), (12, 32, 12, 5, 1304), (12, 35, 12, 6, 1305), (12, 38, 12, 7, 1306), (12, 41, 12, 8, 1307), (12, 44, 12, 10, 1309), (12, 47, 12, 11, 1310), (12, 50, 12, 12, 1311), (12, 53, 12, 17, 1316), (12, 56, 12, 18, 1317), (12, 59, 12, 19, 1318), (12, 62, 12, 20, 1319), (12, 65, 12, 22, 1321), (12, 68, 12, 23, 1322), (12, 71, 12, 26, 1325), (12, 74, 12, 29, 1328), (12, 77, 12, 30, 1329), (12, 80, 12, 32, 1331), (12, 83, 12, 33, 1332), (12, 86, 12, 35, 1334), (12, 89, 12, 36, 1335), (12, 92, 12, 38, 1337), (12, 95, 12, 39, 1338), (12, 98, 12, 40, 1339), (12, 101, 12, 41, 1340), (12, 104, 12, 42, 1341), (12, 107, 12, 43, 1342), (12, 111, 12, 44, 1343), (12, 114, 12, 45, 1344), (12, 117, 12, 3, 1302), (12, 132, 12, 13, 1312), (12, 135, 12, 14, 1313), (12, 138, 12, 16, 1315), (12, 147, 12, 15, 1314), (12, 185, 12, 21, 1320), (12, 207, 12, 28, 1327), (12, 213, 12, 25, 1324), (12, 232, 12, 24, 1323), (12, 251, 12, 9, 1308), (12, 273, 12, 27, 1326), (12, 291, 12, 31, 1330), (12, 351, 12, 34, 1333), (12, 368, 12, 37, 1336)]
/-- own class, index, method, 0 virtual 1 static 2 nest, place of the word -/
def hs_ml : List (Nat × (Nat × (Nat × (Nat × Nat)))) := [(0, 48, 55, 0, 842), (0, 52, 30, 0, 843), (0, 70, 5, 0, 844), (0, 74, 4, 0, 838), (0, 83, 46, 0, 848), (0, 90, 10, 0, 865), (0, 93, 11, 0, 871), (0, 96, 45, 0, 876), (0, 106, 50, 0, 869), (0, 111, 3, 1, 870), (0, 117, 58, 0, 875), (0, 133, 13, 0, 885), (0, 136, 17, 0, 889), (0, 139, 14, 0, 899), (0, 143, 15, 0, 909), (0, 146, 16, 0, 903), (0, 150, 32, 0, 907), (0, 154, 31, 0, 908), (0, 158, 0, 1, 893), (0, 163, 19, 0, 921), (0, 166, 20, 0, 925), (0, 169, 21, 0, 929), (0, 172, 6, 0, 941), (0, 175, 23, 0, 945), (0, 178, 71, 0, 957), (0, 184, 25, 1, 961), (0, 187, 48, 0, 1128), (0, 191, 34, 0, 1136), (0, 196, 28, 0, 1151), (1, 23, 32, 0, 699), (1, 27, 31, 0, 725), (1, 31, 63, 0, 729), (1, 37, 74, 0, 738), (1, 47, 33, 0, 703), (1, 57, 58, 0, 711), (1, 65, 50, 0, 707), (1, 71, 105, 0, 715), (1, 77, 35, 0, 1140), (1, 82, 36, 0, 1145), (3, 32, 1, 1, 679), (3, 38, 56, 0, 682), (3, 42, 42, 0, 1180), (4, 17, 46, 0, 749), (4, 21, 49, 1, 1132), (4, 25, 45, 0, 1135), (5, 23, 38, 0, 1039), (5, 27, 50, 0, 1070), (5, 30, 39, 0, 1043), (5, 33, 53, 0, 1035), (5, 43, 54, 0, 1047), (5, 47, 2, 1, 1051), (5, 53, 3, 1, 1052), (6, 55, 55, 0, 686), (6, 62, 160, 2, 664), (6, 66, 61, 0, 733), (6, 70, 1, 1, 737), (7, 19, 3, 1, 533), (7, 28, 66, 0, 548), (8, 34, 58, 0, 742), (8, 43, 1, 1, 743), (8, 52, 160, 2, 744), (8, 56, 73, 0, 826), (8, 65, 65, 0, 529), (8, 77, 79, 0, 536), (8, 81, 66, 0, 556), (8, 87, 82, 0, 557), (8, 91, 84, 0, 564), (8, 94, 80, 0, 540), (8, 97, 81, 0, 552), (8, 100, 67, 0, 544), (8, 106, 83, 1, 561), (9, 37, 55, 0, 981), (9, 44, 59, 0, 982), (9, 48, 3, 1, 976), (9, 54, 86, 0, 972), (9, 58, 85, 0, 977), (9, 65, 30, 0, 983), (9, 74, 45, 0, 992), (9, 85, 58, 0, 1009), (9, 89, 91, 0, 1010), (9, 92, 32, 0, 1014), (9, 104, 39, 0, 1096), (9, 107, 38, 0, 1097), (9, 110, 2, 1, 1098), (9, 113, 92, 0, 1092), (9, 117, 93, 0, 1099), (9, 120, 47, 0, 1103), (10, 21, 65, 0, 595), (10, 37, 97, 0, 596), (10, 50, 98, 0, 600), (10, 53, 66, 0, 612), (10, 57, 103, 0, 622), (10, 60, 99, 0, 604), (10, 63, 100, 0, 608), (10, 66, 101, 0, 613), (10, 69, 102, 0, 617), (10, 73, 104, 1, 626), (10, 77, 67, 0, 621), (10, 80, 106, 1, 719), (10, 84, 107, 1, 722), (11, 95, 64, 0, 513), (11, 103, 77, 0, 525), (11, 113, 72, 0, 571), (11, 117, 57, 0, 575), (11, 121, 69, 0, 579), (11, 124, 42, 0, 583), (11, 127, 96, 0, 591), (11, 130, 68, 0, 634), (11, 133, 78, 0, 638), (11, 153, 58, 0, 793), (11, 159, 50, 0, 1254), (11, 162, 105, 0, 1255), (11, 166, 73, 0, 1263), (11, 170, 159, 1, 646), (11, 180, 161, 1, 657), (11, 183, 59, 0, 660), (11, 186, 70, 0, 671), (11, 190, 40, 0, 675), (11, 194, 163, 0, 691), (11, 197, 45, 0, 745), (11, 201, 2, 1, 753), (11, 206, 46, 0, 754), (11, 212, 65, 0, 763), (11, 215, 164, 0, 764), (11, 218, 165, 0, 769), (11, 224, 60, 0, 777), (11, 239, 162, 0, 785), (11, 243, 158, 0, 789), (11, 246, 62, 0, 802), (11, 249, 41, 0, 810), (11, 262, 75, 0, 822), (11, 266, 7, 0, 834), (11, 269, 8, 0, 853), (11, 272, 9, 0, 861), (11, 275, 12, 0, 881), (11, 278, 18, 0, 917), (11, 281, 22, 0, 937), (11, 284, 24, 0, 953), (11, 287, 26, 0, 1278), (11, 290, 87, 0, 968), (11, 293, 88, 0, 988), (11, 296, 89, 0, 997), (11, 299, 90, 0, 1005), (11, 302, 37, 0, 1019), (11, 307, 52, 0, 1031), (11, 311, 53, 0, 1057), (11, 321, 47, 0, 1058), (11, 325, 51, 0, 1066), (11, 329, 0, 1, 1075), (11, 334, 94, 0, 1088), (11, 337, 95, 0, 1108), (11, 341, 76, 0, 1116), (11, 344, 27, 0, 1124), (11, 347, 29, 0, 1160), (11, 350, 43, 0, 1168), (11, 354, 44, 0, 1176), (11, 371, 30, 0, 695), (11, 378, 66, 0, 768), (12, 7, 171, 1, 1872), (12, 18, 172, 0, 1650), (12, 120, 168, 1, 1447), (12, 124, 174, 0, 1555), (12, 128, 169, 1, 1587), (12, 141, 3, 1, 1458), (12, 150, 170, 1, 1477), (12, 158, 180, 0, 1463), (12, 174, 182, 0, 1481), (12, 178, 179, 0, 1473), (12, 181, 181, 0, 1469), (12, 190, 184, 0, 1533), (12, 193, 178, 0, 1454), (12, 196, 185, 0, 1459), (12, 199, 183, 0, 1538), (12, 203, 187, 0, 1542), (12, 210, 188, 0, 1546), (12, 216, 191, 0, 1567), (12, 219, 190, 0, 1571), (12, 225, 192, 0, 1563), (12, 235, 194, 0, 1606), (12, 239, 196, 1, 1599), (12, 243, 195, 0, 1602), (12, 247, 197, 0, 1595), (12, 254, 2, 1, 1594), (12, 259, 167, 0, 1583), (12, 262, 199, 0, 1590), (12, 276, 206, 0, 1646), (12, 279, 208, 0, 1638), (12, 282, 205, 0, 1642), (12, 288, 198, 0, 1659), (12, 294, 212, 0, 1667), (12, 297, 175, 0, 1683), (12, 300, 216, 0, 1687), (12, 303, 207, 1, 1714), (12, 307, 222, 0, 1721), (12, 310, 224, 1, 1707), (12, 313, 221, 0, 1710), (12, 316, 223, 0, 1717), (12, 323, 0, 1, 1743), (12, 328, 230, 0, 1754), (12, 335, 231, 0, 1750), (12, 338, 233, 0, 1762), (12, 343, 237, 1, 1778), (12, 346, 238, 0, 1782), (12, 354, 245, 0, 1815), (12, 357, 247, 0, 1819), (12, 361, 246, 0, 1811), (12, 365, 250, 0, 1831), (12, 371, 255, 0, 1851), (12, 378, 173, 0, 1868), (12, 382, 259, 0, 1875), (12, 388, 264, 0, 1897), (13, 32, 108, 0, 509), (13, 36, 176, 0, 1439), (13, 37, 109, 0, 517), (13, 41, 177, 0, 1443), (13, 42, 110, 0, 521), (13, 46, 186, 0, 1450), (13, 47, 111, 0, 587), (13, 50, 193, 0, 1559), (13, 51, 112, 0, 630), (13, 54, 189, 0, 1551), (13, 60, 200, 0, 1578), (13, 61, 166, 0, 1289), (13, 66, 201, 0, 1610), (13, 67, 115, 0, 642), (13, 71, 202, 0, 1614), (13, 72, 116, 0, 649), (13, 76, 203, 0, 1621), (13, 77, 117, 0, 653), (13, 81, 204, 0, 1626), (13, 82, 118, 0, 667), (13, 85, 210, 0, 1634), (13, 86, 119, 0, 755), (13, 89, 211, 0, 1654), (13, 90, 120, 0, 759), (13, 93, 213, 0, 1663), (13, 94, 121, 0, 773), (13, 97, 214, 0, 1671), (13, 100, 215, 0, 1675), (13, 101, 123, 0, 781), (13, 104, 217, 0, 1679), (13, 105, 124, 0, 794), (13, 108, 218, 0, 1691), (13, 109, 125, 0, 798), (13, 112, 219, 0, 1695), (13, 113, 126, 0, 806), (13, 116, 209, 0, 1630), (13, 117, 127, 0, 814), (13, 120, 220, 0, 1699), (13, 121, 128, 0, 818), (13, 124, 225, 0, 1703), (13, 125, 129, 0, 830), (13, 128, 226, 0, 1725), (13, 129, 130, 0, 849), (13, 132, 227, 0, 1729), (13, 133, 131, 0, 857), (13, 136, 228, 0, 1733), (13, 137, 132, 0, 877), (13, 140, 229, 0, 1738), (13, 141, 133, 0, 913), (13, 144, 232, 0, 1744), (13, 145, 134, 0, 933), (13, 148, 234, 0, 1758), (13, 149, 135, 0, 949), (13, 152, 235, 0, 1766), (13, 155, 236, 0, 1770), (13, 156, 137, 0, 964), (13, 159, 239, 0, 1774), (13, 160, 138, 0, 984), (13, 163, 240, 0, 1786), (13, 164, 139, 0, 993), (13, 167, 241, 0, 1790), (13, 168, 140, 0, 1001), (13, 171, 242, 0, 1794), (13, 172, 141, 0, 1015), (13, 175, 243, 0, 1798), (13, 176, 142, 0, 1023), (13, 179, 244, 0, 1803), (13, 180, 143, 0, 1027), (13, 183, 248, 0, 1807), (13, 184, 144, 0, 1053), (13, 187, 249, 0, 1823), (13, 188, 145, 0, 1062), (13, 191, 251, 0, 1827), (13, 192, 146, 0, 1071), (13, 195, 252, 0, 1835), (13, 196, 147, 0, 1076), (13, 199, 253, 0, 1839), (13, 200, 148, 0, 1080), (13, 203, 254, 0, 1843), (13, 204, 149, 0, 1084), (13, 207, 256, 0, 1847), (13, 208, 150, 0, 1104), (13, 211, 257, 0, 1855), (13, 212, 151, 0, 1112), (13, 215, 258, 0, 1859), (13, 216, 152, 0, 1120), (13, 219, 260, 0, 1863), (13, 220, 153, 0, 1156), (13, 223, 261, 0, 1881), (13, 224, 154, 0, 1164), (13, 227, 262, 0, 1885), (13, 228, 155, 0, 1172), (13, 231, 263, 0, 1889), (13, 232, 156, 0, 1181), (13, 235, 265, 0, 1893), (13, 239, 266, 0, 1901)]
/-- own class, index, 0 int 1 long 2 long below 0, number, place of the word -/
def hs_kl : List (Nat × (Nat × (Nat × (Nat × Nat)))) := [(0, 194, 1, 100000000, 1150), (0, 200, 1, 10000000000000000, 1155), (1, 80, 1, 100000000, 1144), (1, 89, 1, 10, 1149), (12, 154, 1, 48, 1467), (12, 156, 1, 57, 1468), (12, 257, 1, 7, 1582), (12, 265, 1, 999, 1618), (12, 267, 1, 3, 1619), (12, 269, 1, 9, 1620), (12, 271, 2, 9, 1625), (12, 286, 1, 99, 1658), (12, 319, 1, 12, 1737), (12, 321, 1, 10, 1742), (12, 331, 1, 4, 1748), (12, 333, 1, 20, 1749), (12, 341, 1, 60, 1781), (12, 349, 1, 1010, 1802), (12, 374, 1, 100000000, 1879), (12, 376, 1, 2, 1867), (12, 386, 1, 10000000000000000, 1880), (14, 265, 0, 1431655765, 896), (14, 266, 0, 858993459, 897), (14, 267, 0, 252645135, 898)]
def hs_al : List (Nat × (Nat × Nat)) := [(6, 49, 690), (8, 59, 568), (10, 41, 629)]
def hs_sl : List (Nat × (Nat × (Nat × Nat))) := [(12, 162, 0, 1485), (12, 168, 1, 1495)]
/-- how many there are of a kind -/
def hs_num (κ : Nat) : Nat := (hs_nth [1, 1, 2, 1, 1, 1, 37, 1, 1, 1, 1, 1, 1, 1, 1, 1, 1, 1, 1, 1, 1, 1, 1, 1, 37, 37, 37, 37, 37, 37, 1, 1, 1, 2, 2, 1, 1, 1, 1, 1, 1, 1, 1, 1, 1, 1, 1, 1, 1, 1, 1, 1, 1, 1, 1, 1, 1, 1, 1, 1, 1, 1, 1, 1, 1, 1, 1, 1, 1, 1, 1] κ).getD 0
