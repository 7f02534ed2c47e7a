def RX0 : String := "RowCode"
def TX0 : u_T := fun k => match k with
  | _ => ("", "", "", false)
def tyX0 : Nat → FieldType := fun k => match k with
  | _ => .int
theorem nmX0 : ∀ a, a < 0 → ∀ b, b < 0 → a ≠ b → (TX0 a).2.1 ≠ (TX0 b).2.1 := by decide +kernel
theorem tyX0_ok : ∀ k, k < 0 → parseFieldDescriptor (TX0 k).2.2.1 = some (tyX0 k) := by decide +kernel
theorem inX0 : ∀ w ∈ u_ws RX0 TX0 0, w ∈ lw_tbl := by decide +kernel
def RX1 : String := "RowCode$Code"
def TX1 : u_T := fun k => match k with
  | 0 => ("RowCode$Code", "numbers", "LRowCode$Numbers;", true)
  | _ => ("RowCode$Code", "arguments", "LRowCode$Numbers;", true)
def tyX1 : Nat → FieldType := fun k => match k with
  | 0 => .object "RowCode$Numbers"
  | _ => .object "RowCode$Numbers"
theorem nmX1 : ∀ a, a < 2 → ∀ b, b < 2 → a ≠ b → (TX1 a).2.1 ≠ (TX1 b).2.1 := by decide +kernel
theorem tyX1_ok : ∀ k, k < 2 → parseFieldDescriptor (TX1 k).2.2.1 = some (tyX1 k) := by decide +kernel
theorem inX1 : ∀ w ∈ u_ws RX1 TX1 2, w ∈ lw_tbl := by decide +kernel
def RX2 : String := "RowCode$Improver"
def TX2 : u_T := fun k => match k with
  | 0 => ("RowCode$Improver", "places", "LRowCode$Numbers;", true)
  | 1 => ("RowCode$Improver", "uses", "LRowCode$Numbers;", true)
  | 2 => ("RowCode$Improver", "from", "LRowCode$Code;", false)
  | _ => ("RowCode$Improver", "into", "LRowCode$Code;", false)
def tyX2 : Nat → FieldType := fun k => match k with
  | 0 => .object "RowCode$Numbers"
  | 1 => .object "RowCode$Numbers"
  | 2 => .object "RowCode$Code"
  | _ => .object "RowCode$Code"
theorem nmX2 : ∀ a, a < 4 → ∀ b, b < 4 → a ≠ b → (TX2 a).2.1 ≠ (TX2 b).2.1 := by decide +kernel
theorem tyX2_ok : ∀ k, k < 4 → parseFieldDescriptor (TX2 k).2.2.1 = some (tyX2 k) := by decide +kernel
theorem inX2 : ∀ w ∈ u_ws RX2 TX2 4, w ∈ lw_tbl := by decide +kernel
def RX3 : String := "RowCode$Judge"
def TX3 : u_T := fun k => match k with
  | 0 => ("RowCode$Judge", "code", "LRowCode$Code;", true)
  | 1 => ("RowCode$Judge", "places", "LRowCode$Numbers;", true)
  | 2 => ("RowCode$Judge", "depths", "LRowCode$Numbers;", true)
  | 3 => ("RowCode$Judge", "comers", "LRowCode$Numbers;", true)
  | 4 => ("RowCode$Judge", "waiting", "LRowCode$Numbers;", true)
  | 5 => ("RowCode$Judge", "isJudged", "Z", false)
  | _ => ("RowCode$Judge", "isRight", "Z", false)
def tyX3 : Nat → FieldType := fun k => match k with
  | 0 => .object "RowCode$Code"
  | 1 => .object "RowCode$Numbers"
  | 2 => .object "RowCode$Numbers"
  | 3 => .object "RowCode$Numbers"
  | 4 => .object "RowCode$Numbers"
  | 5 => .boolean
  | _ => .boolean
theorem nmX3 : ∀ a, a < 7 → ∀ b, b < 7 → a ≠ b → (TX3 a).2.1 ≠ (TX3 b).2.1 := by decide +kernel
theorem tyX3_ok : ∀ k, k < 7 → parseFieldDescriptor (TX3 k).2.2.1 = some (tyX3 k) := by decide +kernel
theorem inX3 : ∀ w ∈ u_ws RX3 TX3 7, w ∈ lw_tbl := by decide +kernel
def RX4 : String := "RowCode$Machine"
def TX4 : u_T := fun k => match k with
  | 0 => ("RowCode$Machine", "memory", "LRowCode$Memory;", true)
  | 1 => ("RowCode$Machine", "slots", "LRowCode$Numbers;", true)
  | 2 => ("RowCode$Machine", "a", "I", false)
  | 3 => ("RowCode$Machine", "b", "I", false)
  | 4 => ("RowCode$Machine", "at", "I", false)
  | 5 => ("RowCode$Machine", "state", "I", false)
  | 6 => ("RowCode$Machine", "endValue", "I", false)
  | _ => ("RowCode$Machine", "fuelLeft", "I", false)
def tyX4 : Nat → FieldType := fun k => match k with
  | 0 => .object "RowCode$Memory"
  | 1 => .object "RowCode$Numbers"
  | 2 => .int
  | 3 => .int
  | 4 => .int
  | 5 => .int
  | 6 => .int
  | _ => .int
theorem nmX4 : ∀ a, a < 8 → ∀ b, b < 8 → a ≠ b → (TX4 a).2.1 ≠ (TX4 b).2.1 := by decide +kernel
theorem tyX4_ok : ∀ k, k < 8 → parseFieldDescriptor (TX4 k).2.2.1 = some (tyX4 k) := by decide +kernel
theorem inX4 : ∀ w ∈ u_ws RX4 TX4 8, w ∈ lw_tbl := by decide +kernel
def RX5 : String := "RowCode$Memory"
def TX5 : u_T := fun k => match k with
  | 0 => ("RowCode$Memory", "locals", "[I", true)
  | _ => ("RowCode$Memory", "words", "[I", true)
def tyX5 : Nat → FieldType := fun k => match k with
  | 0 => .array .int
  | _ => .array .int
theorem nmX5 : ∀ a, a < 2 → ∀ b, b < 2 → a ≠ b → (TX5 a).2.1 ≠ (TX5 b).2.1 := by decide +kernel
theorem tyX5_ok : ∀ k, k < 2 → parseFieldDescriptor (TX5 k).2.2.1 = some (tyX5 k) := by decide +kernel
theorem inX5 : ∀ w ∈ u_ws RX5 TX5 2, w ∈ lw_tbl := by decide +kernel
def RX6 : String := "RowCode$Numbers"
def TX6 : u_T := fun k => match k with
  | 0 => ("RowCode$Numbers", "items", "[I", false)
  | _ => ("RowCode$Numbers", "count", "I", false)
def tyX6 : Nat → FieldType := fun k => match k with
  | 0 => .array .int
  | _ => .int
theorem nmX6 : ∀ a, a < 2 → ∀ b, b < 2 → a ≠ b → (TX6 a).2.1 ≠ (TX6 b).2.1 := by decide +kernel
theorem tyX6_ok : ∀ k, k < 2 → parseFieldDescriptor (TX6 k).2.2.1 = some (tyX6 k) := by decide +kernel
theorem inX6 : ∀ w ∈ u_ws RX6 TX6 2, w ∈ lw_tbl := by decide +kernel
def RX7 : String := "RowCode$Program"
def TX7 : u_T := fun k => match k with
  | 0 => ("RowCode$Program", "numbers", "LRowCode$Numbers;", true)
  | 1 => ("RowCode$Program", "arguments", "LRowCode$Numbers;", true)
  | _ => ("RowCode$Program", "places", "LRowCode$Numbers;", true)
def tyX7 : Nat → FieldType := fun k => match k with
  | 0 => .object "RowCode$Numbers"
  | 1 => .object "RowCode$Numbers"
  | _ => .object "RowCode$Numbers"
theorem nmX7 : ∀ a, a < 3 → ∀ b, b < 3 → a ≠ b → (TX7 a).2.1 ≠ (TX7 b).2.1 := by decide +kernel
theorem tyX7_ok : ∀ k, k < 3 → parseFieldDescriptor (TX7 k).2.2.1 = some (tyX7 k) := by decide +kernel
theorem inX7 : ∀ w ∈ u_ws RX7 TX7 3, w ∈ lw_tbl := by decide +kernel
def RX8 : String := "RowCode$Translator"
def TX8 : u_T := fun k => match k with
  | 0 => ("RowCode$Translator", "image", "LRowCode$Numbers;", true)
  | 1 => ("RowCode$Translator", "kinds", "LRowCode$Numbers;", true)
  | 2 => ("RowCode$Translator", "details", "LRowCode$Numbers;", true)
  | 3 => ("RowCode$Translator", "inA", "I", false)
  | _ => ("RowCode$Translator", "inB", "I", false)
def tyX8 : Nat → FieldType := fun k => match k with
  | 0 => .object "RowCode$Numbers"
  | 1 => .object "RowCode$Numbers"
  | 2 => .object "RowCode$Numbers"
  | 3 => .int
  | _ => .int
theorem nmX8 : ∀ a, a < 5 → ∀ b, b < 5 → a ≠ b → (TX8 a).2.1 ≠ (TX8 b).2.1 := by decide +kernel
theorem tyX8_ok : ∀ k, k < 5 → parseFieldDescriptor (TX8 k).2.2.1 = some (tyX8 k) := by decide +kernel
theorem inX8 : ∀ w ∈ u_ws RX8 TX8 5, w ∈ lw_tbl := by decide +kernel
def RX9 : String := "RowCode"
def TX9 : u_T := fun k => match k with
  | 0 => ("RowCode", "code", "LRowCode$Code;", true)
  | 1 => ("RowCode", "judge", "LRowCode$Judge;", true)
  | 2 => ("RowCode", "improver", "LRowCode$Improver;", true)
  | 3 => ("RowCode", "translator", "LRowCode$Translator;", true)
  | 4 => ("RowCode", "program", "LRowCode$Program;", true)
  | 5 => ("RowCode", "memory", "LRowCode$Memory;", true)
  | 6 => ("RowCode", "machine", "LRowCode$Machine;", true)
  | _ => ("RowCode", "isLoaded", "Z", false)
def tyX9 : Nat → FieldType := fun k => match k with
  | 0 => .object "RowCode$Code"
  | 1 => .object "RowCode$Judge"
  | 2 => .object "RowCode$Improver"
  | 3 => .object "RowCode$Translator"
  | 4 => .object "RowCode$Program"
  | 5 => .object "RowCode$Memory"
  | 6 => .object "RowCode$Machine"
  | _ => .boolean
theorem nmX9 : ∀ a, a < 8 → ∀ b, b < 8 → a ≠ b → (TX9 a).2.1 ≠ (TX9 b).2.1 := by decide +kernel
theorem tyX9_ok : ∀ k, k < 8 → parseFieldDescriptor (TX9 k).2.2.1 = some (tyX9 k) := by decide +kernel
theorem inX9 : ∀ w ∈ u_ws RX9 TX9 8, w ∈ lw_tbl := by decide +kernel
def RX10 : String := "RowCodeModel"
def TX10 : u_T := fun k => match k with
  | 0 => ("RowCodeModel", "thrown", "I", false)
  | 1 => ("RowCodeModel", "size", "I", false)
  | 2 => ("RowCodeModel", "numbers", "[I", true)
  | 3 => ("RowCodeModel", "args", "[I", true)
  | 4 => ("RowCodeModel", "locals", "[I", true)
  | 5 => ("RowCodeModel", "words", "[I", true)
  | 6 => ("RowCodeModel", "value", "I", false)
  | 7 => ("RowCodeModel", "fuel", "I", false)
  | 8 => ("RowCodeModel", "heights", "[I", true)
  | 9 => ("RowCodeModel", "gone", "[Z", true)
  | 10 => ("RowCodeModel", "row", "[I", true)
  | _ => ("RowCodeModel", "high", "I", false)
def tyX10 : Nat → FieldType := fun k => match k with
  | 0 => .int
  | 1 => .int
  | 2 => .array .int
  | 3 => .array .int
  | 4 => .array .int
  | 5 => .array .int
  | 6 => .int
  | 7 => .int
  | 8 => .array .int
  | 9 => .array .boolean
  | 10 => .array .int
  | _ => .int
theorem nmX10 : ∀ a, a < 12 → ∀ b, b < 12 → a ≠ b → (TX10 a).2.1 ≠ (TX10 b).2.1 := by decide +kernel
theorem tyX10_ok : ∀ k, k < 12 → parseFieldDescriptor (TX10 k).2.2.1 = some (tyX10 k) := by decide +kernel
theorem inX10 : ∀ w ∈ u_ws RX10 TX10 12, w ∈ lw_tbl := by decide +kernel
abbrev mx_cl : List vw_C := [(RX0, TX0, 0), (RX1, TX1, 2), (RX2, TX2, 4), (RX3, TX3, 7), (RX4, TX4, 8), (RX5, TX5, 2), (RX6, TX6, 2), (RX7, TX7, 3), (RX8, TX8, 5), (RX9, TX9, 8), (RX10, TX10, 12)]
