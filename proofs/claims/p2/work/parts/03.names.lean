-- names, fields, word lists of the classes and methods that the rows speak of (out of the printed names of this claim)
def RX0 : String := "SsaForge$Code"
def TX0 : u_T := fun k => match k with
  | 0 => ("SsaForge$Code", "blocks", "I", false)
  | 1 => ("SsaForge$Code", "rows", "I", false)
  | 2 => ("SsaForge$Code", "phis", "I", false)
  | 3 => ("SsaForge$Code", "argCount", "I", false)
  | 4 => ("SsaForge$Code", "rowStart", "[I", true)
  | 5 => ("SsaForge$Code", "op", "[I", true)
  | 6 => ("SsaForge$Code", "target", "[I", true)
  | 7 => ("SsaForge$Code", "left", "[J", true)
  | 8 => ("SsaForge$Code", "right", "[J", true)
  | 9 => ("SsaForge$Code", "endKind", "[I", true)
  | 10 => ("SsaForge$Code", "endUse", "[J", true)
  | 11 => ("SsaForge$Code", "goalOne", "[I", true)
  | 12 => ("SsaForge$Code", "goalTwo", "[I", true)
  | 13 => ("SsaForge$Code", "predStart", "[I", true)
  | 14 => ("SsaForge$Code", "preds", "[I", true)
  | 15 => ("SsaForge$Code", "phiStart", "[I", true)
  | 16 => ("SsaForge$Code", "phiTarget", "[I", true)
  | 17 => ("SsaForge$Code", "argStart", "[I", true)
  | _ => ("SsaForge$Code", "args", "[J", false)
def tyX0 : Nat → FieldType := fun k => match k with
  | 0 => .int
  | 1 => .int
  | 2 => .int
  | 3 => .int
  | 4 => .array .int
  | 5 => .array .int
  | 6 => .array .int
  | 7 => .array .long
  | 8 => .array .long
  | 9 => .array .int
  | 10 => .array .long
  | 11 => .array .int
  | 12 => .array .int
  | 13 => .array .int
  | 14 => .array .int
  | 15 => .array .int
  | 16 => .array .int
  | 17 => .array .int
  | _ => .array .long
abbrev wsX00 : List Cond := u_ws RX0 TX0 19
theorem nmX0 : ∀ a, a < 19 → ∀ b, b < 19 → a ≠ b → (TX0 a).2.1 ≠ (TX0 b).2.1 := by decide +kernel
theorem tyX0_ok : ∀ k, k < 19 → parseFieldDescriptor (TX0 k).2.2.1 = some (tyX0 k) := by decide +kernel
theorem df_X0 : ∀ j, j < 19 → defaultValue (tyX0 j) = vp_V [.int 0, .int 0, .int 0, .int 0, .null, .null, .null, .null, .null, .null, .null, .null, .null, .null, .null, .null, .null, .null, .null] j := by decide +kernel
def RX1 : String := "SsaForge$Constants"
def TX1 : u_T := fun k => match k with
  | 0 => ("SsaForge$Constants", "gone", "[Z", true)
  | 1 => ("SsaForge$Constants", "firstOpen", "[Z", true)
  | 2 => ("SsaForge$Constants", "secondOpen", "[Z", true)
  | 3 => ("SsaForge$Constants", "kinds", "[I", true)
  | 4 => ("SsaForge$Constants", "instead", "[J", true)
  | _ => ("SsaForge$Constants", "changed", "Z", false)
def tyX1 : Nat → FieldType := fun k => match k with
  | 0 => .array .boolean
  | 1 => .array .boolean
  | 2 => .array .boolean
  | 3 => .array .int
  | 4 => .array .long
  | _ => .boolean
abbrev wsX10 : List Cond := u_ws RX1 TX1 6
theorem nmX1 : ∀ a, a < 6 → ∀ b, b < 6 → a ≠ b → (TX1 a).2.1 ≠ (TX1 b).2.1 := by decide +kernel
theorem tyX1_ok : ∀ k, k < 6 → parseFieldDescriptor (TX1 k).2.2.1 = some (tyX1 k) := by decide +kernel
theorem df_X1 : ∀ j, j < 6 → defaultValue (tyX1 j) = vp_V [.null, .null, .null, .null, .null, .int 0] j := by decide +kernel
def RX2 : String := "SsaForge$Flow"
def TX2 : u_T := fun k => match k with
  | 0 => ("SsaForge$Flow", "reached", "I", false)
  | 1 => ("SsaForge$Flow", "idom", "[I", true)
  | 2 => ("SsaForge$Flow", "order", "[I", true)
  | 3 => ("SsaForge$Flow", "inLoop", "[Z", true)
  | 4 => ("SsaForge$Flow", "place", "[I", true)
  | 5 => ("SsaForge$Flow", "span", "[I", true)
  | 6 => ("SsaForge$Flow", "frontier", "[J", true)
  | 7 => ("SsaForge$Flow", "stack", "[I", true)
  | 8 => ("SsaForge$Flow", "nextGoal", "[I", true)
  | 9 => ("SsaForge$Flow", "post", "[I", true)
  | 10 => ("SsaForge$Flow", "byPost", "[I", true)
  | 11 => ("SsaForge$Flow", "firstChild", "[I", true)
  | _ => ("SsaForge$Flow", "nextChild", "[I", true)
def tyX2 : Nat → FieldType := fun k => match k with
  | 0 => .int
  | 1 => .array .int
  | 2 => .array .int
  | 3 => .array .boolean
  | 4 => .array .int
  | 5 => .array .int
  | 6 => .array .long
  | 7 => .array .int
  | 8 => .array .int
  | 9 => .array .int
  | 10 => .array .int
  | 11 => .array .int
  | _ => .array .int
abbrev wsX20 : List Cond := u_ws RX2 TX2 13
theorem nmX2 : ∀ a, a < 13 → ∀ b, b < 13 → a ≠ b → (TX2 a).2.1 ≠ (TX2 b).2.1 := by decide +kernel
theorem tyX2_ok : ∀ k, k < 13 → parseFieldDescriptor (TX2 k).2.2.1 = some (tyX2 k) := by decide +kernel
theorem df_X2 : ∀ j, j < 13 → defaultValue (tyX2 j) = vp_V [.int 0, .null, .null, .null, .null, .null, .null, .null, .null, .null, .null, .null, .null] j := by decide +kernel
def RX3 : String := "SsaForge$Likes"
def TX3 : u_T := fun k => match k with
  | 0 => ("SsaForge$Likes", "instead", "[J", true)
  | 1 => ("SsaForge$Likes", "standing", "[I", true)
  | 2 => ("SsaForge$Likes", "standingCount", "I", false)
  | 3 => ("SsaForge$Likes", "path", "[I", true)
  | _ => ("SsaForge$Likes", "pathMark", "[I", true)
def tyX3 : Nat → FieldType := fun k => match k with
  | 0 => .array .long
  | 1 => .array .int
  | 2 => .int
  | 3 => .array .int
  | _ => .array .int
abbrev wsX30 : List Cond := u_ws RX3 TX3 5
theorem nmX3 : ∀ a, a < 5 → ∀ b, b < 5 → a ≠ b → (TX3 a).2.1 ≠ (TX3 b).2.1 := by decide +kernel
theorem tyX3_ok : ∀ k, k < 5 → parseFieldDescriptor (TX3 k).2.2.1 = some (tyX3 k) := by decide +kernel
theorem df_X3 : ∀ j, j < 5 → defaultValue (tyX3 j) = vp_V [.null, .null, .int 0, .null, .null] j := by decide +kernel
def RX4 : String := "SsaForge$Live"
def TX4 : u_T := fun k => match k with
  | 0 => ("SsaForge$Live", "words", "I", false)
  | 1 => ("SsaForge$Live", "start", "[J", true)
  | 2 => ("SsaForge$Live", "finish", "[J", true)
  | 3 => ("SsaForge$Live", "sets", "[J", true)
  | 4 => ("SsaForge$Live", "uses", "[J", true)
  | 5 => ("SsaForge$Live", "phiSets", "[J", true)
  | 6 => ("SsaForge$Live", "phiUses", "[J", true)
  | _ => ("SsaForge$Live", "now", "[J", true)
def tyX4 : Nat → FieldType := fun k => match k with
  | 0 => .int
  | 1 => .array .long
  | 2 => .array .long
  | 3 => .array .long
  | 4 => .array .long
  | 5 => .array .long
  | 6 => .array .long
  | _ => .array .long
abbrev wsX40 : List Cond := u_ws RX4 TX4 8
theorem nmX4 : ∀ a, a < 8 → ∀ b, b < 8 → a ≠ b → (TX4 a).2.1 ≠ (TX4 b).2.1 := by decide +kernel
theorem tyX4_ok : ∀ k, k < 8 → parseFieldDescriptor (TX4 k).2.2.1 = some (tyX4 k) := by decide +kernel
theorem df_X4 : ∀ j, j < 8 → defaultValue (tyX4 j) = vp_V [.int 0, .null, .null, .null, .null, .null, .null, .null] j := by decide +kernel
def RX5 : String := "SsaForge$Machine"
def TX5 : u_T := fun k => match k with
  | 0 => ("SsaForge$Machine", "inputLength", "I", false)
  | 1 => ("SsaForge$Machine", "answer", "I", false)
  | 2 => ("SsaForge$Machine", "shownCount", "I", false)
  | 3 => ("SsaForge$Machine", "steps", "I", false)
  | 4 => ("SsaForge$Machine", "inputRead", "I", false)
  | 5 => ("SsaForge$Machine", "ending", "I", false)
  | 6 => ("SsaForge$Machine", "shownInts", "[I", true)
  | 7 => ("SsaForge$Machine", "inputInts", "[I", true)
  | 8 => ("SsaForge$Machine", "register", "[I", true)
  | 9 => ("SsaForge$Machine", "phiValue", "[I", true)
  | _ => ("SsaForge$Machine", "fuel", "I", false)
def tyX5 : Nat → FieldType := fun k => match k with
  | 0 => .int
  | 1 => .int
  | 2 => .int
  | 3 => .int
  | 4 => .int
  | 5 => .int
  | 6 => .array .int
  | 7 => .array .int
  | 8 => .array .int
  | 9 => .array .int
  | _ => .int
abbrev wsX50 : List Cond := u_ws RX5 TX5 11
theorem nmX5 : ∀ a, a < 11 → ∀ b, b < 11 → a ≠ b → (TX5 a).2.1 ≠ (TX5 b).2.1 := by decide +kernel
theorem tyX5_ok : ∀ k, k < 11 → parseFieldDescriptor (TX5 k).2.2.1 = some (tyX5 k) := by decide +kernel
theorem df_X5 : ∀ j, j < 11 → defaultValue (tyX5 j) = vp_V [.int 0, .int 0, .int 0, .int 0, .int 0, .int 0, .null, .null, .null, .null, .int 0] j := by decide +kernel
def RX6 : String := "SsaForge$Printer"
def TX6 : u_T := fun k => match k with
  | 0 => ("SsaForge$Printer", "length", "I", false)
  | 1 => ("SsaForge$Printer", "result", "[B", false)
  | 2 => ("SsaForge$Printer", "digits", "[I", true)
  | 3 => ("SsaForge$Printer", "keeping", "Z", false)
  | _ => ("SsaForge$Printer", "at", "I", false)
def tyX6 : Nat → FieldType := fun k => match k with
  | 0 => .int
  | 1 => .array .byte
  | 2 => .array .int
  | 3 => .boolean
  | _ => .int
abbrev wsX60 : List Cond := u_ws RX6 TX6 5
theorem nmX6 : ∀ a, a < 5 → ∀ b, b < 5 → a ≠ b → (TX6 a).2.1 ≠ (TX6 b).2.1 := by decide +kernel
theorem tyX6_ok : ∀ k, k < 5 → parseFieldDescriptor (TX6 k).2.2.1 = some (tyX6 k) := by decide +kernel
theorem df_X6 : ∀ j, j < 5 → defaultValue (tyX6 j) = vp_V [.int 0, .null, .null, .int 0, .int 0] j := by decide +kernel
def RX7 : String := "SsaForge$Reader"
def TX7 : u_T := fun k => match k with
  | 0 => ("SsaForge$Reader", "reason", "I", false)
  | 1 => ("SsaForge$Reader", "bytes", "[B", false)
  | 2 => ("SsaForge$Reader", "length", "I", false)
  | 3 => ("SsaForge$Reader", "at", "I", false)
  | 4 => ("SsaForge$Reader", "kind", "I", false)
  | 5 => ("SsaForge$Reader", "place", "I", false)
  | 6 => ("SsaForge$Reader", "value", "I", false)
  | 7 => ("SsaForge$Reader", "state", "I", false)
  | 8 => ("SsaForge$Reader", "code", "LSsaForge$Code;", false)
  | 9 => ("SsaForge$Reader", "rowCount", "I", false)
  | 10 => ("SsaForge$Reader", "blockCount", "I", false)
  | 11 => ("SsaForge$Reader", "rowTarget", "I", false)
  | 12 => ("SsaForge$Reader", "rowOp", "I", false)
  | 13 => ("SsaForge$Reader", "operand", "J", false)
  | 14 => ("SsaForge$Reader", "firstGoal", "I", false)
  | 15 => ("SsaForge$Reader", "brokenPlace", "I", false)
  | 16 => ("SsaForge$Reader", "labelled", "[Z", true)
  | _ => ("SsaForge$Reader", "goalPlace", "[I", true)
def tyX7 : Nat → FieldType := fun k => match k with
  | 0 => .int
  | 1 => .array .byte
  | 2 => .int
  | 3 => .int
  | 4 => .int
  | 5 => .int
  | 6 => .int
  | 7 => .int
  | 8 => .object "SsaForge$Code"
  | 9 => .int
  | 10 => .int
  | 11 => .int
  | 12 => .int
  | 13 => .long
  | 14 => .int
  | 15 => .int
  | 16 => .array .boolean
  | _ => .array .int
abbrev wsX70 : List Cond := u_ws RX7 TX7 18
theorem nmX7 : ∀ a, a < 18 → ∀ b, b < 18 → a ≠ b → (TX7 a).2.1 ≠ (TX7 b).2.1 := by decide +kernel
theorem tyX7_ok : ∀ k, k < 18 → parseFieldDescriptor (TX7 k).2.2.1 = some (tyX7 k) := by decide +kernel
theorem df_X7 : ∀ j, j < 18 → defaultValue (tyX7 j) = vp_V [.int 0, .null, .int 0, .int 0, .int 0, .int 0, .int 0, .int 0, .null, .int 0, .int 0, .int 0, .int 0, .long 0, .int 0, .int 0, .null, .null] j := by decide +kernel
def RX8 : String := "SsaForge$SsaMaker"
def TX8 : u_T := fun k => match k with
  | 0 => ("SsaForge$SsaMaker", "wanted", "[J", true)
  | 1 => ("SsaForge$SsaMaker", "latest", "[I", true)
  | 2 => ("SsaForge$SsaMaker", "path", "[I", true)
  | 3 => ("SsaForge$SsaMaker", "pathMark", "[I", true)
  | 4 => ("SsaForge$SsaMaker", "hiddenRegister", "[I", true)
  | 5 => ("SsaForge$SsaMaker", "hiddenLatest", "[I", true)
  | 6 => ("SsaForge$SsaMaker", "hidden", "I", false)
  | _ => ("SsaForge$SsaMaker", "given", "I", false)
def tyX8 : Nat → FieldType := fun k => match k with
  | 0 => .array .long
  | 1 => .array .int
  | 2 => .array .int
  | 3 => .array .int
  | 4 => .array .int
  | 5 => .array .int
  | 6 => .int
  | _ => .int
abbrev wsX80 : List Cond := u_ws RX8 TX8 8
theorem nmX8 : ∀ a, a < 8 → ∀ b, b < 8 → a ≠ b → (TX8 a).2.1 ≠ (TX8 b).2.1 := by decide +kernel
theorem tyX8_ok : ∀ k, k < 8 → parseFieldDescriptor (TX8 k).2.2.1 = some (tyX8 k) := by decide +kernel
theorem df_X8 : ∀ j, j < 8 → defaultValue (tyX8 j) = vp_V [.null, .null, .null, .null, .null, .null, .int 0, .int 0] j := by decide +kernel
def RX9 : String := "SsaForge$Tidier"
def TX9 : u_T := fun k => match k with
  | 0 => ("SsaForge$Tidier", "leads", "[Z", true)
  | 1 => ("SsaForge$Tidier", "follower", "[I", true)
  | 2 => ("SsaForge$Tidier", "number", "[I", true)
  | 3 => ("SsaForge$Tidier", "firstOf", "[I", true)
  | 4 => ("SsaForge$Tidier", "lastOf", "[I", true)
  | 5 => ("SsaForge$Tidier", "marked", "[Z", true)
  | 6 => ("SsaForge$Tidier", "instead", "[J", true)
  | 7 => ("SsaForge$Tidier", "changed", "Z", false)
  | _ => ("SsaForge$Tidier", "foundBlock", "I", false)
def tyX9 : Nat → FieldType := fun k => match k with
  | 0 => .array .boolean
  | 1 => .array .int
  | 2 => .array .int
  | 3 => .array .int
  | 4 => .array .int
  | 5 => .array .boolean
  | 6 => .array .long
  | 7 => .boolean
  | _ => .int
abbrev wsX90 : List Cond := u_ws RX9 TX9 9
theorem nmX9 : ∀ a, a < 9 → ∀ b, b < 9 → a ≠ b → (TX9 a).2.1 ≠ (TX9 b).2.1 := by decide +kernel
theorem tyX9_ok : ∀ k, k < 9 → parseFieldDescriptor (TX9 k).2.2.1 = some (tyX9 k) := by decide +kernel
theorem df_X9 : ∀ j, j < 9 → defaultValue (tyX9 j) = vp_V [.null, .null, .null, .null, .null, .null, .null, .int 0, .int 0] j := by decide +kernel
def RX10 : String := "SsaForge$WayOut"
def TX10 : u_T := fun k => match k with
  | 0 => ("SsaForge$WayOut", "colour", "[I", true)
  | 1 => ("SsaForge$WayOut", "busy", "[I", true)
  | 2 => ("SsaForge$WayOut", "rowFlags", "[I", true)
  | 3 => ("SsaForge$WayOut", "now", "[J", true)
  | 4 => ("SsaForge$WayOut", "words", "I", false)
  | 5 => ("SsaForge$WayOut", "stamp", "I", false)
  | 6 => ("SsaForge$WayOut", "colours", "I", false)
  | 7 => ("SsaForge$WayOut", "present", "[Z", true)
  | 8 => ("SsaForge$WayOut", "moveTo", "[I", true)
  | 9 => ("SsaForge$WayOut", "moveFrom", "[J", true)
  | 10 => ("SsaForge$WayOut", "moved", "[Z", true)
  | 11 => ("SsaForge$WayOut", "waiting", "[I", true)
  | 12 => ("SsaForge$WayOut", "moves", "I", false)
  | _ => ("SsaForge$WayOut", "helper", "I", false)
def tyX10 : Nat → FieldType := fun k => match k with
  | 0 => .array .int
  | 1 => .array .int
  | 2 => .array .int
  | 3 => .array .long
  | 4 => .int
  | 5 => .int
  | 6 => .int
  | 7 => .array .boolean
  | 8 => .array .int
  | 9 => .array .long
  | 10 => .array .boolean
  | 11 => .array .int
  | 12 => .int
  | _ => .int
abbrev wsX100 : List Cond := u_ws RX10 TX10 14
theorem nmX10 : ∀ a, a < 14 → ∀ b, b < 14 → a ≠ b → (TX10 a).2.1 ≠ (TX10 b).2.1 := by decide +kernel
theorem tyX10_ok : ∀ k, k < 14 → parseFieldDescriptor (TX10 k).2.2.1 = some (tyX10 k) := by decide +kernel
theorem df_X10 : ∀ j, j < 14 → defaultValue (tyX10 j) = vp_V [.null, .null, .null, .null, .int 0, .int 0, .int 0, .null, .null, .null, .null, .null, .int 0, .int 0] j := by decide +kernel
def RX11 : String := "SsaForge"
def TX11 : u_T := fun k => match k with
  | 0 => ("SsaForge", "tape", "[B", true)
  | 1 => ("SsaForge", "tapeLength", "I", false)
  | 2 => ("SsaForge", "form", "I", false)
  | 3 => ("SsaForge", "code", "LSsaForge$Code;", false)
  | 4 => ("SsaForge", "spare", "LSsaForge$Code;", false)
  | 5 => ("SsaForge", "flow", "LSsaForge$Flow;", true)
  | 6 => ("SsaForge", "flowKnown", "Z", false)
  | 7 => ("SsaForge", "live", "LSsaForge$Live;", true)
  | 8 => ("SsaForge", "liveKnown", "Z", false)
  | 9 => ("SsaForge", "reader", "LSsaForge$Reader;", true)
  | 10 => ("SsaForge", "ssaMaker", "LSsaForge$SsaMaker;", true)
  | 11 => ("SsaForge", "constants", "LSsaForge$Constants;", true)
  | 12 => ("SsaForge", "likes", "LSsaForge$Likes;", true)
  | 13 => ("SsaForge", "tidier", "LSsaForge$Tidier;", true)
  | 14 => ("SsaForge", "wayOut", "LSsaForge$WayOut;", true)
  | 15 => ("SsaForge", "machine", "LSsaForge$Machine;", true)
  | _ => ("SsaForge", "printer", "LSsaForge$Printer;", true)
def tyX11 : Nat → FieldType := fun k => match k with
  | 0 => .array .byte
  | 1 => .int
  | 2 => .int
  | 3 => .object "SsaForge$Code"
  | 4 => .object "SsaForge$Code"
  | 5 => .object "SsaForge$Flow"
  | 6 => .boolean
  | 7 => .object "SsaForge$Live"
  | 8 => .boolean
  | 9 => .object "SsaForge$Reader"
  | 10 => .object "SsaForge$SsaMaker"
  | 11 => .object "SsaForge$Constants"
  | 12 => .object "SsaForge$Likes"
  | 13 => .object "SsaForge$Tidier"
  | 14 => .object "SsaForge$WayOut"
  | 15 => .object "SsaForge$Machine"
  | _ => .object "SsaForge$Printer"
abbrev wsX110 : List Cond := u_ws RX11 TX11 17
theorem nmX11 : ∀ a, a < 17 → ∀ b, b < 17 → a ≠ b → (TX11 a).2.1 ≠ (TX11 b).2.1 := by decide +kernel
theorem tyX11_ok : ∀ k, k < 17 → parseFieldDescriptor (TX11 k).2.2.1 = some (tyX11 k) := by decide +kernel
theorem df_X11 : ∀ j, j < 17 → defaultValue (tyX11 j) = vp_V [.null, .int 0, .int 0, .null, .null, .null, .int 0, .null, .int 0, .null, .null, .null, .null, .null, .null, .null, .null] j := by decide +kernel
def RX13 : String := "SsaForgeModel$Code"
def TX13 : u_T := fun k => match k with
  | 0 => ("SsaForgeModel$Code", "blocks", "Ljava/util/ArrayList;", true)
  | 1 => ("SsaForgeModel$Code", "rows", "Ljava/util/ArrayList;", true)
  | 2 => ("SsaForgeModel$Code", "phis", "Ljava/util/ArrayList;", true)
  | 3 => ("SsaForgeModel$Code", "rowN", "I", false)
  | 4 => ("SsaForgeModel$Code", "phiN", "I", false)
  | 5 => ("SsaForgeModel$Code", "all", "Ljava/util/ArrayList;", true)
  | _ => ("SsaForgeModel$Code", "made", "I", false)
def tyX13 : Nat → FieldType := fun k => match k with
  | 0 => .object "java/util/ArrayList"
  | 1 => .object "java/util/ArrayList"
  | 2 => .object "java/util/ArrayList"
  | 3 => .int
  | 4 => .int
  | 5 => .object "java/util/ArrayList"
  | _ => .int
abbrev wsX130 : List Cond := u_ws RX13 TX13 7
theorem nmX13 : ∀ a, a < 7 → ∀ b, b < 7 → a ≠ b → (TX13 a).2.1 ≠ (TX13 b).2.1 := by decide +kernel
theorem tyX13_ok : ∀ k, k < 7 → parseFieldDescriptor (TX13 k).2.2.1 = some (tyX13 k) := by decide +kernel
theorem df_X13 : ∀ j, j < 7 → defaultValue (tyX13 j) = vp_V [.null, .null, .null, .int 0, .int 0, .null, .int 0] j := by decide +kernel
def RX14 : String := "SsaForgeModel$Flow"
def TX14 : u_T := fun k => match k with
  | 0 => ("SsaForgeModel$Flow", "c", "LSsaForgeModel$Code;", false)
  | 1 => ("SsaForgeModel$Flow", "n", "I", false)
  | 2 => ("SsaForgeModel$Flow", "reached", "[Z", false)
  | 3 => ("SsaForgeModel$Flow", "dominates", "[[Z", false)
  | 4 => ("SsaForgeModel$Flow", "idom", "[I", false)
  | 5 => ("SsaForgeModel$Flow", "order", "[I", false)
  | 6 => ("SsaForgeModel$Flow", "ordered", "I", false)
  | 7 => ("SsaForgeModel$Flow", "stack", "[I", false)
  | 8 => ("SsaForgeModel$Flow", "depth", "[I", false)
  | 9 => ("SsaForgeModel$Flow", "seen", "[Z", false)
  | 10 => ("SsaForgeModel$Flow", "live", "[[Z", false)
  | 11 => ("SsaForgeModel$Flow", "now", "[Z", false)
  | _ => ("SsaForgeModel$Flow", "phi", "[Z", true)
def tyX14 : Nat → FieldType := fun k => match k with
  | 0 => .object "SsaForgeModel$Code"
  | 1 => .int
  | 2 => .array .boolean
  | 3 => .array (.array .boolean)
  | 4 => .array .int
  | 5 => .array .int
  | 6 => .int
  | 7 => .array .int
  | 8 => .array .int
  | 9 => .array .boolean
  | 10 => .array (.array .boolean)
  | 11 => .array .boolean
  | _ => .array .boolean
abbrev wsX140 : List Cond := u_ws RX14 TX14 13
theorem nmX14 : ∀ a, a < 13 → ∀ b, b < 13 → a ≠ b → (TX14 a).2.1 ≠ (TX14 b).2.1 := by decide +kernel
theorem tyX14_ok : ∀ k, k < 13 → parseFieldDescriptor (TX14 k).2.2.1 = some (tyX14 k) := by decide +kernel
theorem df_X14 : ∀ j, j < 13 → defaultValue (tyX14 j) = vp_V [.null, .int 0, .null, .null, .null, .null, .int 0, .null, .null, .null, .null, .null, .null] j := by decide +kernel
def RX16 : String := "SsaForgeModel$Reader"
def TX16 : u_T := fun k => match k with
  | 0 => ("SsaForgeModel$Reader", "t", "[B", true)
  | 1 => ("SsaForgeModel$Reader", "n", "I", true)
  | 2 => ("SsaForgeModel$Reader", "at", "I", false)
  | 3 => ("SsaForgeModel$Reader", "kind", "I", false)
  | 4 => ("SsaForgeModel$Reader", "place", "I", false)
  | 5 => ("SsaForgeModel$Reader", "value", "I", false)
  | 6 => ("SsaForgeModel$Reader", "before", "I", false)
  | 7 => ("SsaForgeModel$Reader", "text", "Ljava/lang/String;", false)
  | 8 => ("SsaForgeModel$Reader", "rulePlace", "I", false)
  | 9 => ("SsaForgeModel$Reader", "rule", "I", false)
  | 10 => ("SsaForgeModel$Reader", "rows", "I", false)
  | 11 => ("SsaForgeModel$Reader", "goalPlaces", "[I", false)
  | 12 => ("SsaForgeModel$Reader", "goals", "[I", false)
  | _ => ("SsaForgeModel$Reader", "goalN", "I", false)
def tyX16 : Nat → FieldType := fun k => match k with
  | 0 => .array .byte
  | 1 => .int
  | 2 => .int
  | 3 => .int
  | 4 => .int
  | 5 => .int
  | 6 => .int
  | 7 => .object "java/lang/String"
  | 8 => .int
  | 9 => .int
  | 10 => .int
  | 11 => .array .int
  | 12 => .array .int
  | _ => .int
abbrev wsX160 : List Cond := u_ws RX16 TX16 14
theorem nmX16 : ∀ a, a < 14 → ∀ b, b < 14 → a ≠ b → (TX16 a).2.1 ≠ (TX16 b).2.1 := by decide +kernel
theorem tyX16_ok : ∀ k, k < 14 → parseFieldDescriptor (TX16 k).2.2.1 = some (tyX16 k) := by decide +kernel
theorem df_X16 : ∀ j, j < 14 → defaultValue (tyX16 j) = vp_V [.null, .int 0, .int 0, .int 0, .int 0, .int 0, .int 0, .null, .int 0, .int 0, .int 0, .null, .null, .int 0] j := by decide +kernel
def RX18 : String := "SsaForgeModel$Wrong"
def TX18 : u_T := fun k => match k with
  | 0 => ("java/lang/Throwable", "cause", "Ljava/lang/Throwable;", false)
  | 1 => ("java/lang/Throwable", "stackTrace", "[Ljava/lang/StackTraceElement;", false)
  | 2 => ("java/lang/Throwable", "suppressedExceptions", "Ljava/util/List;", false)
  | 3 => ("java/lang/Throwable", "detailMessage", "Ljava/lang/String;", false)
  | 4 => ("java/lang/Throwable", "backtrace", "Ljava/lang/Object;", false)
  | 5 => ("java/lang/Throwable", "depth", "I", false)
  | _ => ("SsaForgeModel$Wrong", "place", "I", true)
def tyX18 : Nat → FieldType := fun k => match k with
  | 0 => .object "java/lang/Throwable"
  | 1 => .array (.object "java/lang/StackTraceElement")
  | 2 => .object "java/util/List"
  | 3 => .object "java/lang/String"
  | 4 => .object "java/lang/Object"
  | 5 => .int
  | _ => .int
abbrev wsX180 : List Cond := u_ws RX18 TX18 7
theorem nmX18 : ∀ a, a < 7 → ∀ b, b < 7 → a ≠ b → (TX18 a).2.1 ≠ (TX18 b).2.1 := by decide +kernel
theorem tyX18_ok : ∀ k, k < 7 → parseFieldDescriptor (TX18 k).2.2.1 = some (tyX18 k) := by decide +kernel
theorem df_X18 : ∀ j, j < 7 → defaultValue (tyX18 j) = vp_V [.null, .null, .null, .null, .null, .int 0, .int 0] j := by decide +kernel
def RX19 : String := "SsaForgeModel"
def TX19 : u_T := fun k => match k with
  | 0 => ("SsaForgeModel", "flow", "LSsaForgeModel$Flow;", true)
  | 1 => ("SsaForgeModel", "code", "LSsaForgeModel$Code;", false)
  | 2 => ("SsaForgeModel", "spare", "LSsaForgeModel$Code;", false)
  | 3 => ("SsaForgeModel", "numbers", "[I", false)
  | 4 => ("SsaForgeModel", "flags", "[Z", false)
  | 5 => ("SsaForgeModel", "sets", "[Z", false)
  | 6 => ("SsaForgeModel", "latest", "[[I", false)
  | 7 => ("SsaForgeModel", "state", "[I", true)
  | 8 => ("SsaForgeModel", "number", "[I", true)
  | 9 => ("SsaForgeModel", "gone", "[Z", false)
  | 10 => ("SsaForgeModel", "open", "[Z", false)
  | 11 => ("SsaForgeModel", "changed", "Z", false)
  | 12 => ("SsaForgeModel", "replaced", "[Z", true)
  | 13 => ("SsaForgeModel", "byReg", "[Z", true)
  | 14 => ("SsaForgeModel", "by", "[I", true)
  | 15 => ("SsaForgeModel", "needed", "[Z", true)
  | 16 => ("SsaForgeModel", "loop", "[Z", false)
  | 17 => ("SsaForgeModel", "inside", "[Z", true)
  | 18 => ("SsaForgeModel", "becomes", "[I", true)
  | 19 => ("SsaForgeModel", "taken", "[Z", true)
  | 20 => ("SsaForgeModel", "movesTo", "[I", false)
  | 21 => ("SsaForgeModel", "movesOf", "[I", false)
  | 22 => ("SsaForgeModel", "movesReg", "[Z", false)
  | 23 => ("SsaForgeModel", "moves", "I", false)
  | 24 => ("SsaForgeModel", "registers", "[I", true)
  | 25 => ("SsaForgeModel", "shows", "[I", true)
  | 26 => ("SsaForgeModel", "atOnce", "[I", false)
  | 27 => ("SsaForgeModel", "ended", "I", false)
  | 28 => ("SsaForgeModel", "answer", "I", false)
  | 29 => ("SsaForgeModel", "shown", "I", false)
  | 30 => ("SsaForgeModel", "steps", "I", false)
  | 31 => ("SsaForgeModel", "read", "I", false)
  | 32 => ("SsaForgeModel", "words", "Ljava/lang/StringBuilder;", true)
  | 33 => ("SsaForgeModel", "thrown", "I", false)
  | 34 => ("SsaForgeModel", "tape", "[B", true)
  | 35 => ("SsaForgeModel", "size", "I", false)
  | 36 => ("SsaForgeModel", "form", "I", false)
  | 37 => ("SsaForgeModel", "reason", "I", false)
  | 38 => ("SsaForgeModel", "results", "I", false)
  | 39 => ("SsaForgeModel", "result", "[B", false)
  | _ => ("SsaForgeModel", "input", "[I", false)
def tyX19 : Nat → FieldType := fun k => match k with
  | 0 => .object "SsaForgeModel$Flow"
  | 1 => .object "SsaForgeModel$Code"
  | 2 => .object "SsaForgeModel$Code"
  | 3 => .array .int
  | 4 => .array .boolean
  | 5 => .array .boolean
  | 6 => .array (.array .int)
  | 7 => .array .int
  | 8 => .array .int
  | 9 => .array .boolean
  | 10 => .array .boolean
  | 11 => .boolean
  | 12 => .array .boolean
  | 13 => .array .boolean
  | 14 => .array .int
  | 15 => .array .boolean
  | 16 => .array .boolean
  | 17 => .array .boolean
  | 18 => .array .int
  | 19 => .array .boolean
  | 20 => .array .int
  | 21 => .array .int
  | 22 => .array .boolean
  | 23 => .int
  | 24 => .array .int
  | 25 => .array .int
  | 26 => .array .int
  | 27 => .int
  | 28 => .int
  | 29 => .int
  | 30 => .int
  | 31 => .int
  | 32 => .object "java/lang/StringBuilder"
  | 33 => .int
  | 34 => .array .byte
  | 35 => .int
  | 36 => .int
  | 37 => .int
  | 38 => .int
  | 39 => .array .byte
  | _ => .array .int
abbrev wsX190 : List Cond := u_ws RX19 TX19 41
theorem nmX19 : ∀ a, a < 41 → ∀ b, b < 41 → a ≠ b → (TX19 a).2.1 ≠ (TX19 b).2.1 := by decide +kernel
theorem tyX19_ok : ∀ k, k < 41 → parseFieldDescriptor (TX19 k).2.2.1 = some (tyX19 k) := by decide +kernel
theorem df_X19 : ∀ j, j < 41 → defaultValue (tyX19 j) = vp_V [.null, .null, .null, .null, .null, .null, .null, .null, .null, .null, .null, .int 0, .null, .null, .null, .null, .null, .null, .null, .null, .null, .null, .null, .int 0, .null, .null, .null, .int 0, .int 0, .int 0, .int 0, .int 0, .null, .int 0, .null, .int 0, .int 0, .int 0, .int 0, .null, .null] j := by decide +kernel
def RJ4 : String := "java/lang/StringBuilder"
def TJ4 : u_T := fun k => match k with
  | 0 => ("java/lang/AbstractStringBuilder", "value", "[B", false)
  | 1 => ("java/lang/AbstractStringBuilder", "coder", "B", false)
  | 2 => ("java/lang/AbstractStringBuilder", "maybeLatin1", "Z", false)
  | _ => ("java/lang/AbstractStringBuilder", "count", "I", false)
def tyJ4 : Nat → FieldType := fun k => match k with
  | 0 => .array .byte
  | 1 => .byte
  | 2 => .boolean
  | _ => .int
abbrev wsJ40 : List Cond := u_ws RJ4 TJ4 4
theorem nmJ4 : ∀ a, a < 4 → ∀ b, b < 4 → a ≠ b → (TJ4 a).2.1 ≠ (TJ4 b).2.1 := by decide +kernel
theorem tyJ4_ok : ∀ k, k < 4 → parseFieldDescriptor (TJ4 k).2.2.1 = some (tyJ4 k) := by decide +kernel
theorem df_J4 : ∀ j, j < 4 → defaultValue (tyJ4 j) = vp_V [.null, .int 0, .int 0, .int 0] j := by decide +kernel
def RJx4a65c : String := "java/util/ArrayList"
def TJx4a65c : u_T := fun k => match k with
  | 0 => ("java/util/AbstractList", "modCount", "I", false)
  | 1 => ("java/util/ArrayList", "elementData", "[Ljava/lang/Object;", false)
  | _ => ("java/util/ArrayList", "size", "I", false)
def tyJx4a65c : Nat → FieldType := fun k => match k with
  | 0 => .int
  | 1 => .array (.object "java/lang/Object")
  | _ => .int
abbrev wsJx4a65c0 : List Cond := u_ws RJx4a65c TJx4a65c 3
theorem nmJx4a65c : ∀ a, a < 3 → ∀ b, b < 3 → a ≠ b → (TJx4a65c a).2.1 ≠ (TJx4a65c b).2.1 := by decide +kernel
theorem tyJx4a65c_ok : ∀ k, k < 3 → parseFieldDescriptor (TJx4a65c k).2.2.1 = some (tyJx4a65c k) := by decide +kernel
theorem df_Jx4a65c : ∀ j, j < 3 → defaultValue (tyJx4a65c j) = vp_V [.int 0, .null, .int 0] j := by decide +kernel
def RJxa1e45 : String := "java/util/AbstractCollection"
def RJxc12de : String := "java/util/AbstractList"
def RJ5 : String := "java/lang/AbstractStringBuilder"
def RL : String := "SsaForgeLaw"
abbrev cX0_init : ByteArray := prog_2_method_1_code
def yX0_init : MethodName := ⟨RX0, "<init>", "()V"⟩
abbrev cX1_init : ByteArray := prog_3_method_1_code
def yX1_init : MethodName := ⟨RX1, "<init>", "()V"⟩
abbrev cX2_init : ByteArray := prog_4_method_1_code
def yX2_init : MethodName := ⟨RX2, "<init>", "()V"⟩
abbrev cX3_init : ByteArray := prog_5_method_1_code
def yX3_init : MethodName := ⟨RX3, "<init>", "()V"⟩
abbrev cX4_init : ByteArray := prog_6_method_1_code
def yX4_init : MethodName := ⟨RX4, "<init>", "()V"⟩
abbrev cX8_init : ByteArray := prog_10_method_1_code
def yX8_init : MethodName := ⟨RX8, "<init>", "()V"⟩
abbrev cX9_init : ByteArray := prog_11_method_1_code
def yX9_init : MethodName := ⟨RX9, "<init>", "()V"⟩
abbrev cX10_init : ByteArray := prog_12_method_1_code
def yX10_init : MethodName := ⟨RX10, "<init>", "()V"⟩
abbrev cX5_init : ByteArray := prog_7_method_1_code
def yX5_init : MethodName := ⟨RX5, "<init>", "()V"⟩
abbrev cX6_init : ByteArray := prog_8_method_1_code
def yX6_init : MethodName := ⟨RX6, "<init>", "()V"⟩
abbrev cX7_init : ByteArray := prog_9_method_1_code
def yX7_init : MethodName := ⟨RX7, "<init>", "()V"⟩
abbrev cX11_init : ByteArray := prog_1_method_1_code
def yX11_init : MethodName := ⟨RX11, "<init>", "()V"⟩
abbrev cX11_putOnTape : ByteArray := prog_1_method_16_code
def yX11_putOnTape : MethodName := ⟨RX11, "putOnTape", "(I)V"⟩
abbrev cX11_feed : ByteArray := prog_1_method_2_code
def yX11_feed : MethodName := ⟨RX11, "feed", "(IIIII)I"⟩
abbrev cX11_end : ByteArray := prog_1_method_3_code
def yX11_end : MethodName := ⟨RX11, "end", "(I)I"⟩
abbrev cX11_isRegister : ByteArray := prog_1_method_23_code
def yX11_isRegister : MethodName := ⟨RX11, "isRegister", "(J)Z"⟩
abbrev cX11_isNumber : ByteArray := prog_1_method_24_code
def yX11_isNumber : MethodName := ⟨RX11, "isNumber", "(J)Z"⟩
abbrev cX11_registerOf : ByteArray := prog_1_method_25_code
def yX11_registerOf : MethodName := ⟨RX11, "registerOf", "(J)I"⟩
abbrev cX11_divides : ByteArray := prog_1_method_26_code
def yX11_divides : MethodName := ⟨RX11, "divides", "(I)Z"⟩
abbrev cX11_mayFail : ByteArray := prog_1_method_27_code
def yX11_mayFail : MethodName := ⟨RX11, "mayFail", "(IJ)Z"⟩
abbrev cX11_hasBit : ByteArray := prog_1_method_29_code
def yX11_hasBit : MethodName := ⟨RX11, "hasBit", "([JII)Z"⟩
abbrev cX11_putBit : ByteArray := prog_1_method_30_code
def yX11_putBit : MethodName := ⟨RX11, "putBit", "([JII)V"⟩
abbrev cX11_takeBit : ByteArray := prog_1_method_31_code
def yX11_takeBit : MethodName := ⟨RX11, "takeBit", "([JII)V"⟩
abbrev cX11_clearBits : ByteArray := prog_1_method_34_code
def yX11_clearBits : MethodName := ⟨RX11, "clearBits", "([JI)V"⟩
abbrev cX0_goalCount : ByteArray := prog_2_method_8_code
def yX0_goalCount : MethodName := ⟨RX0, "goalCount", "(I)I"⟩
abbrev cX0_goal : ByteArray := prog_2_method_9_code
def yX0_goal : MethodName := ⟨RX0, "goal", "(II)I"⟩
abbrev cX0_phiCount : ByteArray := prog_2_method_10_code
def yX0_phiCount : MethodName := ⟨RX0, "phiCount", "(I)I"⟩
abbrev cX0_predCount : ByteArray := prog_2_method_11_code
def yX0_predCount : MethodName := ⟨RX0, "predCount", "(I)I"⟩
abbrev cX0_predIndex : ByteArray := prog_2_method_12_code
def yX0_predIndex : MethodName := ⟨RX0, "predIndex", "(II)I"⟩
abbrev cX0_putRow : ByteArray := prog_2_method_5_code
def yX0_putRow : MethodName := ⟨RX0, "putRow", "(IIIJJ)V"⟩
abbrev cX0_addRow : ByteArray := prog_2_method_4_code
def yX0_addRow : MethodName := ⟨RX0, "addRow", "(IIJJ)Z"⟩
abbrev cX0_findPreds : ByteArray := prog_2_method_13_code
def yX0_findPreds : MethodName := ⟨RX0, "findPreds", "()V"⟩
abbrev vwP : List vw_C := [(RX0, TX0, 19), (RX1, TX1, 6), (RX2, TX2, 13), (RX3, TX3, 5), (RX4, TX4, 8), (RX5, TX5, 11), (RX6, TX6, 5), (RX7, TX7, 18), (RX8, TX8, 8), (RX9, TX9, 9), (RX10, TX10, 14), (RX11, TX11, 17), (RX13, TX13, 7), (RX14, TX14, 13), (RX16, TX16, 14), (RX18, TX18, 7), (RX19, TX19, 41), (RJ4, TJ4, 4), (RJx4a65c, TJx4a65c, 3)]
